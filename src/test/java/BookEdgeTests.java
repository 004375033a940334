import java.util.Arrays;

/** The edges that the sections of the promises name, sentence by sentence and in the document's order. */
public final class BookEdgeTests {
    private static final Trial trial = new Trial();
    private static final int MIN = Integer.MIN_VALUE;
    private static final int MAX = Integer.MAX_VALUE;

    public static void main(String[] args) {
        newObject();
        feedUpToTheMost();
        feedHighestFirst();
        sittingTakesTheFirst();
        sittingsMost();
        sittingsWrongNumbers();
        faultOfTheLatest();
        rightsMost();
        faultsTakeNoRoom();
        rightsRefusals();
        rightFromItsDay();
        daysEdges();
        pages();
        aboutEntries();
        aboutHowOften();
        noSuchLine();
        noSuchFact();
        factPlaces();
        trial.finish();
    }

    /** A book in which each kind of thing is. */
    static TestimonyBook sample() {
        TestimonyBook book = Trial.bookOf("! E1\nQ {1@5=7}\n  <E1>?\nY yes\nA {1@5=8}\n! E1 F2\nA {1@5=7} <F2>");
        book.days(3);
        book.order(1, 2, 2);
        book.order(4, 4, 0);
        Trial.putRight(book, 6, "{1@5=9}");
        book.digest(1, 5, 7);
        book.cite(0, 0);
        book.days(2);
        book.lift(1);
        Trial.sit(book, "Q }");
        Trial.feed(book, "x");
        book.read(1, 3, 2, 4);
        return book;
    }

    /** Promise 1: "Nothing was said; DAY 0." */
    private static void newObject() {
        TestimonyBook book = new TestimonyBook();
        for (int what = 0; what <= 9; what++) {
            trial.due("count " + what + " of a new object", book.count(what), 0);
        }
        trial.due("fault of a new object", book.fault(), -1);
        trial.due("quarrels of a new object", book.quarrels(0), 0);
        trial.due("cited of a new object", book.cited(1, 1), -1);
        trial.lacks("told", () -> book.told(0));
        trial.lacks("about", () -> book.about(0, 0));
        trial.lacks("fact", () -> book.fact(0, 0));
        trial.lacks("stands", () -> book.stands(0, 0));
        trial.lacks("quarrel", () -> book.quarrel(0, 0, 0));
        trial.lacks("mention", () -> book.mention(0, 0));
        trial.lacks("name", () -> book.name(0, 0));
        trial.lacks("order", () -> book.order(0, 0, 0));
        trial.lacks("lift", () -> book.lift(0) ? 1 : 0);
        trial.lacks("status", () -> book.status(0, 0, 0));
        trial.lacks("read", () -> book.read(0, 0, 0, 0));
        trial.lacks("cite", () -> book.cite(0, 0));
        trial.lacks("shown", () -> book.shown(0, 0));
        trial.lacks("right", () -> book.right(0, 1));
        trial.wrong("sitting", () -> book.sitting(1));
        trial.due("days(0)", book.days(0), 0);
    }

    /** Promise 2: "how many it has; NONE, and none come, if it would have more than 3,000." */
    private static void feedUpToTheMost() {
        TestimonyBook book = new TestimonyBook();
        int x = 'x' * 0x01010101;
        int head = ('A' << 24) + (' ' << 16) + ('x' << 8) + 'x';
        int end = x - 'x' + '\n';
        for (int i = 1; i <= 150; i++) {
            trial.due("feed " + i, book.feed(head, x, x, x, end), 20 * i);
        }
        for (int i = 0; i < 3; i++) {
            trial.due("a feed above 3,000", book.feed(0, 0, 0, 0, 0), -1);
            trial.due("none come", book.count(8), 3000);
        }
        trial.wrong("3,001 bytes", () -> book.sitting(3001));
        trial.due("3,000 bytes", book.sitting(3000), 150);
        trial.due("the first feed behind it", book.feed(head, x, x, x, end), 20);
        trial.due("the last line", book.read(149, 149, 0, 0), 19);
    }

    /** Promise 2: "of each number the highest first". */
    private static void feedHighestFirst() {
        TestimonyBook book = new TestimonyBook();
        book.feed(0x41204243, 0x44454647, 0x48494a4b, 0x4c4d4e4f, 0x50515253);
        book.feed(0x54555657, 0x58595a30, 0x31323334, 0x35363738, 0x397e2020);
        trial.due("bytes in order", book.sitting(40), 1);
        trial.due("bytes in order", book.read(0, 0, 0, 0), 40);
        trial.due("bytes in order", Trial.out(book), "A BCDEFGHIJKLMNOPQRSTUVWXYZ0123456789~  ");
        book.feed(0x4120ff41, 0, 0, 0, 0);
        trial.due("a byte of 255 isn't one below 0", book.sitting(4), -2);
        trial.due("its place", book.fault(), 2);
        book.feed(0x8141ff41, -1, -1, -1, -1);
        trial.due("a number below 0", book.sitting(4), -2);
        trial.due("its place", book.fault(), 0);
    }

    /** Promise 3: "The tape's first n bytes (it is empty then)". */
    private static void sittingTakesTheFirst() {
        TestimonyBook book = new TestimonyBook();
        Trial.feed(book, "Q one\nA two\nA three");
        trial.due("the first 9", book.sitting(9), 2);
        trial.due("the tape is empty then", book.count(8), 0);
        trial.due("the last line ends with them", book.read(1, 1, 0, 0), 3);
        Trial.feed(book, "Q }");
        trial.due("with a fault", book.sitting(3), -2);
        trial.due("the tape is empty then", book.count(8), 0);
        Trial.feed(book, "Q one");
        trial.due("all of them", book.sitting(20), 1);
        trial.due("blanks behind it are its own", book.read(2, 2, 0, 0), 20);
        Trial.feed(book, "Q");
        trial.due("the least", book.sitting(1), -2);
        trial.due("its place", book.fault(), 1);
    }

    /** Promise 3: "-9: there were 8"; "- 1 - its FAULT (and nothing changes)". */
    private static void sittingsMost() {
        TestimonyBook book = new TestimonyBook();
        for (int i = 0; i < 8; i++) {
            trial.due("one with a fault", Trial.sit(book, "! A\n! B\nQ <A>{1@1=1}\nQ <C>"), -5);
            trial.due("isn't counted", book.count(1), i);
            trial.due("nor are its lines", book.count(0), i);
            trial.taken(book, "A {1@1=" + i + "}", 1);
            trial.due("sittings", book.count(1), i + 1);
        }
        for (String text : new String[] {"A x", "}", "Q {12345@1=1}", "  x"}) {
            trial.due("a ninth", Trial.sit(book, text), -9);
            trial.due("no fault of it", book.fault(), -1);
            trial.due("the tape behind it", book.count(8), 0);
        }
        int[] due = {8, 8, 8, 0, 0};
        for (int what = 0; what < due.length; what++) {
            trial.due("count " + what + " behind a ninth", book.count(what), due[what]);
        }
        trial.wrong("a ninth with too few bytes", () -> book.sitting(1));
        trial.wrong("a ninth of 0 bytes", () -> book.sitting(0));
    }

    /** Promise 3: "IllegalArgumentException: the tape has not so many, n is below 1 (nothing changes)." */
    private static void sittingsWrongNumbers() {
        for (int n : new int[] {0, -1, MIN, 21, 22, 3000, 3001, MAX}) {
            trial.changesNothing("sitting(" + n + ")", BookEdgeTests::sample,
                    book -> trial.wrong("sitting(" + n + ")", () -> book.sitting(n)));
        }
        for (int n : new int[] {0, -1, MIN, 21, 22, 3000, 3001, MAX}) {
            trial.changesNothing("right(1, " + n + ")", BookEdgeTests::sample,
                    book -> trial.wrong("right(1, " + n + ")", () -> book.right(1, n)));
        }
        TestimonyBook book = sample();
        trial.due("as many as there are", book.sitting(20), -2);
        trial.due("the place", book.fault(), 0);
    }

    /** Promise 4: "Of the latest sitting() or right(): the place of its FAULT; NONE without." */
    private static void faultOfTheLatest() {
        TestimonyBook book = Trial.bookOf("Q x\n! A\nA y");
        trial.due("without a fault", book.fault(), -1);
        trial.righted(book, 0, "abc}", 1, 3);
        trial.due("told once more", book.fault(), 3);
        trial.wrong("a call that throws", () -> book.sitting(0));
        trial.wrong("a call that throws", () -> book.right(0, 0));
        trial.lacks("a call that throws", () -> book.right(3, 1));
        trial.due("it stays", book.fault(), 3);
        trial.refused(book, "Q abcdef}", 1, 8);
        trial.righted(book, 0, "abc", 0, -1);
        trial.refused(book, "}", 1, 0);
        trial.due("a right of an exhibit", Trial.putRight(book, 1, "}"), -9);
        trial.due("has none", book.fault(), -1);
        trial.refused(book, "Q a}", 1, 3);
        trial.taken(book, "Q a", 1);
        trial.refused(book, "Q", 1, 1);
        trial.due("the place is the text's length, not the tape's", book.fault(), 1);
    }

    /** Promise 5: "-9: ... 100 were". */
    private static void rightsMost() {
        TestimonyBook book = Trial.bookOf("Q x\nA y\n! A");
        for (int i = 0; i < 100; i++) {
            if (i % 10 == 0) {
                trial.righted(book, 0, "a}", 1, 1);
                trial.due("an exhibit's doesn't count", Trial.putRight(book, 2, "B"), -9);
            }
            trial.due("right " + i, Trial.putRight(book, i % 4 == 0 ? 1 : 0, "r" + i), 0);
        }
        for (String rest : new String[] {"x", "}", "{1@1=1}"}) {
            trial.due("the 101st", Trial.putRight(book, 0, rest), -9);
            trial.due("its fault", book.fault(), -1);
            trial.due("the tape behind it", book.count(8), 0);
        }
        trial.due("facts behind those", book.count(2), 0);
        trial.due("how often", book.about(0, 6), 75);
        trial.due("how often", book.about(1, 6), 25);
        book.read(0, 1, 0, 0);
        trial.due("the latest ones", Trial.out(book), "Q r99\nA r96");
        trial.wrong("the 101st of 0 bytes", () -> book.right(0, 0));
        trial.wrong("the 101st on an empty tape", () -> book.right(0, 1));
        trial.taken(book, "Q z", 1);
        trial.due("of a new line", Trial.putRight(book, 3, "x"), -9);
    }

    /** "nothing changes": what was refused takes no room of what comes later. */
    private static void faultsTakeNoRoom() {
        TestimonyBook book = new TestimonyBook();
        for (int i = 0; i < 3; i++) {
            trial.refused(book, Trial.times("A a\n", 199) + "A }", 1, 798);
            trial.refused(book, "! A\n" + Trial.times("Q <A>{1@1=1}\n", 40) + "Q", 1, 525);
        }
        trial.taken(book, Trial.times("A b\n", 200), 200);
        for (int i = 0; i < 100; i++) {
            trial.due("right " + i, Trial.putRight(book, 199 - i, "c"), 0);
        }
        trial.due("the 101st", Trial.putRight(book, 0, "c"), -9);
        trial.due("all of it", book.read(0, 199, 0, 0), 799);
        trial.due("the first half", book.told(4 * 99 + 2), 'b');
        trial.due("the second half", book.told(4 * 100 + 2), 'c');
    }

    /** Promise 5: "0, or its FAULT (and nothing changes); -9: it is an exhibit's". */
    private static void rightsRefusals() {
        TestimonyBook book = sample();
        trial.due("an exhibit's", book.right(0, 1), -9);
        trial.due("the tape is empty then", book.count(8), 0);
        trial.due("put right how often", book.about(0, 6), 0);
        for (int line : new int[] {-1, 7, 8, 200, MIN, MAX}) {
            trial.changesNothing("right(" + line + ", 1)", BookEdgeTests::sample,
                    b -> trial.lacks("right(" + line + ", 1)", () -> b.right(line, 1)));
            trial.changesNothing("right(" + line + ", 0)", BookEdgeTests::sample,
                    b -> trial.lacks("right(" + line + ", 0)", () -> b.right(line, 0)));
        }
        for (String rest : new String[] {"}", "<F2>{1@1=1}{12345@1=1}", "{1@1=1}<ZZ>", Trial.times("x", 59)}) {
            trial.changesNothingElse("a fault of '" + rest + "'", BookEdgeTests::sample, b -> {
                b.sitting(1);
                trial.due("a fault of '" + rest + "'", Trial.putRight(b, 6, rest) > 0 ? 1 : 0, 1);
            });
        }
        String[] texts = {"}", "! B\nA <B>{1@5=7}\n! F2 G\n! G", "A x\n! X\n  y", "Y x\n  y\nQ {1@1=1"};
        for (String text : texts) {
            trial.changesNothingElse("a fault of '" + text + "'", BookEdgeTests::sample, b -> {
                b.sitting(1);
                trial.due("a fault of '" + text + "'", Trial.sit(b, text) < 0 ? 1 : 0, 1);
            });
        }
    }

    /** "a LINE of an ENTRY has another REST from NOW on (... what it was is still known for days ahead)". */
    private static void rightFromItsDay() {
        TestimonyBook book = Trial.bookOf("A {1@1=0}");
        trial.righted(book, 0, "{1@1=1}", 0, -1);
        book.days(5);
        trial.righted(book, 0, "{1@1=2}", 0, -1);
        trial.righted(book, 0, "{1@1=3}", 0, -1);
        book.days(1);
        trial.righted(book, 0, "none", 0, -1);
        book.days(10);
        int[] days = {MIN, -1, 0, 1, 4, 5, 6, 15, 16, 17, MAX};
        int[] facts = {0, 0, 1, 1, 1, 3, -1, -1, -1, -1, -1};
        for (int i = 0; i < days.length; i++) {
            for (int fact = 0; fact < 4; fact++) {
                trial.due("stands(" + fact + ", " + days[i] + ")", book.stands(fact, days[i]),
                        fact == facts[i] ? 1 : 0);
            }
            book.read(0, 0, 0, days[i]);
            trial.due("read on " + days[i], Trial.out(book), facts[i] < 0 ? "A none" : "A {1@1=" + facts[i] + "}");
        }
        trial.due("how often", book.about(0, 6), 4);
    }

    /** Promise 6: "IllegalArgumentException: n is below 0, or it would be above 100000." */
    private static void daysEdges() {
        TestimonyBook book = new TestimonyBook();
        trial.wrong("days(100001)", () -> book.days(100001));
        trial.wrong("days(-1)", () -> book.days(-1));
        trial.due("days(0)", book.days(0), 0);
        trial.due("days(1)", book.days(1), 1);
        trial.wrong("days(100000)", () -> book.days(100000));
        trial.wrong("days(MAX)", () -> book.days(MAX));
        trial.wrong("days(MIN)", () -> book.days(MIN));
        trial.wrong("days(-1)", () -> book.days(-1));
        trial.due("NOW behind those", book.count(5), 1);
        trial.due("days(99998)", book.days(99998), 99999);
        trial.wrong("days(2)", () -> book.days(2));
        trial.due("days(1)", book.days(1), 100000);
        trial.wrong("days(1)", () -> book.days(1));
        trial.wrong("days(MAX)", () -> book.days(MAX));
        trial.due("days(0)", book.days(0), 100000);
        trial.due("a whole step", new TestimonyBook().days(100000), 100000);
    }

    /** "PAGES have 10 LINES; a SITTING begins on a new one; both are told from 1 on"; promise 8: "NONE". */
    private static void pages() {
        TestimonyBook book = new TestimonyBook();
        int[] sittings = {9, 10, 11, 1, 20, 21};
        int page = 1;
        int line = 0;
        for (int i = 0; i < sittings.length; i++) {
            trial.taken(book, Trial.times("Q x\n", sittings[i]), sittings[i]);
            for (int j = 0; j < sittings[i]; j++) {
                trial.due("page of " + line, book.about(line, 0), page + j / 10);
                trial.due("place of " + line, book.about(line, 1), j % 10 + 1);
                trial.due("sitting of " + line, book.about(line, 2), i);
                trial.due("cited", book.cited(page + j / 10, j % 10 + 1), line);
                line++;
            }
            page += (sittings[i] + 9) / 10;
        }
        int[][] none = {{0, 1}, {-1, 1}, {1, 0}, {1, -1}, {1, 10}, {1, 11}, {2, 11}, {4, 2}, {5, 2}, {9, 11},
            {10, 2}, {11, 1}, {MIN, 1}, {MAX, 1}, {1, MIN}, {1, MAX}, {0, 0}};
        for (int[] n : none) {
            trial.due("cited(" + n[0] + ", " + n[1] + ")", book.cited(n[0], n[1]), -1);
        }
        TestimonyBook full = Trial.bookOf(Trial.times("Q x\n", 200));
        trial.due("the last page of the longest", full.about(199, 0), 20);
        trial.due("its last place", full.about(199, 1), 10);
        trial.due("cited there", full.cited(20, 10), 199);
        trial.due("the page behind it", full.cited(21, 1), -1);
    }

    private static void aboutIs(TestimonyBook book, int what, int... due) {
        int[] got = new int[due.length];
        for (int line = 0; line < due.length; line++) {
            got[line] = book.about(line, what);
        }
        trial.due("about(all, " + what + ")", Arrays.toString(got), Arrays.toString(due));
    }

    /** "A question is ANSWERED by the next ENTRY of its SITTING, if that is an answer"; promise 7: "NONE of ...". */
    private static void aboutEntries() {
        TestimonyBook book = Trial.bookOf("! A\nQ a\n  b\n! B\n! C\nY c\n  d\nA e\nQ f\nQ g\nN h\nQ i\nA j\nY k\nQ l");
        Trial.sit(book, "Y m\nQ n\n! D");
        Trial.sit(book, "! E\nN o");
        aboutIs(book, 2, 0, 0, 0, 0, 0, 0, 0, 0, 0, 0, 0, 0, 0, 0, 0, 1, 1, 1, 2, 2);
        aboutIs(book, 3, 5, 0, 4, 5, 5, 2, 4, 1, 0, 0, 3, 0, 1, 2, 0, 2, 0, 5, 5, 3);
        aboutIs(book, 4, -1, 1, 1, -1, -1, 5, 5, 7, 8, 9, 10, 11, 12, 13, 14, 15, 16, -1, -1, 19);
        aboutIs(book, 5, -1, 5, 5, -1, -1, -1, -1, -1, -1, 10, -1, 12, -1, -1, -1, -1, -1, -1, -1, -1);
        for (int what : new int[] {-1, 7, 8, MIN, MAX}) {
            trial.lacks("about(0, " + what + ")", () -> book.about(0, what));
        }
    }

    /** Promise 7: "6 how often it was PUT RIGHT". */
    private static void aboutHowOften() {
        TestimonyBook book = Trial.bookOf("Q a\n  b\n! A");
        aboutIs(book, 6, 0, 0, 0);
        trial.righted(book, 1, "x", 0, -1);
        trial.righted(book, 1, "x", 0, -1);
        trial.righted(book, 0, "}", 1, 0);
        trial.due("refused", Trial.putRight(book, 2, "x"), -9);
        aboutIs(book, 6, 0, 2, 0);
        book.days(1);
        trial.righted(book, 1, "y", 0, -1);
        trial.righted(book, 0, "y", 0, -1);
        aboutIs(book, 6, 1, 3, 0);
    }

    /** "NoSuchElementException: no such LINE (as everywhere)". */
    private static void noSuchLine() {
        for (int line : new int[] {-1, 7, 8, 199, 200, 201, MIN, MAX}) {
            trial.changesNothing("line " + line, BookEdgeTests::sample, book -> {
                trial.lacks("about", () -> book.about(line, 0));
                trial.lacks("name", () -> book.name(0, line));
                trial.lacks("order's first", () -> book.order(line, 6, 0));
                trial.lacks("order's last", () -> book.order(0, line, 0));
                trial.lacks("order's both", () -> book.order(line, line, 0));
                trial.lacks("status", () -> book.status(line, 0, 0));
                trial.lacks("status", () -> book.status(line, 0, 1));
                trial.lacks("read's first", () -> book.read(line, 6, 0, 0));
                trial.lacks("read's last", () -> book.read(0, line, 0, 0));
                trial.lacks("read's both", () -> book.read(line, line, 0, 0));
            });
        }
        TestimonyBook full = Trial.bookOf(Trial.times("Q x\n", 200));
        trial.due("the 200th line", full.about(199, 6), 0);
        trial.due("the 200th line", full.order(199, 199, 0), 0);
        trial.due("the 200th line", full.status(199, 0, 0), 1);
        trial.due("the 200th line", full.read(199, 199, 0, 0), 8);
        trial.lacks("the 201st line", () -> full.about(200, 0));
        trial.lacks("the 201st line", () -> full.status(200, 0, 0));
        trial.lacks("the 201st line", () -> full.right(200, 1));
    }

    /** "NoSuchElementException: no such FACT (as everywhere), what." */
    private static void noSuchFact() {
        for (int fact : new int[] {-1, 4, 5, 149, 150, 151, MIN, MAX}) {
            trial.changesNothing("fact " + fact, BookEdgeTests::sample, book -> {
                trial.lacks("fact", () -> book.fact(fact, 0));
                trial.lacks("stands", () -> book.stands(fact, 0));
                trial.lacks("cite", () -> book.cite(0, fact));
            });
        }
        TestimonyBook book = sample();
        for (int what : new int[] {-1, 5, 6, MIN, MAX}) {
            trial.lacks("fact(0, " + what + ")", () -> book.fact(0, what));
        }
        trial.due("the last fact there is", book.fact(3, 3), 9);
        TestimonyBook full = Trial.bookOf(Trial.times("A {1@1=1}{1@1=2}{1@1=3}{1@1=4}{1@1=5}\n", 30));
        trial.due("the 150th fact", full.fact(149, 3), 5);
        trial.due("the 150th fact", full.stands(149, 0), 1);
        trial.lacks("the 151st fact", () -> full.fact(150, 0));
        trial.lacks("the 151st fact", () -> full.stands(150, 0));
    }

    /** Promise 9: "the place of its { in that LINE (its first byte 0)". */
    private static void factPlaces() {
        TestimonyBook book = Trial.bookOf("Q x\nA {1@1=1}{1@1=1}\n  " + Trial.times("x", 51) + "{1@1=1}");
        trial.righted(book, 0, "{2@2=2}y{3@3=3}", 0, -1);
        int[][] due = {{1, 2}, {1, 9}, {2, 53}, {0, 2}, {0, 10}};
        for (int fact = 0; fact < due.length; fact++) {
            trial.due("line of fact " + fact, book.fact(fact, 0), due[fact][0]);
            trial.due("place of fact " + fact, book.fact(fact, 4), due[fact][1]);
        }
    }
}
