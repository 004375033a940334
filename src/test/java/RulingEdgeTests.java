import java.util.Arrays;

/** The edges of what is weighed, named, ordered, read back and shown: promises 10 to 23, in the document's order. */
public final class RulingEdgeTests {
    private static final Trial trial = new Trial();
    private static final int MIN = Integer.MIN_VALUE;
    private static final int MAX = Integer.MAX_VALUE;
    private static final int[] NO_WHAT = {-1, 2, 3, MIN, MAX};

    public static void main(String[] args) {
        standsByItsEntry();
        standsUnlessStruck();
        quarrelsOfTwo();
        quarrelsInOrder();
        quarrelsLacking();
        mentionsAsTheyCame();
        namesBehindLines();
        namesLacking();
        ordersMost();
        ordersLacking();
        ordersCover();
        orderFromItsDayUntilLifted();
        liftTwice();
        statusGreatestLevel();
        readForALevel();
        readKeepsTheFirst();
        readLacking();
        toldLacking();
        digestMost();
        digestNumbers();
        citesMost();
        citesLacking();
        shownByFacts();
        shownAmongTheMost();
        shownOnDays();
        countLacking();
        trial.finish();
    }

    private static void standing(TestimonyBook book, int k, int... due) {
        int[] got = new int[due.length];
        for (int fact = 0; fact < due.length; fact++) {
            got[fact] = book.stands(fact, k);
        }
        trial.due("stands(all, " + k + ")", Arrays.toString(got), Arrays.toString(due));
    }

    /** "it is in an 'A ' ENTRY; of one in a question: ... yes: as 1, no: as -1 ... All others: 0." */
    private static void standsByItsEntry() {
        TestimonyBook book = Trial.bookOf("A {1@1=0}\n  {1@1=1}\nQ {1@1=2}\n  {1@1=3}\nY {1@1=4}\n  {1@1=5}\n"
                + "Q {1@1=6}\n  {1@1=7}\nN {1@1=8}\n  {1@1=9}\nQ {1@1=10}\nA {1@1=11}\nQ {1@1=12}\nQ {1@1=13}\n! X\n"
                + "Y y\nY y\nQ {1@1=14}");
        Trial.sit(book, "Y {1@1=15}");
        for (int k : new int[] {MIN, -1, 0, 1, 100000, MAX}) {
            standing(book, k, 1, 1, 1, 1, 0, 0, -1, -1, 0, 0, 0, 1, 0, 1, 0, 0);
        }
        trial.righted(book, 4, "{1@1=16}", 0, -1);
        trial.righted(book, 6, "{1@1=17}", 0, -1);
        standing(book, 0, 1, 1, 1, 1, 0, 0, 0, -1, 0, 0, 0, 1, 0, 1, 0, 0, 0, -1);
    }

    /** "that LINE isn't STRUCK then", "and that one's first LINE isn't STRUCK then". */
    private static void standsUnlessStruck() {
        TestimonyBook book = Trial.bookOf("A {1@1=0}\n  {1@1=1}\nQ {1@1=2}\n  {1@1=3}\nY y\n  y\nQ {1@1=4}\nN n\n  n");
        int[] all = {1, 1, 1, 1, -1};
        int[][] struck = {{0, 1, 1, 1, -1}, {1, 0, 1, 1, -1}, {1, 1, 0, 1, -1}, {1, 1, 1, 0, -1}, {1, 1, 0, 0, -1}, all,
            {1, 1, 1, 1, 0}, {1, 1, 1, 1, 0}, all};
        for (int line = 0; line < struck.length; line++) {
            book.days(1);
            int order = book.order(line, line, 0);
            standing(book, 2 * line, all);
            standing(book, 2 * line + 1, struck[line]);
            book.days(1);
            standing(book, 2 * line + 2, struck[line]);
            book.lift(order);
            standing(book, 2 * line + 1, struck[line]);
            standing(book, 2 * line + 2, all);
            book.order(line, line, 3);
            standing(book, 2 * line + 2, all);
        }
    }

    private static void quarrelsAre(TestimonyBook book, int k, String due) {
        StringBuilder got = new StringBuilder();
        int many = book.quarrels(k);
        for (int i = 0; i < many; i++) {
            got.append(book.quarrel(i, k, 0)).append('-').append(book.quarrel(i, k, 1)).append(' ');
        }
        trial.due("quarrels on " + k, got.toString().trim(), due);
        trial.lacks("the one behind them", () -> book.quarrel(many, k, 0));
        trial.lacks("the one behind them", () -> book.quarrel(many, k, 1));
    }

    /** "both as 1 with unlike values, or one as 1, the other one as -1 with like values". */
    private static void quarrelsOfTwo() {
        String[] signs = {"A *", "Q *\nY y", "Q *\nN n", "Q *\nA a", "Y *", "Q *"};
        int[] stand = {1, 1, -1, 0, 0, 0};
        for (int i = 0; i < signs.length; i++) {
            for (int j = 0; j < signs.length; j++) {
                for (String other : new String[] {"{1@1=1}", "{1@1=2}", "{1@2=1}", "{2@1=1}", "{01@001=0001}"}) {
                    TestimonyBook book = Trial.bookOf(signs[i].replace("*", "{1@1=1}"));
                    Trial.sit(book, signs[j].replace("*", other));
                    boolean oneMatter = !other.equals("{1@2=1}") && !other.equals("{2@1=1}");
                    boolean alike = !other.equals("{1@1=2}");
                    boolean quarrel = oneMatter && (alike ? stand[i] * stand[j] == -1 : stand[i] + stand[j] == 2);
                    quarrelsAre(book, 0, quarrel ? "0-1" : "");
                }
            }
        }
    }

    /** "QUARRELS are ordered by the lesser FACT, then the greater." */
    private static void quarrelsInOrder() {
        TestimonyBook book = Trial.bookOf("A {1@1=1}{2@2=1}{1@1=2}\nA {2@2=2}{1@1=3}{2@2=1}\nQ {1@1=2}\nN n");
        quarrelsAre(book, 0, "0-2 0-4 1-3 2-4 2-6 3-5");
        book.days(1);
        trial.righted(book, 0, "{2@2=2}", 0, -1);
        quarrelsAre(book, 0, "0-2 0-4 1-3 2-4 2-6 3-5");
        quarrelsAre(book, 1, "3-5 5-7");
        StringBuilder all = new StringBuilder();
        for (int i = 0; i < 150; i++) {
            all.append(i % 5 == 0 ? "\nA {1@1=" : "{1@1=").append(i).append('}');
        }
        TestimonyBook full = Trial.bookOf(all.substring(1));
        trial.due("as many as there can be", full.quarrels(0), 11175);
        trial.due("the last of them", full.quarrel(11174, 0, 0), 148);
        trial.due("the last of them", full.quarrel(11174, 0, 1), 149);
        trial.due("the last of the first", full.quarrel(148, 0, 1), 149);
        trial.due("the first of the second", full.quarrel(149, 0, 0), 1);
        trial.lacks("the one behind them", () -> full.quarrel(11175, 0, 0));
    }

    /** Promise 12: "NoSuchElementException: there is none, another what." */
    private static void quarrelsLacking() {
        TestimonyBook book = Trial.bookOf("A {1@1=1}{1@1=2}");
        for (int i : new int[] {-1, 1, 2, MIN, MAX}) {
            trial.lacks("quarrel(" + i + ", 0, 0)", () -> book.quarrel(i, 0, 0));
            trial.lacks("quarrel(" + i + ", 0, 1)", () -> book.quarrel(i, 0, 1));
        }
        for (int what : NO_WHAT) {
            trial.lacks("quarrel(0, 0, " + what + ")", () -> book.quarrel(0, 0, what));
        }
        trial.due("the one there is", book.quarrel(0, MIN, 1), 1);
        book.order(0, 0, 0);
        trial.due("none is left", book.quarrels(0), 0);
        trial.lacks("none is left", () -> book.quarrel(0, 0, 0));
        trial.due("the day ahead", book.quarrels(-1), 1);
    }

    /** Promise 13: "as they came, also by PUTTING RIGHT"; "there is none, another what". */
    private static void mentionsAsTheyCame() {
        TestimonyBook book = Trial.bookOf("! A\n! B\nQ <B>a<A>\n  <A>\n! A C\n! B A\nN <A><C>");
        trial.righted(book, 2, "<A>", 0, -1);
        Trial.sit(book, "A <C>");
        trial.righted(book, 3, "no more", 0, -1);
        int[][] due = {{2, 1}, {2, 0}, {3, 0}, {6, 1}, {6, 0}, {2, 0}, {7, 0}};
        for (int i = 0; i < due.length; i++) {
            trial.due("mention(" + i + ", 0)", book.mention(i, 0), due[i][0]);
            trial.due("mention(" + i + ", 1)", book.mention(i, 1), due[i][1]);
        }
        for (int i : new int[] {-1, 7, 8, 99, 100, MIN, MAX}) {
            trial.lacks("mention(" + i + ", 0)", () -> book.mention(i, 0));
            trial.lacks("mention(" + i + ", 1)", () -> book.mention(i, 1));
        }
        for (int what : NO_WHAT) {
            trial.lacks("mention(0, " + what + ")", () -> book.mention(0, what));
        }
    }

    /** Promise 14: "behind a LINE (that, too): how many bytes; NONE (OUT is empty): it is named behind that." */
    private static void namesBehindLines() {
        TestimonyBook book = Trial.bookOf("Q x\n! A\n! A ABCDEF\n! 0\nQ y\n! ABCDEF 1234");
        Trial.sit(book, "! 0 A\n! 1234 0");
        String[][] due = {{"", "A", "ABCDEF", "ABCDEF", "ABCDEF", "1234", "1234", "0"},
            {"", "", "", "0", "0", "0", "A", "A"}};
        for (int exhibit = 0; exhibit < due.length; exhibit++) {
            for (int line = 0; line < 8; line++) {
                book.read(0, 1, 0, 0);
                String told = "name(" + exhibit + ", " + line + ")";
                int length = due[exhibit][line].length();
                trial.due(told, book.name(exhibit, line), length == 0 ? -1 : length);
                trial.due(told + " OUT", Trial.out(book), due[exhibit][line]);
                trial.due(told + " kept", book.count(9), length);
                trial.lacks(told + " behind OUT", () -> book.told(length));
            }
        }
    }

    /** Promise 14: "NoSuchElementException: no such EXHIBIT, LINE." */
    private static void namesLacking() {
        for (int exhibit : new int[] {-1, 1, 2, 19, 20, MIN, MAX}) {
            trial.changesNothing("exhibit " + exhibit, BookEdgeTests::sample,
                    book -> trial.lacks("name(" + exhibit + ", 6)", () -> book.name(exhibit, 6)));
        }
        TestimonyBook book = Trial.bookOf("! A\nQ x");
        trial.lacks("a line behind the last", () -> book.name(0, 2));
        trial.lacks("a line ahead of the first", () -> book.name(0, -1));
        trial.due("the last line", book.name(0, 1), 1);
    }

    /** "at most 60"; promise 15: "NONE: there are 60, or level is not 0 to 3." */
    private static void ordersMost() {
        TestimonyBook book = Trial.bookOf("Q x\nA y");
        for (int level : new int[] {-1, 4, 5, MIN, MAX}) {
            trial.due("order of level " + level, book.order(0, 1, level), -1);
        }
        trial.due("orders behind those", book.count(6), 0);
        trial.due("not struck", book.status(0, 0, 0), 0);
        trial.due("not sealed", book.status(0, 0, 1), 0);
        for (int i = 0; i < 60; i++) {
            trial.due("order " + i, book.order(0, i < 59 ? 0 : 1, i < 59 ? i % 4 : 3), i);
        }
        trial.due("the 61st", book.order(0, 1, 0), -1);
        trial.due("lifting the last", book.lift(59) ? 1 : 0, 1);
        trial.due("the 61st, though one is lifted", book.order(0, 1, 0), -1);
        trial.due("orders", book.count(6), 60);
        trial.due("line 1 isn't struck", book.status(1, 0, 0), 0);
        trial.due("line 0 is", book.status(0, 0, 0), 1);
        trial.due("line 0 is sealed, too", book.status(0, 0, 1), 3);
        trial.due("line 1 isn't sealed any more", book.status(1, 0, 1), 0);
        trial.lacks("the order behind the last", () -> book.lift(60) ? 1 : 0);
    }

    /** Promise 15: "NoSuchElementException: no such LINES, a is above b." */
    private static void ordersLacking() {
        TestimonyBook book = Trial.bookOf("Q x\nA y\nA z");
        int[][] wrong = {{1, 0}, {2, 0}, {2, 1}, {-1, 0}, {-1, -1}, {0, 3}, {2, 3}, {3, 3}, {3, 2}, {MIN, MAX},
            {MAX, MIN}};
        for (int[] w : wrong) {
            for (int level : new int[] {-1, 0, 3, 4}) {
                trial.lacks("order(" + w[0] + ", " + w[1] + ", " + level + ")", () -> book.order(w[0], w[1], level));
            }
        }
        trial.due("orders behind those", book.count(6), 0);
        trial.due("the first alone", book.order(0, 0, 0), 0);
        trial.due("the last alone", book.order(2, 2, 0), 1);
        trial.due("all", book.order(0, 2, 0), 2);
    }

    /** "LINES a to b are STRUCK (level 0), or SEALED for those below a level 1 to 3". */
    private static void ordersCover() {
        TestimonyBook book = Trial.bookOf("Q x\n! A\nA y\nY z\nN z");
        for (int level = 0; level <= 3; level++) {
            int order = book.order(1, 3, level);
            for (int line = 0; line < 5; line++) {
                boolean covered = line >= 1 && line <= 3;
                trial.due("struck by " + level, book.status(line, 0, 0), covered && level == 0 ? 1 : 0);
                trial.due("sealed by " + level, book.status(line, 0, 1), covered ? level : 0);
            }
            book.lift(order);
        }
    }

    /** "from NOW on, until it is LIFTED (that day it is no more)". */
    private static void orderFromItsDayUntilLifted() {
        for (int level = 0; level <= 3; level++) {
            TestimonyBook book = Trial.bookOf("Q x");
            book.days(5);
            book.order(0, 0, level);
            book.days(3);
            for (int k : new int[] {MIN, -1, 0, 4, 5, 6, 8, 9, 100000, MAX}) {
                statusIs(book, k, level, k >= 5);
            }
            trial.due("lifted", book.lift(0) ? 1 : 0, 1);
            book.days(3);
            for (int k : new int[] {MIN, -1, 0, 4, 5, 6, 7, 8, 9, 11, 100000, MAX}) {
                statusIs(book, k, level, k >= 5 && k < 8);
            }
        }
        TestimonyBook book = Trial.bookOf("Q x");
        book.order(0, 0, 0);
        book.lift(0);
        for (int k : new int[] {-2, -1, 0, 1}) {
            statusIs(book, k, 0, false);
        }
        book.order(0, 0, 0);
        statusIs(book, -1, 0, false);
        statusIs(book, 0, 0, true);
    }

    private static void statusIs(TestimonyBook book, int k, int level, boolean holds) {
        trial.due("struck on " + k, book.status(0, k, 0), holds && level == 0 ? 1 : 0);
        trial.due("level on " + k, book.status(0, k, 1), holds ? level : 0);
    }

    /** Promise 16: "False: it was already. NoSuchElementException: no such ORDER." */
    private static void liftTwice() {
        TestimonyBook book = Trial.bookOf("Q x");
        book.order(0, 0, 0);
        book.order(0, 0, 1);
        book.days(4);
        trial.due("lifted", book.lift(0) ? 1 : 0, 1);
        trial.due("lifted that day already", book.lift(0) ? 1 : 0, 0);
        book.days(4);
        trial.due("lifted already", book.lift(0) ? 1 : 0, 0);
        trial.due("its first day counts", book.status(0, 4, 0), 0);
        trial.due("the day ahead of it", book.status(0, 3, 0), 1);
        trial.due("the other one holds", book.status(0, 8, 1), 1);
        trial.due("the other one is lifted", book.lift(1) ? 1 : 0, 1);
        trial.due("orders stay numbered", book.order(0, 0, 2), 2);
        for (int order : new int[] {-1, 2, 3, 59, 60, MIN, MAX}) {
            trial.changesNothing("order " + order, BookEdgeTests::sample,
                    b -> trial.lacks("lift(" + order + ")", () -> b.lift(order) ? 1 : 0));
        }
        trial.changesNothing("lifting once more", BookEdgeTests::sample,
                b -> trial.due("lifting once more", b.lift(1) ? 1 : 0, 0));
    }

    /** "Its LEVEL on k is the greatest of those that SEAL it likewise; 0 without"; promise 17: "another what". */
    private static void statusGreatestLevel() {
        TestimonyBook book = Trial.bookOf("Q x\nA y");
        int[] levels = {2, 3, 1, 2, 0};
        int[] due = {2, 3, 3, 3, 3};
        for (int i = 0; i < levels.length; i++) {
            book.order(0, 0, levels[i]);
            trial.due("the greatest", book.status(0, 0, 1), due[i]);
        }
        trial.due("struck as well", book.status(0, 0, 0), 1);
        int[] lifts = {1, 0, 3, 2, 4};
        int[] left = {2, 2, 1, 0, 0};
        for (int i = 0; i < lifts.length; i++) {
            book.lift(lifts[i]);
            trial.due("the greatest of those left", book.status(0, 0, 1), left[i]);
            trial.due("struck", book.status(0, 0, 0), i < 4 ? 1 : 0);
        }
        trial.due("another line", book.status(1, 0, 1), 0);
        for (int what : NO_WHAT) {
            trial.lacks("status(0, 0, " + what + ")", () -> book.status(0, 0, what));
        }
    }

    private static void readIs(TestimonyBook book, int a, int b, int level, int k, String due) {
        String told = "read(" + a + ", " + b + ", " + level + ", " + k + ")";
        trial.due(told, book.read(a, b, level, k), due.length());
        trial.due(told, Trial.out(book), due);
    }

    /** "a STRUCK one as '- struck', one of a LEVEL above the reader's as '- sealed' (STRUCK first); 10 between". */
    private static void readForALevel() {
        TestimonyBook book = Trial.bookOf("Q a\n  b\n! C\nY d\nN e\nA f");
        String plain = "Q a\n  b\n! C\nY d\nN e\nA f";
        book.days(2);
        for (int line = 1; line <= 3; line++) {
            book.order(line, line, line);
        }
        for (int level = 0; level <= 3; level++) {
            readIs(book, 0, 5, level, 1, plain);
            readIs(book, 0, 5, level, 2, "Q a\n" + (level < 1 ? "- sealed" : "  b") + "\n"
                    + (level < 2 ? "- sealed" : "! C") + "\n" + (level < 3 ? "- sealed" : "Y d") + "\nN e\nA f");
        }
        book.order(2, 3, 0);
        readIs(book, 0, 5, 0, 2, "Q a\n- sealed\n- struck\n- struck\nN e\nA f");
        readIs(book, 0, 5, 3, 2, "Q a\n  b\n- struck\n- struck\nN e\nA f");
        for (int line = 0; line < 6; line++) {
            readIs(book, line, line, 0, 1, plain.split("\n")[line]);
        }
        readIs(book, 2, 2, 3, 2, "- struck");
        readIs(book, 1, 1, 0, 2, "- sealed");
        readIs(book, 4, 5, 0, MAX, "N e\nA f");
        trial.righted(book, 3, "other", 0, -1);
        book.days(1);
        book.lift(3);
        readIs(book, 3, 4, 3, 1, "Y d\nN e");
        readIs(book, 3, 4, 3, 2, "- struck\nN e");
        readIs(book, 3, 4, 3, 3, "Y other\nN e");
        readIs(book, 3, 4, 2, 3, "- sealed\nN e");
    }

    /** Promise 18: "how many bytes (the first 3,000 are kept)". */
    private static void readKeepsTheFirst() {
        TestimonyBook book = new TestimonyBook();
        // Forty-nine lines of 60 bytes and one of 10, with a 10 between each two: 2,999.
        Trial.sit(book, Trial.times("A " + Trial.times("x", 58) + "\n", 49) + "A 12345678");
        Trial.sit(book, "A y\nA z");
        trial.due("read of 2,988", book.read(0, 48, 0, 0), 2988);
        trial.due("kept", book.count(9), 2988);
        trial.due("read of 2,999", book.read(0, 49, 0, 0), 2999);
        trial.due("kept", book.count(9), 2999);
        trial.due("the last byte", book.told(2998), '8');
        trial.lacks("the one behind it", () -> book.told(2999));
        trial.righted(book, 49, "123456789", 0, -1);
        trial.due("read of 3,000", book.read(0, 49, 0, 0), 3000);
        trial.due("kept", book.count(9), 3000);
        trial.due("the last byte", book.told(2999), '9');
        trial.righted(book, 49, "1234567890", 0, -1);
        trial.due("read of 3,001", book.read(0, 49, 0, 0), 3001);
        trial.due("kept", book.count(9), 3000);
        trial.due("the last byte kept", book.told(2999), '9');
        trial.lacks("the one behind it", () -> book.told(3000));
        trial.due("read of more", book.read(0, 51, 0, 0), 3009);
        trial.due("kept", book.count(9), 3000);
        trial.due("the next one begins anew", book.read(50, 51, 0, 0), 7);
        trial.due("the next one begins anew", Trial.out(book), "A y\nA z");
        TestimonyBook full = new TestimonyBook();
        for (int i = 0; i < 5; i++) {
            Trial.sit(full, Trial.times("A " + Trial.times("x", 58) + "\n", 40));
        }
        trial.due("the longest", full.read(0, 199, 0, 0), 200 * 61 - 1);
        trial.due("kept", full.count(9), 3000);
    }

    /** Promise 18: "no such LINES, a is above b. IllegalArgumentException: no such level." */
    private static void readLacking() {
        int[][] lines = {{1, 0}, {6, 5}, {-1, 0}, {0, 7}, {7, 7}, {-1, -1}, {MIN, MAX}, {MAX, MIN}};
        for (int[] w : lines) {
            for (int level : new int[] {-1, 0, 3, 4}) {
                String told = "read(" + w[0] + ", " + w[1] + ", " + level + ", 0)";
                trial.changesNothing(told, BookEdgeTests::sample,
                        b -> trial.lacks(told, () -> b.read(w[0], w[1], level, 0)));
            }
        }
        for (int level : new int[] {-1, 4, 5, MIN, MAX}) {
            String told = "read(0, 6, " + level + ", 0)";
            trial.changesNothing(told, BookEdgeTests::sample, b -> trial.wrong(told, () -> b.read(0, 6, level, 0)));
        }
    }

    /** Promise 19: "NoSuchElementException: there is none that is kept." */
    private static void toldLacking() {
        TestimonyBook book = Trial.bookOf("! ABC\nQ ~ ");
        trial.lacks("told(0) ahead of any OUT", () -> book.told(0));
        book.read(0, 1, 0, 0);
        trial.due("the first", book.told(0), '!');
        trial.due("the 10 between", book.told(5), 10);
        trial.due("a byte of 126", book.told(8), 126);
        trial.due("the last", book.told(9), 32);
        for (int i : new int[] {-1, 10, 11, 2999, 3000, MIN, MAX}) {
            trial.lacks("told(" + i + ")", () -> book.told(i));
        }
        book.name(0, 1);
        trial.due("the last of a name", book.told(2), 'C');
        trial.lacks("behind a shorter one", () -> book.told(3));
    }

    /** "at most 40 lines"; promise 20: "NONE: there are 40". */
    private static void digestMost() {
        TestimonyBook book = Trial.bookOf("A {1@1=39}");
        for (int i = 0; i < 40; i++) {
            trial.due("digest " + i, book.digest(1, 1, i), i);
        }
        trial.due("the 41st", book.digest(1, 1, 40), -1);
        trial.due("the 41st with a wrong number", book.digest(-1, 1, 1), -1);
        trial.due("lines of the digest", book.count(7), 40);
        trial.due("the last one cites", book.cite(39, 0), 1);
        trial.due("the last one", book.shown(39, 0), 1);
        trial.lacks("the one behind the last", () -> book.cite(40, 0));
        trial.lacks("the one behind the last", () -> book.shown(40, 0));
    }

    /** Promise 20: "or a number is not 0 to 9999". */
    private static void digestNumbers() {
        TestimonyBook book = new TestimonyBook();
        for (int wrong : new int[] {-1, 10000, MIN, MAX}) {
            trial.due("subject " + wrong, book.digest(wrong, 0, 0), -1);
            trial.due("day " + wrong, book.digest(0, wrong, 0), -1);
            trial.due("value " + wrong, book.digest(0, 0, wrong), -1);
        }
        trial.due("lines behind those", book.count(7), 0);
        trial.due("all 0", book.digest(0, 0, 0), 0);
        trial.due("subject 9999", book.digest(9999, 0, 0), 1);
        trial.due("day 9999", book.digest(0, 9999, 0), 2);
        trial.due("value 9999", book.digest(0, 0, 9999), 3);
        trial.due("one more of the same", book.digest(0, 0, 0), 4);
        trial.due("lines", book.count(7), 5);
    }

    /** "(at most 8, no two alike)"; promise 21: "NONE: it has 8, or this one." */
    private static void citesMost() {
        TestimonyBook book = Trial.bookOf("A {1@1=1}{1@1=1}{1@1=1}{1@1=1}{1@1=1}\nA {1@1=1}{1@1=1}{1@1=1}{2@2=2}");
        book.digest(2, 2, 2);
        book.digest(2, 2, 2);
        for (int i = 0; i < 8; i++) {
            for (int j = 0; j < i; j++) {
                trial.due("once more", book.cite(0, j), -1);
            }
            trial.due("cite(0, " + i + ")", book.cite(0, i), i + 1);
        }
        trial.due("a ninth", book.cite(0, 8), -1);
        trial.due("one of the eight", book.cite(0, 3), -1);
        trial.due("the ninth isn't cited", book.shown(0, 0), 0);
        trial.due("another line has its own", book.cite(1, 0), 1);
        trial.due("another line has its own", book.cite(1, 8), 2);
        trial.due("once more", book.cite(1, 8), -1);
        trial.due("once more", book.cite(1, 0), -1);
        trial.due("and is shown by it", book.shown(1, 0), 1);
    }

    /** Promises 21 and 22: "NoSuchElementException: no such line, FACT." */
    private static void citesLacking() {
        for (int digest : new int[] {-1, 1, 2, 39, 40, MIN, MAX}) {
            trial.changesNothing("line " + digest + " of the digest", BookEdgeTests::sample, book -> {
                trial.lacks("cite(" + digest + ", 0)", () -> book.cite(digest, 0));
                trial.lacks("shown(" + digest + ", 0)", () -> book.shown(digest, 0));
            });
        }
        TestimonyBook book = Trial.bookOf("A {1@1=1}{1@1=1}{1@1=1}{1@1=1}{1@1=1}\nA {1@1=1}{1@1=1}{1@1=1}");
        book.digest(1, 1, 1);
        for (int i = 0; i < 8; i++) {
            book.cite(0, i);
        }
        trial.lacks("no such fact, though it has 8", () -> book.cite(0, 8));
        trial.lacks("no such fact, though it has 8", () -> book.cite(0, -1));
    }

    /** "0 not shown: no FACT that it cites STANDS as 1 and is of its subject, day and value; else 2 ...; else 1". */
    private static void shownByFacts() {
        String[] texts = {"A {1@2=3}", "Q {1@2=3}\nY y", "Q {1@2=3}\nN n", "Q {1@2=3}\nA a", "Y {1@2=3}", "A {9@2=3}",
            "A {1@9=3}", "A {1@2=9}"};
        int[] due = {1, 1, 0, 0, 0, 0, 0, 0};
        for (int i = 0; i < texts.length; i++) {
            TestimonyBook book = Trial.bookOf(texts[i]);
            book.digest(1, 2, 3);
            trial.due("cites none", book.shown(0, 0), 0);
            book.cite(0, 0);
            trial.due("cites '" + texts[i] + "'", book.shown(0, 0), due[i]);
            Trial.sit(book, "Q {1@2=3}\nN n");
            trial.due("with a no to it", book.shown(0, 0), 2 * due[i]);
            book.order(book.count(0) - 1, book.count(0) - 1, 0);
            Trial.sit(book, "A {1@2=4}");
            trial.due("with another value", book.shown(0, 0), 2 * due[i]);
        }
        TestimonyBook later = Trial.bookOf("A {1@2=4}\nA {1@2=3}");
        later.digest(1, 2, 3);
        later.cite(0, 1);
        trial.due("disputed by the very first fact", later.shown(0, 0), 2);
        TestimonyBook both = Trial.bookOf("A {1@2=3}\nA {1@2=4}\nA {1@2=3}");
        both.digest(1, 2, 3);
        both.digest(1, 2, 5);
        both.cite(0, 1);
        both.cite(1, 0);
        both.cite(1, 1);
        trial.due("cites another value alone", both.shown(0, 0), 0);
        both.cite(0, 2);
        trial.due("disputed by a cited one", both.shown(0, 0), 2);
        trial.due("those it cites quarrel, but are of other values", both.shown(1, 0), 0);
    }

    /** A line of the digest in a book with 150 facts. */
    private static void shownAmongTheMost() {
        TestimonyBook book = Trial.bookOf(Trial.times("A {1@1=1}{1@1=1}{1@1=1}{1@1=1}{1@1=1}\n", 30));
        book.digest(1, 1, 1);
        book.cite(0, 149);
        trial.due("no one quarrels with it", book.shown(0, 0), 1);
        trial.due("no quarrels", book.quarrels(0), 0);
        book.order(1, 29, 0);
        trial.due("the last one is struck", book.shown(0, 0), 0);
        book.cite(0, 0);
        trial.due("by the first one", book.shown(0, 0), 1);
    }

    /** Promise 22: "What a line of the DIGEST is on a DAY". */
    private static void shownOnDays() {
        TestimonyBook book = Trial.bookOf("A {1@2=3}\nA {1@2=3}\nA {1@2=4}");
        book.digest(1, 2, 3);
        book.cite(0, 0);
        book.cite(0, 1);
        book.days(1);
        book.order(2, 2, 0);
        book.days(1);
        book.order(0, 0, 0);
        book.days(1);
        trial.righted(book, 1, "none", 0, -1);
        book.days(1);
        book.lift(1);
        book.days(1);
        book.lift(0);
        int[] days = {MIN, -1, 0, 1, 2, 3, 4, 5, 6, MAX};
        int[] due = {2, 2, 2, 1, 1, 0, 1, 2, 2, 2};
        for (int i = 0; i < days.length; i++) {
            trial.due("shown on " + days[i], book.shown(0, days[i]), due[i]);
        }
    }

    /** Promise 23: "NoSuchElementException: another what." */
    private static void countLacking() {
        TestimonyBook book = BookEdgeTests.sample();
        int[] due = {7, 1, 4, 2, 1, 5, 2, 1, 20, 23};
        for (int what = 0; what < due.length; what++) {
            trial.due("count(" + what + ")", book.count(what), due[what]);
        }
        for (int what : new int[] {-1, 10, 11, MIN, MAX}) {
            trial.lacks("count(" + what + ")", () -> book.count(what));
        }
    }
}
