/** Each promise by ordinary inputs, the document's edges and wrong inputs; faults have FaultTests. */
public final class PromiseTests {
    private static final Trial trial = new Trial();
    private static final String TALK = "! E1\nQ Was it {1@5=7}\n  or <E1>?\nY yes\nA {1@5=8}\nQ {2@1=1}\nN no\n"
            + "! E1 F2\nA {2@1=1} <F2>\nQ last {9@9=9}";

    public static void main(String[] args) {
        newBook();
        feed();
        sitting();
        fault();
        right();
        days();
        about();
        cited();
        fact();
        stands();
        quarrels();
        mention();
        name();
        order();
        lift();
        status();
        read();
        told();
        digest();
        cite();
        shown();
        count();
        trial.finish();
    }

    private static void newBook() {
        TestimonyBook book = new TestimonyBook();
        for (int what = 0; what <= 9; what++) {
            trial.due("count " + what + " of a new book", book.count(what), 0);
        }
        trial.due("fault of a new book", book.fault(), TestimonyBook.NONE);
        trial.due("quarrels of a new book", book.quarrels(0), 0);
        trial.due("cited in a new book", book.cited(1, 1), -1);
        trial.due("NONE", TestimonyBook.NONE, -1);
    }

    private static void feed() {
        TestimonyBook book = new TestimonyBook();
        for (int i = 1; i <= 150; i++) {
            trial.due("feed " + i, book.feed(1, 2, 3, 4, 5), 20 * i);
        }
        trial.due("a feed too many", book.feed(1, 2, 3, 4, 5), -1);
        trial.due("the tape then", book.count(8), 3000);
        TestimonyBook other = new TestimonyBook();
        other.feed(('Q' << 24) + (' ' << 16) + ('a' << 8) + 'b', ('c' << 24) + ('d' << 16), 0, 0, 0);
        trial.due("the highest byte first", other.sitting(6), 1);
        other.read(0, 0, 0, 0);
        trial.due("the highest byte first", Trial.out(other), "Q abcd");
        other.feed(-1, 0, 0, 0, 0);
        trial.due("a byte of 255", other.sitting(1), -2);
    }

    private static void sitting() {
        TestimonyBook book = new TestimonyBook();
        trial.wrong("an empty tape", () -> book.sitting(1));
        Trial.feed(book, "Q x\nA y");
        trial.wrong("sitting(0)", () -> book.sitting(0));
        trial.wrong("sitting(-1)", () -> book.sitting(-1));
        trial.wrong("sitting(MIN)", () -> book.sitting(Integer.MIN_VALUE));
        trial.wrong("sitting(21)", () -> book.sitting(21));
        trial.due("the tape behind those", book.count(8), 20);
        trial.due("two lines", book.sitting(7), 2);
        trial.due("the tape is empty then", book.count(8), 0);
        trial.due("a fault", Trial.sit(book, "}"), -2);
        trial.due("the tape is empty then, too", book.count(8), 0);
        for (int i = 1; i < 8; i++) {
            trial.due("sitting " + i, Trial.sit(book, "A z\n"), 1);
        }
        trial.due("sittings", book.count(1), 8);
        trial.due("a ninth", Trial.sit(book, "A z\n"), -9);
        trial.due("a ninth with a fault", Trial.sit(book, "}"), -9);
        trial.due("no fault of it", book.fault(), -1);
        trial.due("the tape behind it", book.count(8), 0);
        trial.due("lines", book.count(0), 9);
        trial.wrong("a tenth on an empty tape", () -> book.sitting(1));
        TestimonyBook whole = new TestimonyBook();
        trial.due("a whole tape", Trial.sit(whole, Trial.times("Q 3456789 123456789\n", 150)), 150);
    }

    private static void fault() {
        TestimonyBook book = new TestimonyBook();
        Trial.sit(book, "Q }");
        trial.due("a place", book.fault(), 2);
        trial.wrong("a call that throws", () -> book.sitting(1));
        trial.due("leaves it", book.fault(), 2);
        trial.lacks("a call that throws", () -> book.right(0, 1));
        trial.due("leaves it", book.fault(), 2);
        Trial.sit(book, "Q x\n! A");
        trial.due("without a fault", book.fault(), -1);
        Trial.putRight(book, 0, "12345}");
        trial.due("of a right", book.fault(), 5);
        Trial.putRight(book, 0, "12345");
        trial.due("of a good right", book.fault(), -1);
        Trial.putRight(book, 0, "}");
        trial.due("of a right", book.fault(), 0);
        trial.due("refused", Trial.putRight(book, 1, "}"), -9);
        trial.due("of a right that was refused", book.fault(), -1);
    }

    private static void right() {
        TestimonyBook book = Trial.bookOf("Q {1@1=1}\nY y\n! A");
        trial.lacks("no line -1", () -> book.right(-1, 1));
        trial.lacks("no line 3", () -> book.right(3, 1));
        trial.wrong("right(0, 0)", () -> book.right(0, 0));
        trial.wrong("an empty tape", () -> book.right(0, 1));
        trial.wrong("an exhibit's with an empty tape", () -> book.right(2, 1));
        Trial.feed(book, "x");
        trial.wrong("right(0, 21)", () -> book.right(0, 21));
        trial.lacks("no line comes first", () -> book.right(3, 21));
        trial.due("the tape behind those", book.count(8), 20);
        trial.due("an exhibit's", book.right(2, 1), -9);
        trial.due("the tape behind it", book.count(8), 0);
        book.days(5);
        trial.due("put right", Trial.putRight(book, 0, "<"), 1);
        trial.due("put right", Trial.putRight(book, 0, "z{1@1=2}"), 0);
        trial.due("put right that day once more", Trial.putRight(book, 0, "{1@1=3}"), 0);
        trial.due("how often", book.about(0, 6), 2);
        trial.due("facts count on", book.count(2), 3);
        trial.due("the first ahead", book.stands(0, 4), 1);
        trial.due("the first then", book.stands(0, 5), 0);
        trial.due("the second, that was put right the same day", book.stands(1, 5), 0);
        trial.due("the third ahead", book.stands(2, 4), 0);
        trial.due("the third then", book.stands(2, 5), 1);
        trial.due("the place", book.fact(1, 4), 3);
        book.read(0, 0, 0, 4);
        trial.due("read ahead", Trial.out(book), "Q {1@1=1}");
        book.read(0, 0, 0, 5);
        trial.due("read then", Trial.out(book), "Q {1@1=3}");
        for (int i = 2; i < 100; i++) {
            trial.due("right " + i, Trial.putRight(book, i % 2, "r"), 0);
        }
        trial.due("the 101st", Trial.putRight(book, 0, "r"), -9);
        trial.due("the 101st with a fault", Trial.putRight(book, 0, "}"), -9);
        trial.due("how often", book.about(0, 6) + book.about(1, 6), 100);
    }

    private static void days() {
        TestimonyBook book = new TestimonyBook();
        trial.due("days(0)", book.days(0), 0);
        trial.due("days(7)", book.days(7), 7);
        trial.wrong("days(-1)", () -> book.days(-1));
        trial.wrong("days(MIN)", () -> book.days(Integer.MIN_VALUE));
        trial.wrong("days(MAX)", () -> book.days(Integer.MAX_VALUE));
        trial.wrong("days(99994)", () -> book.days(99994));
        trial.due("NOW behind those", book.count(5), 7);
        trial.due("days(99993)", book.days(99993), 100000);
        trial.wrong("days(1)", () -> book.days(1));
        trial.due("days(0)", book.days(0), 100000);
    }

    private static void aboutAll(TestimonyBook book, int what, int... due) {
        for (int line = 0; line < due.length; line++) {
            trial.due("about(" + line + ", " + what + ")", book.about(line, what), due[line]);
        }
    }

    private static void about() {
        TestimonyBook book = Trial.bookOf(TALK);
        Trial.sit(book, "Q a\nQ b\n! X\nN c\nY d\n  e\nQ f\n  g\n  h\nA i\n  j\nQ k");
        Trial.sit(book, "A l");
        aboutAll(book, 0, 1, 1, 1, 1, 1, 1, 1, 1, 1, 1, 2, 2, 2, 2, 2, 2, 2, 2, 2, 2, 3, 3, 4);
        aboutAll(book, 1, 1, 2, 3, 4, 5, 6, 7, 8, 9, 10, 1, 2, 3, 4, 5, 6, 7, 8, 9, 10, 1, 2, 1);
        aboutAll(book, 2, 0, 0, 0, 0, 0, 0, 0, 0, 0, 0, 1, 1, 1, 1, 1, 1, 1, 1, 1, 1, 1, 1, 2);
        aboutAll(book, 3, 5, 0, 4, 2, 1, 0, 3, 5, 1, 0, 0, 0, 5, 3, 2, 4, 0, 4, 4, 1, 4, 0, 1);
        aboutAll(book, 4, -1, 1, 1, 3, 4, 5, 6, -1, 8, 9, 10, 11, -1, 13, 14, 14, 16, 16, 16, 19, 19, 21, 22);
        aboutAll(book, 5, -1, 3, 3, -1, -1, 6, -1, -1, -1, -1, -1, 13, -1, -1, -1, -1, 19, 19, 19, -1, -1, -1, -1);
        aboutAll(book, 6, new int[23]);
        trial.lacks("about(23, 0)", () -> book.about(23, 0));
        trial.lacks("about(-1, 0)", () -> book.about(-1, 0));
        trial.lacks("about(0, 7)", () -> book.about(0, 7));
        trial.lacks("about(0, -1)", () -> book.about(0, -1));
    }

    private static void cited() {
        TestimonyBook book = Trial.bookOf(TALK + "\nA eleven");
        Trial.sit(book, "Q x");
        trial.due("cited(1, 1)", book.cited(1, 1), 0);
        trial.due("cited(1, 10)", book.cited(1, 10), 9);
        trial.due("cited(2, 1)", book.cited(2, 1), 10);
        trial.due("cited(2, 2)", book.cited(2, 2), -1);
        trial.due("cited(3, 1)", book.cited(3, 1), 11);
        trial.due("cited(4, 1)", book.cited(4, 1), -1);
        trial.due("cited(0, 1)", book.cited(0, 1), -1);
        trial.due("cited(1, 0)", book.cited(1, 0), -1);
        trial.due("cited(1, 11)", book.cited(1, 11), -1);
        trial.due("cited(MAX, MIN)", book.cited(Integer.MAX_VALUE, Integer.MIN_VALUE), -1);
    }

    private static void fact() {
        TestimonyBook book = Trial.bookOf("Q a{1@02=9999}{0@0=0}\n  {0012@3=4}");
        int[][] due = {{0, 1, 2, 9999, 3}, {0, 0, 0, 0, 14}, {1, 12, 3, 4, 2}};
        for (int fact = 0; fact < 3; fact++) {
            for (int what = 0; what < 5; what++) {
                trial.due("fact(" + fact + ", " + what + ")", book.fact(fact, what), due[fact][what]);
            }
        }
        trial.lacks("fact(3, 0)", () -> book.fact(3, 0));
        trial.lacks("fact(-1, 0)", () -> book.fact(-1, 0));
        trial.lacks("fact(0, 5)", () -> book.fact(0, 5));
        trial.lacks("fact(0, -1)", () -> book.fact(0, -1));
    }

    private static void stand(TestimonyBook book, int k, int... due) {
        for (int fact = 0; fact < due.length; fact++) {
            trial.due("stands(" + fact + ", " + k + ")", book.stands(fact, k), due[fact]);
        }
    }

    private static void stands() {
        TestimonyBook book = Trial.bookOf("Q {1@1=0}\n  {1@1=1}\n! A\nY {1@1=2}\n  {1@1=3}\nQ {1@1=4}\nN n\n"
                + "Q {1@1=5}\nA {1@1=6}\n  {1@1=7}\nQ {1@1=8}\nQ {1@1=9}");
        Trial.sit(book, "Y y");
        stand(book, 0, 1, 1, 0, 0, -1, 0, 1, 1, 0, 0);
        stand(book, -7, 1, 1, 0, 0, -1, 0, 1, 1, 0, 0);
        stand(book, Integer.MAX_VALUE, 1, 1, 0, 0, -1, 0, 1, 1, 0, 0);
        book.days(2);
        book.order(1, 1, 0);
        book.order(8, 8, 3);
        stand(book, 1, 1, 1, 0, 0, -1, 0, 1, 1, 0, 0);
        stand(book, 2, 1, 0, 0, 0, -1, 0, 1, 1, 0, 0);
        book.days(1);
        book.order(3, 3, 0);
        book.order(8, 8, 0);
        stand(book, 2, 1, 0, 0, 0, -1, 0, 1, 1, 0, 0);
        stand(book, 3, 0, 0, 0, 0, -1, 0, 0, 1, 0, 0);
        book.days(1);
        book.lift(0);
        book.lift(2);
        book.order(4, 4, 0);
        stand(book, 3, 0, 0, 0, 0, -1, 0, 0, 1, 0, 0);
        stand(book, 4, 1, 1, 0, 0, -1, 0, 0, 1, 0, 0);
        trial.lacks("stands(10, 0)", () -> book.stands(10, 0));
        trial.lacks("stands(-1, 0)", () -> book.stands(-1, 0));
    }

    private static void quarrelsAre(TestimonyBook book, int k, int... due) {
        trial.due("quarrels(" + k + ")", book.quarrels(k), due.length / 2);
        for (int i = 0; i < due.length; i++) {
            trial.due("quarrel(" + i / 2 + ", " + k + ", " + i % 2 + ")", book.quarrel(i / 2, k, i % 2), due[i]);
        }
        trial.lacks("the quarrel behind them", () -> book.quarrel(due.length / 2, k, 0));
    }

    private static void quarrels() {
        TestimonyBook book = Trial.bookOf("A {1@1=1}{1@1=2}{1@2=2}{2@1=2}\nQ {1@1=1}\nN n\nQ {1@1=1}{1@1=3}\nN n\n"
                + "A {1@1=1}\nQ {1@1=2}\nY y");
        quarrelsAre(book, 0, 0, 1, 0, 4, 0, 5, 0, 8, 1, 7, 4, 7, 5, 7, 7, 8);
        book.days(1);
        Trial.putRight(book, 0, "nothing");
        quarrelsAre(book, 1, 4, 7, 5, 7, 7, 8);
        quarrelsAre(book, 0, 0, 1, 0, 4, 0, 5, 0, 8, 1, 7, 4, 7, 5, 7, 7, 8);
        book.order(7, 7, 0);
        quarrelsAre(book, 1, 4, 7, 5, 7);
        trial.lacks("quarrel(-1, 0, 0)", () -> book.quarrel(-1, 0, 0));
        trial.lacks("quarrel(0, 0, 2)", () -> book.quarrel(0, 0, 2));
        trial.lacks("quarrel(0, 0, -1)", () -> book.quarrel(0, 0, -1));
        trial.lacks("quarrel(MAX, 0, 0)", () -> book.quarrel(Integer.MAX_VALUE, 0, 0));
        StringBuilder all = new StringBuilder();
        for (int i = 0; i < 150; i++) {
            all.append(i % 5 == 0 ? "\nA {1@1=" : "{1@1=").append(i).append('}');
        }
        trial.due("all quarrel", Trial.bookOf(all.substring(1)).quarrels(0), 11175);
    }

    private static void mention() {
        TestimonyBook book = Trial.bookOf("! A\n! B\nQ <B><A>\n! B C\n! B\nA <B>\n  <C>");
        Trial.putRight(book, 2, "<B>");
        int[][] due = {{2, 1}, {2, 0}, {5, 2}, {6, 1}, {2, 1}};
        for (int i = 0; i < due.length; i++) {
            trial.due("mention(" + i + ", 0)", book.mention(i, 0), due[i][0]);
            trial.due("mention(" + i + ", 1)", book.mention(i, 1), due[i][1]);
        }
        trial.lacks("mention(5, 0)", () -> book.mention(5, 0));
        trial.lacks("mention(-1, 0)", () -> book.mention(-1, 0));
        trial.lacks("mention(0, 2)", () -> book.mention(0, 2));
        trial.lacks("mention(0, -1)", () -> book.mention(0, -1));
    }

    private static void nameIs(TestimonyBook book, int exhibit, int line, String due) {
        trial.due("name(" + exhibit + ", " + line + ")", book.name(exhibit, line), due.isEmpty() ? -1 : due.length());
        trial.due("name(" + exhibit + ", " + line + ")", Trial.out(book), due);
    }

    private static void name() {
        TestimonyBook book = Trial.bookOf("Q x\n! A\nQ y\n! A BCDEF0\nQ z\n! A");
        Trial.sit(book, "! BCDEF0 Z9");
        String[] first = {"", "A", "A", "BCDEF0", "BCDEF0", "BCDEF0", "Z9"};
        String[] second = {"", "", "", "", "", "A", "A"};
        for (int line = 0; line < first.length; line++) {
            nameIs(book, 0, line, first[line]);
            nameIs(book, 1, line, second[line]);
        }
        trial.lacks("name(2, 0)", () -> book.name(2, 0));
        trial.lacks("name(-1, 0)", () -> book.name(-1, 0));
        trial.lacks("name(0, 7)", () -> book.name(0, 7));
        trial.lacks("name(0, -1)", () -> book.name(0, -1));
        trial.due("OUT behind those", Trial.out(book), "A");
    }

    private static void order() {
        TestimonyBook book = Trial.bookOf("Q x\nA y\nA z");
        trial.lacks("order(-1, 0, 0)", () -> book.order(-1, 0, 0));
        trial.lacks("order(0, 3, 0)", () -> book.order(0, 3, 0));
        trial.lacks("order(2, 1, 0)", () -> book.order(2, 1, 0));
        trial.lacks("order(2, 1, 4)", () -> book.order(2, 1, 4));
        trial.due("level 4", book.order(0, 1, 4), -1);
        trial.due("level -1", book.order(0, 1, -1), -1);
        for (int i = 0; i < 60; i++) {
            trial.due("order " + i, book.order(0, i % 3, i % 4), i);
        }
        trial.due("the 61st", book.order(0, 1, 1), -1);
        trial.lacks("the 61st of no lines", () -> book.order(0, 3, 1));
        trial.due("orders", book.count(6), 60);
    }

    private static void lift() {
        TestimonyBook book = Trial.bookOf("Q x\nA y");
        trial.lacks("lift(0)", () -> book.lift(0) ? 1 : 0);
        book.order(0, 1, 0);
        book.order(0, 1, 0);
        book.days(1);
        trial.due("lift(0)", book.lift(0) ? 1 : 0, 1);
        trial.due("lift(0)", book.lift(0) ? 1 : 0, 0);
        trial.due("one of two is left", book.status(0, 1, 0), 1);
        trial.due("lift(1)", book.lift(1) ? 1 : 0, 1);
        trial.due("none is left", book.status(0, 1, 0), 0);
        trial.due("the day ahead", book.status(0, 0, 0), 1);
        trial.lacks("lift(2)", () -> book.lift(2) ? 1 : 0);
        trial.lacks("lift(-1)", () -> book.lift(-1) ? 1 : 0);
    }

    private static void statusIs(TestimonyBook book, int line, int k, int struck, int level) {
        trial.due("status(" + line + ", " + k + ", 0)", book.status(line, k, 0), struck);
        trial.due("status(" + line + ", " + k + ", 1)", book.status(line, k, 1), level);
    }

    private static void status() {
        TestimonyBook book = Trial.bookOf("Q x\n! A\nA y\nA z");
        book.days(3);
        book.order(1, 2, 2);
        book.order(2, 3, 3);
        book.order(2, 2, 1);
        book.order(1, 1, 0);
        statusIs(book, 1, 2, 0, 0);
        statusIs(book, 2, 2, 0, 0);
        statusIs(book, 0, 3, 0, 0);
        statusIs(book, 1, 3, 1, 2);
        statusIs(book, 2, 3, 0, 3);
        statusIs(book, 3, 3, 0, 3);
        book.days(2);
        book.lift(1);
        book.lift(3);
        statusIs(book, 1, 4, 1, 2);
        statusIs(book, 1, 5, 0, 2);
        statusIs(book, 2, 4, 0, 3);
        statusIs(book, 2, 5, 0, 2);
        statusIs(book, 3, 5, 0, 0);
        statusIs(book, 2, -1, 0, 0);
        statusIs(book, 2, Integer.MAX_VALUE, 0, 2);
        book.order(0, 0, 0);
        book.lift(4);
        statusIs(book, 0, 5, 0, 0);
        trial.lacks("status(4, 0, 0)", () -> book.status(4, 0, 0));
        trial.lacks("status(-1, 0, 0)", () -> book.status(-1, 0, 0));
        trial.lacks("status(0, 0, 2)", () -> book.status(0, 0, 2));
        trial.lacks("status(0, 0, -1)", () -> book.status(0, 0, -1));
    }

    private static void readIs(TestimonyBook book, int a, int b, int level, int k, String due) {
        String told = "read(" + a + ", " + b + ", " + level + ", " + k + ")";
        trial.due(told, book.read(a, b, level, k), due.length());
        trial.due(told, Trial.out(book), due);
    }

    private static void read() {
        TestimonyBook book = Trial.bookOf("Q x\n  go on\nY y\n! A\nN n\nA last one");
        readIs(book, 0, 5, 0, 0, "Q x\n  go on\nY y\n! A\nN n\nA last one");
        readIs(book, 1, 1, 3, -5, "  go on");
        book.days(1);
        book.order(0, 3, 2);
        book.order(1, 1, 0);
        Trial.putRight(book, 1, "{1@2=3} else");
        Trial.putRight(book, 5, "new");
        readIs(book, 0, 5, 0, 0, "Q x\n  go on\nY y\n! A\nN n\nA last one");
        readIs(book, 0, 5, 1, 1, "- sealed\n- struck\n- sealed\n- sealed\nN n\nA new");
        readIs(book, 0, 5, 2, 1, "Q x\n- struck\nY y\n! A\nN n\nA new");
        readIs(book, 0, 5, 3, 1, "Q x\n- struck\nY y\n! A\nN n\nA new");
        book.lift(1);
        readIs(book, 1, 1, 3, 1, "  {1@2=3} else");
        trial.lacks("read(-1, 0, 0, 0)", () -> book.read(-1, 0, 0, 0));
        trial.lacks("read(0, 6, 0, 0)", () -> book.read(0, 6, 0, 0));
        trial.lacks("read(2, 1, 0, 0)", () -> book.read(2, 1, 0, 0));
        trial.lacks("read(2, 1, 4, 0)", () -> book.read(2, 1, 4, 0));
        trial.wrong("read(0, 1, 4, 0)", () -> book.read(0, 1, 4, 0));
        trial.wrong("read(0, 1, -1, 0)", () -> book.read(0, 1, -1, 0));
        trial.due("OUT behind those", Trial.out(book), "  {1@2=3} else");
    }

    private static void told() {
        TestimonyBook book = new TestimonyBook();
        trial.lacks("told(0) of a new book", () -> book.told(0));
        String page = Trial.times("A " + Trial.times("x", 57) + "y\n", 40);
        Trial.sit(book, page);
        Trial.sit(book, page);
        String all = page + page;
        trial.due("a long one", book.read(0, 79, 0, 0), all.length() - 1);
        trial.due("kept of it", book.count(9), 3000);
        trial.due("kept of it", Trial.out(book), all.substring(0, 3000));
        trial.due("told(2999)", book.told(2999), all.charAt(2999));
        trial.lacks("told(3000)", () -> book.told(3000));
        trial.lacks("told(-1)", () -> book.told(-1));
        book.read(0, 0, 0, 0);
        trial.lacks("told(60)", () -> book.told(60));
        trial.due("told(59)", book.told(59), 'y');
    }

    private static void digest() {
        TestimonyBook book = new TestimonyBook();
        int[][] bad = {{-1, 0, 0}, {0, -1, 0}, {0, 0, -1}, {10000, 0, 0}, {0, 10000, 0}, {0, 0, 10000}};
        for (int[] b : bad) {
            trial.due("a number out of bounds", book.digest(b[0], b[1], b[2]), -1);
        }
        for (int i = 0; i < 40; i++) {
            trial.due("digest " + i, book.digest(0, 9999, i), i);
        }
        trial.due("the 41st", book.digest(0, 0, 0), -1);
        trial.due("lines of the digest", book.count(7), 40);
    }

    private static void cite() {
        TestimonyBook book = Trial.bookOf("A {1@1=1}{1@1=1}{1@1=1}{1@1=1}{1@1=1}\nA {1@1=1}{1@1=1}{1@1=1}{1@1=1}");
        trial.lacks("no line of the digest", () -> book.cite(0, 0));
        book.digest(1, 1, 1);
        book.digest(1, 1, 1);
        trial.lacks("cite(-1, 0)", () -> book.cite(-1, 0));
        trial.lacks("cite(2, 0)", () -> book.cite(2, 0));
        trial.lacks("cite(0, 9)", () -> book.cite(0, 9));
        trial.lacks("cite(0, -1)", () -> book.cite(0, -1));
        for (int i = 0; i < 8; i++) {
            trial.due("cite(0, " + i + ")", book.cite(0, i), i + 1);
            trial.due("cite(0, " + i + ") once more", book.cite(0, i), -1);
        }
        trial.due("a ninth", book.cite(0, 8), -1);
        trial.due("of the other one", book.cite(1, 8), 1);
        trial.lacks("a ninth of no fact", () -> book.cite(0, 9));
    }

    private static void shown() {
        TestimonyBook book = Trial.bookOf("A {1@1=1}{2@1=1}\nQ {1@1=1}\nY y\nQ {3@1=1}\nN n\nA {1@1=2}\nA {4@1=1}");
        book.digest(1, 1, 1);
        book.digest(2, 1, 1);
        book.digest(3, 1, 1);
        trial.due("cites none", book.shown(0, 0), 0);
        book.cite(0, 1);
        trial.due("cites one of another subject", book.shown(0, 0), 0);
        book.cite(0, 4);
        trial.due("cites one of another value", book.shown(0, 0), 0);
        book.cite(0, 2);
        trial.due("disputed by one it cites", book.shown(0, 0), 2);
        book.cite(1, 1);
        trial.due("shown", book.shown(1, 0), 1);
        book.cite(2, 3);
        trial.due("cites one that stands as -1", book.shown(2, 0), 0);
        book.days(1);
        book.order(6, 6, 0);
        book.order(5, 5, 0);
        trial.due("the other one is struck", book.shown(0, 1), 1);
        trial.due("the day ahead", book.shown(0, 0), 2);
        book.days(1);
        book.order(2, 2, 0);
        trial.due("the yes is struck", book.shown(0, 2), 0);
        book.cite(0, 0);
        trial.due("by another one", book.shown(0, 2), 1);
        Trial.sit(book, "Q {1@1=1}\nN n");
        trial.due("disputed by one that it doesn't cite", book.shown(0, 2), 2);
        trial.lacks("shown(3, 0)", () -> book.shown(3, 0));
        trial.lacks("shown(-1, 0)", () -> book.shown(-1, 0));
    }

    private static void count() {
        TestimonyBook book = Trial.bookOf(TALK);
        book.days(4);
        book.order(0, 0, 0);
        book.order(0, 0, 0);
        book.digest(1, 1, 1);
        book.read(0, 0, 0, 0);
        Trial.feed(book, "x");
        int[] due = {10, 1, 5, 2, 1, 4, 2, 1, 20, 4};
        for (int what = 0; what < due.length; what++) {
            trial.due("count(" + what + ")", book.count(what), due[what]);
        }
        trial.lacks("count(10)", () -> book.count(10));
        trial.lacks("count(-1)", () -> book.count(-1));
    }
}
