/** The faults of sittings and of lines put right: promises 3, 4 and 5. */
public final class FaultTests {
    private static final Trial trial = new Trial();
    private static final String X57 = Trial.times("x", 57);

    public static void main(String[] args) {
        bytesThatCannotStand();
        whatEndsTooSoon();
        tooMuch();
        nothingBegan();
        wrongNames();
        namesAheadOfWhatIsBehind();
        tooMany();
        leastAtOnePlace();
        rights();
        nothingChanges();
        trial.finish();
    }

    /** A text in a new book. */
    private static void faulty(String text, int fault, int place) {
        faultyBehind("", text, fault, place);
    }

    /** A text behind a sitting that goes well. */
    private static void faultyBehind(String before, String text, int fault, int place) {
        TestimonyBook book = new TestimonyBook();
        if (!before.isEmpty()) {
            trial.due("ahead of it: " + before, Trial.sit(book, before) > 0 ? 1 : 0, 1);
        }
        trial.refused(book, text, fault, place);
    }

    private static void good(String text, int lines) {
        trial.taken(new TestimonyBook(), text, lines);
    }

    private static void bytesThatCannotStand() {
        good("Q x", 1);
        good("Q x\n", 1);
        good("Q  \nA ~\n  |z", 3);
        faulty("B x", 1, 0);
        faulty("q x", 1, 0);
        faulty("Qx y", 1, 1);
        faulty("!x", 1, 1);
        faulty(" x", 1, 1);
        faulty(" ", 1, 1);
        faulty("Q x\n\nQ x", 1, 4);
        faulty("\n", 1, 0);
        faulty("Q a>b", 1, 3);
        faulty("Q a}b", 1, 3);
        faulty("Q \u007f", 1, 2);
        faulty("Q \u001f", 1, 2);
        faulty("Q \u00ff", 1, 2);
        faulty("Q \u0000", 1, 2);
        faulty("\u00d1 x", 1, 0);
        faulty("Q {a@1=1}", 1, 3);
        faulty("Q {@1=1}", 1, 3);
        faulty("Q {1=1=1}", 1, 4);
        faulty("Q {1@=1}", 1, 5);
        faulty("Q {1@1@1}", 1, 6);
        faulty("Q {1@1=}", 1, 7);
        faulty("Q {1@1=1 }", 1, 8);
        faulty("Q {-1@1=1}", 1, 3);
        faulty("Q {{", 1, 3);
        faulty("Q <>", 1, 3);
        faulty("Q <a>", 1, 3);
        faulty("Q <<", 1, 3);
        faulty("! a", 1, 2);
        faulty("!  A", 1, 2);
        faulty("! A!", 1, 3);
        faulty("! A\n! A  B", 1, 8);
        faulty("! A\n! A B ", 1, 9);
        faulty("! A\n! A b", 1, 8);
    }

    private static void whatEndsTooSoon() {
        faulty("Q", 1, 1);
        faulty("Q ", 1, 2);
        faulty("!", 1, 1);
        faulty("! ", 1, 2);
        faulty("Q\n", 1, 1);
        faulty("Q \n", 1, 2);
        faulty("! \n", 1, 2);
        faulty("Q x\nA", 1, 5);
        faulty("Q x\n ", 1, 5);
        faulty("Q x\n  ", 1, 6);
        faulty("Q {", 1, 3);
        faulty("Q {1", 1, 4);
        faulty("Q {1@2=3", 1, 8);
        faulty("Q {1@2=3\n", 1, 8);
        faulty("Q <", 1, 3);
        faulty("Q <\n", 1, 3);
        faulty("! A\nQ <A", 1, 8);
        faulty("! A\nQ <A\n", 1, 8);
        faulty("! A\n! A ", 1, 8);
        faulty("! A\n! A \n", 1, 8);
    }

    private static void tooMuch() {
        good("Q x" + X57, 1);
        good("Q x" + X57 + "\nA x", 2);
        faulty("Q xx" + X57, 2, 60);
        faulty("Q x" + X57 + "{", 2, 60);
        faulty("Q x" + X57 + "<", 2, 60);
        faulty("A x\nQ x" + X57 + " \n", 2, 64);
        good("Q {1234@1234=1234}", 1);
        faulty("Q {12345@1=1}", 2, 7);
        faulty("Q {1@12345=1}", 2, 9);
        faulty("Q {1@1=00001}", 2, 11);
        good("! ABCDEF", 1);
        faulty("! ABCDEFG", 2, 8);
        faulty("! A\n! A BCDEFGH", 2, 14);
        faulty("! A\nQ <ABCDEFG>", 2, 13);
        faulty("Q " + Trial.times("x", 52) + "{1@1=1}", 2, 60);
        faulty("Q " + Trial.times("x", 53) + "{1@1=1}", 2, 60);
        faulty("Q " + Trial.times("x", 56) + "{1@1=1}", 2, 60);
        faulty("! A\nQ " + Trial.times("x", 56) + "<A>", 2, 64);
        faulty("! A\nQ " + Trial.times("x", 57) + "<A>", 2, 64);
        good("! A\nQ " + Trial.times("x", 55) + "<A>", 2);
    }

    private static void nothingBegan() {
        faulty("  x", 3, 0);
        faulty("  ", 3, 0);
        faulty("  \n", 3, 0);
        faulty("! A\n  x", 3, 4);
        faulty("Q x\n! A\n  x", 3, 8);
        faultyBehind("Q x", "  x", 3, 0);
        good("Q x\n  y\n  z\nN x\n  y", 5);
        good("! A\nQ x\n  y", 3);
    }

    private static void wrongNames() {
        faulty("Q <A>", 4, 3);
        faulty("! A\n! A", 4, 6);
        faulty("! A B", 4, 2);
        faulty("! A\n! B\n! A B", 4, 12);
        faulty("! A\n! A A", 4, 8);
        faulty("! A\n! A B\nQ <A>", 4, 13);
        faulty("Q <A>\n! A", 4, 3);
        faulty("! A\nQ <AA>", 4, 7);
        faulty("! AA\nQ <A>", 4, 8);
        faultyBehind("! A", "! A", 4, 2);
        faultyBehind("! A\n! A B", "Q <A>", 4, 3);
        good("! A\n! A B\n! A\nQ <A> <B>\n! B C\n! A B", 6);
    }

    /** A name has ended where another byte comes: its fault is earlier along the text than that byte's. */
    private static void namesAheadOfWhatIsBehind() {
        faulty("Q <A", 4, 3);
        faulty("Q <A!", 4, 3);
        faulty("Q <A\n", 4, 3);
        faulty("! A ", 4, 2);
        faulty("! A -", 4, 2);
        faulty("! A\n! A!", 4, 6);
        faulty("! A\n! A A!", 4, 8);
        faulty("Q " + Trial.times("x", 56) + "<A>", 4, 59);
        faulty("Q " + Trial.times("x", 57) + "<A>", 2, 60);
    }

    private static void tooMany() {
        good(Trial.times("Q x\n", 200), 200);
        faulty(Trial.times("Q x\n", 201), 5, 800);
        faulty(Trial.times("Q x\n", 200) + "Qx", 5, 800);
        faultyBehind(Trial.times("Q x\n", 199), "Q x\n  y", 5, 4);
        String facts = Trial.times("Q {1@1=1}{1@1=2}{1@1=3}{1@1=4}{1@1=5}\n", 30);
        faultyBehind(facts, "Q x{1@1=1}", 5, 3);
        faultyBehind(facts, "Q x{oops", 5, 3);
        String mentions = "! A\n" + Trial.times("Q <A><A><A><A><A>\n", 20);
        faultyBehind(mentions, "Q x<A>", 5, 3);
        faultyBehind(mentions, "Q x<B>", 5, 3);
        StringBuilder exhibits = new StringBuilder();
        for (int i = 0; i < 20; i++) {
            exhibits.append("! E").append(i).append('\n');
        }
        good(exhibits.toString(), 20);
        good(exhibits + "! E0 X", 21);
        faulty(exhibits + "! X", 5, exhibits.length() + 2);
        faultyBehind(exhibits.toString(), "! X\n", 5, 2);
        faultyBehind(exhibits.toString(), "! XXXXXXX", 2, 8);
    }

    private static void leastAtOnePlace() {
        faulty("Q x" + X57 + ">", 1, 60);
        faulty("Q x" + X57 + "\u0080", 1, 60);
        String full = Trial.times("Q x\n", 199) + "! A\n";
        faultyBehind(full, "x", 1, 0);
        faultyBehind(full, "\n", 1, 0);
        faultyBehind(full, "  x", 3, 0);
        faultyBehind(full, " x", 5, 0);
        String facts = Trial.times("Q {1@1=1}{1@1=2}{1@1=3}{1@1=4}{1@1=5}\n", 30);
        faultyBehind(facts, "Q x" + X57 + "{", 2, 60);
        StringBuilder exhibits = new StringBuilder();
        for (int i = 0; i < 20; i++) {
            exhibits.append("! E").append(i).append('\n');
        }
        faultyBehind(exhibits.toString(), "! E7", 4, 2);
    }

    private static void faultyRight(String before, int line, String rest, int fault, int place) {
        TestimonyBook book = Trial.bookOf(before);
        trial.righted(book, line, rest, fault, place);
    }

    private static void rights() {
        faultyRight("Q x", 0, "y", 0, -1);
        faultyRight("Q x\n  y", 1, Trial.times("z", 58), 0, -1);
        faultyRight("Q x\n  y", 1, Trial.times("z", 59), 2, 58);
        faultyRight("Q x", 0, Trial.times("z", 58) + "}", 1, 58);
        faultyRight("Q x", 0, Trial.times("z", 58) + "\n", 1, 58);
        faultyRight("Q x", 0, "z\n", 1, 1);
        faultyRight("Q x", 0, "\n", 1, 0);
        faultyRight("Q x", 0, "}", 1, 0);
        faultyRight("Q x", 0, "{1@2=3", 1, 6);
        faultyRight("Q x", 0, "{1@2=34567}", 2, 9);
        faultyRight("Q x", 0, "a<B>", 4, 2);
        faultyRight("Q x\n! A\nA y\n! A B\nA z", 0, "<A>", 4, 1);
        faultyRight("Q x\n! A\nA y\n! A B\nA z", 2, "<A>", 0, -1);
        faultyRight("Q x\n! A\nA y\n! A B\nA z", 2, "<B>", 4, 1);
        faultyRight("Q x\n! A\nA y\n! A B\nA z", 4, "<A>", 4, 1);
        faultyRight("Q x\n! A\nA y\n! A B\nA z", 4, "<B>", 0, -1);
        faultyRight("Q x\n! A\nA y\n! A B\n! A\nA z", 2, "<A>", 0, -1);
        faultyRight(Trial.times("Q {1@1=1}{1@1=2}{1@1=3}{1@1=4}{1@1=5}\n", 30), 3, "{1@1=1}", 5, 0);
        faultyRight("! A\n" + Trial.times("Q <A><A><A><A><A>\n", 20), 3, "x<A>", 5, 1);
    }

    /** A fault takes back all that came ahead of it in its text. */
    private static void nothingChanges() {
        TestimonyBook book = Trial.bookOf("! A\nQ <A>{1@2=3}\nY yes");
        trial.due("a fault at the end", Trial.sit(book, "! B\n! A C\nQ <B>{4@5=6}\nA no\nA }"), -2);
        trial.due("its place", book.fault(), 30);
        int[] counts = {3, 1, 1, 1, 1};
        for (int i = 0; i < counts.length; i++) {
            trial.due("count " + i + " behind a fault", book.count(i), counts[i]);
        }
        trial.due("name behind a fault", book.name(0, 2), 1);
        trial.due("name behind a fault", Trial.out(book), "A");
        trial.due("tape behind a fault", book.count(8), 0);
        trial.due("a right's fault", Trial.putRight(book, 2, "<A>{7@7=7}}"), 1);
        trial.due("mentions behind it", book.count(3), 1);
        trial.due("facts behind it", book.count(2), 1);
        trial.due("the line behind it", book.read(2, 2, 0, 0), 5);
        trial.due("the next sitting", Trial.sit(book, "! B\nA {8@8=8}<B>"), 2);
        trial.due("its page", book.about(3, 0), 2);
        trial.due("its sitting", book.about(3, 2), 1);
        trial.due("its fact", book.fact(1, 1), 8);
        trial.due("its mention", book.mention(1, 1), 1);
        trial.due("its line", book.read(4, 4, 0, 0), 12);
        trial.due("its line", Trial.out(book), "A {8@8=8}<B>");
    }
}
