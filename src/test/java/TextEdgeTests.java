import java.util.List;

/** The edges of a text that the document's Terms name, sentence by sentence: of a sitting and of a line put right. */
public final class TextEdgeTests {
    private static final Trial trial = new Trial();
    private static final String ANY_HEAD = "QAYN";
    private static final String FIVE_FACTS = "{1@1=1}{1@1=2}{1@1=3}{1@1=4}{1@1=5}";
    private static final String FIVE_MENTIONS = "<A><A><A><A><A>";

    public static void main(String[] args) {
        lastLineMayLackItsEnd();
        threeToSixtyBytes();
        firstByteOfLine();
        secondByteOfLine();
        bytesOfRest();
        bytesOfName();
        lengthOfNames();
        digitsOfNumbers();
        endsTooSoon();
        firstAlongTheText();
        leastAtOnePlace();
        tooMuchOnlyWhereItCouldStand();
        nothingBegan();
        noneHasIt();
        oneHasIt();
        mostLines();
        mostFacts();
        mostMentions();
        mostExhibits();
        rightsLength();
        rightsNames();
        rightsCountOn();
        trial.finish();
    }

    private static void taken(String text, int lines) {
        trial.taken(new TestimonyBook(), text, lines);
    }

    private static void refused(String text, int fault, int place) {
        trial.refused(new TestimonyBook(), text, fault, place);
    }

    private static String x(int n) {
        return Trial.times("x", n);
    }

    private static boolean isOfName(int sign) {
        return "ABCDEFGHIJKLMNOPQRSTUVWXYZ0123456789".indexOf(sign) >= 0;
    }

    /** "each with 10 at its end (the last one may lack it)". */
    private static void lastLineMayLackItsEnd() {
        int[] due = {-2, -2, 1, 1, -2, -2, 2, 2, -2};
        int[] places = {1, 2, -1, -1, 5, 6, -1, -1, 8};
        for (int n = 1; n <= due.length; n++) {
            TestimonyBook book = new TestimonyBook();
            Trial.feed(book, "Q x\nA y\n\n");
            trial.due("the first " + n + " of two lines", book.sitting(n), due[n - 1]);
            trial.due("its fault's place", book.fault(), places[n - 1]);
        }
        for (String text : List.of("Q x\nA y", "Q x\nA y\n")) {
            TestimonyBook book = Trial.bookOf(text);
            trial.due("the last line has no 10 in it", book.read(1, 1, 0, 0), 3);
            trial.due("lines with or without the last 10", book.count(0), 2);
        }
    }

    /** "of 3 to 60 bytes", "2 ...: the 61st byte of a LINE". */
    private static void threeToSixtyBytes() {
        for (String head : List.of("Q ", "A ", "Y ", "N ", "  ")) {
            for (String end : List.of("", "\n", "\nA z")) {
                refused("A a\n" + head.charAt(0) + end, 1, 5);
                refused("A a\n" + head + end, 1, 6);
                taken("A a\n" + head + "x" + end, end.length() > 1 ? 3 : 2);
                taken("A a\n" + head + x(57) + end, end.length() > 1 ? 3 : 2);
                taken("A a\n" + head + x(58) + end, end.length() > 1 ? 3 : 2);
                refused("A a\n" + head + x(59) + end, 2, 64);
                refused("A a\n" + head + x(60) + end, 2, 64);
            }
        }
    }

    /** "Its first two bytes tell what it is". */
    private static void firstByteOfLine() {
        for (int b = 0; b < 256; b++) {
            String line = (char) b + " X";
            if (ANY_HEAD.indexOf(b) >= 0 || b == '!') {
                taken(line, 1);
                taken("Q x\n" + line, 2);
            } else if (b == ' ') {
                refused(line, 3, 0);
                taken("Q x\n" + line, 2);
            } else {
                refused(line, 1, 0);
                refused("Q x\n" + line, 1, 4);
            }
        }
    }

    private static void secondByteOfLine() {
        for (int b = 0; b < 256; b++) {
            for (String head : List.of("Q", "A", "Y", "N", "!", " ")) {
                String text = "Q x\n" + head + (char) b + "X";
                if (b == ' ') {
                    taken(text, 2);
                } else {
                    refused(text, 1, 5);
                }
            }
        }
    }

    /** "32 to 126", "any bytes, but ...", "and > and } stand nowhere else". */
    private static void bytesOfRest() {
        for (int b = 0; b < 256; b++) {
            boolean stands = b >= 32 && b <= 126 && "<>{}".indexOf(b) < 0;
            for (String before : List.of("Q ", "Q a", "A a{1@1=1}", "Q x\n  a", "Y ", "N b")) {
                TestimonyBook book = Trial.bookOf("A y");
                String text = before + (char) b;
                if (stands) {
                    trial.taken(book, text, before.indexOf('\n') > 0 ? 2 : 1);
                    trial.righted(book, 0, "a" + (char) b, 0, -1);
                } else if (b == '\n' && !before.endsWith(" ")) {
                    trial.taken(book, text, before.indexOf('\n') > 0 ? 2 : 1);
                } else {
                    // A mention or a fact that is cut off has its fault behind its first byte.
                    trial.refused(book, text, 1, before.length() + (b == '<' || b == '{' ? 1 : 0));
                    trial.righted(book, 0, "a" + (char) b, 1, b == '<' || b == '{' ? 2 : 1);
                }
            }
        }
    }

    /** "NAME: 1 to 6 of A to Z, 0 to 9". */
    private static void bytesOfName() {
        for (int b = 0; b < 256; b++) {
            String sign = String.valueOf((char) b);
            if (isOfName(b)) {
                taken("! " + sign, 1);
                taken("! AB\n! AB C" + sign, 2);
                taken("! A" + sign + "\nQ <A" + sign + ">", 2);
            } else {
                refused("! " + sign, 1, 2);
                refused("! AB\n! AB " + sign, 1, 10);
                refused("! A\nQ <" + sign + ">", 1, 7);
            }
            if (!isOfName(b) && b != '\n') {
                refused("! AB\n! AB C" + sign, 1, 11);
                refused("! AB" + sign + "D", b == ' ' ? 4 : 1, b == ' ' ? 2 : 4);
            }
            if (!isOfName(b) && b != '>') {
                refused("! A\nQ <A" + sign + ">", 1, 8);
            }
        }
    }

    /** "1 to 6", "2 ...: a seventh of a NAME"; "a LINE of an exhibit: NAME, one blank, NAME". */
    private static void lengthOfNames() {
        refused("! ", 1, 2);
        refused("! A\n! A ", 1, 8);
        refused("! A\nQ <>", 1, 7);
        for (int n = 1; n <= 8; n++) {
            String name = "ABCDEF78".substring(0, n);
            if (n <= 6) {
                taken("! " + name, 1);
                taken("! Z\n! Z " + name, 2);
                taken("! " + name + "\n! " + name + " Z", 2);
                taken("! " + name + "\nQ <" + name + ">", 2);
            } else {
                refused("! " + name, 2, 8);
                refused("! Z\n! Z " + name, 2, 14);
                refused("! " + name + " Z", 2, 8);
                refused("! Z\nQ <" + name + ">", 2, 13);
            }
        }
        refused("! Z\n! Z  Y", 1, 8);
        refused("! Z\n! Z Y ", 1, 9);
        refused("! Z\n! Z Y X", 1, 9);
        refused("!  Z", 1, 2);
    }

    /** "each a number of 1 to 4 digits", "2 ...: a fifth digit". */
    private static void digitsOfNumbers() {
        for (int n = 0; n <= 6; n++) {
            String number = "000000".substring(0, n);
            String[] facts = {"{" + number + "@2=3}", "{1@" + number + "=3}", "{1@2=" + number + "}"};
            int[] starts = {5, 7, 9};
            for (int i = 0; i < facts.length; i++) {
                if (n == 0) {
                    refused("Q ab" + facts[i], 1, starts[i]);
                } else if (n <= 4) {
                    taken("Q ab" + facts[i], 1);
                } else {
                    refused("Q ab" + facts[i], 2, starts[i] + 4);
                }
            }
        }
        TestimonyBook book = Trial.bookOf("Q {0@9=0000}{9999@0009=10}");
        int[][] due = {{0, 9, 0}, {9999, 9, 10}};
        for (int fact = 0; fact < 2; fact++) {
            for (int what = 1; what <= 3; what++) {
                trial.due("a number of 1 to 4 digits", book.fact(fact, what), due[fact][what - 1]);
            }
        }
    }

    /** "the text's length where a LINE, MENTION, FACT or NAME ends too soon; a 10 that comes too soon likewise". */
    private static void endsTooSoon() {
        String facts = "Q {12@34=56}";
        for (int n = 3; n < facts.length(); n++) {
            refused(facts.substring(0, n), 1, n);
            refused(facts.substring(0, n) + "\n", 1, n);
            refused(facts.substring(0, n) + "\nA x", 1, n);
        }
        String mention = "! AB\nQ <AB>";
        for (int n = 8; n < mention.length(); n++) {
            // Cut in its name it would be another name, which none has.
            boolean cutInName = n == 9;
            refused(mention.substring(0, n), cutInName ? 4 : 1, cutInName ? 8 : n);
            refused(mention.substring(0, n) + "\n", cutInName ? 4 : 1, cutInName ? 8 : n);
        }
        for (String end : List.of("", "\n", "\nQ x")) {
            refused("!" + end, 1, 1);
            refused("! " + end, 1, 2);
            refused("! A\n! A " + end, 1, 8);
            refused("Q x\n " + end, 1, 5);
            refused("Q x\n  " + end, 1, 6);
        }
        refused("\n", 1, 0);
        refused("\nQ x", 1, 0);
        refused("Q x\n\nQ x", 1, 4);
    }

    /** A book with all facts that it may have, so that each fault can be had in one line, and one exhibit. */
    private static TestimonyBook fullOfFacts() {
        return Trial.bookOf("! A\n" + Trial.times("Q " + FIVE_FACTS + "\n", 30));
    }

    /** "FAULTS, the first along the text". */
    private static void firstAlongTheText() {
        String[] lines = {"Q }", "! ABCDEFG", "! A Z\n  x", "Q <BC>", "Q {1@1=1}"};
        int[] places = {2, 8, 6, 3, 2};
        for (int i = 0; i < lines.length; i++) {
            for (int j = 0; j < lines.length; j++) {
                String text = lines[i] + "\n" + lines[j];
                trial.refused(fullOfFacts(), text, i + 1, places[i]);
                trial.refused(fullOfFacts(), "A good\n" + text, i + 1, places[i] + 7);
            }
        }
        String[] bits = {"}", "<ABCDEFG>", "<BC>", "{"};
        int[] faults = {1, 2, 4, 5};
        int[] offsets = {0, 7, 1, 0};
        for (int i = 0; i < bits.length; i++) {
            for (int j = 0; j < bits.length; j++) {
                trial.refused(fullOfFacts(), "Q a" + bits[i] + "b" + bits[j], faults[i], 3 + offsets[i]);
                trial.righted(fullOfFacts(), 5, "a" + bits[i] + "b" + bits[j], faults[i], 1 + offsets[i]);
            }
        }
    }

    private static String exhibits(int n) {
        StringBuilder text = new StringBuilder();
        for (int i = 0; i < n; i++) {
            text.append("! E").append(i).append('\n');
        }
        return text.toString();
    }

    /** "(At one place the least.)" Each pair of faults that can be at one place. */
    private static void leastAtOnePlace() {
        refused("Q " + x(58) + "}", 1, 60);
        refused("Q " + x(58) + ">", 1, 60);
        refused("Q " + x(58) + "\u007f", 1, 60);
        refused("Q " + x(56) + "{}", 1, 59);
        refused("Q " + x(57) + "{}", 1, 60);
        refused("Q " + x(57) + "<>", 1, 60);
        refused("Q " + x(52) + "{1@1=1@", 1, 60);
        String full = Trial.times("Q x\n", 199) + "! A";
        trial.refused(Trial.bookOf(full), "B x", 1, 0);
        trial.refused(Trial.bookOf(full), "\n", 1, 0);
        trial.refused(Trial.bookOf(full), "  x", 3, 0);
        trial.refused(Trial.bookOf(Trial.times("Q x\n", 198)), "Q x\n! A\n  x", 3, 8);
        trial.refused(fullOfFacts(), "Q " + x(58) + "{", 2, 60);
        trial.refused(fullOfFacts(), "Q " + x(57) + "{", 5, 59);
        TestimonyBook mentions = Trial.bookOf("! A\n" + Trial.times("Q " + FIVE_MENTIONS + "\n", 20));
        trial.refused(mentions, "Q " + x(58) + "<", 2, 60);
        trial.refused(mentions, "Q " + x(57) + "<", 5, 59);
        TestimonyBook named = Trial.bookOf(exhibits(20));
        trial.refused(named, "! E0", 4, 2);
        trial.refused(named, "! e", 1, 2);
        trial.refused(named, "! ", 1, 2);
        trial.refused(named, "! X", 5, 2);
    }

    /** "2 one that can, but is too much": another byte there is fault 1. */
    private static void tooMuchOnlyWhereItCouldStand() {
        refused("Q {1234a@1=1}", 1, 7);
        refused("Q {1234}", 1, 7);
        refused("Q {1234", 1, 7);
        refused("! ABCDEFg", 1, 8);
        refused("! ABCDEF\nQ <ABCDEF", 1, 18);
        refused("! ABCDEF\nQ <ABCDEFg>", 1, 18);
        refused("Q {12345", 2, 7);
        refused("! ABCDEFGg", 2, 8);
        taken("Q " + x(51) + "{1@1=1}", 1);
        refused("Q " + x(52) + "{1@1=1}", 2, 60);
        refused("Q " + x(53) + "{1@1=1}", 2, 60);
        refused("Q " + x(54) + "{1@1=1}", 2, 60);
        refused("Q " + x(55) + "{1@1=1}", 2, 60);
        refused("Q " + x(56) + "{1@1=1}", 2, 60);
        refused("Q " + x(57) + "{1@1=1}", 2, 60);
        refused("Q " + x(53) + "{1@1=", 1, 60);
        refused("Q " + x(53) + "{1@1=\n", 1, 60);
        taken("! A\nQ " + x(55) + "<A>", 2);
        refused("! A\nQ " + x(56) + "<A>", 2, 64);
        refused("! A\nQ " + x(57) + "<A>", 2, 64);
        refused("! A\nQ " + x(56) + "<A", 1, 64);
    }

    /** "3 at a LINE's first byte: two blanks where nothing began in this SITTING, or behind an exhibit". */
    private static void nothingBegan() {
        refused("  x", 3, 0);
        refused("  ", 3, 0);
        refused("  }", 3, 0);
        refused("  " + x(70), 3, 0);
        refused(" x", 1, 1);
        refused(" ", 1, 1);
        refused(" \n", 1, 1);
        refused("! A\n  x", 3, 4);
        refused("Q x\n  y\n! A\n  x", 3, 12);
        refused("Q x\n! A\n! A B\n  x", 3, 14);
        TestimonyBook book = Trial.bookOf("Q x\n  y");
        trial.refused(book, "  z", 3, 0);
        trial.taken(book, "A x\n  z", 2);
        taken("! A\nN x\n  y\n  z\n! B\nQ x\n  y", 7);
    }

    /** "4 ...: none has it (of a MENTION, the first of two: with a blank behind it)". */
    private static void noneHasIt() {
        refused("Q <A>", 4, 3);
        refused("Q <A>\n! A", 4, 3);
        refused("! A\n! A B\nQ x<A>", 4, 14);
        refused("! A\n! A B\n! A C", 4, 12);
        refused("! A B", 4, 2);
        refused("! A ", 4, 2);
        refused("! A \n", 4, 2);
        refused("! A b", 4, 2);
        refused("! A BCDEFGH", 4, 2);
        refused("! ABCDEFG H", 2, 8);
        refused("! AB\nQ <A>", 4, 8);
        refused("! AB\nQ <ABC>", 4, 8);
        refused("! AB\nQ <BA>", 4, 8);
        refused("! 0\nQ <00>", 4, 7);
        TestimonyBook book = Trial.bookOf("! A\n! A B");
        trial.refused(book, "Q <A>", 4, 3);
        trial.taken(book, "Q <B>", 1);
        trial.taken(book, "! B A\nQ <A>", 2);
    }

    /** "4 ...: or one has it (a new one)". */
    private static void oneHasIt() {
        refused("! A\n! A", 4, 6);
        refused("! A\n! A\n", 4, 6);
        refused("! A\n! B\n! A B", 4, 12);
        refused("! A\n! A A", 4, 8);
        refused("! A\n! A B\n! B", 4, 12);
        taken("! A\n! A B\n! A", 3);
        taken("! A\n! A B\n! B A", 3);
        TestimonyBook book = Trial.bookOf("! A");
        trial.refused(book, "! A", 4, 2);
        trial.refused(book, "! B\n! B A", 4, 8);
        trial.taken(book, "! B\n! B C\n! B", 3);
    }

    /** "5 at a LINE's first byte: there would be more than 200 LINES in all". */
    private static void mostLines() {
        String lines = Trial.times("Q x\n", 199);
        for (String head : List.of("Q x", "A x", "Y x", "N x", "! A")) {
            TestimonyBook book = Trial.bookOf(lines);
            trial.refused(book, head + "\n" + head.charAt(0), 5, 4);
            trial.refused(book, "Q y\n  z", 5, 4);
            trial.due("lines behind those", book.count(0), 199);
            trial.taken(book, head, 1);
            trial.due("lines, the most", book.count(0), 200);
            trial.refused(book, head, 5, 0);
            trial.due("lines behind the 201st", book.count(0), 200);
            trial.due("the last of them", book.about(199, 2), 1);
        }
        taken(lines + "Q x\n", 200);
        refused(lines + "Q x\nQ", 5, 800);
        refused(lines + "Q x\n  x", 5, 800);
        TestimonyBook taken = new TestimonyBook();
        trial.refused(taken, lines + "}", 1, 796);
        trial.taken(taken, lines + "Q x", 200);
    }

    /** "at a { the 151st FACT in all". */
    private static void mostFacts() {
        String line = "A " + FIVE_FACTS + "\n";
        TestimonyBook book = new TestimonyBook();
        trial.refused(book, Trial.times(line, 30) + "A {1@1=1}", 5, 1142);
        trial.refused(book, Trial.times(line, 30) + "A {", 5, 1142);
        trial.due("facts behind those", book.count(2), 0);
        trial.taken(book, Trial.times(line, 29) + "A {1@1=1}{1@1=2}{1@1=3}{1@1=4}", 30);
        trial.refused(book, "Q {1@1=1}{1@1=2}", 5, 9);
        trial.righted(book, 3, "a{1@1=1}{1@1=2}", 5, 8);
        trial.due("facts behind those", book.count(2), 149);
        trial.righted(book, 3, "{7@8=9}", 0, -1);
        trial.due("facts, the most", book.count(2), 150);
        trial.due("the last of them", book.fact(149, 3), 9);
        trial.refused(book, "Q {1@1=1}", 5, 2);
        trial.righted(book, 3, "{", 5, 0);
        trial.taken(book, "Q none", 1);
        trial.righted(book, 3, "none", 0, -1);
        trial.refused(book, "Q {1@1=1}", 5, 2);
        trial.lacks("the 151st", () -> book.fact(150, 0));
    }

    /** "at a MENTION's < the 101st". */
    private static void mostMentions() {
        String line = "A " + FIVE_MENTIONS + "\n";
        TestimonyBook book = new TestimonyBook();
        trial.refused(book, "! A\n" + Trial.times(line, 20) + "A <A>", 5, 366);
        trial.refused(book, "! A\n" + Trial.times(line, 20) + "A <", 5, 366);
        trial.due("mentions behind those", book.count(3), 0);
        trial.taken(book, "! A\n" + Trial.times(line, 19) + "A <A><A><A><A>", 21);
        trial.refused(book, "Q <A><A>", 5, 5);
        trial.righted(book, 3, "a<A><A>", 5, 4);
        trial.due("mentions behind those", book.count(3), 99);
        trial.righted(book, 3, "<A>", 0, -1);
        trial.due("mentions, the most", book.count(3), 100);
        trial.due("the last of them", book.mention(99, 0), 3);
        trial.refused(book, "Q <A>", 5, 2);
        trial.refused(book, "Q <B>", 5, 2);
        trial.righted(book, 3, "<", 5, 0);
        trial.taken(book, "Q none", 1);
        trial.lacks("the 101st", () -> book.mention(100, 0));
    }

    /** "at a new EXHIBIT's NAME the 21st". */
    private static void mostExhibits() {
        TestimonyBook book = new TestimonyBook();
        trial.refused(book, exhibits(21), 5, exhibits(20).length() + 2);
        trial.due("exhibits behind that", book.count(4), 0);
        trial.taken(book, exhibits(19), 19);
        trial.refused(book, "! X\n! Y", 5, 6);
        trial.due("exhibits behind that", book.count(4), 19);
        trial.taken(book, "! X", 1);
        trial.due("exhibits, the most", book.count(4), 20);
        trial.refused(book, "! Y", 5, 2);
        trial.refused(book, "! ABCDEF", 5, 2);
        trial.refused(book, "! ABCDEFG", 2, 8);
        trial.taken(book, "! X Y\n! Y X\nQ <X>", 3);
        trial.due("a mention of the last", book.mention(0, 1), 19);
        trial.lacks("the 21st", () -> book.name(20, 0));
        trial.taken(book, Trial.times("! X Y\n! Y X\n", 88) + "! X Z", 177);
        trial.due("named as often as there are lines", book.name(19, 199), 1);
        trial.due("its last name", Trial.out(book), "Z");
        trial.due("its name ahead of that", book.name(19, 198), 1);
        trial.due("its name ahead of that", Trial.out(book), "X");
    }

    /** "FAULTS likewise, places along the new REST; the LINE may have 60 bytes in all". */
    private static void rightsLength() {
        TestimonyBook book = Trial.bookOf("Q x\n  y\nA z\nY z\nN z");
        for (int line = 0; line < 5; line++) {
            trial.righted(book, line, "a", 0, -1);
            trial.righted(book, line, x(58), 0, -1);
            trial.due("a whole line", book.read(line, line, 0, 0), 60);
            trial.righted(book, line, x(59), 2, 58);
            trial.righted(book, line, x(58) + "}", 1, 58);
            trial.righted(book, line, x(58) + "\n", 1, 58);
            trial.righted(book, line, x(51) + "{1@1=1}", 0, -1);
            trial.due("the place in the line", book.fact(line, 4), 53);
            trial.righted(book, line, x(52) + "{1@1=1}", 2, 58);
        }
        trial.righted(book, 0, "\n", 1, 0);
        trial.righted(book, 0, "a\n", 1, 1);
        trial.righted(book, 0, "a\nQ b", 1, 1);
        trial.righted(book, 0, "a{1@1=1", 1, 7);
        trial.righted(book, 0, "  ", 0, -1);
        trial.righted(book, 0, "Q ", 0, -1);
        trial.righted(book, 0, "! A", 0, -1);
    }

    /** "NAMES there are as they are at that LINE". */
    private static void rightsNames() {
        TestimonyBook book = Trial.bookOf("Q x\n! A\nQ x\n! A B\nQ x\n! A\nQ x");
        Trial.sit(book, "A x\n! B C\nA x");
        String[] names = {"A", "B", "C"};
        int[] lines = {0, 2, 4, 6, 7, 9};
        int[][] holders = {{-1, -1, -1}, {0, -1, -1}, {-1, 0, -1}, {1, 0, -1}, {1, 0, -1}, {1, -1, 0}};
        int mentions = 0;
        for (int i = 0; i < lines.length; i++) {
            for (int j = 0; j < names.length; j++) {
                boolean had = holders[i][j] >= 0;
                trial.righted(book, lines[i], "a<" + names[j] + ">", had ? 0 : 4, had ? -1 : 2);
                if (had) {
                    trial.due("the line of the mention", book.mention(mentions, 0), lines[i]);
                    trial.due("the exhibit at that line", book.mention(mentions, 1), holders[i][j]);
                    mentions++;
                }
            }
        }
        trial.due("mentions", book.count(3), mentions);
    }

    /** "its MENTIONS and FACTS are those of the new one then, which count on". */
    private static void rightsCountOn() {
        TestimonyBook book = Trial.bookOf("! A\nA {1@1=1}<A>\nA {2@2=2}");
        book.days(1);
        trial.righted(book, 1, "{1@1=1}<A>", 0, -1);
        trial.due("facts", book.count(2), 3);
        trial.due("mentions", book.count(3), 2);
        trial.due("the old one", book.stands(0, 1), 0);
        trial.due("the new one", book.stands(2, 1), 1);
        trial.due("the old one's line", book.fact(0, 0), 1);
        trial.due("the new one's line", book.fact(2, 0), 1);
        trial.due("another line's", book.stands(1, 1), 1);
        trial.righted(book, 1, "{1@1=1}}", 1, 7);
        trial.due("facts behind a fault", book.count(2), 3);
        trial.due("the new one behind a fault", book.stands(2, 1), 1);
        Trial.sit(book, "A {3@3=3}<A>");
        trial.due("a sitting's counts on", book.fact(3, 0), 3);
        trial.due("a sitting's counts on", book.mention(2, 0), 3);
    }
}
