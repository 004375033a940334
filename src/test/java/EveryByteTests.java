import java.util.ArrayList;
import java.util.List;

/** Every byte at every place of some texts, and every beginning of them, held against PlainBook. */
public final class EveryByteTests {
    private static final Trial trial = new Trial();
    private static final String[] SHORT = {"Q {1@2=3}", "! A\n! A B", "! A\nA <A>", "Q x\n  y", "! A\n  y", "N n\nY y"};
    private static final String[] LONG = {
        "Q {1234@5678=9012}<E1>", "! ABCDEF\n! ABCDEF 012345\nQ <012345>{1@1=1}\n", "! E1\nQ x\n! E1 E2\n  y",
        "Q " + "x".repeat(50) + "{1@1=1}y", "A y\n  " + "x".repeat(46) + "{12@34=56}z",
        "! E1\nY " + "x".repeat(54) + "<E1>",
        "Q a{1@1=1}<E1>\n! E2\nN <E2>\n\n", "A <E1><E1>{12345@1=1}", "! E2\n! E1\n! E2 E1", "Q <E1>x<E9>{"};
    /** The neighbours of all bytes that mean something. */
    private static final String EDGES =
            "\u0000\t\n\u000b\u001f !\"/0159:;<=>?@AEMNOPQRXYZ[`az{|}~\u007f\u0080\u00d1\u00ff";
    private static final String FEW = "\n <{}A\u0080";
    private static final String[] BEFORE = {"", "! E1\nQ begun"};
    private static final String[] ALL_BUT_FULL = {
        "! E1\n" + ("A " + "{1@1=1}".repeat(5) + "\n").repeat(29) + "A " + "{1@1=1}".repeat(4),
        "! E1\n" + ("A " + "<E1>".repeat(5) + "\n").repeat(19) + "A " + "<E1>".repeat(4),
        "! E1\n" + "Q x\n".repeat(197), twenty()};

    private static String twenty() {
        StringBuilder text = new StringBuilder();
        for (int i = 1; i < 20; i++) {
            text.append("! E").append(i).append('\n');
        }
        return text.toString();
    }

    public static void main(String[] args) {
        for (String text : SHORT) {
            for (String one : changed(text, allBytes())) {
                compare("", one);
            }
        }
        for (String before : BEFORE) {
            for (String text : LONG) {
                for (String one : changed(text, EDGES)) {
                    compare(before, one);
                }
            }
        }
        for (String before : ALL_BUT_FULL) {
            for (String text : LONG) {
                for (String one : changed(text, FEW)) {
                    compare(before, one);
                }
            }
        }
        trial.finish();
    }

    private static String allBytes() {
        StringBuilder all = new StringBuilder();
        for (int b = 0; b < 256; b++) {
            all.append((char) b);
        }
        return all.toString();
    }

    /** The text with each byte in the place of another, or between two; with one left out; cut off at each place. */
    private static List<String> changed(String text, String bytes) {
        List<String> all = new ArrayList<>();
        for (int at = 0; at <= text.length(); at++) {
            String head = text.substring(0, at);
            if (at > 0) {
                all.add(head);
            }
            for (int i = 0; i < bytes.length(); i++) {
                all.add(head + bytes.charAt(i) + text.substring(at));
                if (at < text.length()) {
                    all.add(head + bytes.charAt(i) + text.substring(at + 1));
                }
            }
            if (at < text.length() && text.length() > 1) {
                all.add(head + text.substring(at + 1));
            }
        }
        return all;
    }

    private static void compare(String before, String text) {
        TestimonyBook book = new TestimonyBook();
        PlainBook plain = new PlainBook();
        if (!before.isEmpty()) {
            feed(book, plain, before);
            trial.due("the lines ahead", book.sitting(before.length()), plain.sitting(before.length()));
        }
        String told = "'" + text.replace('\n', '/') + "' behind '" + before.replace('\n', '/') + "' ";
        feed(book, plain, text);
        trial.due(told + "sitting", book.sitting(text.length()), plain.sitting(text.length()));
        trial.due(told + "fault", book.fault(), plain.fault());
        for (int what = 0; what <= 4; what++) {
            trial.due(told + "count " + what, book.count(what), plain.count(what));
        }
        int line = book.count(0) - 1;
        if (line >= 0 && book.about(line, 3) != 5) {
            feed(book, plain, text);
            trial.due(told + "right", book.right(line, text.length()), plain.right(line, text.length()));
            trial.due(told + "its fault", book.fault(), plain.fault());
        }
        if (line >= 0) {
            trial.due(told + "read", book.read(0, line, 0, 0), plain.read(0, line, 0, 0));
        }
    }

    private static void feed(TestimonyBook book, PlainBook plain, String text) {
        for (int[] f : Trial.feeds(text)) {
            book.feed(f[0], f[1], f[2], f[3], f[4]);
            plain.feed(f);
        }
    }
}
