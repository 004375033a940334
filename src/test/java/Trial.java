import java.nio.charset.StandardCharsets;
import java.util.Arrays;
import java.util.NoSuchElementException;

/** What the tests share: texts for the tape, calls that may throw, and a tally of the answers. */
final class Trial {
    interface Call {
        long answer();
    }

    /** Answers of calls that threw; no call answers so. */
    static final long LACKS = Long.MIN_VALUE;
    static final long WRONG = Long.MIN_VALUE + 1;
    static final long OTHER = Long.MIN_VALUE + 2;

    private int passed = 0;
    private int failed = 0;

    void due(String what, long got, long want) {
        if (got == want) {
            passed++;
        } else {
            failed++;
            System.out.println(what + " answered " + shown(got) + ", due is " + shown(want));
        }
    }

    void due(String what, String got, String want) {
        if (got.equals(want)) {
            passed++;
        } else {
            failed++;
            System.out.println(what + " answered '" + got + "', due is '" + want + "'");
        }
    }

    void lacks(String what, Call call) {
        due(what, outcome(call), LACKS);
    }

    void wrong(String what, Call call) {
        due(what, outcome(call), WRONG);
    }

    void finish() {
        System.out.println(passed + " passed, " + failed + " failed");
        if (failed != 0) {
            System.exit(1);
        }
    }

    static long outcome(Call call) {
        try {
            return call.answer();
        } catch (NoSuchElementException e) {
            return e.getClass() == NoSuchElementException.class ? LACKS : OTHER;
        } catch (IllegalArgumentException e) {
            return e.getClass() == IllegalArgumentException.class ? WRONG : OTHER;
        } catch (RuntimeException e) {
            return OTHER;
        }
    }

    private static String shown(long answer) {
        if (answer == LACKS) {
            return "NoSuchElementException";
        }
        if (answer == WRONG) {
            return "IllegalArgumentException";
        }
        return answer == OTHER ? "another exception" : Long.toString(answer);
    }

    /** The five numbers of each feed that brings a text, with blanks behind it. */
    static int[][] feeds(String text) {
        byte[] bytes = text.getBytes(StandardCharsets.ISO_8859_1);
        int[][] feeds = new int[(bytes.length + 19) / 20][5];
        byte[] padded = Arrays.copyOf(bytes, feeds.length * 20);
        Arrays.fill(padded, bytes.length, padded.length, (byte) 32);
        for (int i = 0; i < padded.length; i++) {
            feeds[i / 20][i % 20 / 4] = feeds[i / 20][i % 20 / 4] << 8 | padded[i] & 255;
        }
        return feeds;
    }

    static void feed(TestimonyBook book, String text) {
        for (int[] f : feeds(text)) {
            book.feed(f[0], f[1], f[2], f[3], f[4]);
        }
    }

    static int sit(TestimonyBook book, String text) {
        feed(book, text);
        return book.sitting(text.length());
    }

    static int putRight(TestimonyBook book, int line, String rest) {
        feed(book, rest);
        return book.right(line, rest.length());
    }

    static TestimonyBook bookOf(String text) {
        TestimonyBook book = new TestimonyBook();
        sit(book, text);
        return book;
    }

    static String out(TestimonyBook book) {
        StringBuilder out = new StringBuilder();
        for (int i = 0; i < book.count(9); i++) {
            out.append((char) book.told(i));
        }
        return out.toString();
    }

    static String times(String text, int n) {
        return text.repeat(n);
    }
}
