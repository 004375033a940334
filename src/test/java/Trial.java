import java.nio.charset.StandardCharsets;
import java.util.Arrays;
import java.util.NoSuchElementException;
import java.util.function.Consumer;
import java.util.function.Supplier;

/** What the tests share: texts for the tape, calls that may throw, and a tally of the answers. */
final class Trial {
    interface Call {
        long answer();
    }

    /** Answers of calls that threw; no call answers so. */
    static final long LACKS = Long.MIN_VALUE;
    static final long WRONG = Long.MIN_VALUE + 1;
    static final long OTHER = Long.MIN_VALUE + 2;

    private int passed = 0;
    private int failed = 0;

    void due(String what, long got, long want) {
        if (got == want) {
            passed++;
        } else {
            failed++;
            System.out.println(what + " answered " + shown(got) + ", due is " + shown(want));
        }
    }

    void due(String what, String got, String want) {
        if (got.equals(want)) {
            passed++;
        } else {
            failed++;
            System.out.println(what + " answered '" + got + "', due is '" + want + "'");
        }
    }

    void lacks(String what, Call call) {
        due(what, outcome(call), LACKS);
    }

    void wrong(String what, Call call) {
        due(what, outcome(call), WRONG);
    }

    /** A text in a book: as many lines, and no fault. */
    void taken(TestimonyBook book, String text, int lines) {
        String told = "sitting '" + text.replace('\n', '/') + "'";
        due(told, sit(book, text), lines);
        due(told + " place", book.fault(), -1);
    }

    /** A text in a book: its fault and the fault's place; nothing changes. */
    void refused(TestimonyBook book, String text, int fault, int place) {
        String told = "sitting '" + text.replace('\n', '/') + "'";
        String before = counts(book);
        due(told, sit(book, text), -1 - fault);
        due(told + " place", book.fault(), place);
        due(told + " changes", counts(book), before);
    }

    /** A new rest of a line: its fault (0 without) and the fault's place. */
    void righted(TestimonyBook book, int line, String rest, int fault, int place) {
        String told = "right of " + line + " by '" + rest.replace('\n', '/') + "'";
        String before = counts(book);
        int times = book.about(line, 6);
        due(told, putRight(book, line, rest), fault);
        due(told + " place", book.fault(), place);
        due(told + " times", book.about(line, 6), fault == 0 ? times + 1 : times);
        if (fault != 0) {
            due(told + " changes", counts(book), before);
        }
    }

    /** A call that must change nothing: a book that met it is as its twin, which did not. */
    void changesNothing(String what, Supplier<TestimonyBook> maker, Consumer<TestimonyBook> call) {
        TestimonyBook book = maker.get();
        call.accept(book);
        due("the book behind " + what, state(book, true), state(maker.get(), true));
    }

    /** Likewise of a text with a fault, which empties the tape and has a place. */
    void changesNothingElse(String what, Supplier<TestimonyBook> maker, Consumer<TestimonyBook> call) {
        TestimonyBook book = maker.get();
        call.accept(book);
        due("the book behind " + what, state(book, false), state(maker.get(), false));
    }

    void finish() {
        System.out.println(passed + " passed, " + failed + " failed");
        if (failed != 0) {
            System.exit(1);
        }
    }

    static long outcome(Call call) {
        try {
            return call.answer();
        } catch (NoSuchElementException e) {
            return e.getClass() == NoSuchElementException.class ? LACKS : OTHER;
        } catch (IllegalArgumentException e) {
            return e.getClass() == IllegalArgumentException.class ? WRONG : OTHER;
        } catch (RuntimeException e) {
            return OTHER;
        }
    }

    private static String shown(long answer) {
        if (answer == LACKS) {
            return "NoSuchElementException";
        }
        if (answer == WRONG) {
            return "IllegalArgumentException";
        }
        return answer == OTHER ? "another exception" : Long.toString(answer);
    }

    /** The five numbers of each feed that brings a text, with blanks behind it. */
    static int[][] feeds(String text) {
        byte[] bytes = text.getBytes(StandardCharsets.ISO_8859_1);
        int[][] feeds = new int[(bytes.length + 19) / 20][5];
        byte[] padded = Arrays.copyOf(bytes, feeds.length * 20);
        Arrays.fill(padded, bytes.length, padded.length, (byte) 32);
        for (int i = 0; i < padded.length; i++) {
            feeds[i / 20][i % 20 / 4] = feeds[i / 20][i % 20 / 4] << 8 | padded[i] & 255;
        }
        return feeds;
    }

    static void feed(TestimonyBook book, String text) {
        for (int[] f : feeds(text)) {
            book.feed(f[0], f[1], f[2], f[3], f[4]);
        }
    }

    static int sit(TestimonyBook book, String text) {
        feed(book, text);
        return book.sitting(text.length());
    }

    static int putRight(TestimonyBook book, int line, String rest) {
        feed(book, rest);
        return book.right(line, rest.length());
    }

    static TestimonyBook bookOf(String text) {
        TestimonyBook book = new TestimonyBook();
        sit(book, text);
        return book;
    }

    static String out(TestimonyBook book) {
        StringBuilder out = new StringBuilder();
        for (int i = 0; i < book.count(9); i++) {
            out.append((char) book.told(i));
        }
        return out.toString();
    }

    /** How many there are of each thing, but for the tape's bytes. */
    private static String counts(TestimonyBook book) {
        StringBuilder told = new StringBuilder();
        for (int what = 0; what <= 9; what++) {
            told.append(what == 8 ? 0 : book.count(what)).append(' ');
        }
        return told.toString();
    }

    /** All that can be asked of a small book, as one text; OUT is another one then. */
    static String state(TestimonyBook book, boolean withTape) {
        StringBuilder told = new StringBuilder(out(book)).append('\n').append(counts(book));
        if (withTape) {
            told.append(book.count(8)).append(' ').append(book.fault());
        }
        told.append('\n');
        for (int line = 0; line < book.count(0); line++) {
            for (int what = 0; what <= 6; what++) {
                told.append(book.about(line, what)).append(' ');
            }
            for (int exhibit = 0; exhibit < book.count(4); exhibit++) {
                book.name(exhibit, line);
                told.append(out(book)).append(' ');
            }
        }
        for (int fact = 0; fact < book.count(2); fact++) {
            for (int what = 0; what <= 4; what++) {
                told.append(book.fact(fact, what)).append(' ');
            }
        }
        for (int i = 0; i < book.count(3); i++) {
            told.append(book.mention(i, 0)).append(' ').append(book.mention(i, 1)).append(' ');
        }
        for (int k = 0; k <= book.count(5) + 1; k++) {
            told.append('\n').append(stateOn(book, k));
        }
        return told.toString();
    }

    private static String stateOn(TestimonyBook book, int k) {
        StringBuilder told = new StringBuilder();
        for (int line = 0; line < book.count(0); line++) {
            told.append(book.status(line, k, 0)).append(book.status(line, k, 1)).append(' ');
        }
        for (int fact = 0; fact < book.count(2); fact++) {
            told.append(book.stands(fact, k)).append(' ');
        }
        for (int i = 0; i < book.quarrels(k); i++) {
            told.append(book.quarrel(i, k, 0)).append('-').append(book.quarrel(i, k, 1)).append(' ');
        }
        for (int digest = 0; digest < book.count(7); digest++) {
            told.append(book.shown(digest, k)).append(' ');
        }
        if (book.count(0) > 0) {
            book.read(0, book.count(0) - 1, 3, k);
            told.append(out(book));
        }
        return told.toString();
    }

    static String times(String text, int n) {
        return text.repeat(n);
    }
}
