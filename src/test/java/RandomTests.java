import java.util.ArrayList;
import java.util.List;
import java.util.Random;

/** Long runs of calls, by numbers that are the same each time, held against PlainBook. */
public final class RandomTests {
    private static final int RUNS = Integer.getInteger("runs", 1500);
    private static final int CALLS = 500;
    private static final int[] FAR = {Integer.MIN_VALUE, -2, -1, 9999, 10000, 100000, Integer.MAX_VALUE - 1,
        Integer.MAX_VALUE};
    private static final String[] NAMES = {"A", "B", "AB", "E1", "E2", "F2", "7", "ZZZZZZ", "A0B1C2", "ABCDEFG"};
    private static final String WILD = "<>{}@=!QAYN \n\n  AB19az\u0000\u007f\u0080\u00ff";

    private final Random random;
    private final TestimonyBook book = new TestimonyBook();
    private final PlainBook plain = new PlainBook();
    private final StringBuilder trail = new StringBuilder();
    /** How much of the next text is wrong. */
    private int wildness;
    private final boolean dense;
    private List<String> had = new ArrayList<>();
    private int calls = 0;
    private boolean wrong = false;
    private final int[] met;

    private RandomTests(long seed, int[] met) {
        random = new Random(seed);
        dense = random.nextInt(3) == 0;
        this.met = met;
    }

    public static void main(String[] args) {
        int failed = 0;
        int[] met = new int[16];
        for (int run = 0; run < RUNS && failed < 5; run++) {
            RandomTests one = new RandomTests(run, met);
            if (!one.agree()) {
                failed++;
                System.out.println("run " + run + ":\n" + one.trail);
            }
        }
        System.out.println("sittings taken " + met[0] + ", refused " + met[9] + ", by fault 1 to 5: " + met[1] + " "
                + met[2] + " " + met[3] + " " + met[4] + " " + met[5]);
        for (int i = 0; i <= 5; i++) {
            failed += RUNS >= 1500 && met[i] == 0 ? 1 : 0;
        }
        System.out.println(RUNS - failed + " passed, " + failed + " failed");
        if (failed != 0) {
            System.exit(1);
        }
    }

    private boolean agree() {
        int total = 50 + random.nextInt(CALLS - 50);
        while (calls < total && !wrong) {
            any();
        }
        for (int what = 0; what < 10 && !wrong; what++) {
            int w = what;
            same("count " + w, () -> book.count(w), () -> plain.count(w));
        }
        return !wrong;
    }

    private long same(String call, Trial.Call mine, Trial.Call due) {
        // Feeds and looks at OUT are not counted, so that a run comes far enough to meet the limits.
        calls++;
        long got = Trial.outcome(mine);
        long want = Trial.outcome(due);
        trail.append(call).append(" -> ").append(got).append('\n');
        if (got != want) {
            wrong = true;
            trail.append("  due is ").append(want).append('\n');
        }
        return got;
    }

    /** Mostly below a bound, now and then at or far beyond it. */
    private int pick(int bound) {
        int luck = random.nextInt(40);
        if (luck == 0) {
            return FAR[random.nextInt(FAR.length)];
        }
        return luck == 1 || bound < 1 ? bound : random.nextInt(bound);
    }

    private int day() {
        return pick((int) plain.count(5) + 2);
    }

    private int ofCount(int what) {
        return pick((int) plain.count(what));
    }

    private void feed(String text) {
        for (int[] f : Trial.feeds(text)) {
            same("feed", () -> book.feed(f[0], f[1], f[2], f[3], f[4]), () -> plain.feed(f));
            calls--;
        }
    }

    /** Mostly a name that is had where it stands. */
    private String name() {
        if (!had.isEmpty() && random.nextInt(30) >= wildness) {
            return had.get(random.nextInt(had.size()));
        }
        return newName();
    }

    private String newName() {
        if (random.nextInt(3) != 0) {
            return "X" + random.nextInt(90);
        }
        return NAMES[random.nextInt(NAMES.length - (random.nextInt(10) == 0 ? 0 : 1))];
    }

    private String number() {
        int luck = random.nextInt(200);
        return luck < wildness ? "12345" : luck == 9 ? "0002" : luck >= 200 - wildness ? ""
                : Integer.toString(random.nextInt(3));
    }

    private String rest() {
        StringBuilder rest = new StringBuilder();
        int pieces = dense ? 4 + random.nextInt(3) : 1 + random.nextInt(4);
        if (random.nextInt(60) < wildness) {
            rest.append("y".repeat(40 + random.nextInt(24)));
        }
        for (int i = 0; i < pieces; i++) {
            int luck = random.nextInt(8);
            if (luck < 4) {
                rest.append('{').append(number()).append('@').append(number()).append('=').append(number()).append('}');
            } else if (luck < (dense ? 7 : 5) && (!had.isEmpty() || random.nextInt(20) < wildness)) {
                rest.append('<').append(name()).append('>');
            } else {
                rest.append("word ", 0, 1 + random.nextInt(4));
            }
        }
        return spoiled(rest);
    }

    private String spoiled(StringBuilder text) {
        if (random.nextInt(40) < wildness && text.length() > 0) {
            int at = random.nextInt(text.length());
            char sign = WILD.charAt(random.nextInt(WILD.length()));
            switch (random.nextInt(4)) {
                case 0 -> text.setCharAt(at, sign);
                case 1 -> text.insert(at, sign);
                case 2 -> text.deleteCharAt(at);
                default -> text.setLength(at);
            }
        }
        return text.length() == 0 ? "x" : text.toString();
    }

    /** The rest of an exhibit's line; had goes along. */
    private String naming(int luck) {
        String first = luck == 0 && random.nextInt(30) >= wildness ? newName() : name();
        String second = random.nextInt(30) < wildness ? name() : newName();
        boolean renames = luck != 0 && !had.isEmpty();
        if (renames) {
            had.remove(first);
        }
        had.add(renames ? second : first);
        return renames ? first + " " + second : first;
    }

    private void newText() {
        had = plain.namesHad();
        wildness = Math.max(0, random.nextInt(8) - 4);
    }

    private String lines() {
        newText();
        StringBuilder text = new StringBuilder();
        int many = 1 + random.nextInt(random.nextInt(5) == 0 ? 60 : 9);
        boolean short1 = random.nextInt(3) == 0;
        boolean open = false;
        for (int i = 0; i < many; i++) {
            int luck = random.nextInt(12);
            if (luck < 2) {
                text.append("! ").append(naming(luck)).append('\n');
                open = false;
            } else if (luck < 4 && (open || random.nextInt(80) < wildness)) {
                text.append("  ").append(rest()).append('\n');
            } else {
                text.append("QQAAYN".charAt(random.nextInt(6))).append(' ').append(short1 ? "x" : rest()).append('\n');
                open = true;
            }
        }
        if (random.nextInt(3) == 0) {
            text.setLength(text.length() - 1);
        }
        return spoiled(text);
    }

    private int length(String text) {
        int luck = random.nextInt(25);
        if (luck == 0) {
            return pick(text.length() + 30);
        }
        return luck == 1 ? 1 + random.nextInt(text.length()) : text.length();
    }

    private void sitting() {
        String text = lines();
        if (text.length() > 1600) {
            text = text.substring(0, 1600);
        }
        feed(text);
        int n = length(text);
        trail.append(text).append('\n');
        long got = same("sitting " + n, () -> book.sitting(n), () -> plain.sitting(n));
        if (got < 0 && got >= -9) {
            met[(int) (got == -9 ? 9 : -1 - got)]++;
        } else if (got > 0) {
            met[0]++;
        }
        same("fault", book::fault, plain::fault);
    }

    private void right() {
        int line = ofCount(0);
        newText();
        String text = rest();
        feed(text);
        int n = length(text);
        trail.append(text).append('\n');
        same("right " + line + " " + n, () -> book.right(line, n), () -> plain.right(line, n));
        same("fault", book::fault, plain::fault);
    }

    private void any() {
        int luck = random.nextInt(30);
        if (luck < 3 && (plain.count(1) < 8 || random.nextInt(10) == 0)) {
            sitting();
        } else if (luck < 7) {
            right();
        } else if (luck < 9) {
            int n = random.nextInt(8) == 0 ? pick(4) : random.nextInt(3);
            same("days " + n, () -> book.days(n), () -> plain.days(n));
        } else if (luck < 14) {
            orders(luck);
        } else if (luck < 20) {
            numbers(luck);
        } else if (luck < 26) {
            weights(luck);
        } else {
            outs(luck);
        }
    }

    private void orders(int luck) {
        int a = ofCount(0);
        int b = random.nextInt(3) == 0 ? ofCount(0) : Math.min(a, Integer.MAX_VALUE - 9) + random.nextInt(3);
        int level = pick(4);
        int order = ofCount(6);
        int k = day();
        int what = pick(2);
        if (luck < 11) {
            same("order " + a + " " + b + " " + level, () -> book.order(a, b, level), () -> plain.order(a, b, level));
        } else if (luck == 11) {
            same("lift " + order, () -> book.lift(order) ? 1 : 0, () -> plain.lift(order));
        } else {
            same("status " + a + " " + k + " " + what, () -> book.status(a, k, what), () -> plain.status(a, k, what));
        }
    }

    private void numbers(int luck) {
        int line = ofCount(0);
        int fact = ofCount(2);
        int i = ofCount(3);
        int page = pick(30);
        int place = pick(11);
        int what = pick(7);
        int less = pick(5);
        int two = pick(2);
        switch (luck) {
            case 14, 15 -> same("about " + line + " " + what, () -> book.about(line, what),
                    () -> plain.about(line, what));
            case 16 -> same("cited " + page + " " + place, () -> book.cited(page, place),
                    () -> plain.cited(page, place));
            case 17 -> same("fact " + fact + " " + less, () -> book.fact(fact, less), () -> plain.fact(fact, less));
            case 18 -> same("mention " + i + " " + two, () -> book.mention(i, two), () -> plain.mention(i, two));
            default -> same("count " + (page - 9), () -> book.count(page - 9), () -> plain.count(page - 9));
        }
    }

    private void weights(int luck) {
        int fact = ofCount(2);
        int k = day();
        int i = pick((int) plain.quarrels(k));
        int what = pick(2);
        int line = ofCount(7);
        int s = pick(3);
        int d = pick(3);
        int v = pick(3);
        switch (luck) {
            case 20 -> same("stands " + fact + " " + k, () -> book.stands(fact, k), () -> plain.stands(fact, k));
            case 21 -> same("quarrels " + k, () -> book.quarrels(k), () -> plain.quarrels(k));
            case 22 -> same("quarrel " + i + " " + k + " " + what, () -> book.quarrel(i, k, what),
                    () -> plain.quarrel(i, k, what));
            case 23 -> same("digest " + s + " " + d + " " + v, () -> book.digest(s, d, v), () -> plain.digest(s, d, v));
            case 24 -> same("cite " + line + " " + fact, () -> book.cite(line, fact), () -> plain.cite(line, fact));
            default -> same("shown " + line + " " + k, () -> book.shown(line, k), () -> plain.shown(line, k));
        }
    }

    private void outs(int luck) {
        int a = ofCount(0);
        int b = random.nextInt(2) == 0 ? ofCount(0) : a;
        int level = pick(4);
        int k = day();
        int exhibit = ofCount(4);
        if (luck < 28) {
            same("read " + a + " " + b + " " + level + " " + k, () -> book.read(a, b, level, k),
                    () -> plain.read(a, b, level, k));
        } else {
            same("name " + exhibit + " " + a, () -> book.name(exhibit, a), () -> plain.name(exhibit, a));
        }
        int kept = (int) plain.count(9);
        for (int i = -1; i <= kept && !wrong; i++) {
            int at = i;
            same("told " + at, () -> book.told(at), () -> plain.told(at));
            calls--;
        }
    }
}
