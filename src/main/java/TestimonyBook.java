import java.util.Arrays;
import java.util.NoSuchElementException;

/** A book of sworn testimony; ../shared/DOC.md says what each call promises. */
public final class TestimonyBook {
    public static final int NONE = -1;

    private static final int REFUSED = -9;

    private static final int QUESTION = 0;
    private static final int ANSWER = 1;
    private static final int YES = 2;
    private static final int NO = 3;
    private static final int GOES_ON = 4;
    private static final int EXHIBIT = 5;

    private static final int CANNOT_STAND = 1;
    private static final int TOO_MUCH = 2;
    private static final int NOTHING_BEGAN = 3;
    private static final int WRONG_NAME = 4;
    private static final int TOO_MANY = 5;

    private static final int MOST_BYTES = 3000;
    private static final int MOST_SITTINGS = 8;
    private static final int MOST_LINES = 200;
    private static final int MOST_RIGHTS = 100;
    private static final int MOST_FACTS = 150;
    private static final int MOST_QUARRELS = MOST_FACTS * (MOST_FACTS - 1) / 2;
    private static final int MOST_MENTIONS = 100;
    private static final int MOST_EXHIBITS = 20;
    private static final int MOST_ORDERS = 60;
    private static final int MOST_DIGEST = 40;
    private static final int MOST_CITES = 8;
    private static final int MOST_NUMBER = 9999;
    private static final int HIGHEST_LEVEL = 3;
    private static final int LAST_DAY = 100000;

    private static final int FEED_BYTES = 20;
    private static final int HEAD_BYTES = 2;
    private static final int LINE_BYTES = 60;
    private static final int NAME_BYTES = 6;
    private static final int NUMBER_DIGITS = 4;
    private static final int PAGE_LINES = 10;

    private static final int LINE_END = 10;
    private static final int BLANK = 32;
    private static final int LAST_SIGN = 126;

    private static final String HEADS = "QAYN !";
    private static final String STRUCK_TEXT = "- struck";
    private static final String SEALED_TEXT = "- sealed";

    private final Bytes tape;
    private final Bytes out;
    private final Lines lines;
    private final Rests rests;
    private final Facts facts;
    private final Mentions mentions;
    private final Names names;
    private final Orders orders;
    private final Digest summary;
    private final Scribe scribe;
    private final Bench bench;
    private int sittings;
    private int now;
    private int faultPlace;

    public TestimonyBook() {
        tape = new Bytes(MOST_BYTES);
        out = new Bytes(MOST_BYTES);
        lines = new Lines();
        rests = new Rests();
        facts = new Facts();
        mentions = new Mentions();
        names = new Names();
        orders = new Orders();
        summary = new Digest();
        scribe = new Scribe(tape, lines, rests, facts, mentions, names);
        bench = new Bench(lines, rests, facts, orders, summary);
        faultPlace = NONE;
    }

    public int feed(int a, int b, int c, int d, int e) {
        if (tape.size + FEED_BYTES > MOST_BYTES) {
            return NONE;
        }
        tape.addNumber(a);
        tape.addNumber(b);
        tape.addNumber(c);
        tape.addNumber(d);
        tape.addNumber(e);
        return tape.size;
    }

    public int sitting(int n) throws IllegalArgumentException {
        demandOnTape(n);
        if (sittings >= MOST_SITTINGS) {
            endReading(NONE);
            return REFUSED;
        }
        int before = lines.size;
        int fault = scribe.takeSitting(n, sittings);
        endReading(scribe.place);
        if (fault != 0) {
            return -1 - fault;
        }
        sittings++;
        return lines.size - before;
    }

    public int fault() {
        return faultPlace;
    }

    public int right(int line, int n) throws NoSuchElementException, IllegalArgumentException {
        demand(lines.has(line));
        demandOnTape(n);
        // Every line came with one rest; those beyond were put right.
        if (lines.kind[line] == EXHIBIT || rests.size - lines.size >= MOST_RIGHTS) {
            endReading(NONE);
            return REFUSED;
        }
        int fault = scribe.takeRight(n, line, now);
        endReading(scribe.place);
        return fault;
    }

    public int days(int n) throws IllegalArgumentException {
        if (n < 0 || n > LAST_DAY - now) {
            throw new IllegalArgumentException("no such day");
        }
        now += n;
        return now;
    }

    public int about(int line, int what) throws NoSuchElementException {
        demand(lines.has(line));
        switch (what) {
            case 0:
                return lines.page[line];
            case 1:
                return lines.place[line];
            case 2:
                return lines.sitting[line];
            case 3:
                return lines.kind[line];
            case 4:
                return lines.first[line];
            case 5:
                return lines.answerTo(line);
            case 6:
                return rests.timesRighted(line);
            default:
                throw new NoSuchElementException("no such what");
        }
    }

    public int cited(int page, int place) {
        return lines.standingAt(page, place);
    }

    public int fact(int fact, int what) throws NoSuchElementException {
        demand(facts.has(fact));
        switch (what) {
            case 0:
                return facts.line[fact];
            case 1:
                return facts.subject[fact];
            case 2:
                return facts.day[fact];
            case 3:
                return facts.value[fact];
            case 4:
                return facts.place[fact];
            default:
                throw new NoSuchElementException("no such what");
        }
    }

    public int stands(int fact, int k) throws NoSuchElementException {
        demand(facts.has(fact));
        return bench.signOf(fact, k);
    }

    public int quarrels(int k) {
        return bench.seekQuarrel(MOST_QUARRELS, k);
    }

    public int quarrel(int i, int k, int what) throws NoSuchElementException {
        demand(i >= 0 && (what == 0 || what == 1));
        demand(bench.seekQuarrel(i, k) > i);
        return what == 0 ? bench.lesser : bench.greater;
    }

    public int mention(int i, int what) throws NoSuchElementException {
        demand(mentions.has(i) && (what == 0 || what == 1));
        return what == 0 ? mentions.line[i] : mentions.exhibit[i];
    }

    public int name(int exhibit, int line) throws NoSuchElementException {
        demand(exhibit >= 0 && exhibit < names.exhibits() && lines.has(line));
        out.clear();
        long letters = names.nameOf(exhibit, line);
        if (letters == 0) {
            return NONE;
        }
        out.addName(letters);
        return out.size;
    }

    public int order(int a, int b, int level) throws NoSuchElementException {
        demandLines(a, b);
        if (orders.isFull() || !isLevel(level)) {
            return NONE;
        }
        return orders.add(a, b, level, now);
    }

    public boolean lift(int order) throws NoSuchElementException {
        demand(orders.has(order));
        return orders.liftOn(order, now);
    }

    public int status(int line, int k, int what) throws NoSuchElementException {
        demand(lines.has(line) && (what == 0 || what == 1));
        if (what == 1) {
            return orders.levelOf(line, k);
        }
        return orders.strike(line, k) ? 1 : 0;
    }

    public int read(int a, int b, int level, int k) throws NoSuchElementException, IllegalArgumentException {
        demandLines(a, b);
        if (!isLevel(level)) {
            throw new IllegalArgumentException("no such level");
        }
        out.clear();
        int bytes = 0;
        for (int line = a; line <= b; line++) {
            if (line > a) {
                out.add(LINE_END);
                bytes++;
            }
            bytes += readBack(line, level, k);
        }
        return bytes;
    }

    public int told(int i) throws NoSuchElementException {
        demand(out.has(i));
        return out.byteAt(i);
    }

    public int digest(int subject, int day, int value) {
        if (summary.isFull() || !isNumber(subject) || !isNumber(day) || !isNumber(value)) {
            return NONE;
        }
        return summary.add(subject, day, value);
    }

    public int cite(int digest, int fact) throws NoSuchElementException {
        demand(summary.has(digest) && facts.has(fact));
        return summary.addCite(digest, fact);
    }

    public int shown(int digest, int k) throws NoSuchElementException {
        demand(summary.has(digest));
        return bench.judge(digest, k);
    }

    public int count(int what) throws NoSuchElementException {
        switch (what) {
            case 0:
                return lines.size;
            case 1:
                return sittings;
            case 2:
                return facts.size;
            case 3:
                return mentions.size;
            case 4:
                return names.exhibits();
            case 5:
                return now;
            case 6:
                return orders.size;
            case 7:
                return summary.size;
            case 8:
                return tape.size;
            case 9:
                return out.size;
            default:
                throw new NoSuchElementException("no such what");
        }
    }

    private static void demand(boolean there) {
        if (!there) {
            throw new NoSuchElementException("there is none");
        }
    }

    private void demandLines(int a, int b) {
        demand(lines.has(a) && lines.has(b) && a <= b);
    }

    private void demandOnTape(int n) {
        if (n < 1 || n > tape.size) {
            throw new IllegalArgumentException("not so many bytes");
        }
    }

    private static boolean isLevel(int level) {
        return level >= 0 && level <= HIGHEST_LEVEL;
    }

    private static boolean isNumber(int number) {
        return number >= 0 && number <= MOST_NUMBER;
    }

    /** The tape is used up whether the text was taken or not. */
    private void endReading(int place) {
        faultPlace = place;
        tape.clear();
    }

    /** Tells one line behind OUT; answers its whole length, kept or not. */
    private int readBack(int line, int level, int k) {
        if (orders.strike(line, k)) {
            return out.addText(STRUCK_TEXT);
        }
        if (orders.levelOf(line, k) > level) {
            return out.addText(SEALED_TEXT);
        }
        int kind = lines.kind[line];
        out.add(kind >= 0 && kind < HEADS.length() ? HEADS.charAt(kind) : BLANK);
        out.add(BLANK);
        return HEAD_BYTES + rests.tell(rests.heldOn(line, k), out);
    }

    /** Rows that only grow at their end, so that what a faulty text brought can be taken back. */
    private abstract static class Rows {
        final int most;
        int size;
        private int marked;

        Rows(int most) {
            this.most = most;
        }

        boolean has(int i) {
            return i >= 0 && i < size;
        }

        boolean isFull() {
            return size >= most;
        }

        void mark() {
            marked = size;
        }

        void takeBack() {
            size = marked;
        }
    }

    /** Bytes up to a limit; those beyond it are let go. Its row grows late, so that a new book stays small. */
    private static final class Bytes extends Rows {
        private static final int FIRST_ROOM = 64;

        private byte[] kept;

        Bytes(int most) {
            super(most);
            kept = new byte[FIRST_ROOM];
        }

        void clear() {
            size = 0;
        }

        int byteAt(int i) {
            return i >= 0 && i < size && i < kept.length ? kept[i] & 255 : NONE;
        }

        void add(int sign) {
            if (size >= most) {
                return;
            }
            if (size >= kept.length) {
                kept = Arrays.copyOf(kept, 2 * kept.length);
            }
            kept[size] = (byte) sign;
            size++;
        }

        void addNumber(int number) {
            for (int shift = 24; shift >= 0; shift -= 8) {
                add(number >>> shift);
            }
        }

        void addName(long letters) {
            for (int shift = 8 * (NAME_BYTES - 1); shift >= 0; shift -= 8) {
                int letter = (int) (letters >>> shift) & 255;
                if (letter != 0) {
                    add(letter);
                }
            }
        }

        int addText(String text) {
            for (int i = 0; i < text.length(); i++) {
                add(text.charAt(i));
            }
            return text.length();
        }
    }

    private static final class Lines extends Rows {
        final int[] kind = new int[MOST_LINES];
        final int[] sitting = new int[MOST_LINES];
        final int[] page = new int[MOST_LINES];
        final int[] place = new int[MOST_LINES];
        final int[] first = new int[MOST_LINES];
        private final int[] answer = new int[MOST_LINES];

        Lines() {
            super(MOST_LINES);
        }

        /** Whether a line that goes on has something to go on with. */
        boolean canGoOn(int inSitting) {
            return size > 0 && sitting[size - 1] == inSitting && kind[size - 1] != EXHIBIT;
        }

        void add(int newKind, int inSitting) {
            if (size >= most) {
                return;
            }
            kind[size] = newKind;
            sitting[size] = inSitting;
            answer[size] = NONE;
            setPage(size);
            setEntry(size);
            size++;
        }

        private void setPage(int line) {
            if (line == 0) {
                page[line] = 1;
                place[line] = 1;
            } else if (sitting[line - 1] != sitting[line] || place[line - 1] == PAGE_LINES) {
                page[line] = page[line - 1] + 1;
                place[line] = 1;
            } else {
                page[line] = page[line - 1];
                place[line] = place[line - 1] + 1;
            }
        }

        private void setEntry(int line) {
            int before = entryBefore(line);
            if (kind[line] == EXHIBIT) {
                first[line] = NONE;
            } else if (kind[line] == GOES_ON) {
                first[line] = before;
            } else {
                first[line] = line;
                if (before != NONE && kind[before] == QUESTION && kind[line] != QUESTION) {
                    answer[before] = line;
                }
            }
        }

        /** The first line of the entry ahead of a line in its sitting: exhibits between them don't part the two. */
        private int entryBefore(int line) {
            for (int i = line - 1; i >= 0 && sitting[i] == sitting[line]; i--) {
                if (kind[i] != EXHIBIT) {
                    return first[i];
                }
            }
            return NONE;
        }

        /** The first line of the answer to the question that a line belongs to. */
        int answerTo(int line) {
            int entry = first[line];
            return has(entry) ? answer[entry] : NONE;
        }

        int kindOfEntry(int line) {
            int entry = first[line];
            return has(entry) ? kind[entry] : EXHIBIT;
        }

        int standingAt(int onPage, int atPlace) {
            for (int i = 0; i < size; i++) {
                if (page[i] == onPage && place[i] == atPlace) {
                    return i;
                }
            }
            return NONE;
        }
    }

    /** Every rest that some line had: the one it came with, then each that put it right, chained backwards. */
    private static final class Rests extends Rows {
        private static final int MOST_RESTS = MOST_LINES + MOST_RIGHTS;

        final Bytes text = new Bytes(MOST_RESTS * (LINE_BYTES - HEAD_BYTES));
        private final int[] latest = new int[MOST_LINES];
        private final int[] before = new int[MOST_RESTS];
        private final int[] day = new int[MOST_RESTS];
        private final int[] from = new int[MOST_RESTS];
        private final int[] length = new int[MOST_RESTS];

        Rests() {
            super(MOST_RESTS);
        }

        void addFirst(int line, Bytes source, int start, int end) {
            add(line, NONE, 0, source, start, end);
        }

        void addRight(int line, int onDay, Bytes source, int start, int end) {
            add(line, latest[line], onDay, source, start, end);
        }

        private void add(int line, int earlier, int onDay, Bytes source, int start, int end) {
            if (size >= most) {
                return;
            }
            before[size] = earlier;
            day[size] = onDay;
            from[size] = text.size;
            length[size] = end - start;
            for (int i = start; i < end; i++) {
                text.add(source.byteAt(i));
            }
            latest[line] = size;
            size++;
        }

        /** The rest that a line has on a day. */
        int heldOn(int line, int k) {
            int rest = latest[line];
            for (int i = 0; i < size && before[rest] != NONE && day[rest] > k; i++) {
                rest = before[rest];
            }
            return rest;
        }

        int timesRighted(int line) {
            int rest = latest[line];
            int times = 0;
            for (; times < size && before[rest] != NONE; times++) {
                rest = before[rest];
            }
            return times;
        }

        int tell(int rest, Bytes target) {
            for (int i = 0; i < length[rest]; i++) {
                target.add(text.byteAt(from[rest] + i));
            }
            return length[rest];
        }
    }

    private static final class Facts extends Rows {
        final int[] line = new int[MOST_FACTS];
        final int[] rest = new int[MOST_FACTS];
        final int[] place = new int[MOST_FACTS];
        final int[] subject = new int[MOST_FACTS];
        final int[] day = new int[MOST_FACTS];
        final int[] value = new int[MOST_FACTS];

        Facts() {
            super(MOST_FACTS);
        }

        void add(int inLine, int inRest, int atPlace) {
            if (size >= most) {
                return;
            }
            line[size] = inLine;
            rest[size] = inRest;
            place[size] = atPlace;
            size++;
        }

        /** Of the latest fact. */
        void setNumbers(int newSubject, int newDay, int newValue) {
            if (size > 0) {
                subject[size - 1] = newSubject;
                day[size - 1] = newDay;
                value[size - 1] = newValue;
            }
        }
    }

    private static final class Mentions extends Rows {
        final int[] line = new int[MOST_MENTIONS];
        final int[] exhibit = new int[MOST_MENTIONS];

        Mentions() {
            super(MOST_MENTIONS);
        }

        void add(int inLine, int ofExhibit) {
            if (size >= most) {
                return;
            }
            line[size] = inLine;
            exhibit[size] = ofExhibit;
            size++;
        }
    }

    /** Each naming of an exhibit, in the order of their lines. A name is kept as its bytes in one long. */
    private static final class Names extends Rows {
        private final int[] line = new int[MOST_LINES];
        private final int[] exhibit = new int[MOST_LINES];
        private final long[] name = new long[MOST_LINES];

        Names() {
            super(MOST_LINES);
        }

        void add(int onLine, int ofExhibit, long newName) {
            if (size >= most) {
                return;
            }
            line[size] = onLine;
            exhibit[size] = ofExhibit;
            name[size] = newName;
            size++;
        }

        int exhibits() {
            int found = 0;
            for (int i = 0; i < size; i++) {
                found = Math.max(found, exhibit[i] + 1);
            }
            return found;
        }

        /** The exhibit that has a name behind a line. */
        int holder(long sought, int behind) {
            int found = NONE;
            for (int i = 0; i < size && line[i] <= behind; i++) {
                if (name[i] == sought) {
                    found = exhibit[i];
                } else if (exhibit[i] == found) {
                    found = NONE;
                }
            }
            return found;
        }

        /** The name of an exhibit behind a line; 0 as long as it has none. */
        long nameOf(int sought, int behind) {
            long found = 0;
            for (int i = 0; i < size && line[i] <= behind; i++) {
                if (exhibit[i] == sought) {
                    found = name[i];
                }
            }
            return found;
        }
    }

    private static final class Orders extends Rows {
        private final int[] from = new int[MOST_ORDERS];
        private final int[] to = new int[MOST_ORDERS];
        private final int[] level = new int[MOST_ORDERS];
        private final int[] given = new int[MOST_ORDERS];
        private final int[] lifted = new int[MOST_ORDERS];

        Orders() {
            super(MOST_ORDERS);
        }

        int add(int a, int b, int newLevel, int today) {
            if (size >= most) {
                return NONE;
            }
            from[size] = a;
            to[size] = b;
            level[size] = newLevel;
            given[size] = today;
            lifted[size] = NONE;
            size++;
            return size - 1;
        }

        boolean liftOn(int i, int today) {
            if (lifted[i] != NONE) {
                return false;
            }
            lifted[i] = today;
            return true;
        }

        private boolean holds(int i, int line, int k) {
            return from[i] <= line && line <= to[i] && given[i] <= k && (lifted[i] == NONE || lifted[i] > k);
        }

        boolean strike(int line, int k) {
            for (int i = 0; i < size; i++) {
                if (level[i] == 0 && holds(i, line, k)) {
                    return true;
                }
            }
            return false;
        }

        int levelOf(int line, int k) {
            int highest = 0;
            for (int i = 0; i < size; i++) {
                if (level[i] > highest && holds(i, line, k)) {
                    highest = level[i];
                }
            }
            return highest;
        }
    }

    private static final class Digest extends Rows {
        final int[] subject = new int[MOST_DIGEST];
        final int[] day = new int[MOST_DIGEST];
        final int[] value = new int[MOST_DIGEST];
        final int[] cites = new int[MOST_DIGEST];
        private final int[] facts = new int[MOST_DIGEST * MOST_CITES];

        Digest() {
            super(MOST_DIGEST);
        }

        int add(int newSubject, int newDay, int newValue) {
            if (size >= most) {
                return NONE;
            }
            subject[size] = newSubject;
            day[size] = newDay;
            value[size] = newValue;
            cites[size] = 0;
            size++;
            return size - 1;
        }

        int citedBy(int digest, int i) {
            return facts[digest * MOST_CITES + i];
        }

        int addCite(int digest, int fact) {
            int had = cites[digest];
            if (had >= MOST_CITES) {
                return NONE;
            }
            for (int i = 0; i < had; i++) {
                if (citedBy(digest, i) == fact) {
                    return NONE;
                }
            }
            facts[digest * MOST_CITES + had] = fact;
            cites[digest] = had + 1;
            return had + 1;
        }
    }

    /**
     * Takes a text down. It goes along the text once and writes what it reads straight into the rows; at the first
     * fault it stops, and the rows are taken back to what they were.
     */
    private static final class Scribe {
        private final Bytes text;
        private final Lines lines;
        private final Rests rests;
        private final Facts facts;
        private final Mentions mentions;
        private final Names names;
        private int end;
        private int at;
        private int lineStart;
        private int number;
        private long name;
        private int fault;
        int place;

        Scribe(Bytes text, Lines lines, Rests rests, Facts facts, Mentions mentions, Names names) {
            this.text = text;
            this.lines = lines;
            this.rests = rests;
            this.facts = facts;
            this.mentions = mentions;
            this.names = names;
        }

        /** Answers the fault, 0 without; place is its place then. */
        int takeSitting(int n, int sitting) {
            begin(n);
            boolean good = true;
            for (int i = 0; i < n && good && at < end; i++) {
                good = takeLine(sitting);
            }
            return finish(good);
        }

        int takeRight(int n, int line, int today) {
            begin(n);
            // The line's first two bytes stay; they stand ahead of the new rest.
            lineStart = -HEAD_BYTES;
            boolean good = takeRest(line) && (at >= end || refuse(CANNOT_STAND, at));
            if (good) {
                rests.addRight(line, today, text, 0, end);
            }
            return finish(good);
        }

        private void begin(int n) {
            end = Math.min(n, text.size);
            at = 0;
            lineStart = 0;
            fault = 0;
            place = NONE;
            lines.mark();
            rests.mark();
            rests.text.mark();
            facts.mark();
            mentions.mark();
            names.mark();
        }

        private int finish(boolean good) {
            if (!good) {
                lines.takeBack();
                rests.takeBack();
                rests.text.takeBack();
                facts.takeBack();
                mentions.takeBack();
                names.takeBack();
            }
            return fault;
        }

        private boolean refuse(int newFault, int newPlace) {
            fault = newFault;
            place = newPlace;
            return false;
        }

        /** The byte here; NONE at the text's end. */
        private int sign() {
            return at < end ? text.byteAt(at) : NONE;
        }

        private boolean lineEnds() {
            return at >= end || sign() == LINE_END;
        }

        /** Goes over a byte that may stand here, but for its line's length. */
        private boolean step() {
            if (at - lineStart >= LINE_BYTES) {
                return refuse(TOO_MUCH, at);
            }
            at++;
            return true;
        }

        private boolean expect(int sign) {
            return sign() == sign ? step() : refuse(CANNOT_STAND, at);
        }

        private boolean takeLine(int sitting) {
            lineStart = at;
            int kind = HEADS.indexOf((char) Math.max(0, sign()));
            if (!takeHead(kind, sitting)) {
                return false;
            }
            int line = lines.size;
            int from = at;
            lines.add(kind, sitting);
            if (!(kind == EXHIBIT ? takeNaming(line) : takeRest(line))) {
                return false;
            }
            rests.addFirst(line, text, from, at);
            if (at < end) {
                at++;
            }
            return true;
        }

        private boolean takeHead(int kind, int sitting) {
            if (kind < 0) {
                return refuse(CANNOT_STAND, at);
            }
            boolean blanks = kind == GOES_ON && at + 1 < end && text.byteAt(at + 1) == BLANK;
            if (blanks && !lines.canGoOn(sitting)) {
                return refuse(NOTHING_BEGAN, at);
            }
            if (lines.isFull()) {
                return refuse(TOO_MANY, at);
            }
            at++;
            return expect(BLANK);
        }

        private boolean takeRest(int line) {
            int from = at;
            boolean good = true;
            for (int i = 0; i <= LINE_BYTES && good && !lineEnds(); i++) {
                int sign = sign();
                if (sign == '{') {
                    good = takeFact(line);
                } else if (sign == '<') {
                    good = takeMention(line);
                } else {
                    good = isPlain(sign) ? step() : refuse(CANNOT_STAND, at);
                }
            }
            return good && (at > from || refuse(CANNOT_STAND, at));
        }

        private static boolean isPlain(int sign) {
            return sign >= BLANK && sign <= LAST_SIGN && sign != '>' && sign != '}';
        }

        private boolean takeFact(int line) {
            int from = at;
            if (!step()) {
                return false;
            }
            if (facts.isFull()) {
                return refuse(TOO_MANY, from);
            }
            // The rest itself is added when it has been read.
            facts.add(line, rests.size, from - lineStart);
            if (!takeNumber()) {
                return false;
            }
            int subject = number;
            if (!expect('@') || !takeNumber()) {
                return false;
            }
            int day = number;
            if (!expect('=') || !takeNumber()) {
                return false;
            }
            facts.setNumbers(subject, day, number);
            return expect('}');
        }

        private boolean takeNumber() {
            number = 0;
            for (int digits = 0; digits <= NUMBER_DIGITS; digits++) {
                int sign = sign();
                if (sign < '0' || sign > '9') {
                    return digits > 0 || refuse(CANNOT_STAND, at);
                }
                if (digits == NUMBER_DIGITS) {
                    return refuse(TOO_MUCH, at);
                }
                if (!step()) {
                    return false;
                }
                number = 10 * number + sign - '0';
            }
            return false;
        }

        private boolean takeMention(int line) {
            int from = at;
            if (!step()) {
                return false;
            }
            if (mentions.isFull()) {
                return refuse(TOO_MANY, from);
            }
            if (!takeName()) {
                return false;
            }
            // The name is judged ahead of the sign behind it: its fault is earlier along the text.
            int exhibit = names.holder(name, line);
            if (exhibit == NONE) {
                return refuse(WRONG_NAME, from + 1);
            }
            mentions.add(line, exhibit);
            return expect('>');
        }

        private boolean takeNaming(int line) {
            int from = at;
            if (!takeName()) {
                return false;
            }
            int exhibit = names.holder(name, line);
            if (sign() == BLANK) {
                return exhibit == NONE ? refuse(WRONG_NAME, from) : takeNewName(line, exhibit);
            }
            if (exhibit != NONE) {
                return refuse(WRONG_NAME, from);
            }
            int exhibits = names.exhibits();
            if (exhibits >= MOST_EXHIBITS) {
                return refuse(TOO_MANY, from);
            }
            names.add(line, exhibits, name);
            return lineEnds() || refuse(CANNOT_STAND, at);
        }

        private boolean takeNewName(int line, int exhibit) {
            at++;
            int from = at;
            if (!takeName()) {
                return false;
            }
            if (names.holder(name, line) != NONE) {
                return refuse(WRONG_NAME, from);
            }
            names.add(line, exhibit, name);
            return lineEnds() || refuse(CANNOT_STAND, at);
        }

        private boolean takeName() {
            name = 0;
            for (int letters = 0; letters <= NAME_BYTES; letters++) {
                int sign = sign();
                if (!isOfName(sign)) {
                    return letters > 0 || refuse(CANNOT_STAND, at);
                }
                if (letters == NAME_BYTES) {
                    return refuse(TOO_MUCH, at);
                }
                if (!step()) {
                    return false;
                }
                name = name << 8 | sign;
            }
            return false;
        }

        private static boolean isOfName(int sign) {
            return sign >= 'A' && sign <= 'Z' || sign >= '0' && sign <= '9';
        }
    }

    /** Weighs the facts: as what they stand, which of them quarrel, and what they show. */
    private static final class Bench {
        private final Lines lines;
        private final Rests rests;
        private final Facts facts;
        private final Orders orders;
        private final Digest summary;
        private final int[] signs = new int[MOST_FACTS];
        int lesser;
        int greater;

        Bench(Lines lines, Rests rests, Facts facts, Orders orders, Digest summary) {
            this.lines = lines;
            this.rests = rests;
            this.facts = facts;
            this.orders = orders;
            this.summary = summary;
        }

        /** As what a fact stands on a day. */
        int signOf(int fact, int k) {
            int line = facts.line[fact];
            if (rests.heldOn(line, k) != facts.rest[fact] || orders.strike(line, k)) {
                return 0;
            }
            int entry = lines.kindOfEntry(line);
            if (entry == ANSWER) {
                return 1;
            }
            return entry == QUESTION ? signByAnswer(lines.answerTo(line), k) : 0;
        }

        private int signByAnswer(int answer, int k) {
            if (!lines.has(answer) || orders.strike(answer, k)) {
                return 0;
            }
            if (lines.kind[answer] == YES) {
                return 1;
            }
            return lines.kind[answer] == NO ? -1 : 0;
        }

        private void weigh(int k) {
            for (int i = 0; i < facts.size && i < signs.length; i++) {
                signs[i] = signOf(i, k);
            }
        }

        /** Goes along the quarrels of a day up to number i, which it leaves in lesser and greater; how many it met. */
        int seekQuarrel(int i, int k) {
            weigh(k);
            int met = 0;
            for (int f = 0; f < facts.size; f++) {
                for (int g = f + 1; g < facts.size && signs[f] != 0; g++) {
                    if (clash(f, g)) {
                        lesser = f;
                        greater = g;
                        met++;
                        if (met > i) {
                            return met;
                        }
                    }
                }
            }
            return met;
        }

        private boolean clash(int f, int g) {
            if (facts.subject[f] != facts.subject[g] || facts.day[f] != facts.day[g]) {
                return false;
            }
            boolean alike = facts.value[f] == facts.value[g];
            if (signs[f] == 1 && signs[g] == 1) {
                return !alike;
            }
            return alike && signs[f] * signs[g] == -1;
        }

        /** What a line of the digest is on a day: 0 not shown, 1 shown, 2 disputed. */
        int judge(int digest, int k) {
            weigh(k);
            int found = 0;
            for (int i = 0; i < summary.cites[digest]; i++) {
                int fact = summary.citedBy(digest, i);
                if (facts.has(fact) && shows(fact, digest)) {
                    found = Math.max(found, isDisputed(fact) ? 2 : 1);
                }
            }
            return found;
        }

        private boolean shows(int fact, int digest) {
            return signs[fact] == 1 && facts.subject[fact] == summary.subject[digest]
                    && facts.day[fact] == summary.day[digest] && facts.value[fact] == summary.value[digest];
        }

        private boolean isDisputed(int fact) {
            for (int other = 0; other < facts.size; other++) {
                if (clash(fact, other)) {
                    return true;
                }
            }
            return false;
        }
    }
}
