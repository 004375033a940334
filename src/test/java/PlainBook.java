import java.util.ArrayList;
import java.util.HashMap;
import java.util.List;
import java.util.Map;
import java.util.NoSuchElementException;
import java.util.TreeMap;
import java.util.regex.Matcher;
import java.util.regex.Pattern;

/**
 * The document once more, written another way: faults are gathered by patterns and the first one is chosen, and every
 * answer is worked out anew from what was said. RandomTests hold TestimonyBook against it.
 */
final class PlainBook {
    private static final Pattern LOOSE_NAMING = Pattern.compile("! [A-Z0-9]+(?: [A-Z0-9]+)?");
    private static final Pattern NAMING = Pattern.compile("! [A-Z0-9]{1,6}(?: [A-Z0-9]{1,6})?");
    private static final String PLAIN = "[ -;=?-z|~]";
    private static final Pattern LOOSE_SPEECH = Pattern.compile(
            "(?:[QAYN] |  )(?:" + PLAIN + "|<[A-Z0-9]+>|\\{[0-9]+@[0-9]+=[0-9]+\\})+");
    private static final Pattern SPEECH = Pattern.compile("(?:[QAYN] |  )(?:" + PLAIN
            + "|<[A-Z0-9]{1,6}>|\\{[0-9]{1,4}@[0-9]{1,4}=[0-9]{1,4}\\})+");
    private static final Pattern NAME_RUN = Pattern.compile("[A-Z0-9]+");
    private static final Pattern MARK = Pattern.compile("<([A-Z0-9]+)>|\\{([0-9]+)@([0-9]+)=([0-9]+)\\}");
    private static final String KINDS = "QAYN !";

    private static final class Line {
        int sitting;
        int page;
        int place;
        char kind;
        final List<Integer> days = new ArrayList<>();
        final List<String> rests = new ArrayList<>();
        /** Who has which name behind this line. */
        Map<String, Integer> holders;
    }

    private record Fact(int line, int version, int subject, int day, int value, int place) { }

    private record Mention(int line, int exhibit) { }

    private record Fault(int code, int place) { }

    private static final class Order {
        int a;
        int b;
        int level;
        int given;
        boolean isLifted = false;
        int lifted = 0;
    }

    private record Summary(int subject, int day, int value, List<Integer> cites) { }

    private String tape = "";
    private String out = "";
    private int now = 0;
    private int faultPlace = -1;
    private int sittings = 0;
    private int exhibits = 0;
    private int rights = 0;
    private List<Line> lines = new ArrayList<>();
    private List<Fact> facts = new ArrayList<>();
    private List<Mention> mentions = new ArrayList<>();
    private final List<Order> orders = new ArrayList<>();
    private final List<Summary> digest = new ArrayList<>();

    long feed(int... numbers) {
        if (tape.length() + 20 > 3000) {
            return -1;
        }
        StringBuilder more = new StringBuilder(tape);
        for (int number : numbers) {
            more.append((char) (number >>> 24)).append((char) (number >>> 16 & 255));
            more.append((char) (number >>> 8 & 255)).append((char) (number & 255));
        }
        tape = more.toString();
        return tape.length();
    }

    private String takeTape(int n) {
        if (n < 1 || n > tape.length()) {
            throw new IllegalArgumentException();
        }
        String text = tape.substring(0, n);
        tape = "";
        faultPlace = -1;
        return text;
    }

    private static void need(boolean there) {
        if (!there) {
            throw new NoSuchElementException();
        }
    }

    private Line line(int i) {
        need(i >= 0 && i < lines.size());
        return lines.get(i);
    }

    /** The names that are had behind the last line. */
    List<String> namesHad() {
        return new ArrayList<>(new TreeMap<>(holdersAt(lines.size() - 1)).keySet());
    }

    private Map<String, Integer> holdersAt(int line) {
        return line < 0 ? new HashMap<>() : lines.get(line).holders;
    }

    long sitting(int n) {
        String text = takeTape(n);
        if (sittings == 8) {
            return -9;
        }
        List<Line> oldLines = new ArrayList<>(lines);
        List<Fact> oldFacts = new ArrayList<>(facts);
        List<Mention> oldMentions = new ArrayList<>(mentions);
        int oldExhibits = exhibits;
        int at = 0;
        while (at < text.length()) {
            int end = text.indexOf('\n', at);
            end = end < 0 ? text.length() : end;
            Fault fault = firstFault(text, at, end);
            if (fault != null) {
                lines = oldLines;
                facts = oldFacts;
                mentions = oldMentions;
                exhibits = oldExhibits;
                faultPlace = fault.place;
                return -1 - fault.code;
            }
            addLine(text.substring(at, end));
            at = end + 1;
        }
        sittings++;
        return lines.size() - oldLines.size();
    }

    private static boolean viable(Pattern pattern, String prefix) {
        Matcher matcher = pattern.matcher(prefix);
        return matcher.matches() || matcher.hitEnd();
    }

    /** The first prefix that no line begins with: its last byte's place; the length, if there is none. */
    private static int stuckAt(Pattern naming, Pattern speech, String line) {
        for (int i = 1; i <= line.length(); i++) {
            String prefix = line.substring(0, i);
            if (!viable(naming, prefix) && !viable(speech, prefix)) {
                return i - 1;
            }
        }
        return line.length();
    }

    private boolean nothingBegan() {
        return lines.isEmpty() || lines.get(lines.size() - 1).sitting != sittings
                || lines.get(lines.size() - 1).kind == '!';
    }

    private Fault firstFault(String text, int from, int to) {
        String line = text.substring(from, to);
        List<Fault> found = new ArrayList<>();
        if (line.startsWith("  ") && nothingBegan()) {
            found.add(new Fault(3, 0));
        }
        if (lines.size() >= 200) {
            found.add(new Fault(5, 0));
        }
        gather(line, found, holdersAt(lines.size() - 1));
        return first(found, from);
    }

    private static Fault first(List<Fault> found, int from) {
        Fault best = null;
        for (Fault f : found) {
            if (best == null || f.place < best.place || f.place == best.place && f.code < best.code) {
                best = f;
            }
        }
        return best == null ? null : new Fault(best.code, best.place + from);
    }

    private void gather(String line, List<Fault> found, Map<String, Integer> holders) {
        if (!NAMING.matcher(line).matches() && !SPEECH.matcher(line).matches()) {
            int loose = stuckAt(LOOSE_NAMING, LOOSE_SPEECH, line);
            int strict = stuckAt(NAMING, SPEECH, line);
            found.add(new Fault(1, loose));
            if (strict < loose) {
                found.add(new Fault(2, strict));
            }
        }
        if (line.length() > 60) {
            found.add(new Fault(2, 60));
        }
        if (line.startsWith("! ")) {
            gatherNaming(line, found, holders);
        } else {
            gatherSpeech(line, found, holders);
        }
    }

    /** The end of the name that begins at a place; -1, if there is none or it does not end as a name may. */
    private static int nameEnd(String line, int from) {
        Matcher run = NAME_RUN.matcher(line);
        run.region(Math.min(from, line.length()), line.length());
        if (!run.lookingAt() || run.end() - from > 6 || run.end() > 60) {
            return -1;
        }
        return run.end();
    }

    private void gatherNaming(String line, List<Fault> found, Map<String, Integer> holders) {
        int end = nameEnd(line, 2);
        if (end < 0) {
            return;
        }
        boolean had = holders.containsKey(line.substring(2, end));
        if (end < line.length() && line.charAt(end) == ' ') {
            if (!had) {
                found.add(new Fault(4, 2));
            }
            int last = nameEnd(line, end + 1);
            if (last > 0 && holders.containsKey(line.substring(end + 1, last))) {
                found.add(new Fault(4, end + 1));
            }
            return;
        }
        if (had) {
            found.add(new Fault(4, 2));
        }
        if (exhibits >= 20) {
            found.add(new Fault(5, 2));
        }
    }

    private void gatherSpeech(String line, List<Fault> found, Map<String, Integer> holders) {
        int braces = facts.size();
        int angles = mentions.size();
        for (int i = 2; i < line.length(); i++) {
            if (line.charAt(i) == '{') {
                braces++;
                if (braces > 150) {
                    found.add(new Fault(5, i));
                }
            }
            if (line.charAt(i) == '<') {
                angles++;
                if (angles > 100) {
                    found.add(new Fault(5, i));
                }
                int end = nameEnd(line, i + 1);
                if (end > 0 && !holders.containsKey(line.substring(i + 1, end))) {
                    found.add(new Fault(4, i + 1));
                }
            }
        }
    }

    private void addLine(String text) {
        Line line = new Line();
        Line last = lines.isEmpty() ? null : lines.get(lines.size() - 1);
        line.sitting = sittings;
        int ahead = 0;
        for (Line other : lines) {
            ahead += other.sitting == sittings ? 1 : 0;
        }
        int pages = 0;
        for (Line other : lines) {
            pages = other.sitting == sittings ? pages : Math.max(pages, other.page);
        }
        line.page = pages + ahead / 10 + 1;
        line.place = ahead % 10 + 1;
        line.kind = text.charAt(0);
        line.holders = new HashMap<>(last == null ? new HashMap<>() : last.holders);
        if (line.kind == '!') {
            String[] names = text.substring(2).split(" ");
            int exhibit = names.length == 1 ? exhibits++ : line.holders.remove(names[0]);
            line.holders.put(names[names.length - 1], exhibit);
        }
        lines.add(line);
        addRest(lines.size() - 1, text.substring(2), Integer.MIN_VALUE);
    }

    private void addRest(int i, String rest, int day) {
        Line line = lines.get(i);
        line.rests.add(rest);
        line.days.add(day);
        Matcher mark = MARK.matcher(rest);
        while (mark.find()) {
            if (mark.group(1) != null) {
                mentions.add(new Mention(i, line.holders.get(mark.group(1))));
            } else {
                facts.add(new Fact(i, line.rests.size() - 1, Integer.parseInt(mark.group(2)),
                        Integer.parseInt(mark.group(3)), Integer.parseInt(mark.group(4)), mark.start() + 2));
            }
        }
    }

    long fault() {
        return faultPlace;
    }

    long right(int i, int n) {
        Line line = line(i);
        String rest = takeTape(n);
        if (line.kind == '!' || rights == 100) {
            return -9;
        }
        List<Fault> found = new ArrayList<>();
        // A line without its end is what a new rest is behind two bytes: a 10 in it can't stand.
        gather("Q " + rest.replace('\n', '\u0001'), found, line.holders);
        Fault fault = first(found, -2);
        if (fault != null) {
            faultPlace = fault.place;
            return fault.code;
        }
        rights++;
        addRest(i, rest, now);
        return 0;
    }

    long days(int n) {
        if (n < 0 || (long) now + n > 100000) {
            throw new IllegalArgumentException();
        }
        now += n;
        return now;
    }

    private int entryOf(int i) {
        if (lines.get(i).kind == '!') {
            return -1;
        }
        int at = i;
        while (lines.get(at).kind == ' ') {
            at--;
        }
        return at;
    }

    private int answerOf(int i) {
        int entry = entryOf(i);
        if (entry < 0 || lines.get(entry).kind != 'Q') {
            return -1;
        }
        for (int at = entry + 1; at < lines.size() && lines.get(at).sitting == lines.get(i).sitting; at++) {
            char kind = lines.get(at).kind;
            if (kind == 'Q') {
                return -1;
            }
            if (kind != ' ' && kind != '!') {
                return at;
            }
        }
        return -1;
    }

    long about(int i, int what) {
        Line line = line(i);
        need(what >= 0 && what <= 6);
        int[] answers = {line.page, line.place, line.sitting, KINDS.indexOf(line.kind), entryOf(i), answerOf(i),
            line.rests.size() - 1};
        return answers[what];
    }

    long cited(int page, int place) {
        for (int i = 0; i < lines.size(); i++) {
            if (lines.get(i).page == page && lines.get(i).place == place) {
                return i;
            }
        }
        return -1;
    }

    long fact(int i, int what) {
        need(i >= 0 && i < facts.size() && what >= 0 && what <= 4);
        Fact f = facts.get(i);
        return new int[] {f.line, f.subject, f.day, f.value, f.place}[what];
    }

    private int versionOn(int i, int k) {
        Line line = lines.get(i);
        int version = 0;
        for (int v = 1; v < line.days.size(); v++) {
            version = line.days.get(v) <= k ? v : version;
        }
        return version;
    }

    private int levelOn(int i, int k, boolean strikes) {
        int level = -1;
        for (Order o : orders) {
            if (o.a <= i && i <= o.b && o.given <= k && !(o.isLifted && o.lifted <= k) && (o.level == 0) == strikes) {
                level = Math.max(level, o.level);
            }
        }
        return level;
    }

    private boolean struck(int i, int k) {
        return levelOn(i, k, true) >= 0;
    }

    private int sign(int i, int k) {
        Fact f = facts.get(i);
        if (versionOn(f.line, k) != f.version || struck(f.line, k)) {
            return 0;
        }
        char kind = lines.get(entryOf(f.line)).kind;
        if (kind == 'A') {
            return 1;
        }
        int answer = answerOf(f.line);
        if (kind != 'Q' || answer < 0 || struck(answer, k)) {
            return 0;
        }
        char told = lines.get(answer).kind;
        return told == 'Y' ? 1 : told == 'N' ? -1 : 0;
    }

    long stands(int i, int k) {
        need(i >= 0 && i < facts.size());
        return sign(i, k);
    }

    private List<int[]> allQuarrels(int k) {
        List<int[]> all = new ArrayList<>();
        int[] signs = new int[facts.size()];
        for (int f = 0; f < signs.length; f++) {
            signs[f] = sign(f, k);
        }
        for (int f = 0; f < signs.length; f++) {
            for (int g = f + 1; g < signs.length; g++) {
                Fact x = facts.get(f);
                Fact y = facts.get(g);
                boolean same = x.subject == y.subject && x.day == y.day;
                boolean alike = x.value == y.value;
                int sum = signs[f] + signs[g];
                if (same && (sum == 2 && !alike || sum == 0 && signs[f] != 0 && alike)) {
                    all.add(new int[] {f, g});
                }
            }
        }
        return all;
    }

    long quarrels(int k) {
        return allQuarrels(k).size();
    }

    long quarrel(int i, int k, int what) {
        List<int[]> all = allQuarrels(k);
        need(i >= 0 && i < all.size() && what >= 0 && what <= 1);
        return all.get(i)[what];
    }

    long mention(int i, int what) {
        need(i >= 0 && i < mentions.size() && what >= 0 && what <= 1);
        return what == 0 ? mentions.get(i).line : mentions.get(i).exhibit;
    }

    long name(int exhibit, int i) {
        Line line = line(i);
        need(exhibit >= 0 && exhibit < exhibits);
        out = "";
        for (Map.Entry<String, Integer> e : line.holders.entrySet()) {
            out = e.getValue() == exhibit ? e.getKey() : out;
        }
        return out.isEmpty() ? -1 : out.length();
    }

    private void needLines(int a, int b) {
        line(a);
        line(b);
        need(a <= b);
    }

    long order(int a, int b, int level) {
        needLines(a, b);
        if (orders.size() == 60 || level < 0 || level > 3) {
            return -1;
        }
        Order o = new Order();
        o.a = a;
        o.b = b;
        o.level = level;
        o.given = now;
        orders.add(o);
        return orders.size() - 1;
    }

    long lift(int i) {
        need(i >= 0 && i < orders.size());
        Order o = orders.get(i);
        if (o.isLifted) {
            return 0;
        }
        o.isLifted = true;
        o.lifted = now;
        return 1;
    }

    long status(int i, int k, int what) {
        line(i);
        need(what == 0 || what == 1);
        return what == 0 ? (struck(i, k) ? 1 : 0) : Math.max(0, levelOn(i, k, false));
    }

    long read(int a, int b, int level, int k) {
        needLines(a, b);
        if (level < 0 || level > 3) {
            throw new IllegalArgumentException();
        }
        List<String> told = new ArrayList<>();
        for (int i = a; i <= b; i++) {
            String rest = lines.get(i).rests.get(versionOn(i, k));
            told.add(struck(i, k) ? "- struck" : levelOn(i, k, false) > level ? "- sealed"
                    : lines.get(i).kind + " " + rest);
        }
        String all = String.join("\n", told);
        out = all.substring(0, Math.min(3000, all.length()));
        return all.length();
    }

    long told(int i) {
        need(i >= 0 && i < out.length());
        return out.charAt(i);
    }

    long digest(int subject, int day, int value) {
        if (digest.size() == 40 || Math.min(subject, Math.min(day, value)) < 0
                || Math.max(subject, Math.max(day, value)) > 9999) {
            return -1;
        }
        digest.add(new Summary(subject, day, value, new ArrayList<>()));
        return digest.size() - 1;
    }

    long cite(int i, int fact) {
        need(i >= 0 && i < digest.size() && fact >= 0 && fact < facts.size());
        List<Integer> cites = digest.get(i).cites;
        if (cites.size() == 8 || cites.contains(fact)) {
            return -1;
        }
        cites.add(fact);
        return cites.size();
    }

    long shown(int i, int k) {
        need(i >= 0 && i < digest.size());
        Summary s = digest.get(i);
        List<Integer> good = new ArrayList<>();
        for (int cited : s.cites) {
            Fact f = facts.get(cited);
            if (sign(cited, k) == 1 && f.subject == s.subject && f.day == s.day && f.value == s.value) {
                good.add(cited);
            }
        }
        for (int[] q : allQuarrels(k)) {
            if (good.contains(q[0]) || good.contains(q[1])) {
                return 2;
            }
        }
        return good.isEmpty() ? 0 : 1;
    }

    long count(int what) {
        need(what >= 0 && what <= 9);
        return new int[] {lines.size(), sittings, facts.size(), mentions.size(), exhibits, now, orders.size(),
            digest.size(), tape.length(), out.length()}[what];
    }
}
