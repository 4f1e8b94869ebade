import java.math.BigInteger;
import java.util.ArrayList;
import java.util.List;

/**
 * The document once more, written in another way than the class and without care for speed or room,
 * so that RandomRunsTest can hold the two against each other.
 */
final class Reference {
    static final int BAD_INDEX = -11, BAD_VALUE = -12, NOT_POSSIBLE = -13, FULL = -14, NONE = -15;

    record Stage(int cells, int hours, int samples) { }

    record Entry(int time, int change, int event, int stage) { }

    record Span(int from, int to) { }

    static final class Plan {
        boolean risky;
        String is = "PLANNED";
        List<Stage> stages = new ArrayList<>();
        List<Integer> beginnings = new ArrayList<>();
        List<Integer> firsts = new ArrayList<>();
        int a, b, c, d;

        Plan copy() {
            Plan p = new Plan();
            p.risky = risky;
            p.is = is;
            p.stages = new ArrayList<>(stages);
            p.beginnings = new ArrayList<>(beginnings);
            p.firsts = new ArrayList<>(firsts);
            p.a = a;
            p.b = b;
            p.c = c;
            p.d = d;
            return p;
        }

        int begun() {
            return beginnings.size();
        }

        boolean inBegunStage(int cell) {
            return stages.subList(0, begun()).stream().anyMatch(s -> (s.cells & 1 << cell) != 0);
        }

        boolean is(String... names) {
            return List.of(names).contains(is);
        }
    }

    static final class World {
        int cells = 4;
        int time = 0;
        int limit = 50;
        List<Span> spans = new ArrayList<>();
        List<Plan> plans = new ArrayList<>();
        List<Entry> log = new ArrayList<>();
        int logged = 0;
        boolean fair = false;

        World copy() {
            World w = new World();
            w.cells = cells;
            w.time = time;
            w.limit = limit;
            w.spans = new ArrayList<>(spans);
            for (Plan p : plans) {
                w.plans.add(p.copy());
            }
            w.log = new ArrayList<>(log);
            return w;
        }

        void log(int change, int event, int stage) {
            log.add(new Entry(time, change, event, stage));
            logged++;
            while (log.size() > 20) {
                log.remove(0);
            }
        }

        boolean frozen(int hour) {
            return spans.stream().anyMatch(s -> s.from <= hour && hour < s.to);
        }

        int reason(Plan p) {
            if (!p.is("RUNNING", "HELD", "TURNING")) {
                return 1;
            }
            if (p.is("TURNING")) {
                return 2;
            }
            if (p.is("HELD")) {
                return 3;
            }
            if (p.begun() > 0) {
                Stage latest = p.stages.get(p.begun() - 1);
                if (time - p.beginnings.get(p.begun() - 1) < latest.hours) {
                    return 4;
                }
                boolean everywhere = true;
                for (int i = 0; i < cells; i++) {
                    everywhere &= p.inBegunStage(i);
                }
                if (!fair && (p.a + p.b < latest.samples || !everywhere && p.c + p.d < latest.samples)) {
                    return 5;
                }
            }
            if (p.begun() < p.stages.size() && frozen(time % 168)) {
                return 6;
            }
            if (p.begun() == 0) {
                for (int f : p.firsts) {
                    if (!plans.get(f).is("DONE")) {
                        return 7;
                    }
                }
                for (Plan o : plans) {
                    if (p.risky && o != p && o.risky && o.is("RUNNING", "HELD", "TURNING") && o.begun() > 0) {
                        return 8;
                    }
                }
            }
            return 0;
        }

        boolean bad(Plan p) {
            BigInteger[] q = chance(p);
            return q[0].multiply(BigInteger.valueOf(1000)).compareTo(q[1].multiply(BigInteger.valueOf(limit))) <= 0;
        }

        void hour() {
            for (int i = 0; i < plans.size(); i++) {
                Plan p = plans.get(i);
                if (p.is("RUNNING", "HELD") && p.begun() > 0 && !fair && bad(p)) {
                    p.is = "TURNING";
                    log(i, 3, NONE);
                    continue;
                }
                if (p.is("TURNING")) {
                    if (p.begun() > 0) {
                        p.beginnings.remove(p.begun() - 1);
                        log(i, 4, p.begun());
                    }
                    if (p.begun() == 0) {
                        p.is = "TURNED";
                        log(i, 5, NONE);
                    }
                    continue;
                }
                if (p.is("RUNNING") && reason(p) == 0) {
                    if (p.begun() == p.stages.size()) {
                        p.is = "DONE";
                        log(i, 2, NONE);
                    } else {
                        log(i, 1, p.begun());
                        p.beginnings.add(time);
                        p.a = p.b = p.c = p.d = 0;
                    }
                }
            }
            time++;
        }
    }

    static BigInteger c(int n, int k) {
        if (k < 0 || k > n) {
            return BigInteger.ZERO;
        }
        BigInteger r = BigInteger.ONE;
        for (int i = 0; i < k; i++) {
            r = r.multiply(BigInteger.valueOf(n - i));
        }
        for (int i = 1; i <= k; i++) {
            r = r.divide(BigInteger.valueOf(i));
        }
        return r;
    }

    static BigInteger[] chance(Plan p) {
        BigInteger sum = BigInteger.ZERO;
        for (int k = p.a; k <= Math.min(p.a + p.b, p.a + p.c); k++) {
            sum = sum.add(c(p.a + p.c, k).multiply(c(p.b + p.d, p.a + p.b - k)));
        }
        BigInteger all = c(p.a + p.b + p.c + p.d, p.a + p.b);
        BigInteger g = sum.gcd(all);
        return new BigInteger[] {sum.divide(g), all.divide(g)};
    }

    World w = new World();
    World[] kept = new World[2];
    String text = "";

    private static final List<String> STATES = List.of("PLANNED", "RUNNING", "HELD", "DONE", "TURNING", "TURNED");

    private boolean no(int change) {
        return change < 0 || change >= w.plans.size();
    }

    int begin(int cells) {
        if (cells < 1 || cells > 8) {
            return BAD_VALUE;
        }
        World old = w;
        w = new World();
        w.cells = cells;
        w.limit = old.limit;
        return old.cells;
    }

    int setLimit(int t) {
        if (t < 0 || t > 1000) {
            return BAD_VALUE;
        }
        int old = w.limit;
        w.limit = t;
        return old;
    }

    int freeze(int from, int to) {
        if (from < 0 || from > 167 || to <= from || to > 168) {
            return BAD_VALUE;
        }
        if (w.spans.size() == 3) {
            return FULL;
        }
        w.spans.add(new Span(from, to));
        return w.spans.size();
    }

    int thaw() {
        int n = w.spans.size();
        w.spans.clear();
        return n;
    }

    int addChange(boolean risky) {
        if (w.plans.size() == 5) {
            return FULL;
        }
        Plan p = new Plan();
        p.risky = risky;
        w.plans.add(p);
        return w.plans.size() - 1;
    }

    int addStage(int change, int cells, int wait, int samples) {
        if (no(change)) {
            return BAD_INDEX;
        }
        if (cells < 1 || cells >= 1 << w.cells || wait < 0 || wait > 48 || samples < 0 || samples > 25) {
            return BAD_VALUE;
        }
        Plan p = w.plans.get(change);
        if (!p.is("PLANNED") || p.stages.stream().anyMatch(s -> (s.cells & cells) != 0)) {
            return NOT_POSSIBLE;
        }
        if (p.stages.size() == 6) {
            return FULL;
        }
        p.stages.add(new Stage(cells, wait, samples));
        return p.stages.size();
    }

    int putAfter(int change, int first) {
        if (no(change) || no(first) || first >= change) {
            return BAD_INDEX;
        }
        Plan p = w.plans.get(change);
        if (!p.is("PLANNED")) {
            return NOT_POSSIBLE;
        }
        if (!p.firsts.contains(first)) {
            p.firsts.add(first);
        }
        return p.firsts.size();
    }

    int changes() {
        return w.plans.size();
    }

    int stage(int change, int stage, int what) {
        if (no(change) || stage < 0 || stage >= w.plans.get(change).stages.size()) {
            return BAD_INDEX;
        }
        Stage s = w.plans.get(change).stages.get(stage);
        return what == 0 ? s.cells : what == 1 ? s.hours : what == 2 ? s.samples : BAD_VALUE;
    }

    int append(int letter) {
        if (letter < 0 || letter > 127) {
            return BAD_VALUE;
        }
        if (text.length() == 60) {
            return FULL;
        }
        text += (char) letter;
        return text.length();
    }

    int clearText() {
        int n = text.length();
        text = "";
        return n;
    }

    /**
     * Goes over the bytes one by one; expected is what may come next: s a stage's first digit (or the end),
     * c a further digit or the colon, w or m the first digit of the wait or the samples,
     * W or M its second digit or the sign after it, / or ; that sign alone.
     */
    int faultPosition() {
        char expected = 's';
        int stages = 0;
        int used = 0;
        int last = -1;
        for (int i = 0; i < text.length(); i++) {
            char t = text.charAt(i);
            boolean digit = t >= '0' && t <= '9';
            int value = t - '0';
            switch (expected) {
                case 's', 'c' -> {
                    if (expected == 'c' && t == ':') {
                        expected = 'w';
                        break;
                    }
                    boolean allowed = digit && value < w.cells && (used & 1 << value) == 0;
                    if (!allowed || expected == 's' && stages == 6 || expected == 'c' && value <= last) {
                        return i;
                    }
                    used |= 1 << value;
                    last = value;
                    expected = 'c';
                }
                case 'w', 'm' -> {
                    if (!digit) {
                        return i;
                    }
                    expected = value == 0 ? expected == 'w' ? '/' : ';' : Character.toUpperCase(expected);
                }
                case 'W', 'M' -> {
                    char sign = expected == 'W' ? '/' : ';';
                    int most = expected == 'W' ? 48 : 25;
                    if (digit) {
                        if (Integer.parseInt(text.substring(i - 1, i + 1)) > most) {
                            return i - 1;
                        }
                        expected = sign;
                    } else if (t == sign) {
                        stages += sign == ';' ? 1 : 0;
                        expected = sign == '/' ? 'm' : 's';
                    } else {
                        return i;
                    }
                }
                default -> {
                    if (t != expected) {
                        return i;
                    }
                    stages += expected == ';' ? 1 : 0;
                    expected = expected == '/' ? 'm' : 's';
                }
            }
        }
        return expected == 's' ? NONE : text.length();
    }

    int read(int change) {
        if (no(change)) {
            return BAD_INDEX;
        }
        Plan p = w.plans.get(change);
        if (faultPosition() != NONE || !p.is("PLANNED")) {
            return NOT_POSSIBLE;
        }
        p.stages.clear();
        for (String s : text.split(";")) {
            if (s.isEmpty()) {
                continue;
            }
            String[] parts = s.split("[:/]");
            int cells = 0;
            for (char t : parts[0].toCharArray()) {
                cells += 1 << t - '0';
            }
            p.stages.add(new Stage(cells, Integer.parseInt(parts[1]), Integer.parseInt(parts[2])));
        }
        return p.stages.size();
    }

    int start(int change) {
        if (no(change)) {
            return BAD_INDEX;
        }
        Plan p = w.plans.get(change);
        if (!p.is("PLANNED") || p.stages.isEmpty()) {
            return NOT_POSSIBLE;
        }
        p.is = "RUNNING";
        return p.stages.size();
    }

    private int put(int change, String state, int event, String... from) {
        if (no(change)) {
            return BAD_INDEX;
        }
        Plan p = w.plans.get(change);
        if (!p.is(from)) {
            return NOT_POSSIBLE;
        }
        p.is = state;
        w.log(change, event, NONE);
        return p.begun();
    }

    int hold(int change) {
        return put(change, "HELD", 6, "RUNNING");
    }

    int resume(int change) {
        return put(change, "RUNNING", 7, "HELD");
    }

    int turnBack(int change) {
        return put(change, "TURNING", 3, "RUNNING", "HELD", "DONE");
    }

    int report(int cell, int bad, int good) {
        if (cell < 0 || cell >= w.cells) {
            return BAD_INDEX;
        }
        if (bad < 0 || bad > 9 || good < 0 || good > 9) {
            return BAD_VALUE;
        }
        int n = 0;
        for (Plan p : w.plans) {
            if (!p.is("RUNNING", "HELD") || p.begun() == 0) {
                continue;
            }
            if (p.inBegunStage(cell)) {
                if (p.a + p.b + bad + good <= 25) {
                    p.a += bad;
                    p.b += good;
                    n++;
                }
            } else if (p.c + p.d + bad + good <= 25) {
                p.c += bad;
                p.d += good;
                n++;
            }
        }
        return n;
    }

    int pass(int hours) {
        if (hours < 1 || hours > 100) {
            return BAD_VALUE;
        }
        w.logged = 0;
        for (int i = 0; i < hours; i++) {
            w.hour();
        }
        return w.logged;
    }

    int time() {
        return w.time;
    }

    int change(int change, int what) {
        if (no(change)) {
            return BAD_INDEX;
        }
        Plan p = w.plans.get(change);
        return switch (what) {
            case 0 -> STATES.indexOf(p.is);
            case 1 -> p.stages.size();
            case 2 -> p.begun();
            case 3 -> p.begun() == 0 ? 0 : w.time - p.beginnings.get(p.begun() - 1);
            case 4 -> w.reason(p);
            case 5 -> p.firsts.stream().mapToInt(f -> 1 << f).sum();
            case 6 -> p.risky ? 1 : 0;
            default -> BAD_VALUE;
        };
    }

    int probes(int change, int what) {
        if (no(change)) {
            return BAD_INDEX;
        }
        Plan p = w.plans.get(change);
        return what == 0 ? p.a : what == 1 ? p.b : what == 2 ? p.c : what == 3 ? p.d : BAD_VALUE;
    }

    long chance(int change, boolean denominator) {
        return no(change) ? BAD_INDEX : chance(w.plans.get(change))[denominator ? 1 : 0].longValueExact();
    }

    int has(int cell) {
        if (cell < 0 || cell >= w.cells) {
            return BAD_INDEX;
        }
        int set = 0;
        for (int i = 0; i < w.plans.size(); i++) {
            set += w.plans.get(i).inBegunStage(cell) ? 1 << i : 0;
        }
        return set;
    }

    int isFrozen(int hour) {
        return hour < 0 || hour > 167 ? BAD_VALUE : w.frozen(hour) ? 1 : 0;
    }

    int forecast(int change) {
        if (no(change)) {
            return BAD_INDEX;
        }
        World try1 = w.copy();
        try1.fair = true;
        int hours = 0;
        while (!try1.plans.get(change).is("DONE", "TURNED")) {
            if (hours == 400) {
                return NONE;
            }
            try1.hour();
            hours++;
        }
        return hours;
    }

    int entries() {
        return w.log.size();
    }

    int entry(int entry, int what) {
        if (entry < 0 || entry >= w.log.size()) {
            return BAD_INDEX;
        }
        Entry e = w.log.get(entry);
        return what == 0 ? e.time : what == 1 ? e.change : what == 2 ? e.event : what == 3 ? e.stage : BAD_VALUE;
    }

    int count(int event, int change) {
        if (event < 1 || event > 7) {
            return BAD_VALUE;
        }
        if (change != -1 && no(change)) {
            return BAD_INDEX;
        }
        return (int) w.log.stream().filter(e -> e.event == event && (change == -1 || e.change == change)).count();
    }

    int save(int slot) {
        if (slot != 0 && slot != 1) {
            return BAD_INDEX;
        }
        kept[slot] = w.copy();
        return w.time;
    }

    int restore(int slot) {
        if (slot != 0 && slot != 1) {
            return BAD_INDEX;
        }
        if (kept[slot] == null) {
            return NOT_POSSIBLE;
        }
        w = kept[slot].copy();
        return w.time;
    }

    long checksum() {
        List<Long> values = new ArrayList<>(List.of((long) time(), (long) changes()));
        for (int i = 0; i < changes(); i++) {
            for (int k = 0; k <= 6; k++) {
                values.add((long) change(i, k));
            }
            for (int k = 0; k <= 3; k++) {
                values.add((long) probes(i, k));
            }
            values.add(chance(i, false));
            values.add(chance(i, true));
        }
        for (int i = 0; i < w.cells; i++) {
            values.add((long) has(i));
        }
        values.add((long) entries());
        for (int i = 0; i < entries(); i++) {
            for (int k = 0; k <= 3; k++) {
                values.add((long) entry(i, k));
            }
        }
        long h = 79;
        for (long v : values) {
            h = 31 * h + v;
        }
        return h;
    }
}
