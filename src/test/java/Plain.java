import java.lang.reflect.Array;
import java.math.BigInteger;
import java.util.ArrayList;
import java.util.Arrays;
import java.util.List;

/**
 * The document a second time, written as differently from HollowSteps as it can be: texts are split
 * anew for each foot, wear is reckoned in BigIntegers, acts are real methods that are overridden, rows
 * are real arrays. Slow, and only for tests.
 */
final class Plain {
    static final int BAD = -1, NOT = -2, FULL = -3, BIG = -4, STATE = -5, VOID = -2000000000;

    private final List<int[]> steps = new ArrayList<>(); // hard, wet, set, rise, turned
    private final List<int[]> tops = new ArrayList<>();
    private final List<int[]> belows = new ArrayList<>();
    private final List<String> laws = new ArrayList<>();
    private final List<int[]> stories = new ArrayList<>(); // first, last, ups, downs, path, shoe, abreast
    private final List<Integer> days = new ArrayList<>();
    private final List<int[]> done = new ArrayList<>(); // step, part, was, became
    private final List<int[]> undone = new ArrayList<>();
    private final List<Wear> wears = new ArrayList<>();
    private final Object[] shelves = new Object[6];
    private String tape = "";

    // ---- texts

    /** -1: the text is a LAW. */
    static int fault(String text) {
        StringBuilder open = new StringBuilder();
        StringBuilder compared = new StringBuilder("n"); // a sign for each level of brackets
        boolean wantsOperand = true;
        boolean asked = false;
        int digits = 0;
        for (int i = 0; i < text.length(); i++) {
            char c = text.charAt(i);
            boolean digit = c >= '0' && c <= '9';
            if (wantsOperand) {
                if (digit || "hwkxdsb".indexOf(c) >= 0) {
                    digits = digit ? 1 : 0;
                    wantsOperand = false;
                    closeSigns(open);
                } else if ("(!-".indexOf(c) >= 0 && open.length() < 6) {
                    open.append(c);
                    if (c == '(') {
                        compared.append('n');
                    }
                } else {
                    return i;
                }
                continue;
            }
            int inner = compared.length() - 1;
            if (digit && digits > 0 && digits < 4) {
                digits++;
                continue;
            }
            digits = 0;
            if (c == ')' && inner > 0) {
                open.setLength(open.length() - 1);
                compared.setLength(inner);
                closeSigns(open);
                continue;
            }
            if ("<=>".indexOf(c) >= 0 && compared.charAt(inner) == 'n') {
                compared.setCharAt(inner, 'y');
            } else if (c == '&' || c == '|') {
                compared.setCharAt(inner, 'n');
            } else if (c == '?' && inner == 0 && !asked) {
                asked = true;
                compared.setCharAt(0, 'n');
            } else if (c == ';' && inner == 0) {
                asked = false;
                compared.setCharAt(0, 'n');
            } else if ("+-*/%".indexOf(c) < 0) {
                return i;
            }
            wantsOperand = true;
        }
        return wantsOperand || compared.length() > 1 ? text.length() : -1;
    }

    private static void closeSigns(StringBuilder open) {
        while (open.length() > 0 && open.charAt(open.length() - 1) != '(') {
            open.setLength(open.length() - 1);
        }
    }

    /** What a text gives for the names h w k x d s b, not yet held within bounds. */
    static int value(String text, int... names) {
        for (String line : text.split(";")) {
            int ask = line.indexOf('?');
            if (ask < 0) {
                return expression(line, names);
            }
            if (expression(line.substring(0, ask), names) != 0) {
                return expression(line.substring(ask + 1), names);
            }
        }
        return 0;
    }

    private static int expression(String e, int[] names) {
        for (String signs : new String[] {"|", "&", "<=>", "+-", "*/%"}) {
            int at = lastJoin(e, signs);
            if (at >= 0) {
                int a = expression(e.substring(0, at), names);
                int b = expression(e.substring(at + 1), names);
                return join(e.charAt(at), a, b);
            }
        }
        char first = e.charAt(0);
        if (first == '!') {
            return expression(e.substring(1), names) == 0 ? 1 : 0;
        }
        if (first == '-') {
            return -expression(e.substring(1), names);
        }
        if (first == '(') {
            return expression(e.substring(1, e.length() - 1), names);
        }
        int name = "hwkxdsb".indexOf(first);
        return name >= 0 ? names[name] : Integer.parseInt(e);
    }

    private static int lastJoin(String e, String signs) {
        int depth = 0;
        for (int i = e.length() - 1; i > 0; i--) {
            char c = e.charAt(i);
            depth += c == ')' ? 1 : c == '(' ? -1 : 0;
            char before = e.charAt(i - 1);
            boolean joins = before == ')' || Character.isLetterOrDigit(before);
            if (depth == 0 && joins && signs.indexOf(c) >= 0) {
                return i;
            }
        }
        return -1;
    }

    private static int join(char sign, int a, int b) {
        boolean left = a != 0;
        boolean right = b != 0;
        switch (sign) {
            case '|': return left | right ? 1 : 0;
            case '&': return left & right ? 1 : 0;
            case '<': return a < b ? 1 : 0;
            case '=': return a == b ? 1 : 0;
            case '>': return a > b ? 1 : 0;
            case '+': return a + b;
            case '-': return a - b;
            case '*': return a * b;
            case '/': return right ? (int) ((long) a / b) : 0;
            default: return right ? (int) ((long) a % b) : 0;
        }
    }

    // ---- steps

    int step(int hw, int year, int rise) {
        if (hw < 10 || hw > 91 || hw % 10 > 1 || year < 0 || year > 2000 || rise < 1 || rise > 99) {
            return BAD;
        }
        if (steps.size() == 40) {
            return FULL;
        }
        steps.add(new int[] {hw / 10, hw % 10, year, rise, 0});
        tops.add(new int[8]);
        belows.add(new int[8]);
        return steps.size() - 1;
    }

    private boolean noStep(int step) {
        return step < 0 || step >= steps.size();
    }

    private boolean noCell(int sc) {
        return sc < 0 || sc % 10 > 7 || noStep(sc / 10);
    }

    private int unlike(int step) {
        return step == 0 ? 0 : Math.abs(steps.get(step)[3] - steps.get(step - 1)[3]);
    }

    int of(int step, int what) {
        if (noStep(step) || what < 0 || what > 17 || what > 5 && what < 10) {
            return BAD;
        }
        int[] told = steps.get(step);
        int[] answers = {told[0], told[1], told[2], told[3], unlike(step), told[4]};
        return what < 10 ? answers[what] : tops.get(step)[what - 10];
    }

    int depth(int sc, int v) {
        if (noCell(sc) || v < 0 || v > 99999) {
            return BAD;
        }
        return change(sc / 10, sc % 10, v);
    }

    int mend(int step, int what, int v) {
        if (noStep(step) || what < 0 || what > 1 || v < 1 || v > (what == 0 ? 9 : 99)) {
            return BAD;
        }
        return change(step, what == 0 ? 100 : 103, v);
    }

    private int set(int step, int part, int v) {
        int[] row = part < 100 ? tops.get(step) : steps.get(step);
        int was = row[part % 100];
        row[part % 100] = v;
        return was;
    }

    private int change(int step, int part, int v) {
        int was = set(step, part, v);
        if (was != v) {
            undone.clear();
            done.add(new int[] {step, part, was, v});
            if (done.size() > 40) {
                done.remove(0);
            }
        }
        return was;
    }

    int undo() {
        if (done.isEmpty()) {
            return STATE;
        }
        int[] last = done.remove(done.size() - 1);
        undone.add(last);
        set(last[0], last[1], last[2]);
        return done.size();
    }

    int redo() {
        if (undone.isEmpty()) {
            return STATE;
        }
        int[] next = undone.remove(undone.size() - 1);
        done.add(next);
        set(next[0], next[1], next[3]);
        return undone.size();
    }

    int depths(int step, int shelf, int i, int n) {
        if (noStep(step) || shelf < 0 || shelf > 5 || n < 1 || n > 8) {
            return BAD;
        }
        Object held = shelves[shelf];
        if (held != null && !(held instanceof int[])) {
            return -12;
        }
        int came = 0;
        try {
            for (; came < n; came++) {
                int v = ((int[]) held)[Math.addExact(i, came)];
                if (v < 0 || v > 99999) {
                    break;
                }
                tops.get(step)[came] = v;
            }
        } catch (NullPointerException | ArithmeticException | IndexOutOfBoundsException ended) {
            return came;
        }
        return came;
    }

    int turn(int step, int year) {
        if (noStep(step) || year > 2000 || year < steps.get(step)[2]) {
            return BAD;
        }
        int[] top = tops.get(step);
        tops.set(step, belows.get(step));
        belows.set(step, top);
        steps.get(step)[2] = year;
        steps.get(step)[4] = 1;
        return Arrays.stream(top).sum();
    }

    int older(int step) {
        if (noStep(step)) {
            return BAD;
        }
        return steps.get(step)[4] == 0 ? STATE : Arrays.stream(belows.get(step)).sum();
    }

    // ---- laws, stories

    int feed(int n, int v) {
        if (n < 1 || n > 4) {
            return BAD;
        }
        if (tape.length() + n > 120) {
            return FULL;
        }
        long rest = v & 0xffffffffL;
        for (int i = 0; i < n; i++) {
            tape += (char) (rest % 256);
            rest /= 256;
        }
        return tape.length();
    }

    int law() {
        if (laws.size() == 4) {
            return FULL;
        }
        int fault = fault(tape);
        if (fault < 0) {
            laws.add(tape);
        }
        tape = "";
        return fault < 0 ? laws.size() - 1 : -100 - fault;
    }

    private boolean noLaw(int law) {
        return law < 0 || law >= laws.size();
    }

    private boolean noStories(int bits) {
        return bits < 0 || bits >= 1 << stories.size();
    }

    private int foot(int law, int step, int k, int far, int down, int shoe, int abreast) {
        int[] told = steps.get(step);
        int v = value(laws.get(law), told[0], told[1], k, far, down, shoe, abreast);
        return v < 0 ? 0 : v > 9999 ? 9999 : v;
    }

    private int taken(int law, int step, int cell, int path, int down, int shoe, int abreast) {
        int sum = 0;
        for (int goer = 0; goer <= abreast; goer++) {
            int at = goer == 0 ? path : 7 - path;
            sum += foot(law, step, unlike(step), Math.abs(cell - at), down, shoe, abreast);
        }
        return sum;
    }

    int takes(int law, int sc, int pd) {
        if (noLaw(law) || noCell(sc) || pd < 0 || pd > 7191 || pd / 100 % 10 > 1 || pd % 10 > 1) {
            return BAD;
        }
        return taken(law, sc / 10, sc % 10, pd / 1000, pd / 100 % 10, pd / 10 % 10, pd % 10);
    }

    int story(int ft, int ud, int ps) {
        if (ft < 0 || ft / 10000 > 2000 || ft % 10000 > 2000 || ft / 10000 > ft % 10000 || ud < 0
                || ud > 999999 || ps < 0 || ps > 791 || ps % 10 > 1) {
            return BAD;
        }
        if (stories.size() == 10) {
            return FULL;
        }
        stories.add(new int[] {ft / 10000, ft % 10000, ud / 1000, ud % 1000, ps / 100, ps / 10 % 10, ps % 10});
        return stories.size() - 1;
    }

    private BigInteger wornBy(int law, int step, int cell, int story) {
        int[] s = stories.get(story);
        int years = 0;
        for (int year = s[0]; year < s[1]; year++) {
            years += year >= steps.get(step)[2] ? 1 : 0;
        }
        BigInteger up = BigInteger.valueOf(taken(law, step, cell, s[4], 0, s[5], s[6]));
        BigInteger down = BigInteger.valueOf(taken(law, step, cell, s[4], 1, s[5], s[6]));
        BigInteger daily = up.multiply(BigInteger.valueOf(s[2])).add(down.multiply(BigInteger.valueOf(s[3])));
        return daily.multiply(BigInteger.valueOf(years * 300L)).divide(BigInteger.valueOf(1000));
    }

    private BigInteger wornBySet(int law, int step, int cell, int bits) {
        BigInteger sum = BigInteger.ZERO;
        for (int s = 0; s < stories.size(); s++) {
            if ((bits & 1 << s) != 0) {
                sum = sum.add(wornBy(law, step, cell, s));
            }
        }
        return sum;
    }

    private static int told(BigInteger v) {
        return v.min(BigInteger.valueOf(2000000000)).intValueExact();
    }

    int worn(int law, int sc, int bits) {
        return noLaw(law) || noCell(sc) || noStories(bits) ? BAD : told(wornBySet(law, sc / 10, sc % 10, bits));
    }

    int led(int law, int sc) {
        if (noLaw(law) || noCell(sc)) {
            return BAD;
        }
        int led = NOT;
        for (int s = stories.size() - 1; s >= 0; s--) {
            BigInteger worn = wornBy(law, sc / 10, sc % 10, s);
            if (worn.signum() > 0 && (led == NOT || worn.compareTo(wornBy(law, sc / 10, sc % 10, led)) >= 0)) {
                led = s;
            }
        }
        return led;
    }

    int share(int law, int step, int story) {
        if (noLaw(law) || noStep(step) || story < 0 || story >= stories.size()) {
            return BAD;
        }
        BigInteger all = BigInteger.ZERO;
        BigInteger own = BigInteger.ZERO;
        for (int cell = 0; cell < 8; cell++) {
            for (int s = 0; s < stories.size(); s++) {
                BigInteger worn = wornBy(law, step, cell, s);
                all = all.add(worn);
                own = s == story ? own.add(worn) : own;
            }
        }
        return all.signum() == 0 ? NOT : own.multiply(BigInteger.valueOf(1000)).divide(all).intValueExact();
    }

    // ---- shapes

    int shape(int step, int what) {
        if (noStep(step) || what < 0 || what > 2) {
            return VOID;
        }
        int[] m = tops.get(step);
        if (what == 2) {
            return m[4] + m[5] + m[6] + m[7] - m[0] - m[1] - m[2] - m[3];
        }
        if (what == 1) {
            return deepestCell(m);
        }
        List<Integer> rows = new ArrayList<>(List.of(-1));
        for (int v : m) {
            if (rows.get(rows.size() - 1) != v) {
                rows.add(v);
            }
        }
        rows.add(-1);
        int hollows = 0;
        for (int i = 1; i < rows.size() - 1; i++) {
            hollows += rows.get(i) > rows.get(i - 1) && rows.get(i) > rows.get(i + 1) ? 1 : 0;
        }
        return hollows;
    }

    private static int deepestCell(int[] m) {
        int deepest = 7;
        for (int c = 7; c >= 0; c--) {
            deepest = m[c] >= m[deepest] ? c : deepest;
        }
        return deepest;
    }

    private static int deepest(int[] m) {
        return Arrays.stream(m).max().getAsInt();
    }

    int rail(int step, int t, int what) {
        if (noStep(step) || t < 0 || t > 99999 || what < 0 || what > 1) {
            return BAD;
        }
        StringBuilder low = new StringBuilder();
        for (int v : tops.get(step)) {
            low.append(v < t ? 'l' : '.');
        }
        int first = (low + ".").indexOf(".");
        int last = (low.reverse() + ".").indexOf(".");
        if (first + last == 0) {
            return NOT;
        }
        return what == 0 ? Math.max(first, last) : last > first ? 1 : 0;
    }

    // ---- feet, shares

    int feet(int law, int sc, int pss, int what) {
        if (noLaw(law) || noCell(sc) || pss < 0 || pss > 799 || pss % 10 < pss / 10 % 10 || what < 0 || what > 1) {
            return BAD;
        }
        List<Integer> answers = new ArrayList<>();
        for (int shoe = pss / 10 % 10; shoe <= pss % 10; shoe++) {
            int up = taken(law, sc / 10, sc % 10, pss / 100, 0, shoe, 0);
            int down = taken(law, sc / 10, sc % 10, pss / 100, 1, shoe, 0);
            int mean = (up + down) / 2;
            if (mean == 0) {
                return NOT;
            }
            long units = tops.get(sc / 10)[sc % 10] * 1000L;
            answers.add((int) (what == 0 ? units / mean : units / mean + (units % mean > 0 ? 1 : 0)));
        }
        return answers.stream().reduce(what == 0 ? Math::min : Math::max).get();
    }

    private int[] split(int law, int step, int ps) {
        int[] best = {0, 0, Integer.MAX_VALUE};
        int[] up = new int[8];
        int[] down = new int[8];
        for (int c = 0; c < 8; c++) {
            up[c] = taken(law, step, c, ps / 10, 0, ps % 10, 0);
            down[c] = taken(law, step, c, ps / 10, 1, ps % 10, 0);
        }
        for (int a = 60; a >= 0; a--) {
            for (int b = 60; b >= 0; b--) {
                int sum = 0;
                for (int c = 0; c < 8; c++) {
                    sum += Math.abs(tops.get(step)[c] - a * up[c] - b * down[c]);
                }
                if (sum <= best[2]) {
                    best = new int[] {a, b, sum};
                }
            }
        }
        return best;
    }

    int shares(int law, int step, int ps, int what) {
        if (noLaw(law) || noStep(step) || ps < 0 || ps > 79 || what < 0 || what > 2) {
            return BAD;
        }
        return split(law, step, ps)[what];
    }

    int other(int law, int ps) {
        if (noLaw(law) || ps < 0 || ps > 79) {
            return BAD;
        }
        List<Integer> answers = new ArrayList<>();
        for (int s = 0; s < steps.size(); s++) {
            if (deepest(tops.get(s)) > 0) {
                int[] found = split(law, s, ps);
                answers.add(found[0] - found[1]);
            }
        }
        return answers.isEmpty() ? NOT : answers.stream().mapToInt(v -> v).sum();
    }

    int renewed(int ss, int year, int what) {
        if (ss < 0 || noStep(ss / 100) || noStep(ss % 100) || year < 0 || year > 2000 || what < 0 || what > 1) {
            return BAD;
        }
        int years = year - steps.get(ss / 100)[2];
        int yearly = years <= 0 ? 0 : deepest(tops.get(ss / 100)) * 1000 / years;
        if (yearly == 0) {
            return NOT;
        }
        return what == 0 ? yearly : year - deepest(tops.get(ss % 100)) * 1000 / yearly;
    }

    private int fitting(int law, int bits, int slack, int what) {
        BigInteger[][] worn = new BigInteger[stories.size()][10 * steps.size()];
        for (int s = 0; s < stories.size(); s++) {
            for (int sc = 0; sc < 10 * steps.size(); sc++) {
                boolean wanted = (bits & 1 << s) != 0 && !noCell(sc) && tops.get(sc / 10)[sc % 10] > 0;
                worn[s][sc] = wanted ? wornBy(law, sc / 10, sc % 10, s) : BigInteger.ZERO;
            }
        }
        List<Integer> sets = new ArrayList<>();
        BigInteger least = null;
        int best = 0;
        boolean measured = false;
        for (int set = 0; set <= bits; set++) {
            if ((set & ~bits) != 0) {
                continue;
            }
            boolean fits = true;
            BigInteger sum = BigInteger.ZERO;
            for (int sc = 0; sc < 10 * steps.size(); sc++) {
                if (noCell(sc) || tops.get(sc / 10)[sc % 10] == 0) {
                    continue;
                }
                measured = true;
                BigInteger measure = BigInteger.valueOf(tops.get(sc / 10)[sc % 10]);
                BigInteger off = measure.negate();
                for (int s = 0; s < stories.size(); s++) {
                    off = (set & 1 << s) != 0 ? off.add(worn[s][sc]) : off;
                }
                off = off.abs();
                fits &= off.compareTo(BigInteger.valueOf(slack)) <= 0;
                sum = sum.add(off);
            }
            if (fits) {
                sets.add(set);
            }
            if (least == null || sum.compareTo(least) < 0) {
                least = sum;
                best = set;
            }
        }
        if (!measured) {
            return NOT;
        }
        int[] answers = {sets.size(), sets.isEmpty() ? NOT : sets.get(0), best, told(least)};
        return answers[what];
    }

    int fits(int law, int bits, int slack, int what) {
        if (noLaw(law) || noStories(bits) || slack < 0 || slack > 99999 || what < 0 || what > 1) {
            return BAD;
        }
        return Integer.bitCount(bits) > 8 ? BIG : fitting(law, bits, slack, what);
    }

    int best(int law, int bits, int what) {
        if (noLaw(law) || noStories(bits) || what < 0 || what > 1) {
            return BAD;
        }
        return Integer.bitCount(bits) > 8 ? BIG : fitting(law, bits, 0, 2 + what);
    }

    int next(int law, int one, int other) {
        if (noLaw(law) || noStories(one) || noStories(other)) {
            return BAD;
        }
        int next = NOT;
        BigInteger most = BigInteger.ZERO;
        for (int s = 0; s < steps.size(); s++) {
            for (int c = 0; c < 8 && deepest(tops.get(s)) == 0; c++) {
                BigInteger apart = wornBySet(law, s, c, one).subtract(wornBySet(law, s, c, other)).abs();
                if (apart.compareTo(most) > 0) {
                    most = apart;
                    next = s;
                }
            }
        }
        return next;
    }

    int slipped(int law, int path, int what) {
        if (noLaw(law) || path < 0 || path > 7 || what < 0 || what > 1) {
            return BAD;
        }
        int most = -1;
        for (int s = steps.size() - 1; s >= 0; s--) {
            if (unlike(s) > 0 && (most < 0 || unlike(s) >= unlike(most))) {
                most = s;
            }
        }
        if (most < 0) {
            return NOT;
        }
        int t = foot(law, most, unlike(most), 0, 1, 0, 0);
        int even = foot(law, most, 0, 0, 1, 0, 0);
        return what == 0 ? most : even == 0 ? 0 : (int) ((t - even) * 1000L / even);
    }

    // ---- the gate

    int day(int v) {
        if (v < 0 || v > 9999) {
            return BAD;
        }
        if (days.size() == 30) {
            return FULL;
        }
        days.add(v);
        return days.size();
    }

    int gate(int what) {
        if (what < 0 || what > 1) {
            return BAD;
        }
        if (days.isEmpty()) {
            return STATE;
        }
        int[] sorted = days.stream().mapToInt(v -> v).sorted().toArray();
        return what == 0 ? Arrays.stream(sorted).sum() / sorted.length : sorted[(sorted.length - 1) / 2];
    }

    int walk(int n, int seed) {
        if (n < 1 || n > 100) {
            return BAD;
        }
        if (days.isEmpty()) {
            return STATE;
        }
        int sum = 0;
        int z = seed;
        for (int i = 0; i < n; i++) {
            z = (int) (z * 1103515245L + 12345L);
            sum += days.get((int) ((z & 0xffffffffL) / 256 % days.size()));
        }
        return sum;
    }

    // ---- acts, shelves

    private static final List<Integer> ran = new ArrayList<>();
    private List<Integer> latest = new ArrayList<>();

    private interface Lies {
        int number();

        default int lies(int x) {
            ran.add(1);
            return x + number();
        }
    }

    private interface Tells {
        int wears(int x);

        int counts(int x);

        default int tells(int x) {
            ran.add(2);
            return wears(x) - counts(1);
        }
    }

    private static class Wear implements Lies, Tells {
        int n;

        public int number() {
            return n;
        }

        public int wears(int x) {
            ran.add(10);
            return lies(x) * 2;
        }

        public int counts(int x) {
            ran.add(11);
            return x ^ n;
        }
    }

    private static class Up extends Wear {
        @Override public int lies(int x) {
            ran.add(20);
            return super.lies(x) + 3;
        }
    }

    private static class Down extends Wear {
        @Override public int wears(int x) {
            ran.add(30);
            return -super.wears(x);
        }
    }

    private static class Abreast extends Up {
        @Override public int counts(int x) {
            ran.add(40);
            return super.counts(x) * 2;
        }

        @Override public int lies(int x) {
            ran.add(41);
            return super.lies(x + 1);
        }
    }

    private static class Stumbled extends Down {
        @Override public int tells(int x) {
            ran.add(50);
            return super.tells(x) ^ 5;
        }
    }

    private static class Wet extends Wear {
        @Override public int counts(int x) {
            ran.add(60);
            return super.counts(x) - lies(2);
        }
    }

    private static class Turned extends Wear {
        @Override public int wears(int x) {
            ran.add(70);
            return super.wears(x) + counts(2);
        }
    }

    private static class New extends Turned {
        @Override public int lies(int x) {
            ran.add(80);
            return super.lies(x) * 3;
        }

        @Override public int tells(int x) {
            ran.add(81);
            return super.tells(x) - 1;
        }
    }

    private static final List<Class<? extends Wear>> KINDS = List.of(Wear.class, Up.class, Down.class,
            Abreast.class, Stumbled.class, Wet.class, Turned.class, New.class);

    int body(int kind) {
        if (kind < 0 || kind > 7) {
            return BAD;
        }
        if (wears.size() == 50) {
            return FULL;
        }
        Wear[] all = {new Wear(), new Up(), new Down(), new Abreast(), new Stumbled(), new Wet(), new Turned(),
            new New()};
        all[kind].n = wears.size();
        wears.add(all[kind]);
        return wears.size() - 1;
    }

    int act(int body, int act, int x) {
        ran.clear();
        int answer = 0;
        if (body >= 0 && body < wears.size()) {
            Wear w = wears.get(body);
            switch (act) {
                case 0: answer = w.lies(x); break;
                case 1: answer = w.wears(x); break;
                case 2: answer = w.counts(x); break;
                case 3: answer = w.tells(x); break;
                default: break;
            }
        }
        latest = new ArrayList<>(ran);
        return answer;
    }

    int trace(int i) {
        return i < 0 || i >= latest.size() || i >= 24 ? BAD : latest.get(i);
    }

    int keep(int shelf, int body) {
        if (shelf < 0 || shelf > 5 || body < -1 || body >= wears.size()) {
            return BAD;
        }
        shelves[shelf] = body < 0 ? null : wears.get(body);
        return 1;
    }

    int row(int shelf, int sort, int n) {
        Class<?>[] sorts = {byte.class, short.class, int.class, long.class, boolean.class};
        if (shelf < 0 || shelf > 5 || sort < 0 || sort > 4 || n > 60) {
            return BAD;
        }
        try {
            shelves[shelf] = Array.newInstance(sorts[sort], n);
            return 1;
        } catch (NegativeArraySizeException refused) {
            return -14;
        }
    }

    int put(int shelf, int i, long v) {
        if (shelf < 0 || shelf > 5) {
            return BAD;
        }
        try {
            Object held = shelves[shelf];
            if (held instanceof byte[]) {
                ((byte[]) held)[i] = (byte) v;
            } else if (held instanceof short[]) {
                ((short[]) held)[i] = (short) v;
            } else if (held instanceof int[]) {
                ((int[]) held)[i] = (int) v;
            } else if (held instanceof boolean[]) {
                ((boolean[]) held)[i] = v != 0;
            } else {
                ((long[]) held)[i] = v;
            }
            return 1;
        } catch (RuntimeException refused) {
            return refusal(refused);
        }
    }

    private static int refusal(RuntimeException refused) {
        if (refused instanceof NullPointerException) {
            return -11;
        }
        return refused instanceof IndexOutOfBoundsException ? -13 : -12;
    }

    long element(int shelf, int i) {
        try {
            Object v = Array.get(shelves[shelf], i);
            return v instanceof Boolean ? ((Boolean) v ? 1 : 0) : ((Number) v).longValue();
        } catch (RuntimeException refused) {
            return Long.MIN_VALUE;
        }
    }

    int shift(int shelf, int i, int other, int j, int n) {
        if (shelf < 0 || shelf > 5 || other < 0 || other > 5) {
            return BAD;
        }
        try {
            System.arraycopy(shelves[shelf], i, shelves[other], j, n);
            return n;
        } catch (RuntimeException refused) {
            return refusal(refused);
        }
    }

    int taken(int shelf, int k) {
        if (shelf < 0 || shelf > 5 || k < 0 || k > 7) {
            return BAD;
        }
        if (shelves[shelf] == null) {
            return -11;
        }
        return KINDS.get(k).isInstance(shelves[shelf]) ? KINDS.indexOf(shelves[shelf].getClass()) : -12;
    }

    int count(int what) {
        int[] counts = {steps.size(), laws.size(), stories.size(), tape.length(), days.size(), done.size(),
            wears.size(), latest.size()};
        return what < 0 || what > 7 ? BAD : counts[what];
    }
}
