import java.math.BigInteger;
import java.util.ArrayList;
import java.util.Arrays;
import java.util.List;
import java.util.NoSuchElementException;
import java.util.Random;

/**
 * Long runs of made-up calls, each answered by FanCones and by a slow model that follows the document's words by
 * other ways than the class (fractions, tries one by one, angles). The calls are the same at every run of the test.
 */
public final class FanConesPlain {
    private static final int RUNS = 1600;
    private static final int CALLS = 512;
    private static final int KINDS = 35;
    private static final long THROWN = Long.MIN_VALUE + 77;

    private static int wrong = 0;
    private static int used = 0;
    private static final int[] asked = new int[KINDS];
    private static final int[] answered = new int[KINDS];

    public static void main(String[] args) {
        for (int run = 0; run < RUNS && wrong < 20; run++) {
            oneRun(run);
        }
        for (int kind = 0; kind < KINDS; kind++) {
            if (asked[kind] == 0 || answered[kind] == 0) {
                wrong++;
                System.out.println("call kind " + kind + " was never answered without a refusal");
            }
        }
        System.out.println(wrong == 0 ? "the plain model agrees" : wrong + " answers differ from the plain model");
        if (wrong != 0) {
            System.exit(1);
        }
    }

    private static void oneRun(int run) {
        Random random = new Random(1000L + run);
        FanCones real = new FanCones();
        Model model = new Model();
        List<String> told = new ArrayList<>();
        used = 0;
        boolean goesOn = true;
        while (goesOn) {
            if (model.rays() == 0 || random.nextInt(run % 3 == 0 ? 20 : 120) == 0) {
                goesOn = feedText(random, real, model, told, run);
            }
            int kind = pick(random, run);
            long[] a = arguments(random, model, kind);
            told.add(kind + Arrays.toString(a));
            goesOn = goesOn && compare(real, model, kind, a, told, run);
        }
    }

    /** Some runs are mostly acts; some of these let rays and numbers grow up to their bounds. */
    private static int pick(Random random, int run) {
        if (run % 2 == 0 && random.nextInt(3) == 0) {
            int[] acts = {23, 24, 25, 25, 25, 26, 27, 27, 27, 28, 29, 30, 30, 30, 31, 32};
            int[] growing = {24, 24, 24, 24, 25, 26, 26, 26, 26, 26, 26, 29, 29, 22, 27, 31};
            return run % 4 == 0 ? acts[random.nextInt(acts.length)] : growing[random.nextInt(growing.length)];
        }
        int kind = random.nextInt(KINDS);
        boolean shrinks = kind == 23 || kind == 30;
        return run % 4 == 2 && shrinks && random.nextInt(20) > 0 ? 26 : kind;
    }

    private static boolean feedText(Random random, FanCones real, Model model, List<String> told, int run) {
        String text = random.nextInt(4) == 0 ? noisy(random, text(random, false)) : text(random, random.nextInt(3) > 0);
        if (random.nextInt(10) == 0) {
            text = noisy(random, text);
        }
        StringBuilder padded = new StringBuilder(text);
        while (padded.length() % 20 != 0) {
            padded.append(' ');
        }
        if (random.nextInt(3) > 0) {
            // An old rest on the tape would only make faults.
            long[] all = {model.size()};
            told.add("1" + Arrays.toString(all));
            if (model.size() > 0 && !compare(real, model, 1, all, told, run)) {
                return false;
            }
        }
        for (int i = 0; i < padded.length(); i += 20) {
            long[] a = new long[5];
            for (int k = 0; k < 20; k++) {
                a[k / 4] = (int) (a[k / 4] << 8 | padded.charAt(i + k) & 255);
            }
            told.add("0" + Arrays.toString(a));
            if (!compare(real, model, 0, a, told, run)) {
                return false;
            }
        }
        long[] n = {random.nextInt(12) == 0 ? random.nextInt(padded.length() + 3) - 1 : text.length()};
        told.add("1" + Arrays.toString(n) + " of " + text);
        if (!compare(real, model, 1, n, told, run)) {
            return false;
        }
        long[] none = {};
        for (int kind : new int[] {2, 3, 33, 34}) {
            told.add(kind + "[]");
            if (!compare(real, model, kind, none, told, run)) {
                return false;
            }
        }
        return true;
    }

    private static boolean compare(FanCones real, Model model, int kind, long[] a, List<String> told, int run) {
        if (used + 3 > CALLS) {
            return false;
        }
        asked[kind]++;
        used++;
        long want = model.call(kind, a);
        long got;
        try {
            got = call(real, kind, a);
        } catch (RuntimeException e) {
            got = THROWN + 1;
            System.out.println("run " + run + ": call " + kind + " threw " + e);
        }
        long wantTrouble = model.trouble;
        if (wantTrouble == 0) {
            answered[kind]++;
        }
        // Asked behind all refusals, and now and then: these are calls, too.
        boolean isAsked = wantTrouble != 0 || used % 4 == 0;
        used += isAsked ? 2 : 0;
        long gotTrouble = isAsked ? real.trouble() : wantTrouble;
        if (got == want && gotTrouble == wantTrouble && (!isAsked || real.where() == model.where())) {
            return true;
        }
        wrong++;
        System.out.println("run " + run + ": call " + told.get(told.size() - 1) + " answered " + got + " (trouble "
                + gotTrouble + ", where " + real.where() + "), due is " + want + " (" + wantTrouble + ", "
                + model.where() + "); ahead of it " + told.subList(Math.max(0, told.size() - 30), told.size() - 1));
        return false;
    }

    // ---- made-up texts and arguments

    private static String text(Random random, boolean good) {
        int most = good ? 9 : 14;
        int rays = good ? 3 + random.nextInt(6) : random.nextInt(most);
        int span = random.nextInt(5) == 0 ? 9 : 1 + random.nextInt(random.nextInt(3) == 0 ? 9 : 4);
        List<String> lines = new ArrayList<>();
        List<String> names = new ArrayList<>();
        List<int[]> had = new ArrayList<>();
        if (good) {
            int[][] frame = {{1, 0}, {0, 1}, {-1, -1}, {-1, 0}, {0, -1}};
            int start = random.nextInt(3);
            for (int i = 0; i < (start == 0 ? 3 : start == 1 ? 0 : 5); i++) {
                if (start == 2 && i == 2) {
                    continue;
                }
                had.add(frame[i]);
            }
        }
        for (int tries = 0; had.size() < rays && tries < 200; tries++) {
            int[] at = {random.nextInt(2 * span + 1) - span, random.nextInt(2 * span + 1) - span};
            boolean fine = BigInteger.valueOf(at[0]).gcd(BigInteger.valueOf(at[1])).intValue() == 1;
            for (int[] old : had) {
                fine &= old[0] != at[0] || old[1] != at[1];
            }
            if (fine || !good && random.nextInt(40) == 0) {
                had.add(at);
            }
        }
        java.util.Collections.shuffle(had, random);
        int loads = good ? 1 + random.nextInt(6) : random.nextInt(8);
        int told = 0;
        for (int[] at : had) {
            String name = name(random, names, good);
            lines.add("ray " + name + " at " + number(random, at[0]) + " " + number(random, at[1]));
            names.add(name);
            if (told < loads && random.nextInt(6) == 0) {
                lines.add(load(random, names, good));
                told++;
            }
        }
        for (; told < loads; told++) {
            lines.add(load(random, names, good));
        }
        String text = String.join(random.nextBoolean() ? ";" : " ; ", lines);
        return text.length() > 480 ? text.substring(0, text.lastIndexOf(';', 480)).trim() : text;
    }

    private static String name(Random random, List<String> names, boolean good) {
        for (int tries = 0; ; tries++) {
            StringBuilder b = new StringBuilder();
            int length = 1 + random.nextInt(random.nextInt(4) == 0 ? good ? 6 : 7 : 2);
            for (int i = 0; i < length; i++) {
                b.append((char) ('a' + random.nextInt(26)));
            }
            String name = b.toString();
            boolean isTold = names.contains(name) || names.contains("!" + name);
            if (!isTold && !name.equals("at") && !name.equals("on") || !good && random.nextInt(10) == 0) {
                return name;
            }
        }
    }

    private static String number(Random random, int v) {
        String digits = Math.abs(v) < 10 && random.nextInt(12) == 0 ? "0" + Math.abs(v) : "" + Math.abs(v);
        boolean minus = v < 0 || v == 0 && random.nextInt(8) == 0;
        return (minus ? random.nextInt(10) == 0 ? "- " : "-" : "") + digits;
    }

    private static String load(Random random, List<String> names, boolean good) {
        String name = name(random, names, good);
        StringBuilder b = new StringBuilder("load " + name);
        List<String> rays = new ArrayList<>();
        for (String known : names) {
            if (!known.startsWith("!")) {
                rays.add(known);
            }
        }
        names.add("!" + name);
        java.util.Collections.shuffle(rays, random);
        int parts = rays.isEmpty() ? 1 : 1 + random.nextInt(Math.min(rays.size(), 6));
        int most = random.nextInt(3) == 0 ? 20 : 4;
        for (int i = 0; i < parts; i++) {
            String ray = rays.isEmpty() || !good && random.nextInt(30) == 0 ? "zz" : rays.get(i);
            int v = random.nextInt(most + most / 2 + 1) - most / 2;
            b.append(i > 0 ? "," : "").append(' ').append(number(random, good ? Math.min(v, 20) : v));
            b.append(" on ").append(ray);
        }
        return b.toString();
    }

    private static String noisy(Random random, String text) {
        String signs = "abcz019;,-  A{`/:\u0000\u00ff\t";
        StringBuilder b = new StringBuilder(text);
        int changes = 1 + random.nextInt(2);
        for (int i = 0; i < changes && b.length() > 0; i++) {
            int at = random.nextInt(b.length());
            switch (random.nextInt(4)) {
                case 0:
                    b.deleteCharAt(at);
                    break;
                case 1:
                    b.setCharAt(at, signs.charAt(random.nextInt(signs.length())));
                    break;
                case 2:
                    if (b.length() < 490) {
                        b.insert(at, signs.charAt(random.nextInt(signs.length())));
                    }
                    break;
                default:
                    if (b.length() > 20) {
                        String[] tokens = b.toString().split(" ");
                        int k = random.nextInt(tokens.length);
                        tokens[k] = tokens[random.nextInt(tokens.length)];
                        String joined = String.join(" ", tokens);
                        b = new StringBuilder(joined.length() > 490 ? joined.substring(0, 490) : joined);
                    }
                    break;
            }
        }
        return b.toString();
    }

    private static long[] arguments(Random random, Model model, int kind) {
        int d = near(random, model.loads());
        int e = near(random, model.loads());
        int i = near(random, model.rays());
        int j = near(random, model.rays());
        switch (kind) {
            case 0:
                return new long[] {random.nextInt(), random.nextInt(), 538976288, 1918990624, random.nextInt()};
            case 1: return new long[] {random.nextInt(40) == 0 ? random.nextInt(500) : wild(random)};
            case 4: return new long[] {near(random, 8)};
            case 6: return new long[] {i, near(random, 5)};
            case 7: return new long[] {i, random.nextInt(3) == 0 ? near(random, 30) : near(random, 3)};
            case 8: return new long[] {plane(random), plane(random)};
            case 9: return new long[] {d, i};
            case 10: return new long[] {d, plane(random), plane(random), near(random, 2)};
            case 11: return new long[] {d, i, near(random, 3)};
            case 12: case 13: return new long[] {d};
            case 14: case 15: return new long[] {d, e};
            case 16: return new long[] {d, i};
            case 17: return new long[] {i, random.nextBoolean() ? j : near(random, model.rays())};
            case 18: case 19: return new long[] {d, near(random, 5)};
            case 20: {
                int k = near(random, 5);
                long many = model.many(d, k);
                long at = random.nextInt(20) == 0 ? wild(random)
                        : many == 0 ? 0 : (long) (random.nextDouble() * (many + 1)) - (random.nextInt(9) == 0 ? 1 : 0);
                return new long[] {d, k, at, near(random, 2)};
            }
            case 21: {
                long many = model.many(d, 1 + random.nextInt(4));
                return new long[] {d, random.nextInt(20) == 0 ? Long.MAX_VALUE : many + random.nextInt(3) - 1};
            }
            case 22: return new long[] {d, i, near(random, 43) - 21};
            case 23: return new long[] {d, near(random, 43) - 21};
            case 24: return new long[] {d, e, random.nextInt(20) == 0 ? wild(random) : random.nextInt(9) - 4};
            case 25: return new long[] {d, near(random, 43) - 21, near(random, 43) - 21};
            case 26: case 27: case 29: return new long[] {i};
            case 32: return new long[] {d, near(random, 7)};
            default: return new long[] {};
        }
    }

    private static int near(Random random, int count) {
        int way = random.nextInt(40);
        return way == 0 ? wild(random) : way == 1 ? -1 : way == 2 ? count : random.nextInt(Math.max(1, count));
    }

    private static int wild(Random random) {
        int[] ends = {Integer.MIN_VALUE, Integer.MAX_VALUE, -1, Integer.MIN_VALUE + 1, 1 << 20, -(1 << 20)};
        return ends[random.nextInt(ends.length)];
    }

    private static int plane(Random random) {
        int way = random.nextInt(30);
        return way == 0 ? wild(random) : way == 1 ? 61 : way == 2 ? -61 : way < 10 ? random.nextInt(121) - 60
                : random.nextInt(7) - 3;
    }

    private static long call(FanCones x, int kind, long[] a) {
        int p = a.length > 0 ? (int) a[0] : 0;
        int q = a.length > 1 ? (int) a[1] : 0;
        int r = a.length > 2 ? (int) a[2] : 0;
        int s = a.length > 3 ? (int) a[3] : 0;
        switch (kind) {
            case 0: return x.feed(p, q, r, s, (int) a[4]);
            case 1: return x.fan(p);
            case 2: return x.fault();
            case 3: return x.where();
            case 4: return x.about(p);
            case 5: return x.measure();
            case 6: return x.ray(p, q);
            case 7: return x.chain(p, q);
            case 8: return x.cone(p, q);
            case 9: return x.load(p, q);
            case 10: return x.function(p, q, r, s);
            case 11: return x.piece(p, q, r);
            case 12: return x.broken(p);
            case 13: return x.bent(p);
            case 14: return x.alike(p, q);
            case 15: return x.meets(p, q);
            case 16: return x.touches(p, q);
            case 17: return x.rays(p, q);
            case 18: return x.points(p, q);
            case 19: return x.inner(p, q);
            case 20: return x.point(p, q, a[2], s);
            case 21: return x.needs(p, a[1]);
            case 22: return x.set(p, q, r);
            case 23: return x.fill(p, q) ? 1 : 0;
            case 24: return x.adds(p, q, r) ? 1 : 0;
            case 25: return x.shifts(p, q, r) ? 1 : 0;
            case 26: return x.star(p);
            case 27: return x.cut(p);
            case 28: return x.cutAll();
            case 29: return x.drop(p);
            case 30: return x.lean();
            case 31: return x.undo();
            case 32:
                try {
                    return x.letter(p, q);
                } catch (NoSuchElementException e) {
                    return THROWN;
                }
            case 33: return x.size();
            default: return x.trouble();
        }
    }

    // ---- the model

    private static final class Fraction {
        final BigInteger above;
        final BigInteger below;

        Fraction(BigInteger a, BigInteger b) {
            BigInteger g = a.gcd(b).multiply(BigInteger.valueOf(b.signum()));
            above = a.divide(g);
            below = b.divide(g);
        }

        static Fraction of(long v) {
            return new Fraction(BigInteger.valueOf(v), BigInteger.ONE);
        }

        Fraction plus(Fraction o) {
            return new Fraction(above.multiply(o.below).add(o.above.multiply(below)), below.multiply(o.below));
        }

        Fraction times(Fraction o) {
            return new Fraction(above.multiply(o.above), below.multiply(o.below));
        }

        Fraction by(Fraction o) {
            return new Fraction(above.multiply(o.below), below.multiply(o.above));
        }

        Fraction minus(Fraction o) {
            return plus(o.times(of(-1)));
        }

        int sign() {
            return above.signum();
        }

        boolean whole() {
            return below.equals(BigInteger.ONE);
        }

        long down() {
            BigInteger[] parts = above.divideAndRemainder(below);
            return parts[0].longValueExact() - (parts[1].signum() < 0 ? 1 : 0);
        }

        long exact() {
            if (!whole()) {
                throw new IllegalStateException("a whole number was promised");
            }
            return above.longValueExact();
        }
    }

    private static final class Ray {
        final int x;
        final int y;
        final int[] numbers;

        Ray(int x, int y, int[] numbers) {
            this.x = x;
            this.y = y;
            this.numbers = numbers;
        }

        double angle() {
            double angle = Math.atan2(y, x);
            return angle < 0 ? angle + 2 * Math.PI : angle;
        }

        Ray with(int d, int v) {
            int[] changed = numbers.clone();
            changed[d] = v;
            return new Ray(x, y, changed);
        }
    }

    private static final class Refused extends RuntimeException {
        private static final long serialVersionUID = 1L;
        final int number;

        Refused(int number) {
            super(null, null, false, false);
            this.number = number;
        }
    }

    private static final class Model {
        private final StringBuilder tape = new StringBuilder();
        private List<Ray> rays = new ArrayList<>();
        private List<String> names = new ArrayList<>();
        private final List<List<Ray>> past = new ArrayList<>();
        private int fault = 0;
        private int place = 0;
        int trouble = 0;

        int rays() {
            return rays.size();
        }

        int loads() {
            return names.size();
        }

        int size() {
            return tape.length();
        }

        int where() {
            return trouble == 4 ? place : -1;
        }

        long many(int d, int k) {
            return d >= 0 && d < loads() && k >= 0 && k <= 4 ? count(d, k, 0, null) : 0;
        }

        long call(int kind, long[] a) {
            if (kind == 0 || kind == 2 || kind == 3 || kind >= 32) {
                return told(kind, a);
            }
            try {
                long answer = refusable(kind, a);
                trouble = 0;
                return answer;
            } catch (Refused e) {
                trouble = e.number;
            }
            if (kind >= 23 && kind <= 25) {
                return 0;
            }
            boolean wide = kind == 6 || kind >= 9 && kind <= 11 || kind >= 15 && kind <= 20 || kind == 22;
            return wide ? Long.MIN_VALUE : -1;
        }

        private long told(int kind, long[] a) {
            switch (kind) {
                case 0:
                    if (tape.length() > 480) {
                        return -1;
                    }
                    for (int i = 0; i < 20; i++) {
                        tape.append((char) ((int) a[i / 4] >> (24 - i % 4 * 8) & 255));
                    }
                    return tape.length();
                case 2: return fault;
                case 3: return where();
                case 32:
                    if (a[0] < 0 || a[0] >= loads() || a[1] < 0 || a[1] >= names.get((int) a[0]).length()) {
                        return THROWN;
                    }
                    return names.get((int) a[0]).charAt((int) a[1]) - 'a';
                case 33: return tape.length();
                default: return trouble;
            }
        }

        private static void refuseIf(boolean refused, int number) {
            if (refused) {
                throw new Refused(number);
            }
        }

        private int rayOf(long i) {
            refuseIf(i < 0 || i >= rays(), 1);
            return (int) i;
        }

        private int loadOf(long d) {
            refuseIf(d < 0 || d >= loads(), 1);
            return (int) d;
        }

        private long within(long v, long low, long high, int number) {
            refuseIf(v < low || v > high, number);
            return v;
        }

        private long refusable(int kind, long[] a) {
            if (kind == 1) {
                return fan((int) a[0]);
            }
            refuseIf(rays.isEmpty(), 1);
            if (kind < 9) {
                return ofFan(kind, a);
            }
            return kind < 22 ? ofLoads(kind, a) : act(kind, a);
        }

        // ---- the text

        private long fan(int n) {
            refuseIf(n < 0 || n > tape.length(), 2);
            String text = tape.substring(0, n);
            tape.setLength(0);
            List<Ray> newRays = new ArrayList<>();
            List<String> newNames = new ArrayList<>();
            int[] found = read(text, newRays, newNames);
            fault = found[0];
            place = found[1];
            refuseIf(fault != 0, 4);
            rays = newRays;
            names = newNames;
            past.clear();
            return rays.size();
        }

        /** An automaton over tokens; a token's kind is w, d, e (the end), ? (none) or its own sign. */
        private static int[] read(String text, List<Ray> outRays, List<String> outLoads) {
            List<String> rayNames = new ArrayList<>();
            List<int[]> at = new ArrayList<>();
            List<int[]> loads = new ArrayList<>();
            List<Integer> inLoad = new ArrayList<>();
            int state = 0;
            int sign = 1;
            int value = 0;
            int x = 0;
            int i = 0;
            while (true) {
                while (i < text.length() && text.charAt(i) == ' ') {
                    i++;
                }
                String rest = text.substring(i);
                String token = rest.isEmpty() ? "" : rest.replaceAll("(?s)^([a-z]+|[0-9]+|.).*$", "$1");
                char kind = token.isEmpty() ? 'e' : token.matches("[a-z]{1,6}") ? 'w'
                        : token.matches("[0-9]{1,2}") ? 'd' : token.matches("[;,-]") ? token.charAt(0) : '?';
                boolean name = kind == 'w' && !token.matches("ray|at|load|on");
                int[] form = {1, i};
                switch (state) {
                    case 0:
                        if (token.equals("ray")) {
                            if (at.size() == 12) {
                                return new int[] {4, i};
                            }
                            state = 1;
                        } else if (token.equals("load")) {
                            if (loads.size() == 6) {
                                return new int[] {4, i};
                            }
                            state = 8;
                        } else {
                            return form;
                        }
                        break;
                    case 1:
                    case 8:
                        if (!name) {
                            return form;
                        }
                        if (rayNames.contains(token) || outLoads.contains(token)) {
                            return new int[] {3, i};
                        }
                        if (state == 1) {
                            rayNames.add(token);
                        } else {
                            outLoads.add(token);
                            loads.add(new int[12]);
                            inLoad.clear();
                        }
                        state++;
                        break;
                    case 2:
                        if (!token.equals("at")) {
                            return form;
                        }
                        state = 3;
                        break;
                    case 3:
                    case 5:
                    case 9:
                        sign = 1;
                        if (kind == '-') {
                            sign = -1;
                            state++;
                            break;
                        }
                        // a whole without a sign goes on as one behind a sign
                    case 4:
                    case 6:
                    case 10:
                        if (kind != 'd') {
                            return form;
                        }
                        value = sign * Integer.parseInt(token);
                        if (Math.abs(value) > (state >= 9 ? 20 : 9)) {
                            return new int[] {2, i};
                        }
                        if (state <= 4) {
                            x = value;
                            state = 5;
                        } else if (state <= 6) {
                            for (int[] old : at) {
                                if (old[0] == x && old[1] == value) {
                                    return new int[] {2, i};
                                }
                            }
                            if (BigInteger.valueOf(x).gcd(BigInteger.valueOf(value)).intValue() != 1) {
                                return new int[] {2, i};
                            }
                            at.add(new int[] {x, value});
                            state = 7;
                        } else {
                            state = 11;
                        }
                        break;
                    case 7:
                    case 13:
                        if (kind == 'e') {
                            return close(i, at, loads, outRays);
                        } else if (kind == ';') {
                            state = 0;
                        } else if (kind == ',' && state == 13) {
                            state = 9;
                        } else {
                            return form;
                        }
                        break;
                    case 11:
                        if (!token.equals("on")) {
                            return form;
                        }
                        state = 12;
                        break;
                    default:
                        if (!name) {
                            return form;
                        }
                        int ray = rayNames.indexOf(token);
                        if (ray < 0 || inLoad.contains(ray)) {
                            return new int[] {3, i};
                        }
                        inLoad.add(ray);
                        loads.get(loads.size() - 1)[ray] = value;
                        state = 13;
                        break;
                }
                i += token.length();
            }
        }

        private static int[] close(int end, List<int[]> at, List<int[]> loads, List<Ray> out) {
            for (int i = 0; i < at.size(); i++) {
                int[] numbers = new int[loads.size()];
                for (int d = 0; d < numbers.length; d++) {
                    numbers[d] = loads.get(d)[i];
                }
                out.add(new Ray(at.get(i)[0], at.get(i)[1], numbers));
            }
            sort(out);
            if (out.size() < 3) {
                return new int[] {5, end};
            }
            for (int i = 0; i < out.size(); i++) {
                double turn = out.get((i + 1) % out.size()).angle() - out.get(i).angle();
                if ((turn < 0 ? turn + 2 * Math.PI : turn) > Math.PI - 1e-9) {
                    return new int[] {5, end};
                }
            }
            return new int[] {0, end};
        }

        private static void sort(List<Ray> rays) {
            rays.sort((p, q) -> Double.compare(p.angle(), q.angle()));
        }

        // ---- the fan

        private Ray ray(int i) {
            return rays.get(Math.floorMod(i, rays.size()));
        }

        private static long turn(Ray p, Ray q) {
            return (long) p.x * q.y - (long) p.y * q.x;
        }

        private long turn(int i) {
            return turn(ray(i), ray(i + 1));
        }

        private boolean canGo(int i) {
            return rays.size() >= 4 && turn(ray(i - 1), ray(i + 1)) > 0;
        }

        private boolean light(int i) {
            return canGo(i) && ray(i).x == ray(i - 1).x + ray(i + 1).x && ray(i).y == ray(i - 1).y + ray(i + 1).y;
        }

        private long ofFan(int kind, long[] a) {
            switch (kind) {
                case 4: return about(within(a[0], 0, 7, 1));
                case 5: return measure();
                case 6: {
                    int i = rayOf(a[0]);
                    long what = within(a[1], 0, 4, 1);
                    return what == 0 ? ray(i).x : what == 1 ? ray(i).y : what == 2 ? turn(i) : what == 3 ? kind(i)
                            : chain(i).size();
                }
                case 7: {
                    int i = rayOf(a[0]);
                    within(a[1], 0, Long.MAX_VALUE, 1);
                    List<Long> chain = chain(i);
                    return a[1] < chain.size() ? chain.get((int) a[1]) : -2;
                }
                default:
                    within(a[0], -60, 60, 2);
                    within(a[1], -60, 60, 2);
                    refuseIf(a[0] == 0 && a[1] == 0, 2);
                    return coneOf((int) a[0], (int) a[1]);
            }
        }

        private long about(long what) {
            long whole = 0;
            long greatest = 0;
            BigInteger index = BigInteger.ZERO;
            long go = 0;
            long light = 0;
            for (int i = 0; i < rays(); i++) {
                whole += turn(i) == 1 ? 1 : 0;
                greatest = Math.max(greatest, turn(i));
                for (int j = 0; j < rays(); j++) {
                    index = index.gcd(BigInteger.valueOf(turn(ray(i), ray(j))));
                }
                go += canGo(i) ? 1L << i : 0;
                light += light(i) ? 1L << i : 0;
            }
            long[] all = {rays(), loads(), whole, greatest, index.longValueExact(), past.size(), go, light};
            return all[(int) what];
        }

        private long measure() {
            BigInteger common = BigInteger.ONE;
            for (int i = 0; i < rays(); i++) {
                BigInteger turn = BigInteger.valueOf(turn(i));
                common = common.multiply(turn).divide(common.gcd(turn));
            }
            refuseIf(common.compareTo(BigInteger.valueOf(1000000)) > 0, 3);
            return common.longValueExact();
        }

        private long kind(int i) {
            long n = turn(i);
            for (long q = 0; q < n; q++) {
                if ((q * ray(i).x + ray(i + 1).x) % n == 0 && (q * ray(i).y + ray(i + 1).y) % n == 0) {
                    return q;
                }
            }
            throw new IllegalStateException("no kind");
        }

        private List<Long> chain(int i) {
            List<Long> chain = new ArrayList<>();
            if (turn(i) == 1) {
                return chain;
            }
            long before = turn(i);
            long now = kind(i);
            while (now != 0) {
                long b = before / now + (before % now == 0 ? 0 : 1);
                chain.add(b);
                long next = b * now - before;
                before = now;
                now = next;
            }
            return chain;
        }

        /** s and t of (x, y) = s times ray i and t times the one behind it. */
        private Fraction[] parts(int i, int x, int y) {
            Ray p = ray(i);
            Ray q = ray(i + 1);
            Fraction n = Fraction.of(turn(i));
            Fraction t = Fraction.of((long) p.x * y - (long) p.y * x).by(n);
            Fraction s = p.x != 0 ? Fraction.of(x).minus(t.times(Fraction.of(q.x))).by(Fraction.of(p.x))
                    : Fraction.of(y).minus(t.times(Fraction.of(q.y))).by(Fraction.of(p.y));
            return new Fraction[] {s, t};
        }

        private int coneOf(int x, int y) {
            for (int i = 0; i < rays(); i++) {
                Fraction[] parts = parts(i, x, y);
                if (parts[0].sign() > 0 && parts[1].sign() >= 0) {
                    return i;
                }
            }
            throw new IllegalStateException("no cone");
        }

        // ---- loads

        private int number(int d, int i) {
            return ray(i).numbers[d];
        }

        private Fraction function(int d, int x, int y) {
            if (x == 0 && y == 0) {
                return Fraction.of(0);
            }
            int i = coneOf(x, y);
            Fraction[] parts = parts(i, x, y);
            return parts[0].times(Fraction.of(number(d, i))).plus(parts[1].times(Fraction.of(number(d, i + 1))));
        }

        /** m, n with m x + n y = 0 less the number on both rays of cone i. */
        private Fraction[] piece(int i, long p, long q) {
            Ray u = ray(i);
            Ray v = ray(i + 1);
            Fraction n = Fraction.of(turn(i));
            return new Fraction[] {Fraction.of(-p * v.y + q * u.y).by(n), Fraction.of(-q * u.x + p * v.x).by(n)};
        }

        private Fraction[] piece(int d, int i) {
            return piece(i, number(d, i), number(d, i + 1));
        }

        private Fraction raysMeet(int i, int j) {
            if (i == j) {
                return Fraction.of(-turn(ray(i - 1), ray(i + 1))).by(Fraction.of(turn(i - 1) * turn(i)));
            }
            if (Math.floorMod(i + 1 - j, rays()) == 0) {
                return Fraction.of(1).by(Fraction.of(turn(i)));
            }
            if (Math.floorMod(j + 1 - i, rays()) == 0) {
                return Fraction.of(1).by(Fraction.of(turn(j)));
            }
            return Fraction.of(0);
        }

        private Fraction meet(int[] p, int[] q) {
            Fraction sum = Fraction.of(0);
            for (int i = 0; i < rays(); i++) {
                for (int j = 0; j < rays(); j++) {
                    if (p[i] != 0 && q[j] != 0) {
                        sum = sum.plus(Fraction.of((long) p[i] * q[j]).times(raysMeet(i, j)));
                    }
                }
            }
            return sum;
        }

        private int[] numbers(int d) {
            int[] row = new int[rays()];
            for (int i = 0; i < row.length; i++) {
                row[i] = number(d, i);
            }
            return row;
        }

        private int[] one(int i) {
            int[] row = new int[rays()];
            row[i] = 1;
            return row;
        }

        private long ofLoads(int kind, long[] a) {
            if (kind == 17) {
                int i = rayOf(a[0]);
                int j = rayOf(a[1]);
                return raysMeet(i, j).times(Fraction.of(measure())).exact();
            }
            int d = loadOf(a[0]);
            switch (kind) {
                case 9: return number(d, rayOf(a[1]));
                case 10: {
                    long what = within(a[3], 0, 1, 1);
                    within(a[1], -60, 60, 2);
                    within(a[2], -60, 60, 2);
                    Fraction f = function(d, (int) a[1], (int) a[2]);
                    return (what == 0 ? f.above : f.below).longValueExact();
                }
                case 11: {
                    int i = rayOf(a[1]);
                    long what = within(a[2], 0, 2, 1);
                    Fraction[] piece = piece(d, i);
                    return what == 2 ? piece[0].whole() && piece[1].whole() ? 1 : 0
                            : piece[(int) what].times(Fraction.of(turn(i))).exact();
                }
                case 12: {
                    long bits = 0;
                    for (int i = 0; i < rays(); i++) {
                        Fraction[] piece = piece(d, i);
                        bits += piece[0].whole() && piece[1].whole() ? 0 : 1L << i;
                    }
                    return bits;
                }
                case 13: {
                    int least = 1;
                    for (int i = 0; i < rays(); i++) {
                        least = Math.min(least, meet(numbers(d), one(i)).sign());
                    }
                    return least + 1 < 0 ? 0 : least + 1;
                }
                case 14: return alike(d, loadOf(a[1]));
                case 15: {
                    int e = loadOf(a[1]);
                    return meet(numbers(d), numbers(e)).times(Fraction.of(measure())).exact();
                }
                case 16: {
                    int i = rayOf(a[1]);
                    return meet(numbers(d), one(i)).times(Fraction.of(measure())).exact();
                }
                case 18: return count(d, (int) within(a[1], 0, 4, 2), 0, null);
                case 19: return count(d, (int) within(a[1], 0, 4, 2), 1, null);
                case 20: {
                    long what = within(a[3], 0, 1, 1);
                    int k = (int) within(a[1], 0, 4, 2);
                    long[] found = {a[2], 0, 0};
                    refuseIf(a[2] < 0 || count(d, k, 0, found) <= a[2], 1);
                    return found[what == 0 ? 1 : 2];
                }
                default:
                    for (int k = 1; k <= 4; k++) {
                        if (count(d, k, 0, null) >= a[1]) {
                            return k;
                        }
                    }
                    return -2;
            }
        }

        private long alike(int d, int e) {
            // The piece of the difference must be one whole pair in all cones.
            Fraction[] first = null;
            for (int i = 0; i < rays(); i++) {
                Fraction[] piece = piece(i, number(d, i) - number(e, i), number(d, i + 1) - number(e, i + 1));
                if (!piece[0].whole() || !piece[1].whole()) {
                    return 0;
                }
                if (first != null && (piece[0].exact() != first[0].exact() || piece[1].exact() != first[1].exact())) {
                    return 0;
                }
                first = piece;
            }
            return 1;
        }

        /** Column by column; a point asked for (found[0]) is told in found[1], found[2]. */
        private long count(int d, int k, int less, long[] found) {
            long widest = 0;
            for (int i = 0; i < rays(); i++) {
                widest = Math.max(widest, Math.abs((long) k * number(d, i)) + less);
            }
            // A corner lies on two lines: each of its numbers is a sum of two products by a turn, at most this.
            long most = 0;
            for (int i = 0; i < rays(); i++) {
                long far = widest * (Math.abs(ray(i).y) + Math.abs(ray(i + 1).y));
                most = Math.max(most, far / turn(i) + 1);
            }
            long count = 0;
            for (long m = -most; m <= most; m++) {
                long low = Long.MIN_VALUE / 4;
                long high = Long.MAX_VALUE / 4;
                for (int i = 0; i < rays(); i++) {
                    Ray r = rays.get(i);
                    long atLeast = -(long) k * r.numbers[d] + less - m * r.x;
                    if (r.y > 0) {
                        low = Math.max(low, -Math.floorDiv(-atLeast, (long) r.y));
                    } else if (r.y < 0) {
                        high = Math.min(high, Math.floorDiv(-atLeast, (long) -r.y));
                    } else if (atLeast > 0) {
                        high = Long.MIN_VALUE / 4 - 1;
                    }
                }
                if (low <= high) {
                    long here = high - low + 1;
                    if (found != null && found[0] >= count && found[0] < count + here) {
                        found[1] = m;
                        found[2] = low + found[0] - count;
                    }
                    count += here;
                }
            }
            return count;
        }

        // ---- acts

        private long act(int kind, long[] a) {
            if (kind == 31) {
                refuseIf(past.isEmpty(), 5);
                rays = past.remove(past.size() - 1);
                return past.size();
            }
            List<Ray> next = new ArrayList<>(rays);
            long answer = kind < 26 ? actOnLoads(kind, a, next) : actOnRays(kind, a, next);
            past.add(rays);
            if (past.size() > 8) {
                past.remove(0);
            }
            rays = next;
            return answer;
        }

        private long actOnLoads(int kind, long[] a, List<Ray> next) {
            int d = loadOf(a[0]);
            long answer = 1;
            switch (kind) {
                case 22: {
                    int i = rayOf(a[1]);
                    int v = (int) within(a[2], -20, 20, 2);
                    answer = number(d, i);
                    next.set(i, ray(i).with(d, v));
                    break;
                }
                case 23:
                    within(a[1], -20, 20, 2);
                    for (int i = 0; i < rays(); i++) {
                        next.set(i, ray(i).with(d, (int) a[1]));
                    }
                    break;
                case 24: {
                    int e = loadOf(a[1]);
                    within(a[2], -3, 3, 2);
                    for (int i = 0; i < rays(); i++) {
                        next.set(i, ray(i).with(d, held(number(d, i) + a[2] * number(e, i))));
                    }
                    break;
                }
                default:
                    within(a[1], -20, 20, 2);
                    within(a[2], -20, 20, 2);
                    for (int i = 0; i < rays(); i++) {
                        next.set(i, ray(i).with(d, held(number(d, i) + a[1] * ray(i).x + a[2] * ray(i).y)));
                    }
                    break;
            }
            return answer;
        }

        private int held(long v) {
            return (int) within(v, -2000, 2000, 3);
        }

        private Ray fresh(long x, long y) {
            within(x, -60, 60, 3);
            within(y, -60, 60, 3);
            int[] row = new int[loads()];
            for (int d = 0; d < row.length; d++) {
                row[d] = held(function(d, (int) x, (int) y).down());
            }
            return new Ray((int) x, (int) y, row);
        }

        private int cutInto(int i, List<Ray> next) {
            List<Long> chain = chain(i);
            long n = turn(i);
            long beforeX = ray(i).x;
            long beforeY = ray(i).y;
            long x = (kind(i) * beforeX + ray(i + 1).x) / n;
            long y = (kind(i) * beforeY + ray(i + 1).y) / n;
            refuseIf(rays() + chain.size() > 24, 3);
            for (long b : chain) {
                next.add(fresh(x, y));
                long nextX = b * x - beforeX;
                long nextY = b * y - beforeY;
                beforeX = x;
                beforeY = y;
                x = nextX;
                y = nextY;
            }
            if (!chain.isEmpty() && (x != ray(i + 1).x || y != ray(i + 1).y)) {
                throw new IllegalStateException("the cut does not end at the ray behind it");
            }
            return chain.size();
        }

        private long actOnRays(int kind, long[] a, List<Ray> next) {
            long answer = 0;
            switch (kind) {
                case 26: {
                    int i = rayOf(a[0]);
                    int x = ray(i).x + ray(i + 1).x;
                    int y = ray(i).y + ray(i + 1).y;
                    int g = BigInteger.valueOf(x).gcd(BigInteger.valueOf(y)).intValue();
                    refuseIf(Math.abs(x / g) > 60 || Math.abs(y / g) > 60, 3);
                    Ray fresh = fresh(x / g, y / g);
                    next.add(fresh);
                    sort(next);
                    answer = next.indexOf(fresh);
                    break;
                }
                case 27:
                    answer = cutInto(rayOf(a[0]), next);
                    sort(next);
                    break;
                case 28:
                    for (int i = 0; i < rays(); i++) {
                        answer += cutInto(i, next);
                    }
                    sort(next);
                    break;
                case 29: {
                    int i = rayOf(a[0]);
                    refuseIf(!canGo(i), 5);
                    next.remove(i);
                    return next.size();
                }
                default:
                    return lean(next);
            }
            refuseIf(next.size() > 24, 3);
            return answer;
        }

        private long lean(List<Ray> next) {
            List<Ray> kept = rays;
            long went = 0;
            rays = next;
            for (int i = 0; i < rays(); i++) {
                if (light(i)) {
                    next.remove(i);
                    went++;
                    i = -1;
                }
            }
            rays = kept;
            return went;
        }
    }
}
