import java.util.ArrayList;
import java.util.List;
import java.util.function.Supplier;

/**
 * Promises 6 to 33 and Terms IV: of each argument of each call the last value that is taken and the first that is
 * refused, on both sides; without a fan, without loads, with as many rays and loads as there can be; the order in
 * which refusals are met, and what the object shows behind them.
 */
public final class FanConesBounds {
    private static final int NONE = Check.NONE;
    private static final long NOTHING = Check.NOTHING;
    private static final int NOT_THERE = 1;
    private static final int NUMBER = 2;
    private static final int NO_BOUND = Integer.MAX_VALUE;

    /** Each of its six rays can go. */
    private static final String HEXAGON = "ray a at 1 0;ray b at 1 1;ray c at 0 1;ray d at -1 0;ray e at -1 -1;"
            + "ray f at 0 -1;load one 3 on a,2 on b,1 on c;load two 1 on a,1 on b,1 on c,1 on d,1 on e,1 on f";

    private interface Face {
        long of(FanCones x, int[] a);
    }

    private enum Kind { RAY, LOAD, WHAT_1, WHAT_2, WHAT_4, WHAT_7, LINK, PLACE, MULTIPLE, VALUE, TIMES }

    private static final class Asked {
        final int promise;
        final String name;
        final long none;
        final Face face;
        final Kind[] kinds;

        Asked(int promise, String name, long none, Face face, Kind... kinds) {
            this.promise = promise;
            this.name = name;
            this.none = none;
            this.face = face;
            this.kinds = kinds;
        }

        int[] good() {
            int[] a = new int[kinds.length];
            for (int k = 0; k < a.length; k++) {
                // A place other than (0, 0), which one call refuses.
                a[k] = kinds[k] == Kind.PLACE ? 1 : 0;
            }
            return a;
        }

        String told(int[] a) {
            StringBuilder b = new StringBuilder(name).append('(');
            for (int k = 0; k < a.length; k++) {
                b.append(k == 0 ? "" : ", ").append(a[k]);
            }
            return b.append(')').toString();
        }

        String sentence(String of) {
            return "promise " + promise + ", " + of;
        }
    }

    private static final Asked[] ALL = {
        new Asked(6, "about", NONE, (x, a) -> x.about(a[0]), Kind.WHAT_7),
        new Asked(7, "measure", NONE, (x, a) -> x.measure()),
        new Asked(8, "ray", NOTHING, (x, a) -> x.ray(a[0], a[1]), Kind.RAY, Kind.WHAT_4),
        new Asked(9, "chain", NONE, (x, a) -> x.chain(a[0], a[1]), Kind.RAY, Kind.LINK),
        new Asked(10, "cone", NONE, (x, a) -> x.cone(a[0], a[1]), Kind.PLACE, Kind.PLACE),
        new Asked(11, "load", NOTHING, (x, a) -> x.load(a[0], a[1]), Kind.LOAD, Kind.RAY),
        new Asked(12, "function", NOTHING, (x, a) -> x.function(a[0], a[1], a[2], a[3]),
                Kind.LOAD, Kind.PLACE, Kind.PLACE, Kind.WHAT_1),
        new Asked(13, "piece", NOTHING, (x, a) -> x.piece(a[0], a[1], a[2]), Kind.LOAD, Kind.RAY, Kind.WHAT_2),
        new Asked(14, "broken", NONE, (x, a) -> x.broken(a[0]), Kind.LOAD),
        new Asked(15, "bent", NONE, (x, a) -> x.bent(a[0]), Kind.LOAD),
        new Asked(16, "alike", NONE, (x, a) -> x.alike(a[0], a[1]), Kind.LOAD, Kind.LOAD),
        new Asked(17, "meets", NOTHING, (x, a) -> x.meets(a[0], a[1]), Kind.LOAD, Kind.LOAD),
        new Asked(18, "touches", NOTHING, (x, a) -> x.touches(a[0], a[1]), Kind.LOAD, Kind.RAY),
        new Asked(19, "rays", NOTHING, (x, a) -> x.rays(a[0], a[1]), Kind.RAY, Kind.RAY),
        new Asked(20, "points", NOTHING, (x, a) -> x.points(a[0], a[1]), Kind.LOAD, Kind.MULTIPLE),
        new Asked(21, "inner", NOTHING, (x, a) -> x.inner(a[0], a[1]), Kind.LOAD, Kind.MULTIPLE),
        new Asked(22, "point of i 0", NOTHING, (x, a) -> x.point(a[0], a[1], 0, a[2]),
                Kind.LOAD, Kind.MULTIPLE, Kind.WHAT_1),
        new Asked(23, "needs of n 1", NONE, (x, a) -> x.needs(a[0], 1), Kind.LOAD),
        new Asked(24, "set", NOTHING, (x, a) -> x.set(a[0], a[1], a[2]), Kind.LOAD, Kind.RAY, Kind.VALUE),
        new Asked(25, "fill", 0, (x, a) -> x.fill(a[0], a[1]) ? 1 : 0, Kind.LOAD, Kind.VALUE),
        new Asked(26, "adds", 0, (x, a) -> x.adds(a[0], a[1], a[2]) ? 1 : 0, Kind.LOAD, Kind.LOAD, Kind.TIMES),
        new Asked(27, "shifts", 0, (x, a) -> x.shifts(a[0], a[1], a[2]) ? 1 : 0, Kind.LOAD, Kind.VALUE, Kind.VALUE),
        new Asked(28, "star", NONE, (x, a) -> x.star(a[0]), Kind.RAY),
        new Asked(29, "cut", NONE, (x, a) -> x.cut(a[0]), Kind.RAY),
        new Asked(30, "cutAll", NONE, (x, a) -> x.cutAll()),
        new Asked(31, "drop", NONE, (x, a) -> x.drop(a[0]), Kind.RAY),
        new Asked(32, "lean", NONE, (x, a) -> x.lean()),
        new Asked(33, "undo", NONE, (x, a) -> x.undo()),
    };

    public static void main(String[] args) {
        lastTaken();
        firstRefused();
        thereIsNoneGoesAheadOfNumbers();
        noFan();
        noFanBehindAFault();
        noLoads();
        fullFan();
        raysThatWent();
        troubleOfTheLatestCall();
        callsThatTellNoNumber();
        Check.end("the bounds of all arguments hold");
    }

    private static int low(Kind kind) {
        switch (kind) {
            case PLACE: return -60;
            case VALUE: return -20;
            case TIMES: return -3;
            default: return 0;
        }
    }

    private static int high(Kind kind, int rays, int loads) {
        switch (kind) {
            case RAY: return rays - 1;
            case LOAD: return loads - 1;
            case WHAT_1: return 1;
            case WHAT_2: return 2;
            case WHAT_4: return 4;
            case WHAT_7: return 7;
            case PLACE: return 60;
            case MULTIPLE: return 4;
            case VALUE: return 20;
            case TIMES: return 3;
            default: return NO_BOUND;
        }
    }

    private static int troubleOf(Kind kind) {
        boolean isNumber = kind == Kind.PLACE || kind == Kind.MULTIPLE || kind == Kind.VALUE || kind == Kind.TIMES;
        return isNumber ? NUMBER : NOT_THERE;
    }

    private static int[] beyond(Kind kind, int rays, int loads) {
        int high = high(kind, rays, loads);
        if (high == NO_BOUND) {
            return new int[] {-1, -2, Integer.MIN_VALUE};
        }
        return new int[] {low(kind) - 1, high + 1, low(kind) - 2, high + 2, Integer.MIN_VALUE, Integer.MAX_VALUE};
    }

    /** Two acts can be undone, and there is a fault of a text that was no fan. */
    private static FanCones hexagon() {
        FanCones x = Check.made(HEXAGON);
        x.set(0, 5, 4);
        x.shifts(1, 2, -1);
        Check.read(x, "ray");
        Check.feed(x, HEXAGON);
        return x;
    }

    private static int[] with(int[] a, int k, int v) {
        int[] b = a.clone();
        b[k] = v;
        return b;
    }

    private static void taken(Asked asked, String of, FanCones x, int[] a) {
        long answer = asked.face.of(x, a);
        Check.due(asked.sentence(of), "trouble() behind " + asked.told(a), x.trouble(), 0);
        Check.due(asked.sentence(of), asked.told(a) + " is refused", answer == asked.none ? 1 : 0, 0);
        Check.due(asked.sentence(of), "where() behind " + asked.told(a), x.where(), NONE);
    }

    private static void refused(Asked asked, String of, Supplier<FanCones> maker, int[] a, int trouble) {
        Check.refused(asked.sentence(of), asked.told(a), maker, x -> asked.face.of(x, a), asked.none, trouble);
    }

    // ---- each bound by itself

    private static void lastTaken() {
        for (Asked asked : ALL) {
            taken(asked, "taken", hexagon(), asked.good());
            for (int k = 0; k < asked.kinds.length; k++) {
                Kind kind = asked.kinds[k];
                taken(asked, "the least that is taken", hexagon(), with(asked.good(), k, low(kind)));
                taken(asked, "the most that is taken", hexagon(), with(asked.good(), k, high(kind, 6, 2)));
            }
        }
    }

    private static void firstRefused() {
        for (Asked asked : ALL) {
            for (int k = 0; k < asked.kinds.length; k++) {
                for (int v : beyond(asked.kinds[k], 6, 2)) {
                    int[] a = with(asked.good(), k, v);
                    refused(asked, "beyond a bound", FanConesBounds::hexagon, a, troubleOf(asked.kinds[k]));
                }
            }
        }
    }

    /** Each call tells 1 ahead of 2, whichever argument stands first. */
    private static void thereIsNoneGoesAheadOfNumbers() {
        for (Asked asked : ALL) {
            for (int k = 0; k < asked.kinds.length; k++) {
                for (int n = 0; n < asked.kinds.length; n++) {
                    if (troubleOf(asked.kinds[k]) == NOT_THERE && troubleOf(asked.kinds[n]) == NUMBER) {
                        for (int v : beyond(asked.kinds[k], 6, 2)) {
                            int[] a = with(with(asked.good(), k, v), n, 99);
                            refused(asked, "refused by 1 ahead of 2", FanConesBounds::hexagon, a, NOT_THERE);
                        }
                    }
                }
            }
        }
        Check.refused("promise 22, 2 (k) ahead of 1 (no such point)", "point(0, 5, -1, 0)", FanConesBounds::hexagon,
                x -> x.point(0, 5, -1, 0), NOTHING, NUMBER);
        Check.refused("promise 22, 2 (k) ahead of 1 (no such point)", "point(0, -1, 10^9, 1)", FanConesBounds::hexagon,
                x -> x.point(0, -1, 1000000000L, 1), NOTHING, NUMBER);
        Check.refused("promise 22, 1 (what) ahead of 2 (k)", "point(0, 5, 0, 2)", FanConesBounds::hexagon,
                x -> x.point(0, 5, 0, 2), NOTHING, NOT_THERE);
        Check.refused("promise 10, 2 (both 0)", "cone(0, 0)", FanConesBounds::hexagon, x -> x.cone(0, 0), NONE, NUMBER);
    }

    // ---- nothing there

    private static void noFan() {
        for (Asked asked : ALL) {
            refused(asked, "no fan", FanCones::new, asked.good(), NOT_THERE);
            for (int k = 0; k < asked.kinds.length; k++) {
                for (int v : new int[] {Integer.MIN_VALUE, -61, -1, 0, 1, 99, Integer.MAX_VALUE}) {
                    refused(asked, "no fan", FanCones::new, with(asked.good(), k, v), NOT_THERE);
                }
            }
        }
        Check.due("promise 10, no fan goes ahead of both 0", "cone(0, 0)", troubleBehind(x -> x.cone(0, 0)), NOT_THERE);
    }

    private static int troubleBehind(Check.Call call) {
        FanCones x = new FanCones();
        call.on(x);
        return x.trouble();
    }

    private static void noFanBehindAFault() {
        for (Asked asked : ALL) {
            refused(asked, "no fan behind a fault", () -> {
                FanCones x = new FanCones();
                Check.read(x, "ray a at 1 0;ray b at 0 1;load d 1 on a");
                Check.feed(x, HEXAGON);
                return x;
            }, asked.good(), NOT_THERE);
        }
    }

    private static void noLoads() {
        for (Asked asked : ALL) {
            List<Kind> kinds = List.of(asked.kinds);
            if (kinds.contains(Kind.LOAD)) {
                refused(asked, "a fan without loads", FanConesBounds::bare, asked.good(), NOT_THERE);
            } else {
                FanCones x = bare();
                x.lean();
                taken(asked, "a fan without loads", x, asked.good());
            }
        }
        Check.due("a fan without loads", "about(1)", bare().about(1), 0);
        Check.due("a fan without loads", "letter", Check.hasLetter(bare(), 0, 0) ? 1 : 0, 0);
    }

    /** None of its rays is light, but each can go. */
    private static FanCones bare() {
        return Check.made("ray a at 1 0;ray b at 2 1;ray c at -1 2;ray d at -1 1;ray e at -2 -1;ray f at 1 -3");
    }

    // ---- as many as there can be

    private static void fullFan() {
        for (Asked asked : ALL) {
            for (int k = 0; k < asked.kinds.length; k++) {
                Kind kind = asked.kinds[k];
                if (kind == Kind.RAY || kind == Kind.LOAD) {
                    int high = high(kind, 24, 6);
                    FanCones x = full();
                    asked.face.of(x, with(asked.good(), k, high));
                    boolean isAct = asked.promise == 28 || asked.promise == 31;
                    Check.due(asked.sentence("the last of 24 rays, 6 loads"), "trouble() behind " + asked.name,
                            x.trouble() == NOT_THERE ? 1 : 0, 0);
                    Check.due(asked.sentence("the last of 24 rays, 6 loads"), "trouble() behind " + asked.name,
                            isAct ? 0 : x.trouble(), 0);
                    for (int v : new int[] {high + 1, -1}) {
                        refused(asked, "24 rays, 6 loads", FanConesBounds::full, with(asked.good(), k, v), NOT_THERE);
                    }
                }
            }
        }
    }

    /** 24 rays, whose cones are all whole, and 6 loads. */
    private static FanCones full() {
        FanCones x = Check.made("ray e at 1 0;ray n at 0 1;ray w at -1 0;ray s at 0 -1;load a 1 on e;load b 2 on n;"
                + "load c 3 on w;load d 4 on s;load f -5 on e;load g 6 on e,-6 on w");
        for (int step = 0; step < 5; step++) {
            // Next to each of the four rays once a round.
            x.star(x.cone(60, 1));
            x.star(x.cone(-1, 60));
            x.star(x.cone(-60, -1));
            x.star(x.cone(1, -60));
        }
        Check.due("a fan of this test", "rays", x.about(0), 24);
        Check.due("a fan of this test", "whole cones", x.about(2), 24);
        return x;
    }

    private static void raysThatWent() {
        Supplier<FanCones> maker = () -> {
            FanCones x = hexagon();
            x.drop(5);
            return x;
        };
        for (Asked asked : ALL) {
            for (int k = 0; k < asked.kinds.length; k++) {
                if (asked.kinds[k] == Kind.RAY) {
                    refused(asked, "a ray that went", maker, with(asked.good(), k, 5), NOT_THERE);
                    FanCones x = maker.get();
                    x.undo();
                    taken(asked, "a ray that is there again", x, with(asked.good(), k, 5));
                }
            }
        }
    }

    // ---- trouble

    private static void troubleOfTheLatestCall() {
        String sentence = "trouble of the latest call that may be refused";
        Check.due(sentence, "of a new object", new FanCones().trouble(), 0);
        for (Asked asked : ALL) {
            for (int k = 1; k <= 5; k++) {
                // Behind the fifth no act is left to be undone.
                if (k < 5 || asked.promise != 33) {
                    FanCones x = hexagon();
                    refusals().get(k - 1).on(x);
                    Check.due(sentence, "a refusal ahead of " + asked.name, x.trouble(), k);
                    taken(asked, "behind a refused call", x, asked.good());
                }
            }
        }
        FanCones x = hexagon();
        for (int k = 1; k <= 5; k++) {
            refusals().get(k - 1).on(x);
            Check.due(sentence, "of refusal " + k, x.trouble(), k);
            Check.due(sentence, "asked again", x.trouble(), k);
        }
    }

    /** One by each number from 1 to 5, behind which all other calls with good arguments are taken. */
    private static List<Check.Call> refusals() {
        List<Check.Call> all = new ArrayList<>();
        all.add(x -> x.about(8));
        all.add(x -> x.cone(61, 0));
        all.add(x -> {
            x.fill(1, 20);
            x.adds(1, 1, 3);
            x.adds(1, 1, 3);
            x.adds(1, 1, 2);
            return x.adds(1, 1, 3) ? 1 : 0;
        });
        all.add(x -> x.fan(0));
        all.add(x -> {
            while (x.about(5) > 0) {
                x.undo();
            }
            return x.undo();
        });
        return all;
    }

    private static void callsThatTellNoNumber() {
        String sentence = "calls of which no number is told leave trouble as it is";
        List<Check.Call> refusals = refusals();
        for (int k = 0; k < refusals.size(); k++) {
            FanCones x = hexagon();
            refusals.get(k).on(x);
            int where = x.where();
            x.feed(1, 2, 3, 4, 5);
            Check.due(sentence, "feed", x.trouble(), k + 1);
            x.fault();
            Check.due(sentence, "fault", x.trouble(), k + 1);
            x.where();
            Check.due(sentence, "where", x.trouble(), k + 1);
            Check.hasLetter(x, 0, 0);
            Check.due(sentence, "letter", x.trouble(), k + 1);
            Check.hasLetter(x, 9, 9);
            Check.due(sentence, "letter that there isn't", x.trouble(), k + 1);
            x.size();
            Check.due(sentence, "size", x.trouble(), k + 1);
            Check.due(sentence, "where behind all of these", x.where(), where);
        }
    }
}
