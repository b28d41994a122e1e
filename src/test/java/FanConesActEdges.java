import java.util.ArrayList;
import java.util.List;
import java.util.function.Supplier;

/** Terms III, promises 24 to 34: each sentence on acts that names a boundary case has a test of its own. */
public final class FanConesActEdges {
    private static final int NONE = Check.NONE;
    private static final long NOTHING = Check.NOTHING;
    private static final int NO_ROOM = 3;
    private static final int NOT_SO = 5;
    private static final int[] ENDS = {Integer.MIN_VALUE, Integer.MAX_VALUE};

    private static final String PLANE = "ray a at 1 0;ray b at 0 1;ray c at -1 -1";
    private static final String AXES = "ray e at 1 0;ray n at 0 1;ray w at -1 0;ray s at 0 -1";
    private static final String SIX_LOADS = AXES + ";load a 0 on e;load b 0 on e;load c 0 on e;load d 0 on e;"
            + "load f 0 on e;load g 0 on e";
    private static final String HEXAGON = "ray a at 1 0;ray b at 1 1;ray c at 0 1;ray d at -1 0;ray e at -1 -1;"
            + "ray f at 0 -1;load o 1 on a,2 on b,3 on c,4 on d,5 on e,6 on f";
    /** The CHAIN of CONE 0 has eight numbers, that of CONE 1 one: 9. */
    private static final String EIGHT = "ray a at 1 0;ray b at 1 9;ray c at -1 0;ray d at 0 -1;load o 20 on a,-7 on b";

    public static void main(String[] args) {
        setOfANumber();
        fillOfAllNumbers();
        addsTimes();
        addsAsTheyWere();
        addsBeyond2000();
        shiftsByPlaces();
        shiftsBeyond2000();
        starIsDivided();
        starIsNumberedAround();
        starNumberDownwards();
        starBeyond60();
        starBeyond2000();
        starBeyond24();
        cutOfAWholeCone();
        cutMakesWholeCones();
        cutAheadOfTheAct();
        cutBeyond24();
        cutAllAtOnce();
        cutAllBeyond24();
        dropOfThree();
        dropByTheTurn();
        dropWithItsNumbers();
        nothingIsLeftOfARayThatWent();
        nothingIsLeftOfOlderFans();
        leanTheLeastFirst();
        leanOfNone();
        eachActIsUndone();
        actsWithoutEffect();
        latestEight();
        actsBehindUndo();
        fanLeavesNoActs();
        undoRefused();
        lettersOfNames();
        lettersStay();
        fiveHundredAndTwelveCalls();
        Check.end("the edges of acts hold");
    }

    private static void numbers(String sentence, FanCones x, int d, long... want) {
        for (int i = 0; i < want.length; i++) {
            Check.due(sentence, "load(" + d + ", " + i + ")", x.load(d, i), want[i]);
        }
    }

    /** Six loads; each has 1,000 on each of the four rays. */
    private static FanCones thousands() {
        FanCones x = Check.made(SIX_LOADS);
        x.fill(0, 20);
        x.adds(0, 0, 3);
        x.adds(0, 0, 3);
        x.adds(0, 0, 2);
        x.fill(1, 20);
        x.adds(0, 1, 2);
        x.fill(1, 0);
        for (int d = 1; d < 6; d++) {
            x.adds(d, 0, 1);
        }
        numbers("a fan of this test", x, 5, 1000, 1000, 1000, 1000);
        return x;
    }

    // ---- acts on loads

    private static void setOfANumber() {
        String sentence = "set: the number is v (-20 .. 20): what it was";
        String text = PLANE + ";load o 1 on a,2 on b,3 on c;load p 4 on a,5 on b,6 on c";
        FanCones x = Check.made(text);
        Check.taken(sentence, "set(1, 2, 20)", x, y -> y.set(1, 2, 20), 6);
        Check.taken(sentence, "set(1, 2, -20)", x, y -> y.set(1, 2, -20), 20);
        Check.taken(sentence, "set(1, 2, -20) again", x, y -> y.set(1, 2, -20), -20);
        Check.due(sentence, "acts", x.about(5), 3);
        numbers(sentence, x, 0, 1, 2, 3);
        numbers(sentence, x, 1, 4, 5, -20);
        for (int v : new int[] {-21, 21, ENDS[0], ENDS[1]}) {
            Check.refused(sentence, "set(0, 0, " + v + ")", () -> Check.made(text), y -> y.set(0, 0, v), NOTHING, 2);
            Check.refused(sentence, "set(2, 0, " + v + ")", () -> Check.made(text), y -> y.set(2, 0, v), NOTHING, 1);
            Check.refused(sentence, "set(0, 3, " + v + ")", () -> Check.made(text), y -> y.set(0, 3, v), NOTHING, 1);
        }
        FanCones far = thousands();
        Check.taken(sentence, "what it was, far beyond 20", far, y -> y.set(5, 3, 0), 1000);
        numbers(sentence, far, 5, 1000, 1000, 1000, 0);
    }

    private static void fillOfAllNumbers() {
        String sentence = "fill: all numbers are v (-20 .. 20)";
        for (int v : new int[] {-20, -1, 0, 20}) {
            FanCones x = thousands();
            Check.taken(sentence, "fill(5, " + v + ")", x, y -> y.fill(5, v) ? 1 : 0, 1);
            numbers(sentence, x, 5, v, v, v, v);
            numbers(sentence, x, 4, 1000, 1000, 1000, 1000);
        }
        for (int v : new int[] {-21, 21, ENDS[0], ENDS[1]}) {
            Check.refused(sentence, "fill(5, " + v + ")", FanConesActEdges::thousands, y -> y.fill(5, v) ? 1 : 0, 0, 2);
            Check.refused(sentence, "fill(6, " + v + ")", FanConesActEdges::thousands, y -> y.fill(6, v) ? 1 : 0, 0, 1);
        }
    }

    private static void addsTimes() {
        String sentence = "adds: times (-3 .. 3)";
        String text = PLANE + ";load o 1 on a,2 on b,3 on c;load p 4 on a,-5 on b,6 on c";
        for (int times = -3; times <= 3; times++) {
            int t = times;
            FanCones x = Check.made(text);
            Check.taken(sentence, "adds(0, 1, " + t + ")", x, y -> y.adds(0, 1, t) ? 1 : 0, 1);
            numbers(sentence, x, 0, 1 + 4 * t, 2 - 5 * t, 3 + 6 * t);
            numbers(sentence, x, 1, 4, -5, 6);
            Check.due(sentence, "acts", x.about(5), 1);
        }
        for (int times : new int[] {-4, 4, ENDS[0], ENDS[1]}) {
            Check.refused(sentence, "adds(0, 1, " + times + ")", () -> Check.made(text),
                    y -> y.adds(0, 1, times) ? 1 : 0, 0, 2);
            Check.refused(sentence, "adds(2, 1, " + times + ")", () -> Check.made(text),
                    y -> y.adds(2, 1, times) ? 1 : 0, 0, 1);
            Check.refused(sentence, "adds(0, 2, " + times + ")", () -> Check.made(text),
                    y -> y.adds(0, 2, times) ? 1 : 0, 0, 1);
        }
        // A number out of bounds goes ahead of no room.
        Check.refused(sentence, "adds(0, 0, 4) of 1,000", FanConesActEdges::thousands,
                y -> y.adds(0, 0, 4) ? 1 : 0, 0, 2);
    }

    private static void addsAsTheyWere() {
        String sentence = "adds: another one (or itself), as they were";
        for (int times = -3; times <= 3; times++) {
            FanCones x = Check.made(PLANE + ";load o 1 on a,-2 on b,3 on c");
            x.adds(0, 0, times);
            numbers(sentence, x, 0, 1 + times, -2 * (1 + times), 3 * (1 + times));
        }
    }

    private static void addsBeyond2000() {
        String sentence = "adds: refused by 3 (numbers), beyond -2,000 .. 2,000";
        FanCones x = thousands();
        Check.taken(sentence, "1,000 and 1,000", x, y -> y.adds(5, 0, 1) ? 1 : 0, 1);
        numbers(sentence, x, 5, 2000, 2000, 2000, 2000);
        Check.taken(sentence, "2,000 less 3 times 1,000", x, y -> y.adds(5, 0, -3) ? 1 : 0, 1);
        Check.taken(sentence, "down to -2,000", x, y -> y.adds(5, 0, -1) ? 1 : 0, 1);
        numbers(sentence, x, 5, -2000, -2000, -2000, -2000);
        for (int i = 0; i < 4; i++) {
            int at = i;
            Supplier<FanCones> up = () -> oneMore(at, 1);
            Check.refused(sentence, "2,001 on ray " + i, up, y -> y.adds(5, 0, 1) ? 1 : 0, 0, NO_ROOM);
            Supplier<FanCones> down = () -> oneMore(at, -1);
            Check.refused(sentence, "-2,001 on ray " + i, down, y -> y.adds(5, 0, 1) ? 1 : 0, 0, NO_ROOM);
            FanCones less = oneMore(at, 1);
            Check.taken(sentence, "1,999 less than 2,001", less, y -> y.adds(5, 0, -1) ? 1 : 0, 1);
        }
        Check.refused(sentence, "3 times 1,000 more", FanConesActEdges::thousands,
                y -> y.adds(5, 5, 3) ? 1 : 0, 0, NO_ROOM);
        Check.refused(sentence, "999 less 3 times 1,000", () -> {
            FanCones y = thousands();
            y.fill(0, -1);
            y.adds(5, 0, 1);
            return y;
        }, y -> y.adds(5, 1, -3) ? 1 : 0, 0, NO_ROOM);
    }

    /** Load 5 has 2,000 on each ray, or -2,000; load 0 has 1 on one ray, or -1. */
    private static FanCones oneMore(int at, int sign) {
        FanCones x = thousands();
        x.adds(5, 0, sign > 0 ? 1 : -3);
        x.fill(0, 0);
        x.set(0, at, sign);
        return x;
    }

    private static void shiftsByPlaces() {
        String sentence = "shifts: m x + n y (-20 .. 20 both)";
        String text = "ray a at 9 -8;ray b at 1 9;ray c at -9 -1;load o 1 on a,2 on b,3 on c;load p 0 on a";
        for (int m : new int[] {-20, 0, 20}) {
            for (int n : new int[] {-20, 0, 20}) {
                FanCones x = Check.made(text);
                Check.taken(sentence, "shifts(0, " + m + ", " + n + ")", x, y -> y.shifts(0, m, n) ? 1 : 0, 1);
                // (1, 9) is ray 0, (-9, -1) ray 1, (9, -8) ray 2.
                numbers(sentence, x, 0, 2 + m + 9 * n, 3 - 9 * m - n, 1 + 9 * m - 8 * n);
                numbers(sentence, x, 1, 0, 0, 0);
                Check.due(sentence, "acts", x.about(5), 1);
            }
        }
        for (int v : new int[] {-21, 21, ENDS[0], ENDS[1]}) {
            Check.refused(sentence, "m " + v, () -> Check.made(text), y -> y.shifts(0, v, 0) ? 1 : 0, 0, 2);
            Check.refused(sentence, "n " + v, () -> Check.made(text), y -> y.shifts(0, 0, v) ? 1 : 0, 0, 2);
            Check.refused(sentence, "both " + v, () -> Check.made(text), y -> y.shifts(0, v, v) ? 1 : 0, 0, 2);
            Check.refused(sentence, "no load, m " + v, () -> Check.made(text), y -> y.shifts(2, v, 0) ? 1 : 0, 0, 1);
        }
    }

    private static void shiftsBeyond2000() {
        String sentence = "shifts: refused by 3 (numbers), beyond -2,000 .. 2,000";
        FanCones x = thousands();
        for (int step = 0; step < 50; step++) {
            Check.taken(sentence, "shift " + step, x, y -> y.shifts(5, 20, 0) ? 1 : 0, 1);
        }
        numbers(sentence, x, 5, 2000, 1000, 0, 1000);
        Check.due(sentence, "2,001", x.shifts(5, 1, 0) ? 1 : 0, 0);
        Check.due(sentence, "trouble()", x.trouble(), NO_ROOM);
        numbers(sentence, x, 5, 2000, 1000, 0, 1000);
        Check.taken(sentence, "another way", x, y -> y.shifts(5, 0, -20) ? 1 : 0, 1);
        FanCones z = thousands();
        z.adds(5, 0, -3);
        numbers(sentence, z, 5, -2000, -2000, -2000, -2000);
        int[][] ways = {{1, 0}, {-1, 0}, {0, 1}, {0, -1}};
        for (int[] way : ways) {
            Check.due(sentence, "-2,001 on one ray", z.shifts(5, way[0], way[1]) ? 1 : 0, 0);
            Check.due(sentence, "trouble()", z.trouble(), NO_ROOM);
            numbers(sentence, z, 5, -2000, -2000, -2000, -2000);
        }
        Check.taken(sentence, "by nothing", z, y -> y.shifts(5, 0, 0) ? 1 : 0, 1);
    }

    // ---- stars

    private static void starIsDivided() {
        String sentence = "a star: its rays added, divided by the greatest whole number that goes into both";
        int[][] cones = {{1, 0, 0, 1, 1, 1}, {1, 1, -1, 1, 0, 1}, {9, 8, 8, 9, 1, 1}, {5, 1, 4, 5, 3, 2},
                {9, 1, -3, 5, 1, 1}, {7, 2, 1, 4, 4, 3}, {1, 0, -9, 1, -8, 1}};
        for (int[] cone : cones) {
            FanCones x = Check.made("ray a at " + cone[0] + " " + cone[1] + ";ray b at " + cone[2] + " " + cone[3]
                    + ";ray c at -1 -1;ray d at -1 0;ray e at 1 -9");
            int i = x.cone(cone[0], cone[1]);
            Check.due(sentence, "star", x.star(i), i + 1);
            Check.ray(sentence, x, i + 1, cone[4], cone[5]);
            Check.due(sentence, "rays", x.about(0), 6);
        }
    }

    private static void starIsNumberedAround() {
        String sentence = "a star: the number of the new ray, as they stand around";
        String load = ";load o 1 on a,2 on b,3 on c,5 on d";
        FanCones x = Check.made("ray a at 2 1;ray b at -1 1;ray c at -1 -1;ray d at 2 -1" + load);
        Check.taken(sentence, "(1, 0) is the first", x, y -> y.star(3), 0);
        Check.ray(sentence, x, 0, 1, 0);
        numbers(sentence, x, 0, 1, 1, 2, 3, 5);
        FanCones y = Check.made("ray a at 1 2;ray b at -1 1;ray c at -1 -1;ray d at 2 -1" + load);
        Check.taken(sentence, "(3, 1), behind (1, 0), is the first", y, z -> z.star(3), 0);
        Check.ray(sentence, y, 0, 3, 1);
        numbers(sentence, y, 0, 6, 1, 2, 3, 5);
        FanCones w = Check.made("ray a at 2 1;ray b at -1 1;ray c at -1 -1;ray d at 1 -2" + load);
        Check.taken(sentence, "(3, -1), ahead of (1, 0), is the last", w, z -> z.star(3), 4);
        Check.ray(sentence, w, 4, 3, -1);
        numbers(sentence, w, 0, 1, 2, 3, 5, 6);
    }

    private static void starNumberDownwards() {
        String sentence = "on a new ray the function there, downwards to a whole number";
        // (1, 1) and (-1, 1) give (0, 1), half of both.
        int[][] halves = {{1, 0, 0}, {-1, 0, -1}, {1, 2, 1}, {-1, -2, -2}, {3, -4, -1}, {-3, 4, 0}, {2, -2, 0},
                {20, 19, 19}, {-20, -19, -20}};
        for (int[] half : halves) {
            FanCones x = Check.made("ray a at 1 1;ray b at -1 1;ray c at 0 -1;load o " + half[0] + " on a," + half[1]
                    + " on b;load p " + half[1] + " on a," + half[0] + " on b");
            x.star(0);
            Check.ray(sentence, x, 1, 0, 1);
            Check.due(sentence, "half of " + half[0] + " and " + half[1], x.load(0, 1), half[2]);
            Check.due(sentence, "half of " + half[1] + " and " + half[0], x.load(1, 1), half[2]);
        }
        // (9, 8) and (8, 9) give (1, 1), of both a 17th.
        FanCones x = Check.made("ray a at 9 8;ray b at 8 9;ray c at -1 0;ray d at 0 -1;load o 16 on a;load p 17 on a;"
                + "load q -1 on b;load r -17 on b;load s -18 on b");
        x.star(0);
        long[] want = {0, 1, -1, -1, -2};
        for (int d = 0; d < 5; d++) {
            Check.due(sentence, "a 17th, load " + d, x.load(d, 1), want[d]);
        }
    }

    /** A quarter turn, so often. */
    private static int[] turned(int x, int y, int quarters) {
        return quarters == 0 ? new int[] {x, y} : turned(-y, x, quarters - 1);
    }

    private static FanCones turnedFan(int[][] rays, int quarters) {
        StringBuilder b = new StringBuilder();
        for (int i = 0; i < rays.length; i++) {
            int[] at = turned(rays[i][0], rays[i][1], quarters);
            b.append(i == 0 ? "" : ";").append("ray ").append((char) ('a' + i)).append(" at ").append(at[0]).append(' ')
                    .append(at[1]);
        }
        return Check.made(b + ";load z 1 on a");
    }

    /** Stars next to the second ray, from the first one on: each time that second one comes to it. */
    private static FanCones starred(int[][] rays, int quarters, int times) {
        FanCones x = turnedFan(rays, quarters);
        for (int step = 0; step < times; step++) {
            int[] at = turned(rays[0][0] + step * rays[1][0], rays[0][1] + step * rays[1][1], quarters);
            x.star(x.cone(at[0], at[1]));
            Check.due("a fan of this test", "trouble() of star " + step, x.trouble(), 0);
        }
        return x;
    }

    private static void starBeyond60() {
        String sentence = "no room: an x, y beyond -60 .. 60";
        int[][] to60 = {{4, 1}, {7, 2}, {-1, 2}, {-1, -2}};
        int[][] to61 = {{5, 2}, {7, 3}, {-1, 2}, {-1, -2}};
        for (int quarters = 0; quarters < 4; quarters++) {
            int turns = quarters;
            FanCones x = starred(to60, turns, 7);
            int[] at53 = turned(53, 15, turns);
            int[] at60 = turned(60, 17, turns);
            int i = x.cone(at53[0], at53[1]);
            Check.taken(sentence, "60, turned " + turns, x, y -> y.star(i), i + 1);
            Check.ray(sentence, x, x.cone(at60[0], at60[1]), at60[0], at60[1]);
            Check.refused(sentence, "67, turned " + turns, () -> starred(to60, turns, 8),
                    y -> y.star(y.cone(at60[0], at60[1])), NONE, NO_ROOM);
            int[] at54 = turned(54, 23, turns);
            Check.refused(sentence, "61, turned " + turns, () -> starred(to61, turns, 7),
                    y -> y.star(y.cone(at54[0], at54[1])), NONE, NO_ROOM);
        }
    }

    private static void starBeyond2000() {
        String sentence = "no room: a number beyond -2,000 .. 2,000";
        FanCones x = thousands();
        for (int i = 0; i < 4; i++) {
            int at = 2 * i;
            Check.taken(sentence, "2,000 between", x, y -> y.star(at), at + 1);
            Check.due(sentence, "its number", x.load(5, at + 1), 2000);
        }
        FanCones z = thousands();
        z.adds(5, 0, -2);
        numbers(sentence, z, 5, -1000, -1000, -1000, -1000);
        Check.taken(sentence, "-2,000 between", z, y -> y.star(3), 4);
        Check.due(sentence, "its number", z.load(5, 4), -2000);
        for (int d = 0; d < 6; d++) {
            int load = d;
            int other = d == 0 ? 1 : 0;
            Supplier<FanCones> up = () -> oneOff(load, other, 1);
            Check.refused(sentence, "2,001 of load " + d, up, y -> y.star(0), NONE, NO_ROOM);
            Check.refused(sentence, "2,001 of load " + d, up, y -> y.star(3), NONE, NO_ROOM);
            Check.taken(sentence, "2,000 beside", up.get(), y -> y.star(1), 2);
            Supplier<FanCones> down = () -> oneOff(load, other, -1);
            Check.refused(sentence, "-2,001 of load " + d, down, y -> y.star(0), NONE, NO_ROOM);
            Check.taken(sentence, "-2,000 beside", down.get(), y -> y.star(1), 2);
        }
    }

    /** All loads are as in thousands(), but one has 1 more on ray 0; or, by -1, that one below 0. */
    private static FanCones oneOff(int load, int other, int sign) {
        FanCones x = thousands();
        if (sign < 0) {
            x.adds(load, other, -2);
        }
        x.fill(other, 0);
        x.set(other, 0, sign);
        x.adds(load, other, 1);
        return x;
    }

    /** Stars beside (0, -1) up to so many rays; the other cones stay as they are. */
    private static FanCones grown(String text, int rays) {
        FanCones x = Check.made(text);
        for (int step = 0; step < 24 && x.about(0) < rays; step++) {
            x.star(x.cone(-1, -60));
        }
        Check.due("a fan of this test", "rays", x.about(0), rays);
        return x;
    }

    private static void starBeyond24() {
        String sentence = "no room: more than 24 rays";
        FanCones x = grown(AXES + ";load o 1 on n", 23);
        Check.taken(sentence, "the 24th", x, y -> y.star(0), 1);
        Check.due(sentence, "rays", x.about(0), 24);
        for (int i : new int[] {0, 1, 12, 23}) {
            Check.refused(sentence, "a 25th in cone " + i, () -> grown(AXES + ";load o 1 on n", 24), y -> y.star(i),
                    NONE, NO_ROOM);
        }
        Check.refused(sentence, "no cone goes ahead", () -> grown(AXES, 24), y -> y.star(24), NONE, 1);
        x.drop(1);
        Check.taken(sentence, "a 24th again", x, y -> y.star(0), 1);
    }

    // ---- cuts

    private static void cutOfAWholeCone() {
        String sentence = "a cut of a whole cone: none";
        FanCones x = Check.made(EIGHT);
        Check.taken(sentence, "cut(3)", x, y -> y.cut(3), 0);
        Check.due(sentence, "rays", x.about(0), 4);
        Check.due(sentence, "acts", x.about(5), 1);
        Check.taken(sentence, "cut(3) at 24 rays", grown(EIGHT, 24), y -> y.cut(23), 0);
    }

    private static void cutMakesWholeCones() {
        String sentence = "a cut: for each number of its chain a new ray, all new cones are whole";
        FanCones x = Check.made(EIGHT);
        Check.taken(sentence, "cut(0)", x, y -> y.cut(0), 8);
        for (int i = 0; i < 9; i++) {
            Check.ray(sentence, x, i, 1, i);
            Check.due(sentence, "turn " + i, x.ray(i, 2), 1);
        }
        Check.ray(sentence, x, 9, 1, 9);
        Check.due(sentence, "the cone behind it isn't", x.ray(9, 2), 9);
        Check.taken(sentence, "cut(9)", x, y -> y.cut(9), 1);
        Check.ray(sentence, x, 10, 0, 1);
        Check.due(sentence, "whole cones: all", x.about(2), x.about(0));
        // The last cone, over (1, 0): the new rays come first and last.
        FanCones z = Check.made("ray a at 2 3;ray b at -1 0;ray c at 2 -3;load o -5 on a,4 on c");
        Check.due(sentence, "turn of the last cone", z.ray(2, 2), 12);
        // Q 5, the chain 3, 2, 3: (1, -1), (1, 0), (1, 1).
        Check.taken(sentence, "cut(2)", z, y -> y.cut(2), 3);
        Check.due(sentence, "rays", z.about(0), 6);
        Check.ray(sentence, z, 0, 1, 0);
        Check.ray(sentence, z, 1, 1, 1);
        Check.ray(sentence, z, 2, 2, 3);
        Check.ray(sentence, z, 3, -1, 0);
        Check.ray(sentence, z, 4, 2, -3);
        Check.ray(sentence, z, 5, 1, -1);
        // At (1, 0) -1 by 4, at (1, 1) -21 by 12, at (1, -1) 15 by 12.
        numbers(sentence, z, 0, -1, -2, -5, 0, 4, 1);
    }

    private static void cutAheadOfTheAct() {
        String sentence = "each number is the function as it was ahead of the act, downwards";
        FanCones x = Check.made(EIGHT);
        x.cut(0);
        // At (1, i): 20 less 3 i.
        numbers(sentence, x, 0, 20, 17, 14, 11, 8, 5, 2, -1, -4, -7);
        FanCones y = Check.made("ray a at 1 0;ray b at 1 9;ray c at -1 0;ray d at 0 -1;load o 4 on a,-1 on b");
        y.cut(0);
        for (int i = 0; i <= 9; i++) {
            // 4 less 5 i by 9, which numbers of new rays would not give.
            Check.due(sentence, "number of (1, " + i + ")", y.load(0, i), Math.floorDiv(36 - 5 * i, 9));
        }
        FanCones z = Check.made("ray a at 1 1;ray b at -1 1;ray c at -1 -1;ray d at 1 -1;load o 1 on a,-2 on b");
        Check.due(sentence, "cutAll()", z.cutAll(), 4);
        numbers(sentence, z, 0, 0, 1, -1, -2, -1, 0, 0, 0);
    }

    private static void cutBeyond24() {
        String sentence = "a cut: no room for more than 24 rays";
        FanCones x = grown(EIGHT, 16);
        Check.taken(sentence, "16 and 8 rays", x, y -> y.cut(0), 8);
        Check.due(sentence, "rays", x.about(0), 24);
        for (int rays : new int[] {17, 20, 23, 24}) {
            Check.refused(sentence, rays + " and 8 rays", () -> grown(EIGHT, rays), y -> y.cut(0), NONE, NO_ROOM);
        }
        FanCones z = grown(EIGHT, 23);
        Check.taken(sentence, "23 and 1 rays", z, y -> y.cut(1), 1);
        Check.refused(sentence, "24 and 1 rays", () -> grown(EIGHT, 24), y -> y.cut(1), NONE, NO_ROOM);
        Check.refused(sentence, "no cone goes ahead", () -> grown(EIGHT, 24), y -> y.cut(24), NONE, 1);
    }

    private static void cutAllAtOnce() {
        String sentence = "cutAll: cuts of all cones (one act): how many new rays";
        FanCones x = Check.made(EIGHT);
        Check.taken(sentence, "cutAll()", x, y -> y.cutAll(), 9);
        Check.due(sentence, "acts", x.about(5), 1);
        Check.due(sentence, "rays", x.about(0), 13);
        Check.due(sentence, "whole cones", x.about(2), 13);
        Check.taken(sentence, "cutAll() of whole cones", x, y -> y.cutAll(), 0);
        Check.due(sentence, "acts", x.about(5), 2);
        Check.due(sentence, "undo", x.undo(), 1);
        Check.due(sentence, "undo", x.undo(), 0);
        Check.due(sentence, "rays", x.about(0), 4);
        Check.taken(sentence, "cutAll() of 24 rays, all whole", grown(AXES, 24), y -> y.cutAll(), 0);
    }

    private static void cutAllBeyond24() {
        String sentence = "cutAll: no room for more than 24 rays";
        FanCones x = grown(EIGHT, 15);
        Check.taken(sentence, "15 and 9 rays", x, y -> y.cutAll(), 9);
        Check.due(sentence, "rays", x.about(0), 24);
        for (int rays : new int[] {16, 17, 23, 24}) {
            Check.refused(sentence, rays + " and 9 rays", () -> grown(EIGHT, rays), y -> y.cutAll(), NONE, NO_ROOM);
        }
    }

    // ---- rays that go

    private static void dropOfThree() {
        String sentence = "a ray can go, if there are four or more";
        for (int i = 0; i < 3; i++) {
            int at = i;
            Check.refused(sentence, "drop(" + i + ") of three", () -> Check.made(PLANE + ";load o 1 on a"),
                    y -> y.drop(at), NONE, NOT_SO);
        }
        FanCones x = Check.made(PLANE);
        x.star(0);
        Check.taken(sentence, "drop(1) of four", x, y -> y.drop(1), 3);
        Check.due(sentence, "drop(1) of three then", x.drop(1), NONE);
        Check.due(sentence, "trouble()", x.trouble(), NOT_SO);
        Check.refused(sentence, "no ray goes ahead", () -> Check.made(PLANE), y -> y.drop(3), NONE, 1);
        Check.refused(sentence, "no ray goes ahead", () -> Check.made(PLANE), y -> y.drop(-1), NONE, 1);
    }

    private static void dropByTheTurn() {
        String sentence = "a ray can go, if its neighbours' turn is above 0";
        String one = "ray a at 1 0;ray b at 3 2;ray c at 0 1;ray d at -1 -1";
        FanCones x = Check.made(one);
        Check.due(sentence, "a turn of 1: bits", x.about(6) >> 1 & 1, 1);
        Check.taken(sentence, "a turn of 1", x, y -> y.drop(1), 3);
        Check.due(sentence, "a turn of 0: bits", Check.made(AXES).about(6), 0);
        for (int i = 0; i < 4; i++) {
            int at = i;
            Check.refused(sentence, "a turn of 0 around " + i, () -> Check.made(AXES), y -> y.drop(at), NONE, NOT_SO);
        }
        String below = "ray a at 1 0;ray b at 0 1;ray c at -2 -1;ray d at 0 -1";
        Check.due(sentence, "a turn of -1: bits", Check.made(below).about(6) >> 1 & 1, 0);
        Check.refused(sentence, "a turn of -1", () -> Check.made(below), y -> y.drop(1), NONE, NOT_SO);
        // Of the first ray its neighbours are the last and the second, of the last one the last but one and the first.
        FanCones first = Check.made("ray a at 1 0;ray b at 1 1;ray c at -1 1;ray d at -1 -2;ray e at 0 -1");
        Check.taken(sentence, "the first", first, y -> y.drop(0), 4);
        Check.ray(sentence, first, 0, 1, 1);
        FanCones last = Check.made("ray a at 1 0;ray b at -1 1;ray c at -1 -1;ray d at 1 -1");
        Check.taken(sentence, "the last", last, y -> y.drop(3), 3);
        Check.ray(sentence, last, 2, -1, -1);
    }

    private static void dropWithItsNumbers() {
        String sentence = "a ray goes, with it its numbers";
        for (int i = 0; i < 6; i++) {
            FanCones x = Check.made(HEXAGON);
            Check.due(sentence, "drop(" + i + ")", x.drop(i), 5);
            for (int k = 0; k < 5; k++) {
                long want = k < i ? k + 1 : k + 2;
                Check.due(sentence, "number of ray " + k + " behind drop(" + i + ")", x.load(0, k), want);
            }
            Check.due(sentence, "number of a ray that isn't there", x.load(0, 5), NOTHING);
            // Put there again, a ray has the function's number, not the one that went.
            x.star(i == 0 ? 4 : i - 1);
            Check.due(sentence, "rays", x.about(0), 6);
            long ahead = i == 0 ? 6 : i;
            long behind = i == 5 ? 1 : i + 2;
            Check.due(sentence, "number of the star", x.load(0, i), ahead + behind);
        }
    }

    private static void nothingIsLeftOfARayThatWent() {
        String sentence = "a ray that went is neither asked nor counted";
        FanCones x = Check.made("ray a at 1 1;ray b at -1 1;ray c at -1 -1;ray d at 1 -1;ray e at 9 -8;load o 1 on a");
        Check.due(sentence, "index with the ray at 9 -8", x.about(4), 1);
        x.fill(0, 20);
        x.adds(0, 0, 3);
        x.adds(0, 0, 3);
        x.adds(0, 0, 3);
        Check.due(sentence, "its number", x.load(0, 4), 1280);
        Check.due(sentence, "drop(4)", x.drop(4), 4);
        Check.due(sentence, "index without it", x.about(4), 2);
        x.fill(0, 0);
        // By 340 each, the ray that went would be beyond 2,000 at the third.
        for (int step = 1; step <= 4; step++) {
            Check.taken(sentence, "shift " + step, x, y -> y.shifts(0, 20, -20) ? 1 : 0, 1);
        }
        numbers(sentence, x, 0, 0, -160, 0, 160);
        Check.taken(sentence, "adds(0, 0, 3)", x, y -> y.adds(0, 0, 3) ? 1 : 0, 1);
    }

    private static void nothingIsLeftOfOlderFans() {
        String sentence = "the text is the fan from now on, whatever stood before it";
        String even = "ray a at 1 1;ray b at -1 1;ray c at -1 -1;ray d at 1 -1;load o 3 on a,-2 on c;load p 1 on b";
        FanCones x = heavy();
        FanCones fresh = new FanCones();
        Check.due(sentence, "fan", Check.read(x, even), Check.read(fresh, even));
        List<Check.Call> calls = new ArrayList<>();
        calls.add(y -> y.measure() * 1000 + y.broken(0) * 10 + y.bent(0));
        calls.add(y -> y.points(0, 4) * 1000 + y.inner(0, 4));
        calls.add(y -> y.meets(0, 1) * 1000 + y.alike(0, 1));
        calls.add(y -> y.shifts(0, 20, 20) ? 1 : 0);
        calls.add(y -> y.adds(0, 0, 3) ? 1 : 0);
        calls.add(y -> y.adds(1, 0, 3) ? 1 : 0);
        calls.add(y -> y.star(3));
        calls.add(y -> y.cutAll());
        calls.add(y -> y.star(0));
        calls.add(y -> y.drop(8));
        calls.add(y -> y.shifts(1, -20, 20) ? 1 : 0);
        calls.add(y -> y.lean());
        for (int k = 0; k < calls.size(); k++) {
            Check.due(sentence, "call " + k, calls.get(k).on(x), calls.get(k).on(fresh));
            if (k >= 3) {
                Check.same(sentence, "call " + k, x, fresh);
            }
        }
    }

    /** All that is kept for undo has 24 rays and six loads, with 1,920 on each. */
    private static FanCones heavy() {
        FanCones x = grown(SIX_LOADS, 24);
        x.fill(0, 20);
        x.adds(0, 0, 3);
        x.adds(0, 0, 3);
        x.adds(0, 0, 2);
        x.adds(0, 0, 1);
        for (int d = 1; d < 6; d++) {
            x.adds(d, 0, 1);
        }
        for (int act = 0; act < 10; act++) {
            x.cut(0);
        }
        Check.due("a fan of this test", "number", x.load(5, 23), 1920);
        Check.due("a fan of this test", "rays", x.about(0), 24);
        return x;
    }

    private static void leanTheLeastFirst() {
        String sentence = "the light ray with the least number goes, again and again";
        FanCones x = Check.made(HEXAGON);
        Check.due(sentence, "all are light", x.about(7), 63);
        Check.taken(sentence, "lean()", x, y -> y.lean(), 3);
        Check.ray(sentence, x, 0, 1, 1);
        Check.ray(sentence, x, 1, -1, 0);
        Check.ray(sentence, x, 2, 0, -1);
        numbers(sentence, x, 0, 2, 4, 6);
        Check.due(sentence, "one act", x.about(5), 1);
        Check.due(sentence, "undo", x.undo(), 0);
        numbers(sentence, x, 0, 1, 2, 3, 4, 5, 6);
        FanCones y = grown(AXES, 24);
        Check.due(sentence, "of 24 rays", y.lean() + y.about(0), 24);
        Check.due(sentence, "none is light then", y.about(7), 0);
    }

    private static void leanOfNone() {
        String sentence = "lean: one act, also if none went";
        FanCones x = Check.made(PLANE);
        Check.taken(sentence, "lean() of three", x, y -> y.lean(), 0);
        Check.due(sentence, "acts", x.about(5), 1);
        // (2, 1) can go, but is not (1, 0) and (0, 1), added.
        FanCones z = Check.made("ray a at 1 0;ray b at 2 1;ray c at 0 1;ray d at -1 0;ray e at 1 -3");
        Check.due(sentence, "can go", z.about(6) >> 1 & 1, 1);
        Check.due(sentence, "is light", z.about(7) >> 1 & 1, 0);
        Check.taken(sentence, "lean() of none that is light", Check.made(AXES), y -> y.lean(), 0);
        Check.due(sentence, "undo", x.undo(), 0);
    }

    // ---- undo

    private static List<Check.Call> allActs() {
        List<Check.Call> acts = new ArrayList<>();
        acts.add(x -> x.set(0, 4, 20));
        acts.add(x -> x.fill(0, -20) ? 1 : 0);
        acts.add(x -> x.adds(0, 1, 3) ? 1 : 0);
        acts.add(x -> x.adds(0, 0, -1) ? 1 : 0);
        acts.add(x -> x.shifts(1, 20, -20) ? 1 : 0);
        acts.add(x -> x.star(0));
        acts.add(x -> x.star(4));
        acts.add(x -> x.cut(1));
        acts.add(x -> x.cut(4));
        acts.add(x -> x.cutAll());
        acts.add(x -> x.drop(0));
        acts.add(x -> x.drop(4));
        acts.add(x -> x.lean());
        return acts;
    }

    /** Five rays, of which the first and the last can go; the new ray of cone 4 comes first. */
    private static FanCones five() {
        return Check.made("ray a at 1 1;ray b at -2 3;ray c at -3 -2;ray d at 0 -1;ray e at 1 -1;load o 1 on a,2 on b,"
                + "3 on c,4 on d,5 on e;load p -1 on a,-2 on b,-3 on c,-4 on d,-5 on e");
    }

    private static void eachActIsUndone() {
        String sentence = "the latest act is undone: how many still can be";
        List<Check.Call> acts = allActs();
        for (int k = 0; k < acts.size(); k++) {
            Check.undone(sentence, "act " + k, FanConesActEdges::five, acts.get(k));
            Check.undone(sentence, "act " + k + " behind another", () -> {
                FanCones x = five();
                x.set(1, 1, 7);
                return x;
            }, acts.get(k));
        }
    }

    private static void actsWithoutEffect() {
        String sentence = "acts that weren't refused can be undone, also those that change nothing";
        FanCones x = Check.made(AXES + ";load o 1 on e");
        Check.due(sentence, "set", x.set(0, 0, 1), 1);
        Check.due(sentence, "acts", x.about(5), 1);
        x.adds(0, 0, 0);
        Check.due(sentence, "acts", x.about(5), 2);
        x.shifts(0, 0, 0);
        Check.due(sentence, "acts", x.about(5), 3);
        x.cut(0);
        Check.due(sentence, "acts", x.about(5), 4);
        x.cutAll();
        Check.due(sentence, "acts", x.about(5), 5);
        x.lean();
        Check.due(sentence, "acts", x.about(5), 6);
        x.fill(0, 0);
        x.fill(0, 0);
        Check.due(sentence, "acts", x.about(5), 8);
        Check.due(sentence, "undo", x.undo(), 7);
        numbers(sentence, x, 0, 0, 0, 0, 0);
        Check.due(sentence, "undo", x.undo(), 6);
        numbers(sentence, x, 0, 1, 0, 0, 0);
        for (int left = 5; left >= 0; left--) {
            Check.due(sentence, "undo", x.undo(), left);
        }
        numbers(sentence, x, 0, 1, 0, 0, 0);
        Check.due(sentence, "undo of no more", x.undo(), NONE);
    }

    private static void latestEight() {
        String sentence = "the latest 8 that weren't refused can be undone one by one";
        for (int acts : new int[] {1, 7, 8, 9, 15, 16, 17, 20}) {
            FanCones x = Check.made(PLANE + ";load o 0 on a");
            for (int v = 1; v <= acts; v++) {
                x.set(0, 0, v);
                x.set(0, 0, 21);
                x.star(3);
                x.drop(0);
                Check.due(sentence, "acts, none of them refused", x.about(5), Math.min(v, 8));
            }
            int left = Math.min(acts, 8);
            while (left > 0) {
                left--;
                acts--;
                Check.taken(sentence, "undo()", x, y -> y.undo(), left);
                Check.due(sentence, "number", x.load(0, 0), acts);
            }
            Check.due(sentence, "undo() of no more", x.undo(), NONE);
            Check.due(sentence, "trouble()", x.trouble(), NOT_SO);
            Check.due(sentence, "number", x.load(0, 0), acts);
        }
    }

    private static void actsBehindUndo() {
        String sentence = "acts behind an undo can be undone, and the eight go round";
        FanCones x = Check.made(PLANE + ";load o 0 on a");
        List<Integer> past = new ArrayList<>();
        int number = 0;
        for (int step = 1; step <= 140; step++) {
            if (step * 7 % 11 < 7) {
                past.add(number);
                number = step % 41 - 20;
                x.set(0, 0, number);
                if (past.size() > 8) {
                    past.remove(0);
                }
            } else if (past.isEmpty()) {
                Check.due(sentence, "undo() of none", x.undo(), NONE);
            } else {
                number = past.remove(past.size() - 1);
                Check.due(sentence, "undo()", x.undo(), past.size());
            }
            Check.due(sentence, "number behind step " + step, x.load(0, 0), number);
            Check.due(sentence, "acts behind step " + step, x.about(5), past.size());
        }
    }

    private static void fanLeavesNoActs() {
        String sentence = "a fan() leaves no acts, a refused one leaves them";
        FanCones x = Check.made(PLANE + ";load o 1 on a");
        for (int v = 2; v <= 12; v++) {
            x.set(0, 0, v);
        }
        x.fan(1);
        Check.due(sentence, "refused by 2", x.about(5), 8);
        Check.read(x, "ray");
        Check.due(sentence, "refused by 4", x.about(5), 8);
        Check.due(sentence, "undo", x.undo(), 7);
        Check.due(sentence, "number", x.load(0, 0), 11);
        Check.due(sentence, "fan", Check.read(x, AXES + ";load o 5 on e"), 4);
        Check.due(sentence, "acts", x.about(5), 0);
        Check.refused(sentence, "undo() behind a fan()", () -> {
            FanCones y = Check.made(PLANE);
            y.lean();
            Check.read(y, AXES);
            return y;
        }, y -> y.undo(), NONE, NOT_SO);
        x.set(0, 0, 6);
        Check.due(sentence, "undo", x.undo(), 0);
        Check.due(sentence, "rays of the new fan", x.about(0), 4);
        Check.due(sentence, "number of the new fan", x.load(0, 0), 5);
    }

    private static void undoRefused() {
        String sentence = "undo: refused by 1 (no fan), 5";
        Check.refused(sentence, "undo() without a fan", FanCones::new, y -> y.undo(), NONE, 1);
        Check.refused(sentence, "undo() without an act", () -> Check.made(PLANE), y -> y.undo(), NONE, NOT_SO);
        Check.refused(sentence, "undo() without one more act", () -> {
            FanCones y = Check.made(PLANE);
            y.star(0);
            y.undo();
            return y;
        }, y -> y.undo(), NONE, NOT_SO);
    }

    // ---- names

    private static void lettersOfNames() {
        String sentence = "letter k (0 a, ..) of the name of a load; an exception if there is none such";
        String[] names = {"a", "z", "zz", "azazaz", "zyxwvu", "mmmmm"};
        StringBuilder b = new StringBuilder("ray ra at 1 0;ray rb at 0 1;ray rc at -1 -1");
        for (String name : names) {
            b.append(";load ").append(name).append(" 1 on ra");
        }
        FanCones x = Check.made(b.toString());
        for (int d = 0; d < 6; d++) {
            for (int k = 0; k < names[d].length(); k++) {
                Check.due(sentence, "letter(" + d + ", " + k + ")", x.letter(d, k), names[d].charAt(k) - 'a');
            }
            for (int k : new int[] {-1, names[d].length(), 6, 7, 32, ENDS[0], ENDS[1]}) {
                Check.due(sentence, "letter(" + d + ", " + k + ") is there", Check.hasLetter(x, d, k) ? 1 : 0, 0);
            }
        }
        for (int d : new int[] {-1, 6, 7, ENDS[0], ENDS[1]}) {
            Check.due(sentence, "load " + d + " is there", Check.hasLetter(x, d, 0) ? 1 : 0, 0);
        }
        Check.due(sentence, "a fan without loads", Check.hasLetter(Check.made(PLANE), 0, 0) ? 1 : 0, 0);
        Check.due(sentence, "no fan", Check.hasLetter(new FanCones(), 0, 0) ? 1 : 0, 0);
    }

    private static void lettersStay() {
        String sentence = "names stay behind acts, undo and faults";
        FanCones x = Check.made(PLANE + ";load abc 1 on a;load de 1 on b");
        x.star(0);
        x.cutAll();
        x.undo();
        x.drop(1);
        Check.read(x, "ray x at 1 0;load y 1 on x");
        Check.read(x, "ray x at 1 0;ray y at 0 1;ray z at -1 -1;load q 1 on x;load w 1");
        long[] want = {0, 1, 2};
        for (int k = 0; k < 3; k++) {
            Check.due(sentence, "letter(0, " + k + ")", x.letter(0, k), want[k]);
        }
        Check.due(sentence, "letter(1, 1)", x.letter(1, 1), 4);
        Check.due(sentence, "letter(1, 2) is there", Check.hasLetter(x, 1, 2) ? 1 : 0, 0);
    }

    private static void fiveHundredAndTwelveCalls() {
        String sentence = "an object is used for at most 512 calls";
        FanCones x = new FanCones();
        // 25 feeds and a fan, then pairs of calls: 512 in all.
        StringBuilder b = new StringBuilder(PLANE + ";load o 1 on a");
        while (b.length() < 500) {
            b.append(' ');
        }
        Check.feed(x, b.toString());
        Check.due(sentence, "fan", x.fan(500), 3);
        for (int pair = 0; pair < 243; pair++) {
            int v = pair % 41 - 20;
            long was = pair == 0 ? 1 : (pair - 1) % 41 - 20;
            Check.due(sentence, "set of pair " + pair, x.set(0, 0, v), was);
            Check.due(sentence, "load of pair " + pair, x.load(0, 0), v);
        }
    }
}
