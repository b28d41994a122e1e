/** Terms II and III, promises 6 to 23: each sentence that names a boundary case has a test of its own. */
public final class FanConesAskEdges {
    private static final int NONE = Check.NONE;
    private static final long NOTHING = Check.NOTHING;

    private static final String PLANE = "ray a at 1 0;ray b at 0 1;ray c at -1 -1";
    private static final String AXES = "ray e at 1 0;ray n at 0 1;ray w at -1 0;ray s at 0 -1";
    /** TURNS 1, 11, 13, 27, 37, 7. */
    private static final String MEASURE_999999 = "ray a at 1 0;ray b at 9 1;ray c at 7 2;ray d at 4 3;ray e at -1 6;"
            + "ray f at -5 -7;load o 1 on a,2 on c";
    /** TURNS 8, 17, 43, 19, 9. */
    private static final String MEASURE_1000008 = "ray a at 1 0;ray b at 9 8;ray c at 8 9;ray d at -3 2;ray e at 4 -9;"
            + "load o 1 on a,2 on c";

    public static void main(String[] args) {
        newObject();
        raysAreNumberedFrom10();
        behindTheLastComesTheFirst();
        wholeIfItsTurnIs1();
        measureAtMostAMillion();
        measureRefusesMeetings();
        aboutEachWhat();
        indexOfAllRays();
        actsThatCanBeUndone();
        bitsOfRays();
        kindIsTheLeast();
        kindOfAnyRays();
        chainOfACone();
        chainHasNotSoMany();
        coneOnARay();
        conePlaces();
        functionOnRaysAndBetween();
        functionAtZero();
        functionPlaces();
        pieceIsZeroLessNumber();
        pieceIsWholeIfBothAre();
        brokenPiecesAsBits();
        bentWithZeroOrMore();
        bentNeedsNoMeasure();
        alikeByWholeNumbers();
        alikeOnEachRay();
        alikeWhateverTheTurns();
        raysMeetAsNeighbours();
        rayMeetsItself();
        loadsMeetOverAllPairs();
        touchesIsALoadOf1();
        pointsOnTheRim();
        pointsOfMultiples();
        noPoints();
        pointsOfManySides();
        greatestPolygons();
        pointsInOrder();
        noSuchPoint();
        needsTheLeastMultiple();
        Check.end("the edges of what is asked hold");
    }

    private static void newObject() {
        String sentence = "a new object: no fan";
        FanCones x = new FanCones();
        Check.due(sentence, "trouble()", x.trouble(), 0);
        Check.due(sentence, "fault()", x.fault(), 0);
        Check.due(sentence, "where()", x.where(), NONE);
        Check.due(sentence, "size()", x.size(), 0);
        Check.due(sentence, "about(0)", x.about(0), NONE);
        Check.due(sentence, "trouble() of it", x.trouble(), 1);
        Check.due(sentence, "letter", Check.hasLetter(x, 0, 0) ? 1 : 0, 0);
        Check.due(sentence, "NONE", FanCones.NONE, -1);
        Check.due(sentence, "NOTHING", FanCones.NOTHING, Long.MIN_VALUE);
    }

    // ---- the fan

    private static void raysAreNumberedFrom10() {
        String sentence = "rays are numbered from 0, counterclockwise, from (1, 0) on (a ray there is the first)";
        FanCones x = Check.made("ray a at 9 -1;ray b at -9 -1;ray c at -1 0;ray d at -9 1;ray e at 0 -1;ray f at 1 0;"
                + "ray g at 0 1;ray h at 9 1;ray i at 1 9;ray j at -1 9;ray k at -1 -9;ray l at 1 -9");
        int[][] around = {{1, 0}, {9, 1}, {1, 9}, {0, 1}, {-1, 9}, {-9, 1}, {-1, 0}, {-9, -1}, {-1, -9}, {0, -1},
                {1, -9}, {9, -1}};
        for (int i = 0; i < 12; i++) {
            Check.ray(sentence, x, i, around[i][0], around[i][1]);
        }
        FanCones y = Check.made("ray a at 9 -1;ray b at 9 1;ray c at -1 0");
        Check.ray(sentence, y, 0, 9, 1);
        Check.ray(sentence, y, 1, -1, 0);
        Check.ray(sentence, y, 2, 9, -1);
        FanCones z = Check.made("ray a at 9 -1;ray b at -8 1;ray c at -1 -1");
        Check.ray(sentence, z, 0, -8, 1);
        Check.ray(sentence, z, 2, 9, -1);
    }

    private static void behindTheLastComesTheFirst() {
        String sentence = "behind the last one comes the first";
        FanCones x = Check.made("ray a at 3 1;ray b at -1 1;ray c at 1 -2;load o 5 on a,7 on c");
        // The cone from (1, -2) to (3, 1).
        Check.due(sentence, "turn of the last cone", x.ray(2, 2), 7);
        // 4 (1, -2) and (3, 1), added, are 7 (1, -1).
        Check.due(sentence, "Q of it", x.ray(2, 3), 4);
        Check.due(sentence, "cone of (1, 0)", x.cone(1, 0), 2);
        Check.due(sentence, "function at (4, -1), both added", x.function(0, 4, -1, 0), 12);
        Check.due(sentence, "rays(2, 0)", x.rays(2, 0) * 7, x.measure());
        Check.due(sentence, "piece of the last cone: m", x.piece(0, 2, 0), 5 * -2 - 7);
        Check.due(sentence, "piece of the last cone: n", x.piece(0, 2, 1), 7 * 3 - 5);
    }

    private static void wholeIfItsTurnIs1() {
        String sentence = "a cone is whole, if its turn is 1";
        FanCones x = Check.made("ray a at 1 0;ray b at 0 1;ray c at -2 -1;ray d at -1 -2");
        // TURNS 1, 2, 3, 2
        long[] turns = {1, 2, 3, 2};
        for (int i = 0; i < 4; i++) {
            Check.due(sentence, "turn " + i, x.ray(i, 2), turns[i]);
            Check.due(sentence, "numbers of chain " + i, x.ray(i, 4) == 0 ? 1 : 0, turns[i] == 1 ? 1 : 0);
        }
        Check.due(sentence, "whole cones", x.about(2), 1);
        Check.due(sentence, "the greatest turn", x.about(3), 3);
        Check.due(sentence, "whole cones: all", Check.made(PLANE).about(2), 3);
        Check.due(sentence, "whole cones: none",
                Check.made("ray a at 1 1;ray b at -1 1;ray c at -1 -1;ray d at 1 -1").about(2), 0);
        FanCones y = Check.made("ray a at 9 8;ray b at -9 8;ray c at 0 -1");
        Check.due(sentence, "turn 144", y.about(3), 144);
    }

    private static void measureAtMostAMillion() {
        String sentence = "measure: 1,000,000 at most";
        FanCones x = Check.made(MEASURE_999999);
        Check.taken(sentence, "measure()", x, y -> y.measure(), 999999);
        Check.refused(sentence, "measure() of 1,000,008", () -> Check.made(MEASURE_1000008), y -> y.measure(), NONE, 3);
        Check.taken(sentence, "measure() of whole cones", Check.made(PLANE), y -> y.measure(), 1);
        // A cut leaves whole cones behind, so that what was beyond is no more.
        FanCones z = Check.made(MEASURE_1000008);
        z.cut(0);
        Check.taken(sentence, "measure() without the turn 8", z, y -> y.measure(), 1000008 / 8);
        z.undo();
        Check.due(sentence, "measure() with it again", z.measure(), NONE);
        Check.due(sentence, "trouble()", z.trouble(), 3);
    }

    private static void measureRefusesMeetings() {
        String sentence = "where measure is asked for, 3 stands";
        FanCones x = Check.made(MEASURE_999999);
        Check.taken(sentence, "rays(1, 2)", x, y -> y.rays(1, 2), 999999 / 11);
        Check.taken(sentence, "rays(0, 0)", x, y -> y.rays(0, 0), -(-5 + 7 * 9) * (999999 / 7));
        Check.taken(sentence, "touches(0, 1)", x, y -> y.touches(0, 1), 999999 + 2 * (999999 / 11));
        // 1 on ray 0 and 2 on ray 2, which are no neighbours.
        long want = x.rays(0, 0) + 4 * x.rays(2, 2);
        Check.taken(sentence, "meets(0, 0)", x, y -> y.meets(0, 0), want);
        Check.refused(sentence, "rays(0, 1)", () -> Check.made(MEASURE_1000008), y -> y.rays(0, 1), NOTHING, 3);
        Check.refused(sentence, "rays(0, 2), which don't meet", () -> Check.made(MEASURE_1000008), y -> y.rays(0, 2),
                NOTHING, 3);
        Check.refused(sentence, "touches(0, 0)", () -> Check.made(MEASURE_1000008), y -> y.touches(0, 0), NOTHING, 3);
        Check.refused(sentence, "meets(0, 0)", () -> Check.made(MEASURE_1000008), y -> y.meets(0, 0), NOTHING, 3);
        Check.refused(sentence, "1 ahead of 3: rays(5, 0)", () -> Check.made(MEASURE_1000008), y -> y.rays(5, 0),
                NOTHING, 1);
        Check.refused(sentence, "1 ahead of 3: touches(0, -1)", () -> Check.made(MEASURE_1000008),
                y -> y.touches(0, -1), NOTHING, 1);
        Check.refused(sentence, "1 ahead of 3: meets(0, 1)", () -> Check.made(MEASURE_1000008), y -> y.meets(0, 1),
                NOTHING, 1);
    }

    private static void aboutEachWhat() {
        String sentence = "about(what): 0 .. 7";
        FanCones x = Check.made(AXES + ";load o 1 on e;load p 2 on n");
        x.star(0);
        x.fill(1, 3);
        // (1, 1) is (1, 0) and (0, 1), (1, 0) is (0, -1) and (1, 1), (0, 1) is (1, 1) and (-1, 0).
        long[] want = {5, 2, 5, 1, 1, 2, 7, 7};
        for (int what = 0; what < want.length; what++) {
            int asked = what;
            Check.taken(sentence, "about(" + what + ")", x, y -> y.about(asked), want[what]);
        }
    }

    private static void indexOfAllRays() {
        String sentence = "INDEX: the greatest whole number that goes into a d less b c of each two rays";
        Check.due(sentence, "1", Check.made(PLANE).about(4), 1);
        Check.due(sentence, "3", Check.made("ray a at 2 -1;ray b at -1 2;ray c at -1 -1").about(4), 3);
        // Neighbours' turns are 2, 4, 2, 4, those of others 0 and 0 or more twos.
        Check.due(sentence, "2", Check.made("ray a at 1 1;ray b at -1 1;ray c at -1 -1;ray d at 1 -1").about(4), 2);
        // TURNS 2, 2, 2 around, and 1 between others: (1, 0) and (1, 2), (-1, 0), (0, -1)
        FanCones x = Check.made("ray a at 1 0;ray b at 1 2;ray c at -1 0;ray d at -1 -2");
        Check.due(sentence, "all even", x.about(4), 2);
        FanCones y = Check.made("ray a at 1 0;ray b at 1 2;ray c at -1 0;ray d at 0 -1");
        Check.due(sentence, "1, as one is odd", y.about(4), 1);
        // Four rays leave 2; each of these, wherever it stands among them, makes it 1.
        for (String odd : new String[] {"1 0", "0 1", "-1 0", "0 -1", "9 8", "-9 -8"}) {
            FanCones w = Check.made("ray a at 1 1;ray b at -1 1;ray c at -1 -1;ray d at 1 -1;ray e at " + odd);
            Check.due(sentence, "1, by the ray at " + odd, w.about(4), 1);
        }
        FanCones z = Check.made("ray a at 1 0;ray b at 4 7;ray c at -1 0;ray d at -4 -7");
        Check.due(sentence, "7, that of neighbours, 0 that of opposite ones", z.about(4), 7);
    }

    private static void actsThatCanBeUndone() {
        String sentence = "5: ACTS that can be undone, the latest 8";
        FanCones x = Check.made(PLANE + ";load o 1 on a");
        for (int act = 1; act <= 10; act++) {
            x.lean();
            Check.due(sentence, "about(5)", x.about(5), Math.min(act, 8));
        }
        for (int left = 7; left >= 0; left--) {
            x.undo();
            Check.due(sentence, "about(5)", x.about(5), left);
        }
        x.undo();
        Check.due(sentence, "about(5) behind an undo that is refused", x.about(5), 0);
    }

    private static void bitsOfRays() {
        String sentence = "6 rays that can go, 7 light ones (bits)";
        FanCones x = Check.made(PLANE);
        Check.due(sentence, "three rays: none can go", x.about(6), 0);
        Check.due(sentence, "three rays: none is light", x.about(7), 0);
        x.star(2);
        // (1, 0), (0, 1), (-1, -1), (0, -1)
        Check.due(sentence, "the last of four can go", x.about(6), 8);
        Check.due(sentence, "the last of four is light", x.about(7), 8);
        FanCones y = Check.made("ray a at 1 1;ray b at -1 1;ray c at -1 -1;ray d at 1 -1");
        y.star(3);
        Check.due(sentence, "the first of five and its neighbours can go", y.about(6), 1 + 2 + 16);
        Check.due(sentence, "it is half of its neighbours added, so it isn't light", y.about(7), 0);
        FanCones all = Check.made("ray a at 1 0;ray b at 1 1;ray c at 0 1;ray d at -1 0;ray e at -1 -1;ray f at 0 -1");
        Check.due(sentence, "all six can go", all.about(6), 63);
        Check.due(sentence, "all six are light", all.about(7), 63);
        for (int step = 0; step < 18; step++) {
            all.star(all.cone(60, -1));
        }
        Check.due(sentence, "24 rays", all.about(0), 24);
        Check.due(sentence, "the 24th ray can go", all.about(6) >>> 23, 1);
        Check.due(sentence, "the 24th ray is light", all.about(7), 1 << 23 | 62 & all.about(7));
    }

    private static void kindIsTheLeast() {
        String sentence = "Q: the least of 0 .. N - 1";
        for (int n = 1; n <= 9; n++) {
            for (int c = -9; c <= 9; c++) {
                if (common(c, n) == 1) {
                    // Q (1, 0) and (c, n) are n times whole numbers, if Q and c are.
                    FanCones x = Check.made("ray a at 1 0;ray b at " + c + " " + n + ";ray c at -1 0;ray d at 0 -1");
                    Check.due(sentence, "N of (1, 0), (" + c + ", " + n + ")", x.ray(0, 2), n);
                    Check.due(sentence, "Q of (1, 0), (" + c + ", " + n + ")", x.ray(0, 3), Math.floorMod(-c, n));
                }
            }
        }
    }

    private static void kindOfAnyRays() {
        String sentence = "Q times ray i, and the ray behind it, added, are N times whole numbers";
        int[][] fans = {{9, 8, -8, 9, -7, -9, 9, -7}, {1, 9, -1, 8, -9, -2, 7, -8}, {5, 3, 2, 7, -9, -4, -1, -9},
                {0, 1, -9, 7, -1, 0, 8, -9}, {8, 3, -3, 8, -8, -3, 3, -8}, {3, 1, 1, 3, -7, 4, 2, -9}};
        for (int[] at : fans) {
            StringBuilder b = new StringBuilder();
            for (int i = 0; i < 4; i++) {
                b.append(i == 0 ? "ray " : ";ray ").append((char) ('a' + i)).append(" at ");
                b.append(at[2 * i]).append(' ').append(at[2 * i + 1]);
            }
            FanCones x = Check.made(b.toString());
            for (int i = 0; i < 4; i++) {
                int j = (i + 1) % 4;
                leastKind(sentence, x, i, new long[] {x.ray(i, 0), x.ray(i, 1), x.ray(j, 0), x.ray(j, 1)});
            }
        }
    }

    private static void leastKind(String sentence, FanCones x, int i, long[] at) {
        long n = at[0] * at[3] - at[1] * at[2];
        long q = 0;
        while (q < n && ((q * at[0] + at[2]) % n != 0 || (q * at[1] + at[3]) % n != 0)) {
            q++;
        }
        Check.due(sentence, "N of cone " + i, x.ray(i, 2), n);
        Check.due(sentence, "Q of cone " + i, x.ray(i, 3), q);
    }

    private static int common(int a, int b) {
        return b == 0 ? Math.abs(a) : common(b, a % b);
    }

    private static void chainOfACone() {
        String sentence = "B(k) upwards to a whole number; the last, if the next is 0; a whole cone has no chain";
        // Q 1: N alone. Q N - 1: N - 1 times 2. 7 by 3: 3, 2, 2. 7 by 5: 2, 2, 3. 9 by 5: 2, 5. 9 by 2: 5, 2.
        int[][] cones = {{-1, 9, 9}, {1, 9, 2, 2, 2, 2, 2, 2, 2, 2}, {4, 7, 3, 2, 2}, {2, 7, 2, 2, 3}, {4, 9, 2, 5},
                {7, 9, 5, 2}, {1, 2, 2}, {0, 1}, {-9, 1}};
        for (int[] cone : cones) {
            FanCones x = Check.made("ray a at 1 0;ray b at " + cone[0] + " " + cone[1]
                    + ";ray c at -1 -1;ray d at 0 -1;ray e at -1 0");
            Check.due(sentence, "how many numbers", x.ray(0, 4), cone.length - 2);
            for (int k = 0; k + 2 < cone.length; k++) {
                Check.due(sentence, "chain(0, " + k + ") of " + cone[0] + " " + cone[1], x.chain(0, k), cone[k + 2]);
            }
            int behind = cone.length - 2;
            Check.taken(sentence, "chain(0, " + behind + ")", x, y -> y.chain(0, behind), -2);
        }
    }

    private static void chainHasNotSoMany() {
        String sentence = "chain: -2 there are not so many; refused by 1 (k below 0, too)";
        String text = "ray a at 1 0;ray b at 4 7;ray c at -1 0;ray d at 0 -1";
        FanCones x = Check.made(text);
        Check.taken(sentence, "the last", x, y -> y.chain(0, 2), 2);
        Check.taken(sentence, "one behind it", x, y -> y.chain(0, 3), -2);
        Check.taken(sentence, "far behind it", x, y -> y.chain(0, Integer.MAX_VALUE), -2);
        Check.taken(sentence, "the first of a whole cone", x, y -> y.chain(3, 0), -2);
        Check.refused(sentence, "k -1", () -> Check.made(text), y -> y.chain(0, -1), NONE, 1);
        Check.refused(sentence, "k -1 of a whole cone", () -> Check.made(text), y -> y.chain(3, -1), NONE, 1);
        Check.refused(sentence, "no cone", () -> Check.made(text), y -> y.chain(4, 0), NONE, 1);
    }

    private static void coneOnARay() {
        String sentence = "in which cone (x, y) lies; on a ray: that one's";
        FanCones x = Check.made("ray a at 3 1;ray b at -1 2;ray c at -2 -1;ray d at 1 -3");
        for (int i = 0; i < 4; i++) {
            int rayX = (int) x.ray(i, 0);
            int rayY = (int) x.ray(i, 1);
            Check.due(sentence, "on ray " + i, x.cone(rayX, rayY), i);
            Check.due(sentence, "farther on ray " + i, x.cone(20 * rayX, 20 * rayY), i);
            // Beside the ray, on either side of it.
            Check.due(sentence, "behind ray " + i, x.cone(19 * rayX - rayY, 19 * rayY + rayX), i);
            Check.due(sentence, "ahead of ray " + i, x.cone(19 * rayX + rayY, 19 * rayY - rayX), (i + 3) % 4);
        }
    }

    private static void conePlaces() {
        String sentence = "cone: -60 .. 60 both; refused by 1 (no fan), 2 (both 0, too)";
        FanCones x = Check.made(AXES);
        Check.taken(sentence, "cone(60, 60)", x, y -> y.cone(60, 60), 0);
        Check.taken(sentence, "cone(-60, 60)", x, y -> y.cone(-60, 60), 1);
        Check.taken(sentence, "cone(-60, -60)", x, y -> y.cone(-60, -60), 2);
        Check.taken(sentence, "cone(60, -60)", x, y -> y.cone(60, -60), 3);
        Check.taken(sentence, "cone(1, 0)", x, y -> y.cone(1, 0), 0);
        Check.taken(sentence, "cone(0, -1)", x, y -> y.cone(0, -1), 3);
        for (int v : new int[] {61, -61, 62, Integer.MAX_VALUE, Integer.MIN_VALUE}) {
            Check.refused(sentence, "cone(" + v + ", 0)", () -> Check.made(AXES), y -> y.cone(v, 0), NONE, 2);
            Check.refused(sentence, "cone(0, " + v + ")", () -> Check.made(AXES), y -> y.cone(0, v), NONE, 2);
            Check.refused(sentence, "cone of twice " + v, () -> Check.made(AXES), y -> y.cone(v, v), NONE, 2);
        }
        Check.refused(sentence, "cone(0, 0)", () -> Check.made(AXES), y -> y.cone(0, 0), NONE, 2);
        Check.refused(sentence, "cone(0, 0) without a fan", FanCones::new, y -> y.cone(0, 0), NONE, 1);
        Check.refused(sentence, "cone(61, 0) without a fan", FanCones::new, y -> y.cone(61, 0), NONE, 1);
    }

    // ---- loads

    private static void functionOnRaysAndBetween() {
        String sentence = "function: s and t times their numbers (s, t not below 0, may be broken), in lowest terms";
        FanCones x = Check.made("ray a at 1 0;ray b at 2 5;ray c at -1 0;ray d at 0 -1;load o 3 on a,-4 on b,20 on c");
        Check.due(sentence, "on ray 0", x.function(0, 1, 0, 0), 3);
        Check.due(sentence, "60 times ray 0", x.function(0, 60, 0, 0), 180);
        Check.due(sentence, "12 times ray 1", x.function(0, 24, 60, 0), -48);
        // (1, 1) is 3 by 5 times (1, 0) and 1 by 5 times (2, 5).
        Check.due(sentence, "9 by 5 less 4 by 5: above", x.function(0, 1, 1, 0), 1);
        Check.due(sentence, "9 by 5 less 4 by 5: below", x.function(0, 1, 1, 1), 1);
        // (1, 2) is 1 by 5 times (1, 0) and 2 by 5 times (2, 5).
        Check.due(sentence, "3 by 5 less 8 by 5: above", x.function(0, 1, 2, 0), -1);
        Check.due(sentence, "3 by 5 less 8 by 5: below", x.function(0, 1, 2, 1), 1);
        // (2, 1) is 8 by 5 and 1 by 5.
        Check.due(sentence, "24 by 5 less 4 by 5: above", x.function(0, 2, 1, 0), 4);
        Check.due(sentence, "24 by 5 less 4 by 5: below", x.function(0, 2, 1, 1), 1);
        x.set(0, 1, -3);
        // (1, 2): 3 by 5 less 6 by 5
        Check.due(sentence, "above, below 0", x.function(0, 1, 2, 0), -3);
        Check.due(sentence, "below, above 0", x.function(0, 1, 2, 1), 5);
        // (2, 4): twice that
        Check.due(sentence, "twice it: above", x.function(0, 2, 4, 0), -6);
        Check.due(sentence, "twice it: below", x.function(0, 2, 4, 1), 5);
        Check.due(sentence, "5 times it: below", x.function(0, 5, 10, 1), 1);
    }

    private static void functionAtZero() {
        String sentence = "function at (0, 0), which is no refusal here";
        FanCones x = Check.made("ray a at 1 2;ray b at -1 2;ray c at 0 -1;load o 3 on a,-4 on b,7 on c");
        Check.taken(sentence, "above", x, y -> y.function(0, 0, 0, 0), 0);
        Check.taken(sentence, "below", x, y -> y.function(0, 0, 0, 1), 1);
        x.fill(0, 0);
        Check.taken(sentence, "0 elsewhere: above", x, y -> y.function(0, 1, 1, 0), 0);
        Check.taken(sentence, "0 elsewhere: below", x, y -> y.function(0, 1, 1, 1), 1);
    }

    private static void functionPlaces() {
        String sentence = "function: -60 .. 60 both; refused by 1 (what, too), then 2";
        String text = AXES + ";load o 20 on e,20 on n,-20 on w,-20 on s";
        FanCones x = Check.made(text);
        Check.taken(sentence, "(60, 60)", x, y -> y.function(0, 60, 60, 0), 2400);
        Check.taken(sentence, "(-60, -60)", x, y -> y.function(0, -60, -60, 0), -2400);
        Check.taken(sentence, "(60, -60)", x, y -> y.function(0, 60, -60, 0), 0);
        Check.taken(sentence, "(60, -60)", x, y -> y.function(0, 60, -60, 1), 1);
        for (int v : new int[] {61, -61, Integer.MAX_VALUE, Integer.MIN_VALUE}) {
            Check.refused(sentence, "x " + v, () -> Check.made(text), y -> y.function(0, v, 0, 0), NOTHING, 2);
            Check.refused(sentence, "y " + v, () -> Check.made(text), y -> y.function(0, 0, v, 1), NOTHING, 2);
            Check.refused(sentence, "x, no what", () -> Check.made(text), y -> y.function(0, v, 0, 2), NOTHING, 1);
            Check.refused(sentence, "y, no load", () -> Check.made(text), y -> y.function(1, 0, v, 0), NOTHING, 1);
        }
    }

    private static void pieceIsZeroLessNumber() {
        String sentence = "piece: m x + n y of both its rays is 0 less number, told times turn";
        FanCones x = Check.made("ray a at 9 8;ray b at -9 8;ray c at -1 -9;load o 20 on a,-20 on b,7 on c;"
                + "load z 0 on a");
        for (int i = 0; i < 3; i++) {
            int j = (i + 1) % 3;
            long m = x.piece(0, i, 0);
            long n = x.piece(0, i, 1);
            Check.due(sentence, "on its ray", m * x.ray(i, 0) + n * x.ray(i, 1), -x.load(0, i) * x.ray(i, 2));
            Check.due(sentence, "on the ray behind it", m * x.ray(j, 0) + n * x.ray(j, 1), -x.load(0, j) * x.ray(i, 2));
            Check.due(sentence, "m of 0", x.piece(1, i, 0), 0);
            Check.due(sentence, "n of 0", x.piece(1, i, 1), 0);
            Check.due(sentence, "0 is whole", x.piece(1, i, 2), 1);
        }
    }

    private static void pieceIsWholeIfBothAre() {
        String sentence = "piece: 2: 1 if both are whole, 0";
        // In the cone from (1, 0) to (1, 2): m is 0 less the first number, n half of what is between the two.
        FanCones x = Check.made("ray a at 1 0;ray b at 1 2;ray c at -1 0;ray d at 0 -1;load o 1 on a,1 on b");
        Check.due(sentence, "both whole", x.piece(0, 0, 2), 1);
        x.set(0, 1, 2);
        Check.due(sentence, "n: -1 by 2", x.piece(0, 0, 1), -1);
        Check.due(sentence, "n isn't whole", x.piece(0, 0, 2), 0);
        x.set(0, 1, -1);
        Check.due(sentence, "n: 2 by 2", x.piece(0, 0, 1), 2);
        Check.due(sentence, "both whole", x.piece(0, 0, 2), 1);
        // In the cone from (2, 1) to (0, 1) n is 0 less the second number.
        FanCones y = Check.made("ray a at 2 1;ray b at 0 1;ray c at -1 0;ray d at 0 -1;load o 1 on a,2 on b");
        Check.due(sentence, "m: 1 by 2", y.piece(0, 0, 0), 1);
        Check.due(sentence, "m isn't whole", y.piece(0, 0, 2), 0);
        y.set(0, 0, 4);
        Check.due(sentence, "m: -2 by 2", y.piece(0, 0, 0), -2);
        Check.due(sentence, "both whole", y.piece(0, 0, 2), 1);
    }

    private static void brokenPiecesAsBits() {
        String sentence = "broken: cones (bits) in which its piece isn't whole";
        FanCones x = Check.made("ray a at 1 1;ray b at -1 1;ray c at -1 -1;ray d at 1 -1;load o 1 on a;load z 0 on a");
        Check.due(sentence, "the first and the last", x.broken(0), 9);
        Check.due(sentence, "none", x.broken(1), 0);
        x.set(0, 0, 0);
        x.set(0, 2, 1);
        Check.due(sentence, "the second and the third", x.broken(0), 6);
        x.set(0, 0, 1);
        Check.due(sentence, "all four", x.broken(0), 15);
        x.fill(0, 1);
        Check.due(sentence, "none", x.broken(0), 0);
        Check.due(sentence, "whole cones never", Check.made(PLANE + ";load o 1 on a,-7 on b,20 on c").broken(0), 0);
    }

    private static void bentWithZeroOrMore() {
        String sentence = "bent, if it meets each ray with 0 or more; bent all, if with more than 0";
        // On the axes a load meets e with what n and s have, and so on around.
        FanCones x = Check.made(AXES + ";load o 1 on e,1 on n");
        Check.due(sentence, "1, 1, 1, 1", x.bent(0), 2);
        x.set(0, 1, 0);
        Check.due(sentence, "0, 1, 0, 1", x.bent(0), 1);
        x.set(0, 0, 0);
        Check.due(sentence, "0 on all", x.bent(0), 1);
        x.set(0, 2, -1);
        Check.due(sentence, "0, -1, 0, -1", x.bent(0), 0);
        x.set(0, 3, 2);
        Check.due(sentence, "2, -1, 2, -1", x.bent(0), 0);
        x.set(0, 0, 1);
        Check.due(sentence, "2, 0, 2, 0", x.bent(0), 1);
        x.set(0, 0, 2);
        Check.due(sentence, "2, 1, 2, 1", x.bent(0), 2);
    }

    private static void bentNeedsNoMeasure() {
        String sentence = "bent is refused by 1 alone";
        FanCones x = Check.made(MEASURE_1000008);
        Check.taken(sentence, "bent(0)", x, y -> y.bent(0), 0);
        x.fill(0, 20);
        Check.taken(sentence, "bent(0)", x, y -> y.bent(0) > 0 ? 1 : 0, 0);
        x.fill(0, 0);
        Check.taken(sentence, "bent(0)", x, y -> y.bent(0), 1);
        Check.due(sentence, "measure", x.measure(), NONE);
        Check.taken(sentence, "alike(0, 0)", x, y -> y.alike(0, 0), 1);
    }

    private static void alikeByWholeNumbers() {
        String sentence = "alike, if there are whole m, n";
        // What differs by (x and y) by 2 is whole on each of these rays.
        FanCones x = Check.made("ray a at 1 1;ray b at -1 1;ray c at -1 -1;ray d at 1 -1;load o 1 on a,-1 on c;"
                + "load z 0 on a;load t 2 on a,-2 on c");
        Check.due(sentence, "by 1 by 2", x.alike(0, 1), 0);
        Check.due(sentence, "by 1 by 2, the other way", x.alike(1, 0), 0);
        Check.due(sentence, "by 1", x.alike(2, 1), 1);
        Check.due(sentence, "by -1", x.alike(1, 2), 1);
        Check.due(sentence, "with itself", x.alike(0, 0), 1);
        x.shifts(0, 20, -20);
        x.shifts(0, -20, 20);
        Check.due(sentence, "shifted there and back", x.alike(0, 1), 0);
        x.shifts(1, 20, -20);
        x.shifts(1, 20, -20);
        Check.due(sentence, "shifted far", x.alike(1, 2), 1);
    }

    private static void alikeOnEachRay() {
        String sentence = "alike on each ray";
        FanCones x = Check.made(AXES + ";load o 3 on e,-2 on n,-3 on w,2 on s;load z 0 on e");
        Check.due(sentence, "3 x less 2 y", x.alike(0, 1), 1);
        for (int i = 0; i < 4; i++) {
            for (int more = -1; more <= 1; more += 2) {
                int v = (int) x.load(0, i) + more;
                x.set(0, i, v);
                Check.due(sentence, "1 off on ray " + i, x.alike(0, 1), 0);
                x.undo();
            }
        }
    }

    private static void alikeWhateverTheTurns() {
        String sentence = "alike: the number of the first is that of the second and m x + n y";
        // TURNS 5, 7, 6 and 1
        FanCones x = Check.made("ray a at 1 0;ray b at 2 5;ray c at -3 -4;ray d at 0 -1;"
                + "load o 4 on a,-3 on b,2 on c,7 on d;load p 4 on a,-3 on b,2 on c,7 on d");
        int[][] ways = {{1, 0}, {0, 1}, {-3, 2}, {20, -20}, {-7, -9}};
        for (int[] way : ways) {
            x.shifts(0, way[0], way[1]);
            Check.due(sentence, "the shifted one first", x.alike(0, 1), 1);
            Check.due(sentence, "the shifted one second", x.alike(1, 0), 1);
            x.undo();
            x.shifts(1, way[0], way[1]);
            Check.due(sentence, "the other one shifted", x.alike(0, 1), 1);
            x.undo();
        }
        x.set(0, 3, 8);
        Check.due(sentence, "1 more on the last ray", x.alike(0, 1), 0);
    }

    // ---- meeting

    private static void raysMeetAsNeighbours() {
        String sentence = "rays meet: neighbours 1 by turn (of three each two are neighbours once), others 0";
        // TURNS 1, 1, 2
        FanCones x = Check.made("ray a at 1 0;ray b at 0 1;ray c at -1 -2");
        long[][] want = {{1, 2, 1}, {2, 4, 2}, {1, 2, 1}};
        for (int i = 0; i < 3; i++) {
            for (int j = 0; j < 3; j++) {
                Check.due(sentence, "rays(" + i + ", " + j + ") of three", x.rays(i, j), want[i][j]);
            }
        }
        FanCones y = Check.made(AXES);
        for (int i = 0; i < 4; i++) {
            for (int j = 0; j < 4; j++) {
                Check.due(sentence, "rays(" + i + ", " + j + ") of four", y.rays(i, j), (i + j) % 2);
            }
        }
    }

    private static void rayMeetsItself() {
        String sentence = "a ray with itself: 0 less turn of its neighbours (it may be 0 or less) by both turns";
        FanCones x = Check.made(PLANE);
        Check.due(sentence, "a turn below 0", x.rays(0, 0), 1);
        Check.due(sentence, "a turn of 0", Check.made(AXES).rays(0, 0), 0);
        x.star(0);
        Check.due(sentence, "a turn above 0", x.rays(1, 1), -1);
        // Between (1, 0) and (0, 1): (2, 3), by turns 3 and 2.
        FanCones y = Check.made("ray a at 1 0;ray b at 2 3;ray c at 0 1;ray d at -1 0;ray e at 0 -1");
        Check.due(sentence, "-1 by 6, times 6", y.rays(1, 1), -1);
        Check.due(sentence, "the first: 2 by 3, times 6", y.rays(0, 0), -4);
    }

    private static void loadsMeetOverAllPairs() {
        String sentence = "loads meet: over all pairs of rays, in both orders, each with itself once";
        FanCones x = Check.made("ray a at 1 0;ray b at 2 3;ray c at 0 1;ray d at -1 0;ray e at 0 -1;"
                + "load o 1 on a,2 on b,-3 on c,4 on d,-5 on e;load p 7 on a,-1 on c,2 on e;load z 0 on a");
        long[][] meet = new long[5][5];
        long[][] number = new long[3][5];
        for (int i = 0; i < 5; i++) {
            for (int j = 0; j < 5; j++) {
                meet[i][j] = x.rays(i, j);
            }
            for (int d = 0; d < 3; d++) {
                number[d][i] = x.load(d, i);
            }
        }
        for (int d = 0; d < 3; d++) {
            for (int e = 0; e < 3; e++) {
                long sum = 0;
                for (int pair = 0; pair < 25; pair++) {
                    sum += number[d][pair / 5] * number[e][pair % 5] * meet[pair / 5][pair % 5];
                }
                Check.due(sentence, "meets(" + d + ", " + e + ")", x.meets(d, e), sum);
            }
        }
    }

    private static void touchesIsALoadOf1() {
        String sentence = "touches: a load meets a ray as it meets a load of 1 on that, 0 else";
        FanCones x = Check.made("ray a at 1 0;ray b at 2 3;ray c at 0 1;ray d at -1 0;ray e at 0 -1;"
                + "load o 1 on a,2 on b,-3 on c,4 on d,-5 on e;load p 0 on a");
        for (int i = 0; i < 5; i++) {
            x.fill(1, 0);
            x.set(1, i, 1);
            Check.due(sentence, "touches(0, " + i + ")", x.touches(0, i), x.meets(0, 1));
            Check.due(sentence, "the other way", x.touches(0, i), x.meets(1, 0));
        }
    }

    // ---- points

    private static void pointsOnTheRim() {
        String sentence = "a point: 0 less number, or more; inner: more on each ray";
        // m from -v to 0, n from 0 to 0
        FanCones x = Check.made(AXES + ";load o 0 on e");
        Check.due(sentence, "points of 0", x.points(0, 1), 1);
        Check.due(sentence, "inner of 0", x.inner(0, 1), 0);
        x.fill(0, 1);
        Check.due(sentence, "points of a square of 3", x.points(0, 1), 9);
        Check.due(sentence, "inner of a square of 3", x.inner(0, 1), 1);
        x.set(0, 0, 0);
        Check.due(sentence, "points of 2 by 3", x.points(0, 1), 6);
        Check.due(sentence, "inner of 2 by 3", x.inner(0, 1), 0);
        x.set(0, 0, -1);
        Check.due(sentence, "points of 1 by 3", x.points(0, 1), 3);
        Check.due(sentence, "m of them", x.point(0, 1, 0, 0), 1);
        x.set(0, 0, -2);
        Check.due(sentence, "points of none", x.points(0, 1), 0);
        Check.due(sentence, "inner of none", x.inner(0, 1), 0);
        for (int below = 1; below <= 20; below++) {
            x.fill(0, 1);
            x.set(0, 1, -below);
            // n from below to 1
            Check.due(sentence, "points between n and s", x.points(0, 1), below == 1 ? 3 : 0);
            Check.due(sentence, "inner between n and s", x.inner(0, 1), 0);
        }
    }

    private static void pointsOfMultiples() {
        String sentence = "k times a load: all its numbers k times, 0 .. 4";
        String text = PLANE + ";load o 1 on c;load p -1 on a,-1 on b,-1 on c;load q -1 on a,-1 on b,4 on c";
        FanCones x = Check.made(text);
        long[] points = {1, 3, 6, 10, 15};
        long[] inner = {0, 0, 0, 1, 3};
        for (int k = 0; k <= 4; k++) {
            int times = k;
            Check.taken(sentence, "points(0, " + k + ")", x, y -> y.points(0, times), points[k]);
            Check.taken(sentence, "inner(0, " + k + ")", x, y -> y.inner(0, times), inner[k]);
            Check.taken(sentence, "points(1, " + k + ")", x, y -> y.points(1, times), k == 0 ? 1 : 0);
            Check.taken(sentence, "inner(1, " + k + ")", x, y -> y.inner(1, times), 0);
            // A triangle of side 2 k, elsewhere.
            Check.taken(sentence, "points(2, " + k + ")", x, y -> y.points(2, times), (2 * k + 1) * (k + 1));
        }
        for (int k : new int[] {-1, 5, Integer.MIN_VALUE, Integer.MAX_VALUE}) {
            Check.refused(sentence, "points(0, " + k + ")", () -> Check.made(text), y -> y.points(0, k), NOTHING, 2);
            Check.refused(sentence, "inner(0, " + k + ")", () -> Check.made(text), y -> y.inner(0, k), NOTHING, 2);
            Check.refused(sentence, "point of k " + k, () -> Check.made(text), y -> y.point(0, k, 0, 0), NOTHING, 2);
            Check.refused(sentence, "points(3, " + k + ")", () -> Check.made(text), y -> y.points(3, k), NOTHING, 1);
            Check.refused(sentence, "inner(3, " + k + ")", () -> Check.made(text), y -> y.inner(3, k), NOTHING, 1);
        }
    }

    private static void noPoints() {
        String sentence = "a load may have no point, or none that is whole";
        // m and n 1 or more, 2 m + 3 n 6 or less: (1, 1) alone; with 4 or less none.
        FanCones x = Check.made("ray a at 1 0;ray b at 0 1;ray c at -2 -3;load o -1 on a,-1 on b,6 on c");
        Check.due(sentence, "one point", x.points(0, 1), 1);
        Check.due(sentence, "m of it", x.point(0, 1, 0, 0), 1);
        Check.due(sentence, "n of it", x.point(0, 1, 0, 1), 1);
        x.set(0, 2, 4);
        Check.due(sentence, "no point", x.points(0, 1), 0);
        // 3 m - n, -m + 3 n 1 or more, m + n 2 or less leave (1 by 2, 1 by 2) .. (1, 1); with 1, no whole point.
        FanCones w = Check.made("ray a at 3 -1;ray b at -1 3;ray c at -1 -1;load o -1 on a,-1 on b,2 on c");
        Check.due(sentence, "(1, 1) alone", w.points(0, 1), 1);
        w.set(0, 1, 1);
        Check.due(sentence, "points, none of them whole", w.points(0, 1), 0);
        Check.due(sentence, "twice: (1, 1)", w.points(0, 2), 1);
        FanCones y = Check.made("ray a at 1 2;ray b at -1 -1;ray c at 0 -1;load o 0 on a,0 on b,0 on c");
        Check.due(sentence, "(0, 0) alone", y.points(0, 1), 1);
        y.fill(0, -1);
        Check.due(sentence, "none", y.points(0, 4), 0);
        Check.taken(sentence, "inner of none", y, z -> z.inner(0, 4), 0);
        Check.refused(sentence, "the first of none", () -> Check.made(PLANE + ";load o -1 on a"),
                z -> z.point(0, 1, 0, 0), NOTHING, 1);
        Check.taken(sentence, "needs of none", y, z -> z.needs(0, 1), -2);
        Check.taken(sentence, "needs of none, 0", y, z -> z.needs(0, 0), 1);
    }

    private static void pointsOfManySides() {
        String sentence = "a point is one of each ray, of how many there are";
        for (int round = 0; round < 12; round++) {
            FanCones x = Check.made("ray a at 1 0;ray b at 3 1;ray c at 1 1;ray d at 1 2;ray e at 0 1;ray f at -1 2;"
                    + "ray g at -2 1;ray h at -1 0;ray i at -3 -2;ray j at -1 -3;ray k at 1 -2;ray l at 2 -1;"
                    + "load o 0 on a");
            for (int i = 0; i < 12; i++) {
                x.set(0, i, (round * 7 + i * (3 + round)) % 11 - round % 3);
            }
            for (int k = 0; k <= 4; k++) {
                Check.due(sentence, "points of round " + round, x.points(0, k), pointsByHand(x, k, 0));
                Check.due(sentence, "inner of round " + round, x.inner(0, k), pointsByHand(x, k, 1));
            }
        }
    }

    private static long pointsByHand(FanCones x, int k, int less) {
        int rays = x.about(0);
        long[][] row = new long[rays][];
        for (int i = 0; i < rays; i++) {
            row[i] = new long[] {x.ray(i, 0), x.ray(i, 1), k * x.load(0, i) - less};
        }
        long found = 0;
        for (int m = -60; m <= 60; m++) {
            for (int n = -60; n <= 60; n++) {
                boolean isIn = true;
                for (long[] ray : row) {
                    isIn &= m * ray[0] + n * ray[1] >= -ray[2];
                }
                found += isIn ? 1 : 0;
            }
        }
        return found;
    }

    private static void greatestPolygons() {
        String sentence = "numbers up to 2,000, four times";
        FanCones x = Check.made(AXES + ";load o 20 on e,20 on n,20 on w,20 on s");
        // 20, 80, 320, 1280, then 36 times 20 more
        x.adds(0, 0, 3);
        x.adds(0, 0, 3);
        x.adds(0, 0, 3);
        Check.due(sentence, "1280", x.load(0, 0), 1280);
        for (int step = 0; step < 36; step++) {
            x.shifts(0, 20, 20);
        }
        Check.due(sentence, "2000", x.load(0, 0), 2000);
        Check.due(sentence, "560", x.load(0, 2), 560);
        Check.due(sentence, "points: 10241 by 10241", x.points(0, 4), 10241L * 10241);
        Check.due(sentence, "inner", x.inner(0, 4), 10239L * 10239);
        Check.due(sentence, "the first: m", x.point(0, 4, 0, 0), -8000);
        Check.due(sentence, "the first: n", x.point(0, 4, 0, 1), -8000);
        long last = 10241L * 10241 - 1;
        Check.due(sentence, "the last: m", x.point(0, 4, last, 0), 2240);
        Check.due(sentence, "the last: n", x.point(0, 4, last, 1), 2240);
        Check.due(sentence, "one behind it", x.point(0, 4, last + 1, 0), NOTHING);
        Check.due(sentence, "trouble()", x.trouble(), 1);
        wideTriangle(sentence);
    }

    /** A triangle whose corners are far: 4 times 2,000 on rays of which two are nearly opposite. */
    private static void wideTriangle(String sentence) {
        FanCones x = Check.made("ray a at 9 8;ray b at -8 -7;ray c at 0 -1;load o 20 on a,20 on b,20 on c");
        x.adds(0, 0, 3);
        x.adds(0, 0, 3);
        x.adds(0, 0, 3);
        long reach = 4 * x.load(0, 0);
        Check.due(sentence, "4 times 1280", reach, 5120);
        // 9 m + 8 n >= -reach, -8 m - 7 n >= -reach, n <= reach: of each n all m between.
        long points = 0;
        long inner = 0;
        long least = Long.MAX_VALUE;
        for (long n = -200000; n <= reach; n++) {
            long from = -Math.floorDiv(reach + 8 * n, 9L);
            long to = Math.floorDiv(reach - 7 * n, 8L);
            points += Math.max(0, to - from + 1);
            if (to >= from) {
                least = Math.min(least, from);
            }
            long within = -Math.floorDiv(reach - 1 + 8 * n, 9L);
            long up = Math.floorDiv(reach - 1 - 7 * n, 8L);
            inner += n < reach ? Math.max(0, up - within + 1) : 0;
        }
        Check.due(sentence, "points of a wide triangle", x.points(0, 4), points);
        Check.due(sentence, "inner of a wide triangle", x.inner(0, 4), inner);
        Check.due(sentence, "m of the first point of it", x.point(0, 4, 0, 0), least);
        Check.due(sentence, "one behind the last", x.point(0, 4, points, 0), NOTHING);
        Check.due(sentence, "the last is there", x.point(0, 4, points - 1, 0) > least ? 1 : 0, 1);
    }

    private static void pointsInOrder() {
        String sentence = "points are in order by m, then n";
        FanCones x = Check.made("ray a at 2 1;ray b at -1 1;ray c at -1 -3;ray d at 1 -1;"
                + "load o 5 on a,4 on b,7 on c,3 on d");
        for (int k = 1; k <= 4; k++) {
            long count = Math.min(25, x.points(0, k));
            for (long i = 1; i < count; i++) {
                long m = x.point(0, k, i, 0) - x.point(0, k, i - 1, 0);
                long n = x.point(0, k, i, 1) - x.point(0, k, i - 1, 1);
                Check.due(sentence, "point " + i + " of " + k + " times", m > 0 || m == 0 && n == 1 ? 1 : 0, 1);
            }
        }
        FanCones y = Check.made(AXES + ";load o 1 on e,1 on n,1 on w,1 on s");
        for (int i = 0; i < 9; i++) {
            Check.due(sentence, "m of point " + i, y.point(0, 1, i, 0), i / 3 - 1);
            Check.due(sentence, "n of point " + i, y.point(0, 1, i, 1), i % 3 - 1);
        }
    }

    private static void noSuchPoint() {
        String sentence = "point: i 0 or more; refused by 1 (load, what), 2 (k), 1 (no such point)";
        String text = PLANE + ";load o 1 on c";
        FanCones x = Check.made(text);
        Check.taken(sentence, "the first: m", x, y -> y.point(0, 2, 0, 0), 0);
        Check.taken(sentence, "the last: m", x, y -> y.point(0, 2, 5, 0), 2);
        Check.taken(sentence, "the last: n", x, y -> y.point(0, 2, 5, 1), 0);
        Check.taken(sentence, "the only one of 0 times", x, y -> y.point(0, 0, 0, 1), 0);
        for (long i : new long[] {-1, 6, 7, 1L << 31, 1L << 32, (1L << 32) + 1, -(1L << 32), Long.MAX_VALUE,
                Long.MIN_VALUE}) {
            for (int what = 0; what < 2; what++) {
                int asked = what;
                Check.refused(sentence, "point(0, 2, " + i + ", " + what + ")", () -> Check.made(text),
                        y -> y.point(0, 2, i, asked), NOTHING, 1);
            }
            Check.refused(sentence, "point(0, 5, " + i + ", 0)", () -> Check.made(text), y -> y.point(0, 5, i, 0),
                    NOTHING, 2);
            Check.refused(sentence, "point(1, 5, " + i + ", 0)", () -> Check.made(text), y -> y.point(1, 5, i, 0),
                    NOTHING, 1);
            Check.refused(sentence, "point(0, 5, " + i + ", 2)", () -> Check.made(text), y -> y.point(0, 5, i, 2),
                    NOTHING, 1);
        }
        Check.refused(sentence, "the second of 0 times", () -> Check.made(text), y -> y.point(0, 0, 1, 0), NOTHING, 1);
    }

    private static void needsTheLeastMultiple() {
        String sentence = "needs: the least k (1 .. 4) of n points or more; -2 none";
        FanCones x = Check.made(PLANE + ";load o 1 on c;load p 0 on a;load q -1 on a;load r 1 on a,-1 on b,1 on c");
        long[] most = {3, 6, 10, 15};
        for (int k = 1; k <= 4; k++) {
            int times = k;
            Check.taken(sentence, "needs(0, " + most[k - 1] + ")", x, y -> y.needs(0, most[times - 1]), k);
            Check.taken(sentence, "one more", x, y -> y.needs(0, most[times - 1] + 1), k == 4 ? -2 : k + 1);
        }
        for (long n : new long[] {Long.MIN_VALUE, -1, 0, 1}) {
            Check.taken(sentence, "needs(0, " + n + ")", x, y -> y.needs(0, n), 1);
        }
        for (long n : new long[] {1L << 32, Long.MAX_VALUE}) {
            Check.taken(sentence, "needs(0, " + n + ")", x, y -> y.needs(0, n), -2);
        }
        Check.taken(sentence, "one point of 0: 1", x, y -> y.needs(1, 1), 1);
        Check.taken(sentence, "one point of 0: 2", x, y -> y.needs(1, 2), -2);
        Check.taken(sentence, "no point: 0", x, y -> y.needs(2, 0), 1);
        Check.taken(sentence, "no point: 1", x, y -> y.needs(2, 1), -2);
        // A side of 1 also: the sum of its numbers tells.
        Check.taken(sentence, "3 points elsewhere", x, y -> y.needs(3, 3), 1);
        Check.taken(sentence, "15 points elsewhere", x, y -> y.needs(3, 15), 4);
    }
}
