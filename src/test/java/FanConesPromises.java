/** Each promise of the document by its number: ordinary inputs, the edges that it names, wrong inputs. */
public final class FanConesPromises {
    private static final long NOTHING = Long.MIN_VALUE;
    private static final String PLANE = "ray a at 1 0; ray b at 0 1; ray c at -1 -1; load h 1 on c; "
            + "load k -1 on a, -1 on b, -1 on c";
    private static final String SQUARE = "ray e at 1 0; ray n at 0 1; ray w at -1 0; ray s at 0 -1; "
            + "load low 1 on e; load wide 2 on e, 1 on n, 2 on w, 1 on s; load zero 0 on e";
    /** The CONE from (-1, -2) to (1, 0) has TURN 2; the others are WHOLE. */
    private static final String HALF = "ray a at 1 0; ray b at 0 1; ray c at -1 -2; load d 1 on a";
    /** TURNS 1, 9 and 1, its RAYS told in another order than they stand. */
    private static final String WIDE = "ray p at 9 -8; ray q at -1 1; ray m at 0 -1; load one 3 on q, 2 on p";
    private static final int[] ENDS = {Integer.MIN_VALUE, Integer.MAX_VALUE};

    private static int wrong = 0;

    public static void main(String[] args) {
        newObject();
        feed();
        fan();
        faultAndWhere();
        textForm();
        textBounds();
        textNames();
        textMany();
        textLacks();
        about();
        measure();
        ray();
        chain();
        cone();
        load();
        function();
        pieceAndBroken();
        bent();
        alike();
        meeting();
        points();
        point();
        needs();
        setAndFill();
        adds();
        shifts();
        star();
        starNumbers();
        cut();
        cutAll();
        drop();
        lean();
        undo();
        letter();
        trouble();
        refusedChangesNothing();
        System.out.println(wrong == 0 ? "all promises hold" : wrong + " answers are not as promised");
        if (wrong != 0) {
            System.exit(1);
        }
    }

    // ---- helpers

    private static void due(int promise, String call, long got, long want) {
        if (got != want) {
            wrong++;
            System.out.println("promise " + promise + ": " + call + " answered " + got + ", due is " + want);
        }
    }

    private static void due(int promise, String call, boolean got, boolean want) {
        due(promise, call, got ? 1 : 0, want ? 1 : 0);
    }

    private static FanCones made(String text) {
        FanCones x = new FanCones();
        Check.feed(x, text);
        if (x.fan(text.length()) < 3) {
            wrong++;
            System.out.println("promise 3: refused, fault " + x.fault() + " at " + x.where() + ": " + text);
        }
        return x;
    }

    private static void fault(String text, int fault, int where) {
        FanCones x = new FanCones();
        Check.feed(x, text);
        due(3, "fan of " + text, x.fan(text.length()), -1);
        due(36, "trouble of " + text, x.trouble(), 4);
        due(4, "fault of " + text, x.fault(), fault);
        due(5, "where of " + text, x.where(), where);
    }

    private static void fine(String text, int rays) {
        FanCones x = new FanCones();
        Check.feed(x, text);
        due(3, "fan of " + text, x.fan(text.length()), rays);
        due(4, "fault of " + text, x.fault(), 0);
        due(5, "where of " + text, x.where(), -1);
    }

    private static int thrown(FanCones x, int d, int k) {
        return Check.hasLetter(x, d, k) ? 0 : 1;
    }

    // ---- 1 to 5, the text

    private static void newObject() {
        FanCones x = new FanCones();
        due(1, "trouble", x.trouble(), 0);
        due(1, "fault", x.fault(), 0);
        due(1, "where", x.where(), -1);
        due(1, "size", x.size(), 0);
        due(1, "about(0)", x.about(0), -1);
        due(1, "trouble", x.trouble(), 1);
        due(1, "undo", x.undo(), -1);
        due(1, "trouble of undo", x.trouble(), 1);
        due(1, "cone(0, 0)", x.cone(0, 0), -1);
        due(1, "trouble of cone without a fan", x.trouble(), 1);
        due(1, "letter", thrown(x, 0, 0), 1);
        due(1, "NONE", FanCones.NONE, -1);
        due(1, "NOTHING", FanCones.NOTHING, NOTHING);
    }

    private static void feed() {
        FanCones x = new FanCones();
        for (int i = 1; i <= 25; i++) {
            due(2, "feed " + i, x.feed(538976288, 538976288, 538976288, 538976288, 538976288), 20 * i);
            due(35, "size " + i, x.size(), 20 * i);
        }
        due(2, "feed 26", x.feed(0, 0, 0, 0, 0), -1);
        due(2, "trouble, which a feed doesn't touch", x.trouble(), 0);
        due(35, "size", x.size(), 500);
        due(3, "fan of 500 blanks", x.fan(500), -1);
        due(5, "where", x.where(), 500);
        due(35, "size behind a fault", x.size(), 0);
        due(2, "feed again", x.feed(-1, 0, 0, 0, 0), 20);
        due(5, "where, which a feed doesn't touch", x.where(), 500);
        due(3, "fan of byte 255", x.fan(1), -1);
        due(5, "where of byte 255", x.where(), 0);
        // "ray a at 1 0;ray b a" has its bytes from the highest down.
        x.feed(1918990624, 1629512052, 540090416, 997351801, 543301729);
        due(3, "fan(12)", x.fan(12), -1);
        due(4, "one ray alone lacks", x.fault(), 5);
    }

    private static void fan() {
        FanCones x = new FanCones();
        for (int n : ENDS) {
            due(3, "fan(" + n + ")", x.fan(n), -1);
            due(3, "trouble of it", x.trouble(), 2);
        }
        Check.feed(x, PLANE);
        int size = x.size();
        due(3, "fan(-1)", x.fan(-1), -1);
        due(3, "fan(size + 1)", x.fan(size + 1), -1);
        due(3, "trouble", x.trouble(), 2);
        due(35, "size is left by 2", x.size(), size);
        due(3, "fan(size), with blanks at the end", x.fan(size), 3);
        due(3, "trouble", x.trouble(), 0);
        due(35, "size behind a fan", x.size(), 0);
        due(3, "load told", x.load(0, 2), 1);
        x.star(0);
        Check.feed(x, SQUARE);
        due(3, "another fan", x.fan(SQUARE.length()), 4);
        due(3, "loads", x.about(1), 3);
        due(3, "a fan leaves no acts", x.about(5), 0);
        due(3, "undo", x.undo(), -1);
        due(3, "trouble", x.trouble(), 5);
        // Only the first n bytes count.
        String text = "ray a at 1 0;ray b at 0 1;ray c at -1 -1";
        Check.feed(x, text + "{{{");
        due(3, "fan of the first bytes", x.fan(text.length()), 3);
        Check.feed(x, text + "2");
        due(3, "fan that ends within a whole", x.fan(text.length()), 3);
        fine("ray a at1 0;ray b at 0 1;ray c at-1-1;load d1on c,2on a", 3);
        fine("  ray  a  at  01  00  ;  ray  b  at  -  0  1  ;  ray  c  at  -  01  -1  ", 3);
        FanCones y = made("ray z at 0 -1; ray y at -1 0; load d 7 on y; ray x at 0 1; ray w at 1 0");
        due(3, "x of ray 0", y.ray(0, 0), 1);
        due(3, "y of ray 1", y.ray(1, 1), 1);
        due(3, "x of ray 2", y.ray(2, 0), -1);
        due(3, "y of ray 3", y.ray(3, 1), -1);
        due(3, "its number", y.load(0, 2), 7);
        due(3, "0 on a ray told behind the load", y.load(0, 0), 0);
    }

    private static void faultAndWhere() {
        FanCones x = new FanCones();
        due(4, "fault ahead of any", x.fault(), 0);
        x.fan(3);
        due(4, "fault behind a 2", x.fault(), 0);
        due(5, "where behind a 2", x.where(), -1);
        x.fan(0);
        due(4, "fault of nothing", x.fault(), 1);
        due(5, "where of nothing", x.where(), 0);
        x.size();
        x.feed(0, 0, 0, 0, 0);
        x.trouble();
        thrown(x, 0, 0);
        due(5, "where stays behind calls that aren't refused", x.where(), 0);
        x.fan(21);
        due(4, "fault stays behind a 2", x.fault(), 1);
        due(5, "where is gone behind a 2", x.where(), -1);
        x.fan(0);
        due(5, "where again", x.where(), 0);
        x.measure();
        due(5, "where behind a call refused by 1", x.where(), -1);
        due(4, "fault stays", x.fault(), 1);
        Check.feed(x, PLANE);
        x.fan(PLANE.length());
        due(4, "fault of a fan without one", x.fault(), 0);
        due(5, "where of it", x.where(), -1);
    }

    private static void textForm() {
        fault("", 1, 0);
        fault("   ", 1, 3);
        fault(";", 1, 0);
        fault("ray", 1, 3);
        fault("ray a at 1 0;", 1, 13);
        fault("ray a at 1 0; ;", 1, 14);
        fault("ray a at 1", 1, 10);
        fault("ray a at 1 -", 1, 12);
        fault("ray a at 1 - -1", 1, 13);
        fault("ray a at 1 , 0", 1, 11);
        fault("ray a on 1 0", 1, 6);
        fault("ray at at 1 0", 1, 4);
        fault("ray load at 1 0", 1, 4);
        fault("ray ray at 1 0", 1, 4);
        fault("load on 1 on a", 1, 5);
        fault("Ray a at 1 0", 1, 0);
        fault("rays a at 1 0", 1, 0);
        fault("a", 1, 0);
        fault("ray a1 at 1 0", 1, 5);
        fault("ray abcdefg at 1 0", 1, 4);
        fault("ray a at 100 0", 1, 9);
        fault("ray a at 001 0", 1, 9);
        fault("ray a at 1 0 ray b at 0 1", 1, 13);
        fault("ray a at 1 0, 0", 1, 12);
        fault("ray a at 1\t0", 1, 10);
        fault("ray a at 1 0;load", 1, 17);
        fault("ray a at 1 0;load d", 1, 19);
        fault("ray a at 1 0;load d on a", 1, 20);
        fault("ray a at 1 0;load d 1 at a", 1, 22);
        fault("ray a at 1 0;load d 1 on at", 1, 25);
        fault("ray a at 1 0;load d 1 on 1", 1, 25);
        fault("ray a at 1 0;load d 1 on a,", 1, 27);
        fault("ray a at 1 0;load d 1 on a;", 1, 27);
        fault("ray a at 1 0;load d 1 on a 2 on b", 1, 27);
        fine("ray abcdef at 1 0;ray b at 0 1;ray zzzzzz at -1 -1", 3);
    }

    private static void textBounds() {
        fault("ray a at 10 0", 2, 9);
        fault("ray a at -10 0", 2, 10);
        fault("ray a at - 10 0", 2, 11);
        fault("ray a at 1 10", 2, 11);
        fault("ray a at 1 -99", 2, 12);
        fault("ray a at 0 0", 2, 11);
        fault("ray a at 2 4", 2, 11);
        fault("ray a at 0 -2", 2, 12);
        fault("ray a at 9 6", 2, 11);
        fault("ray a at 1 0;ray b at 1 0", 2, 24);
        fault("ray a at 1 0;ray b at 1 -0", 2, 25);
        // The bound of the first whole is met ahead of what follows it.
        fault("ray a at 12 {", 2, 9);
        fault("ray a at 1 0;load d 21 on a", 2, 20);
        fault("ray a at 1 0;load d -21 on a", 2, 21);
        fault("ray a at 1 0;load d -20 on a, 99 on a", 2, 30);
        FanCones x = made("ray a at 1 0;ray b at 0 1;ray c at -1 -1;load d 20 on a,-20 on b");
        due(3, "20", x.load(0, 0), 20);
        due(3, "-20", x.load(0, 1), -20);
        FanCones y = made("ray a at 9 8;ray b at -9 8;ray c at 0 -1");
        due(3, "9", y.ray(0, 0), 9);
        due(3, "-9", y.ray(1, 0), -9);
    }

    private static void textNames() {
        fault("ray a at 1 0;ray a at 0 1", 3, 17);
        fault("ray a at 1 0;load a 1 on a", 3, 18);
        fault("ray a at 1 0;load d 1 on a;load d 1 on a", 3, 32);
        fault("ray a at 1 0;load d 1 on a;ray d at 0 1", 3, 31);
        fault("ray a at 1 0;load d 1 on b", 3, 25);
        fault("ray a at 1 0;load d 1 on d", 3, 25);
        fault("ray a at 1 0;load d 1 on a, 2 on a", 3, 33);
        fault("load d 1 on a;ray a at 1 0", 3, 12);
        fine("ray a at 1 0;ray aa at 0 1;ray aaa at -1 -1;load aaaa 1 on a, 1 on aa;load b 1 on a", 3);
    }

    private static final String TWELVE = "ray a at 1 0;ray b at 0 1;ray c at -1 0;ray d at 0 -1;ray e at 1 1;"
            + "ray f at -1 1;ray g at -1 -1;ray h at 1 -1;ray i at 1 2;ray j at 2 1;ray k at -1 2;ray l at -2 1";

    private static void textMany() {
        fine(TWELVE, 12);
        fault(TWELVE + ";ray", 4, TWELVE.length() + 1);
        fault(TWELVE + "; ray a at 1 0", 4, TWELVE.length() + 2);
        fault(TWELVE + ";rayo", 1, TWELVE.length() + 1);
        String six = "ray a at 1 0;ray b at 0 1;ray c at -1 -1;load d 1 on a;load e 1 on a;load f 1 on a;"
                + "load g 1 on a;load h 1 on a;load i 1 on a";
        fine(six, 3);
        fault(six + " ; load", 4, six.length() + 3);
        FanCones x = made(TWELVE + ";load m 1 on a,2 on b,3 on c,4 on d,5 on e,6 on f,7 on g,8 on h,9 on i,10 on j,"
                + "11 on k,12 on l");
        due(11, "number of the ray at 1 0", x.load(0, 0), 1);
        due(11, "number of the ray at 2 1", x.load(0, 1), 10);
        due(11, "number of the ray at 1 -1", x.load(0, 11), 8);
    }

    private static void textLacks() {
        fault("ray a at 1 0", 5, 12);
        fault("ray a at 1 0;ray b at -1 1", 5, 26);
        fault("ray a at 1 0;ray b at 0 1;ray c at 1 1 ", 5, 39);
        fault("ray a at 1 0;ray b at 0 1;ray c at -1 0", 5, 39);
        fault("ray a at 0 1;ray b at 0 -1;ray c at -1 0", 5, 40);
        fault("ray a at 1 1;ray b at -1 1;ray c at -1 -1", 5, 41);
        fault("ray a at 1 0;ray b at 0 1;ray c at 1 1;load d 1 on a", 5, 52);
        // A form that lacks at the end goes ahead of rays that lack.
        fault("ray a at 1 0;load d 1 on a,", 1, 27);
        fine("ray a at 9 1;ray b at -9 -1;ray c at 0 1;ray d at 9 -1", 4);
    }

    // ---- 6 to 10, the fan

    private static void about() {
        FanCones x = made(SQUARE);
        long[] want = {4, 3, 4, 1, 1, 0, 0, 0};
        for (int what = 0; what < 8; what++) {
            due(6, "about(" + what + ")", x.about(what), want[what]);
        }
        due(6, "about(8)", x.about(8), -1);
        due(6, "trouble", x.trouble(), 1);
        due(6, "about(-1)", x.about(-1), -1);
        for (int what : ENDS) {
            due(6, "about of an end", x.about(what), -1);
        }
        FanCones y = made("ray a at 1 1;ray b at -1 1;ray c at -1 -1;ray d at 1 -1");
        due(6, "no whole cone", y.about(2), 0);
        due(6, "greatest turn", y.about(3), 2);
        due(6, "index", y.about(4), 2);
        FanCones z = made(HALF);
        due(6, "whole cones", z.about(2), 2);
        due(6, "greatest turn", z.about(3), 2);
        due(6, "index of rays that make all", z.about(4), 1);
        FanCones w = made("ray a at 1 0;ray b at 1 1;ray c at 0 1;ray d at -1 1;ray e at -1 0;ray f at 0 -1");
        due(6, "rays that can go", w.about(6), 1 + 2 + 4 + 8 + 16);
        due(6, "light rays", w.about(7), 1 + 2 + 8 + 16);
        FanCones v = made("ray a at 1 0;ray b at 2 1;ray c at 0 1;ray d at -1 -1");
        due(6, "two rays that can go", v.about(6), 1 + 2);
        due(6, "of which one is light", v.about(7), 1);
    }

    private static void measure() {
        due(7, "of whole cones", made(SQUARE).measure(), 1);
        due(7, "of a half", made(HALF).measure(), 2);
        FanCones x = made("ray a at 9 1;ray b at -7 9;ray c at -5 -8;ray d at 7 -9");
        // 9 9 + 1 7 = 88, 7 8 + 9 5 = 101, 5 9 + 8 7 = 101, 7 1 + 9 9 = 88
        due(7, "least common multiple", x.measure(), 88 * 101);
        FanCones y = made("ray a at 9 1;ray b at 1 9;ray c at -8 9;ray d at -9 -2;ray e at -1 -9;ray f at 8 -9");
        // 80, 81, 97, 79, 81, 89: far beyond
        due(7, "beyond", y.measure(), -1);
        due(7, "trouble", y.trouble(), 3);
        due(7, "no fan", new FanCones().measure(), -1);
    }

    private static void ray() {
        FanCones x = made(WIDE);
        long[][] want = {{-1, 1, 1, 0, 0}, {0, -1, 9, 1, 1}, {9, -8, 1, 0, 0}};
        for (int i = 0; i < 3; i++) {
            for (int what = 0; what < 5; what++) {
                due(8, "ray(" + i + ", " + what + ")", x.ray(i, what), want[i][what]);
            }
        }
        due(8, "ray(0, 5)", x.ray(0, 5), NOTHING);
        due(8, "trouble", x.trouble(), 1);
        due(8, "ray(0, -1)", x.ray(0, -1), NOTHING);
        due(8, "ray(3, 0)", x.ray(3, 0), NOTHING);
        due(8, "ray(-1, 0)", x.ray(-1, 0), NOTHING);
        for (int end : ENDS) {
            due(8, "ray of an end", x.ray(end, 0), NOTHING);
            due(8, "ray, what an end", x.ray(0, end), NOTHING);
        }
        // 3 (1, 0) and (4, 7), added, are 7 (1, 1)
        FanCones y = made("ray a at 1 0;ray b at 4 7;ray c at -1 0;ray d at 0 -1");
        due(8, "N", y.ray(0, 2), 7);
        due(8, "Q", y.ray(0, 3), 3);
        due(8, "its chain: 3, 2, 2", y.ray(0, 4), 3);
    }

    private static void chain() {
        FanCones y = made("ray a at 1 0;ray b at 4 7;ray c at -1 0;ray d at 0 -1");
        long[] want = {3, 2, 2, -2};
        for (int k = 0; k < 4; k++) {
            due(9, "chain(0, " + k + ")", y.chain(0, k), want[k]);
        }
        due(9, "trouble", y.trouble(), 0);
        due(9, "far behind", y.chain(0, Integer.MAX_VALUE), -2);
        due(9, "below 0", y.chain(0, -1), -1);
        due(9, "trouble", y.trouble(), 1);
        due(9, "of a whole cone", y.chain(3, 0), -2);
        due(9, "of none", y.chain(4, 0), -1);
        due(9, "of none", y.chain(-1, 0), -1);
        FanCones x = made("ray a at 1 0;ray b at 1 9;ray c at -1 0;ray d at 0 -1");
        due(9, "Q is N less 1", x.ray(0, 3), 8);
        for (int k = 0; k < 8; k++) {
            due(9, "eight times 2", x.chain(0, k), 2);
        }
        due(9, "behind them", x.chain(0, 8), -2);
        due(9, "Q is 1: N alone", made(WIDE).chain(1, 0), 9);
    }

    private static void cone() {
        FanCones x = made(WIDE);
        due(10, "on ray 0", x.cone(-60, 60), 0);
        due(10, "within", x.cone(-2, 1), 0);
        due(10, "on ray 1", x.cone(0, -7), 1);
        due(10, "within", x.cone(1, -1), 1);
        due(10, "on ray 2", x.cone(45, -40), 2);
        due(10, "(1, 0), behind the last ray", x.cone(1, 0), 2);
        due(10, "within", x.cone(-59, 60), 2);
        due(10, "0, 0", x.cone(0, 0), -1);
        due(10, "trouble", x.trouble(), 2);
        for (int v : new int[] {61, -61, Integer.MIN_VALUE, Integer.MAX_VALUE}) {
            due(10, "beyond", x.cone(v, 0), -1);
            due(10, "beyond", x.cone(0, v), -1);
            due(10, "trouble", x.trouble(), 2);
        }
    }

    // ---- 11 to 16, loads

    private static void load() {
        FanCones x = made(WIDE);
        due(11, "load(0, 0)", x.load(0, 0), 3);
        due(11, "load(0, 1)", x.load(0, 1), 0);
        due(11, "load(0, 2)", x.load(0, 2), 2);
        for (int v : new int[] {3, -1, Integer.MIN_VALUE, Integer.MAX_VALUE}) {
            due(11, "no ray", x.load(0, v), NOTHING);
            due(11, "no load", x.load(v, 0), NOTHING);
            due(11, "trouble", x.trouble(), 1);
        }
    }

    private static void function() {
        FanCones x = made(HALF);
        due(12, "on its ray", x.function(0, 60, 0, 0), 60);
        due(12, "below", x.function(0, 60, 0, 1), 1);
        due(12, "(0, -60) is 30 (-1, -2) and 30 (1, 0)", x.function(0, 0, -60, 0), 30);
        due(12, "(0, -1): above", x.function(0, 0, -1, 0), 1);
        due(12, "below", x.function(0, 0, -1, 1), 2);
        due(12, "(2, -1) is half of (-1, -2) and 5 halves of (1, 0)", x.function(0, 2, -1, 0), 5);
        due(12, "below", x.function(0, 2, -1, 1), 2);
        due(12, "0, 0", x.function(0, 0, 0, 0), 0);
        due(12, "below", x.function(0, 0, 0, 1), 1);
        due(12, "0 on rays without a number", x.function(0, -1, -2, 1), 1);
        due(12, "what 2", x.function(0, 61, 0, 2), NOTHING);
        due(12, "what goes ahead of numbers", x.trouble(), 1);
        due(12, "61", x.function(0, 0, 61, 0), NOTHING);
        due(12, "trouble", x.trouble(), 2);
        due(12, "-61", x.function(0, -61, 0, 1), NOTHING);
        due(12, "no load", x.function(1, 61, 0, 0), NOTHING);
        due(12, "trouble", x.trouble(), 1);
        x.set(0, 0, -1);
        due(12, "below 0", x.function(0, 0, -1, 0), -1);
        due(12, "its below is above 0", x.function(0, 0, -1, 1), 2);
    }

    private static void pieceAndBroken() {
        FanCones x = made(HALF);
        due(13, "cone 0: m", x.piece(0, 0, 0), -1);
        due(13, "cone 0: n", x.piece(0, 0, 1), 0);
        due(13, "cone 1: m", x.piece(0, 1, 0), 0);
        due(13, "cone 2: m", x.piece(0, 2, 0), -2);
        due(13, "cone 2: n", x.piece(0, 2, 1), 1);
        due(13, "cone 2", x.piece(0, 2, 2), 0);
        due(13, "cone 0", x.piece(0, 0, 2), 1);
        due(14, "broken", x.broken(0), 4);
        x.set(0, 0, 2);
        due(13, "cone 2, 2 on its ray", x.piece(0, 2, 2), 1);
        due(14, "broken", x.broken(0), 0);
        for (int v : new int[] {3, -1, Integer.MIN_VALUE, Integer.MAX_VALUE}) {
            due(13, "no what", x.piece(0, 0, v), NOTHING);
            due(13, "no cone", x.piece(0, v, 0), NOTHING);
            due(13, "no load", x.piece(v, 0, 0), NOTHING);
            due(13, "trouble", x.trouble(), 1);
            due(14, "no load", x.broken(v), -1);
            due(14, "trouble", x.trouble(), 1);
        }
        due(14, "all of four cones", made("ray a at 1 1;ray b at -1 1;ray c at -1 -1;ray d at 1 -1;"
                + "load o 1 on a, 1 on c").broken(0), 15);
    }

    private static void bent() {
        FanCones x = made(SQUARE);
        due(15, "1 on one ray of the square", x.bent(0), 1);
        due(15, "a box", x.bent(1), 2);
        due(15, "zero", x.bent(2), 1);
        x.set(2, 1, -1);
        due(15, "bends the other way", x.bent(2), 0);
        due(15, "no load", x.bent(3), -1);
        due(15, "no load", x.bent(-1), -1);
        due(15, "trouble", x.trouble(), 1);
        FanCones y = made("ray a at 9 1;ray b at 1 9;ray c at -8 9;ray d at -9 -2;ray e at -1 -9;ray f at 8 -9;"
                + "load o 9 on a, 9 on b, 9 on c, 9 on d, 9 on e, 9 on f");
        due(15, "needs no measure", y.bent(0), 2);
        due(15, "trouble", y.trouble(), 0);
    }

    private static void alike() {
        FanCones x = made(PLANE + "; load l 1 on b; load t 1 on a, -1 on c");
        due(16, "1 on c, 1 on b", x.alike(0, 2), 1);
        due(16, "the other way", x.alike(2, 0), 1);
        due(16, "unlike", x.alike(0, 1), 0);
        due(16, "itself", x.alike(1, 1), 1);
        due(16, "x is alike to nothing, not to a load", x.alike(3, 0), 0);
        due(16, "no load", x.alike(0, 4), -1);
        due(16, "no load", x.alike(4, 0), -1);
        due(16, "trouble", x.trouble(), 1);
        // 1 on a differs from zero by (x - y) by 2 in cone 0, no whole function.
        FanCones y = made("ray a at 1 1;ray b at -1 1;ray c at -1 -1;ray d at 1 -1;"
                + "load o 1 on a, -1 on c; load z 0 on a; load w 2 on a, -2 on c");
        due(16, "alike but for a broken function", y.alike(0, 1), 0);
        due(16, "alike by x and y", y.alike(2, 1), 1);
    }

    // ---- 17 to 19, meeting

    private static void meeting() {
        FanCones x = made(SQUARE);
        due(17, "a side with itself", x.meets(0, 0), 0);
        due(17, "low with the box", x.meets(0, 1), 2);
        due(17, "the box: twice its area, 4 by 2", x.meets(1, 1), 16);
        due(18, "low at n", x.touches(0, 1), 1);
        due(18, "low at e", x.touches(0, 0), 0);
        due(18, "low at w", x.touches(0, 2), 0);
        due(19, "opposite rays", x.rays(0, 2), 0);
        due(19, "neighbours over the start", x.rays(3, 0), 1);
        due(19, "neighbours over the start", x.rays(0, 3), 1);
        FanCones y = made(HALF);
        due(19, "self, by 2 times 1", y.rays(0, 0), 1);
        due(19, "by the half cone", y.rays(2, 0), 1);
        due(19, "by a whole cone", y.rays(1, 0), 2);
        due(17, "times measure", y.meets(0, 0), 1);
        due(18, "times measure", y.touches(0, 1), 2);
        for (int v : new int[] {4, -1, Integer.MIN_VALUE, Integer.MAX_VALUE}) {
            due(17, "no load", x.meets(v, 0), NOTHING);
            due(17, "no load", x.meets(0, v), NOTHING);
            due(18, "no load", x.touches(v, 0), NOTHING);
            due(18, "no ray", x.touches(0, v), NOTHING);
            due(19, "no ray", x.rays(v, 0), NOTHING);
            due(19, "no ray", x.rays(0, v), NOTHING);
            due(19, "trouble", x.trouble(), 1);
        }
        FanCones far = made("ray a at 9 1;ray b at 1 9;ray c at -8 9;ray d at -9 -2;ray e at -1 -9;ray f at 8 -9;"
                + "load o 9 on a");
        due(17, "measure beyond", far.meets(0, 0), NOTHING);
        due(17, "trouble", far.trouble(), 3);
        due(17, "no load goes ahead", far.meets(0, 1), NOTHING);
        due(17, "trouble", far.trouble(), 1);
        due(18, "measure beyond", far.touches(0, 0), NOTHING);
        due(18, "trouble", far.trouble(), 3);
        due(18, "no ray goes ahead", far.touches(0, 6), NOTHING);
        due(18, "trouble", far.trouble(), 1);
        due(19, "measure beyond, also where they don't meet", far.rays(0, 3), NOTHING);
        due(19, "trouble", far.trouble(), 3);
        due(19, "no ray goes ahead", far.rays(0, 6), NOTHING);
        due(19, "trouble", far.trouble(), 1);
    }

    // ---- 20 to 23, points

    private static void points() {
        FanCones x = made(SQUARE);
        due(20, "0 times", x.points(1, 0), 1);
        due(20, "a box of 5 by 3", x.points(1, 1), 15);
        due(20, "4 times: 17 by 9", x.points(1, 4), 153);
        due(21, "0 times", x.inner(1, 0), 0);
        due(21, "3 by 1", x.inner(1, 1), 3);
        due(21, "15 by 7", x.inner(1, 4), 105);
        due(20, "a line of 2", x.points(0, 1), 2);
        due(21, "within a line", x.inner(0, 1), 0);
        x.set(0, 0, -1);
        due(20, "empty", x.points(0, 1), 0);
        due(21, "empty", x.inner(0, 1), 0);
        due(20, "0 times what is empty", x.points(0, 0), 1);
        for (int k : new int[] {5, -1, Integer.MIN_VALUE, Integer.MAX_VALUE}) {
            due(20, "k", x.points(0, k), NOTHING);
            due(20, "trouble", x.trouble(), 2);
            due(21, "k", x.inner(0, k), NOTHING);
            due(21, "trouble", x.trouble(), 2);
            due(20, "load ahead of k", x.points(3, k), NOTHING);
            due(20, "trouble", x.trouble(), 1);
            due(21, "load ahead of k", x.inner(-1, k), NOTHING);
            due(21, "trouble", x.trouble(), 1);
        }
        FanCones y = made(PLANE);
        due(20, "a triangle of side 4", y.points(0, 4), 15);
        due(21, "its inner ones", y.inner(0, 4), 3);
    }

    private static void point() {
        FanCones x = made(PLANE);
        long[][] want = {{0, 0}, {0, 1}, {0, 2}, {1, 0}, {1, 1}, {2, 0}};
        for (int i = 0; i < want.length; i++) {
            due(22, "m of point " + i, x.point(0, 2, i, 0), want[i][0]);
            due(22, "n of point " + i, x.point(0, 2, i, 1), want[i][1]);
        }
        for (long i : new long[] {6, -1, Long.MAX_VALUE, Long.MIN_VALUE, 1L << 32}) {
            due(22, "no point", x.point(0, 2, i, 0), NOTHING);
            due(22, "trouble", x.trouble(), 1);
        }
        due(22, "k", x.point(0, 5, -1, 0), NOTHING);
        due(22, "k ahead of the point", x.trouble(), 2);
        due(22, "what", x.point(0, 5, 0, 2), NOTHING);
        due(22, "what ahead of k", x.trouble(), 1);
        due(22, "load", x.point(2, -1, 0, 0), NOTHING);
        due(22, "load ahead of k", x.trouble(), 1);
        due(22, "of an empty one", x.point(1, 1, 0, 0), NOTHING);
        due(22, "trouble", x.trouble(), 1);
        x.shifts(0, 3, -2);
        due(22, "m below 0", x.point(0, 1, 0, 0), -3);
        due(22, "n", x.point(0, 1, 0, 1), 2);
    }

    private static void needs() {
        FanCones x = made(PLANE);
        long[][] want = {{Long.MIN_VALUE, 1}, {3, 1}, {4, 2}, {6, 2}, {7, 3}, {10, 3}, {11, 4}, {15, 4}, {16, -2},
                {Long.MAX_VALUE, -2}};
        for (long[] pair : want) {
            due(23, "needs(0, " + pair[0] + ")", x.needs(0, pair[0]), pair[1]);
        }
        due(23, "trouble of none", x.trouble(), 0);
        due(23, "of an empty one", x.needs(1, 1), -2);
        due(23, "no load", x.needs(2, 1), -1);
        due(23, "trouble", x.trouble(), 1);
    }

    // ---- 24 to 27, acts on loads

    private static void setAndFill() {
        FanCones x = made(PLANE);
        due(24, "what it was", x.set(0, 2, 20), 1);
        due(24, "what it was", x.set(0, 2, -20), 20);
        due(24, "what it is", x.load(0, 2), -20);
        due(24, "other rays", x.load(0, 1), 0);
        due(24, "other loads", x.load(1, 2), -1);
        due(24, "acts", x.about(5), 2);
        due(25, "fill", x.fill(1, -20), true);
        due(25, "all", x.load(1, 0) + x.load(1, 1) + x.load(1, 2), -60);
        due(25, "other loads", x.load(0, 0), 0);
        for (int v : new int[] {21, -21, Integer.MIN_VALUE, Integer.MAX_VALUE}) {
            due(24, "v", x.set(0, 0, v), NOTHING);
            due(24, "trouble", x.trouble(), 2);
            due(24, "ray ahead of v", x.set(0, 3, v), NOTHING);
            due(24, "trouble", x.trouble(), 1);
            due(24, "load ahead of v", x.set(2, 0, v), NOTHING);
            due(24, "trouble", x.trouble(), 1);
            due(25, "v", x.fill(0, v), false);
            due(25, "trouble", x.trouble(), 2);
            due(25, "load ahead of v", x.fill(v, v), false);
            due(25, "trouble", x.trouble(), 1);
        }
        due(24, "acts", x.about(5), 3);
    }

    private static void adds() {
        FanCones x = made(PLANE);
        due(26, "adds", x.adds(0, 1, -3), true);
        due(26, "3 on a", x.load(0, 0), 3);
        due(26, "4 on c", x.load(0, 2), 4);
        due(26, "the other stays", x.load(1, 2), -1);
        due(26, "itself away", x.adds(1, 1, -1), true);
        due(26, "0", x.load(1, 2), 0);
        due(26, "0 times is an act", x.adds(0, 1, 0), true);
        due(26, "acts", x.about(5), 3);
        x.fill(1, 20);
        x.adds(1, 1, 3);
        x.adds(1, 1, 3);
        x.fill(0, 20);
        due(26, "320 and 1280 and 320", x.adds(1, 1, 3), true);
        due(26, "1280", x.load(1, 0), 1280);
        x.adds(0, 0, 1);
        x.adds(0, 0, 3);
        due(26, "160", x.load(0, 0), 160);
        x.adds(0, 0, 3);
        due(26, "1280 and 640, 1920", x.adds(1, 0, 1), true);
        x.fill(0, 20);
        due(26, "1920 and 60, 1980", x.adds(1, 0, 3), true);
        due(26, "2000", x.adds(1, 0, 1), true);
        due(26, "2000", x.load(1, 2), 2000);
        x.set(0, 0, 0);
        x.set(0, 1, 0);
        x.set(0, 2, 1);
        due(26, "2001 on one ray", x.adds(1, 0, 1), false);
        due(26, "trouble", x.trouble(), 3);
        due(26, "nothing has changed", x.load(1, 2), 2000);
        due(26, "down to -2000", x.adds(1, 1, -2), true);
        due(26, "-2001", x.adds(1, 0, -1), false);
        due(26, "trouble", x.trouble(), 3);
        for (int v : new int[] {4, -4, Integer.MIN_VALUE, Integer.MAX_VALUE}) {
            due(26, "times", x.adds(1, 1, v), false);
            due(26, "trouble", x.trouble(), 2);
            due(26, "load ahead of times", x.adds(0, 2, v), false);
            due(26, "trouble", x.trouble(), 1);
            due(26, "load ahead of times", x.adds(-1, 0, v), false);
            due(26, "trouble", x.trouble(), 1);
        }
    }

    private static void shifts() {
        FanCones x = made(PLANE);
        due(27, "shifts", x.shifts(0, 20, -20), true);
        due(27, "on a", x.load(0, 0), 20);
        due(27, "on b", x.load(0, 1), -20);
        due(27, "on c", x.load(0, 2), 1);
        due(27, "act", x.about(5), 1);
        for (int v : new int[] {21, -21, Integer.MIN_VALUE, Integer.MAX_VALUE}) {
            due(27, "m", x.shifts(0, v, 0), false);
            due(27, "trouble", x.trouble(), 2);
            due(27, "n", x.shifts(0, 0, v), false);
            due(27, "trouble", x.trouble(), 2);
            due(27, "load ahead", x.shifts(2, v, 0), false);
            due(27, "trouble", x.trouble(), 1);
        }
        FanCones y = made("ray a at 9 1;ray b at -1 9;ray c at -9 -8;load d 0 on a");
        for (int i = 0; i < 5; i++) {
            due(27, "shift " + i, y.shifts(0, 20, 20), true);
        }
        due(27, "-340 more would be beyond", y.shifts(0, 20, 20), false);
        due(27, "trouble", y.trouble(), 3);
        due(27, "five times 200", y.load(0, 0), 1000);
        due(27, "five times -340", y.load(0, 2), -1700);
    }

    // ---- 28 to 33, acts on rays

    private static void star() {
        FanCones x = made(SQUARE);
        due(28, "star(0)", x.star(0), 1);
        due(28, "x", x.ray(1, 0), 1);
        due(28, "y", x.ray(1, 1), 1);
        due(28, "in the last cone", x.star(4), 5);
        due(28, "x", x.ray(5, 0), 1);
        due(28, "y", x.ray(5, 1), -1);
        due(28, "number of low there", x.load(0, 5), 1);
        due(28, "number of wide there", x.load(1, 5), 3);
        FanCones y = made("ray a at 1 1;ray b at -1 1;ray c at -1 -1;ray d at 1 -1;load o 3 on d, 2 on a, -1 on c");
        due(28, "the new ray is the first", y.star(3), 0);
        due(28, "x, divided", y.ray(0, 0), 1);
        due(28, "y", y.ray(0, 1), 0);
        due(28, "5 by 2, downwards", y.load(0, 0), 2);
        due(28, "the others go on by one", y.load(0, 1), 2);
        due(28, "the others go on by one", y.load(0, 4), 3);
        due(28, "between c and d", y.star(3), 4);
        due(28, "2 by 2", y.load(0, 4), 1);
        due(28, "between b and c", y.star(2), 3);
        due(28, "-1 by 2, downwards", y.load(0, 3), -1);
        due(28, "no cone", y.star(7), -1);
        due(28, "trouble", y.trouble(), 1);
        due(28, "no cone", y.star(-1), -1);
        due(28, "no cone", y.star(Integer.MIN_VALUE), -1);
        FanCones far = made("ray a at 9 8;ray b at 8 9;ray c at -1 0;ray d at 0 -1");
        due(28, "17 17 is 1 1", far.star(0), 1);
        due(28, "x", far.ray(1, 0), 1);
        int steps = 0;
        while (steps < 30 && far.star(0) == 1) {
            steps++;
        }
        due(28, "10 9, 19 17, .. 55 49; not 64", steps, 6);
        due(28, "trouble", far.trouble(), 3);
        due(28, "the latest stays", far.ray(1, 0), 55);
    }

    private static void starNumbers() {
        FanCones x = made(SQUARE);
        x.fill(1, 20);
        x.adds(1, 1, 3);
        x.adds(1, 1, 3);
        x.adds(1, 1, 3);
        due(28, "1280 and 1280 are beyond", x.star(0), -1);
        due(28, "trouble", x.trouble(), 3);
        due(28, "rays", x.about(0), 4);
        x.set(1, 0, -20);
        due(28, "1260", x.star(0), 1);
        due(28, "1260", x.load(1, 1), 1260);
        FanCones y = made(PLANE);
        for (int i = 3; i < 24; i++) {
            // Always the cone behind ray 0 or 1 by turns, so that places stay small.
            int cone = i % 2 == 0 ? 0 : y.about(0) - 1;
            if (y.star(cone) < 0) {
                y.star(i / 2);
            }
        }
        due(28, "24 rays", y.about(0), 24);
        boolean refused = true;
        for (int i = 0; i < 24; i++) {
            refused &= y.star(i) == -1 && y.trouble() == 3;
        }
        due(28, "no 25th ray", refused, true);
    }

    private static void cut() {
        FanCones x = made("ray a at 1 0;ray b at 4 7;ray c at -1 0;ray d at 0 -1;load o 3 on a, 1 on b");
        due(29, "new rays", x.cut(0), 3);
        // V: (1, 1), 3 (1, 1) less (1, 0) is (2, 3), 2 (2, 3) less (1, 1) is (3, 5)
        long[][] want = {{1, 0, 3}, {1, 1, 1}, {2, 3, 1}, {3, 5, 1}, {4, 7, 1}};
        for (int i = 0; i < want.length; i++) {
            due(29, "x of ray " + i, x.ray(i, 0), want[i][0]);
            due(29, "y of ray " + i, x.ray(i, 1), want[i][1]);
            due(29, "turn " + i, i == 4 ? 1 : x.ray(i, 2), 1);
            // The function by sevenths: 10, 9, 8: ahead of the act, so never by rays that are new.
            due(29, "number " + i, x.load(0, i), want[i][2]);
        }
        due(29, "of a whole cone none", x.cut(0), 0);
        due(29, "but an act", x.about(5), 2);
        due(29, "no cone", x.cut(7), -1);
        due(29, "no cone", x.cut(-1), -1);
        due(29, "trouble", x.trouble(), 1);
        FanCones over = made("ray a at 2 1;ray b at 0 1;ray c at -1 0;ray d at 0 -1;ray e at 3 -2;"
                + "load o 5 on e, -3 on a");
        // Between (3, -2) and (2, 1): N 7; the new rays go over (1, 0).
        due(29, "N", over.ray(4, 2), 7);
        due(29, "new rays over the start", over.cut(4), 2);
        due(29, "the first is now", over.ray(0, 1), 0);
        due(29, "x", over.ray(0, 0), 1);
        due(29, "of the old cones 2 aren't whole", over.about(2), over.about(0) - 2);
        FanCones many = made("ray a at 1 0;ray b at -7 8;ray c at -8 -7;ray d at 0 -1;ray e at 9 -8;ray f at 1 -9;"
                + "ray g at 9 8");
        int rays = many.about(0);
        int before = rays;
        for (int i = 0; i < 40; i++) {
            int fresh = many.cut(i % rays);
            rays = many.about(0);
            due(29, "room", rays <= 24, true);
            due(29, "none, or new ones", rays, fresh == -1 ? before : before + fresh);
            before = rays;
        }
    }

    private static void cutAll() {
        FanCones x = made("ray a at 1 1;ray b at -1 1;ray c at -1 -1;ray d at 1 -1;load o 1 on a, 1 on c");
        due(30, "new rays", x.cutAll(), 4);
        due(30, "one act", x.about(5), 1);
        due(30, "all whole", x.about(2), 8);
        due(30, "the first", x.ray(0, 0), 1);
        due(30, "its number: 1 by 2, downwards", x.load(0, 0), 0);
        due(30, "its number", x.load(0, 1), 1);
        due(30, "none", x.cutAll(), 0);
        due(30, "an act", x.about(5), 2);
        x.undo();
        due(30, "undone", x.undo(), 0);
        due(30, "rays", x.about(0), 4);
        due(30, "no fan", new FanCones().cutAll(), -1);
        FanCones y = made("ray a at 9 1;ray b at -8 1;ray c at -1 -9;load o 5 on a");
        due(30, "no room", y.cutAll(), -1);
        due(30, "trouble", y.trouble(), 3);
        due(30, "rays", y.about(0), 3);
        due(30, "acts", y.about(5), 0);
    }

    private static void drop() {
        FanCones x = made(PLANE);
        due(31, "one of three", x.drop(0), -1);
        due(31, "trouble", x.trouble(), 5);
        x.star(2);
        due(31, "can't go", x.drop(1), -1);
        due(31, "trouble", x.trouble(), 5);
        due(31, "goes", x.drop(3), 3);
        due(31, "acts", x.about(5), 2);
        x.star(0);
        x.set(0, 1, 7);
        due(31, "goes with its numbers", x.drop(1), 3);
        due(31, "the one behind it", x.load(0, 1), 0);
        due(31, "the last", x.load(0, 2), 1);
        due(31, "no ray", x.drop(3), -1);
        due(31, "no ray", x.drop(-1), -1);
        due(31, "trouble", x.trouble(), 1);
        // Opposite neighbours: their turn is 0.
        FanCones y = made(SQUARE);
        due(31, "opposite neighbours", y.drop(0), -1);
        due(31, "trouble", y.trouble(), 5);
        FanCones z = made("ray a at 1 0;ray b at 1 1;ray c at -1 1;ray d at -1 -1;"
                + "load o 1 on a, 2 on b, 3 on c, 4 on d");
        due(31, "ray 0 goes", z.drop(0), -1);
        z.star(3);
        due(31, "ray 0 goes", z.drop(0), 4);
        due(31, "ray 0 then", z.ray(0, 1), 1);
        due(31, "its number", z.load(0, 0), 2);
    }

    private static void lean() {
        FanCones x = made(SQUARE);
        due(32, "none", x.lean(), 0);
        due(32, "an act", x.about(5), 1);
        x.star(0);
        x.star(0);
        x.star(2);
        x.star(6);
        due(32, "rays", x.about(0), 8);
        // (2, 1), (1, 2), (1, 1), then (1, 0) between (1, -1) and (0, 1), and (0, -1) between (-1, 0) and (1, -1)
        due(32, "went", x.lean(), 5);
        due(32, "rays", x.about(0), 3);
        due(32, "one act", x.about(5), 6);
        due(32, "undone", x.undo(), 5);
        due(32, "rays", x.about(0), 8);
        due(32, "no fan", new FanCones().lean(), -1);
        // All six are light; when the least goes, its neighbours aren't any more.
        FanCones y = made("ray a at 1 0;ray b at 1 1;ray c at 0 1;ray d at -1 0;ray e at -1 -1;ray f at 0 -1");
        due(32, "light", y.about(7), 63);
        due(32, "went", y.lean(), 3);
        due(32, "left: the first", y.ray(0, 0) * 10 + y.ray(0, 1), 11);
        due(32, "the second", y.ray(1, 0) * 10 + y.ray(1, 1), -10);
        due(32, "the third", y.ray(2, 0) * 10 + y.ray(2, 1), -1);
    }

    private static void undo() {
        FanCones x = made(PLANE);
        for (int v = 1; v <= 10; v++) {
            x.set(0, 0, v);
            due(33, "acts", x.about(5), Math.min(v, 8));
        }
        x.set(0, 0, 21);
        x.star(9);
        due(33, "what is refused is no act", x.about(5), 8);
        for (int left = 7; left >= 0; left--) {
            due(33, "undo", x.undo(), left);
            due(33, "number", x.load(0, 0), left + 2);
        }
        due(33, "no more", x.undo(), -1);
        due(33, "trouble", x.trouble(), 5);
        due(33, "number", x.load(0, 0), 2);
        // A refused act leaves the oldest of eight to be undone.
        for (int v = 3; v <= 10; v++) {
            x.set(0, 0, v);
        }
        x.fill(1, 20);
        x.adds(1, 1, 3);
        x.adds(1, 1, 3);
        x.adds(1, 1, 3);
        x.adds(1, 1, 3);
        due(33, "refused", x.trouble(), 3);
        due(33, "acts", x.about(5), 8);
        for (int left = 7; left >= 0; left--) {
            due(33, "undo", x.undo(), left);
        }
        due(33, "number", x.load(0, 0), 6);
        due(33, "of the other", x.load(1, 0), -1);
        // Each act can be undone.
        x.fill(0, 3);
        x.adds(0, 1, 2);
        x.shifts(0, 1, 1);
        x.star(2);
        x.cut(0);
        x.cutAll();
        x.lean();
        x.star(0);
        x.drop(1);
        due(33, "acts", x.about(5), 8);
        long[] rays = {4, 3, 4, 4, 4, 3, 3, 3};
        for (int i = 0; i < 8; i++) {
            due(33, "undo", x.undo(), 7 - i);
            due(33, "rays behind undo " + i, x.about(0), rays[i]);
        }
        due(33, "number", x.load(0, 0), 3);
    }

    // ---- 34 to 36

    private static void letter() {
        FanCones x = made("ray ab at 1 0;ray b at 0 1;ray c at -1 -1;load azmaza 1 on b;load z 1 on c");
        long[] want = {0, 25, 12, 0, 25, 0};
        for (int k = 0; k < 6; k++) {
            due(34, "letter(0, " + k + ")", x.letter(0, k), want[k]);
        }
        due(34, "letter(1, 0)", x.letter(1, 0), 25);
        x.about(9);
        for (int v : new int[] {6, -1, Integer.MIN_VALUE, Integer.MAX_VALUE}) {
            due(34, "no letter", thrown(x, 0, v), 1);
            due(34, "no load", thrown(x, v, 0), 1);
        }
        due(34, "no letter", thrown(x, 1, 1), 1);
        due(34, "no load", thrown(x, 2, 0), 1);
        due(34, "trouble, which it doesn't touch", x.trouble(), 1);
        Check.feed(x, "load q");
        x.fan(6);
        due(34, "a fault leaves names", x.letter(1, 0), 25);
    }

    private static void trouble() {
        FanCones x = made(PLANE);
        x.set(0, 0, 99);
        due(36, "trouble", x.trouble(), 2);
        x.size();
        x.fault();
        x.where();
        x.feed(0, 0, 0, 0, 0);
        x.trouble();
        due(36, "calls that can't be refused don't touch it", x.trouble(), 2);
        x.load(0, 0);
        due(36, "one that isn't refused", x.trouble(), 0);
    }

    private static void refusedChangesNothing() {
        FanCones x = made(SQUARE);
        x.star(0);
        Check.feed(x, "ray a at 1 0;ray b at 0 1;load q 5 on a");
        due(3, "lacks", x.fan(39), -1);
        due(36, "trouble", x.trouble(), 4);
        due(36, "rays stay", x.about(0), 5);
        due(36, "loads stay", x.about(1), 3);
        due(36, "acts stay", x.about(5), 1);
        due(36, "names stay", x.letter(0, 1), 14);
        due(36, "numbers stay", x.load(1, 0), 2);
        due(36, "undo", x.undo(), 0);
        due(36, "rays", x.about(0), 4);
    }
}
