import java.util.ArrayList;
import java.util.List;
import java.util.NoSuchElementException;
import java.util.function.Supplier;

/** What the tests on boundary cases share: texts fed and read, answers compared, twins that show what changed. */
final class Check {
    static final int NONE = -1;
    static final long NOTHING = Long.MIN_VALUE;

    /** Stands where texts with faults are told: it must show nothing of them. */
    private static final String STANDING = "ray e at 1 0;ray n at 0 1;ray w at -1 0;ray s at 0 -1;"
            + "load low 1 on e;load wide 2 on e,1 on n,2 on w,1 on s";

    private static int wrong = 0;

    private Check() {
    }

    interface Call {
        long on(FanCones x);
    }

    static void due(String sentence, String call, long got, long want) {
        if (got != want) {
            wrong++;
            System.out.println(sentence + ": " + call + " answered " + got + ", due is " + want);
        }
    }

    /** Ends the program: with exit code 1 if an answer was not the one that is due. */
    static void end(String all) {
        System.out.println(wrong == 0 ? all : wrong + " answers are not as due");
        if (wrong != 0) {
            System.exit(1);
        }
    }

    /** The bytes of a text, and blanks up to a multiple of twenty. */
    static void feed(FanCones x, String text) {
        StringBuilder b = new StringBuilder(text);
        while (b.length() % 20 != 0) {
            b.append(' ');
        }
        for (int i = 0; i < b.length(); i += 20) {
            int[] five = new int[5];
            for (int k = 0; k < 20; k++) {
                five[k / 4] = five[k / 4] << 8 | b.charAt(i + k) & 255;
            }
            x.feed(five[0], five[1], five[2], five[3], five[4]);
        }
    }

    static int read(FanCones x, String text) {
        feed(x, text);
        return x.fan(text.length());
    }

    static FanCones made(String text) {
        FanCones x = new FanCones();
        int rays = read(x, text);
        if (rays < 3) {
            due("a fan of this test", text + " (fault " + x.fault() + " at " + x.where() + ")", rays, 3);
        }
        return x;
    }

    static boolean hasLetter(FanCones x, int d, int k) {
        try {
            x.letter(d, k);
            return true;
        } catch (NoSuchElementException e) {
            return false;
        }
    }

    static void ray(String sentence, FanCones x, int i, long wantX, long wantY) {
        due(sentence, "x of ray " + i, x.ray(i, 0), wantX);
        due(sentence, "y of ray " + i, x.ray(i, 1), wantY);
    }

    /** A call that isn't refused. */
    static void taken(String sentence, String name, FanCones x, Call call, long want) {
        due(sentence, name, call.on(x), want);
        due(sentence, "trouble() behind " + name, x.trouble(), 0);
        due(sentence, "where() behind " + name, x.where(), NONE);
    }

    /** A call that is refused on one of two twins: behind it both must show the same, and undo the same. */
    static void refused(String sentence, String name, Supplier<FanCones> maker, Call call, long want, int trouble) {
        FanCones x = maker.get();
        FanCones twin = maker.get();
        due(sentence, name, call.on(x), want);
        due(sentence, "trouble() behind " + name, x.trouble(), trouble);
        due(sentence, "where() behind " + name, x.where(), NONE);
        due(sentence, "fault() behind " + name, x.fault(), twin.fault());
        due(sentence, "size() behind " + name, x.size(), twin.size());
        same(sentence, name, x, twin);
        for (int acts = twin.about(5); acts > 0; acts--) {
            due(sentence, "undo() behind " + name, x.undo(), twin.undo());
            sameUndone(sentence, name + ", one act undone", x, twin);
        }
        due(sentence, "undo() of no more behind " + name, x.undo(), NONE);
    }

    /** An act and its undo, beside a twin that did neither. */
    static void undone(String sentence, String name, Supplier<FanCones> maker, Call act) {
        FanCones x = maker.get();
        FanCones twin = maker.get();
        act.on(x);
        due(sentence, "trouble() behind " + name, x.trouble(), 0);
        due(sentence, "undo() of " + name, x.undo(), Math.min(7, twin.about(5)));
        same(sentence, name + " undone", x, twin);
    }

    static void same(String sentence, String name, FanCones x, FanCones twin) {
        compare(sentence, name, shown(x), shown(twin));
    }

    /** An object is used for 512 calls at most, so that of great fans not all is asked behind each undo. */
    private static void sameUndone(String sentence, String name, FanCones x, FanCones twin) {
        if (twin.about(0) * (twin.about(1) + 2) <= 24) {
            same(sentence, name, x, twin);
        } else {
            compare(sentence, name, told(x), told(twin));
        }
    }

    private static void compare(String sentence, String name, List<Long> got, List<Long> want) {
        if (!got.equals(want)) {
            wrong++;
            System.out.println(sentence + ": behind " + name + " it shows " + got + ", due is " + want);
        }
    }

    /** All that a fan, its loads and its acts show; some 200 calls for the greatest. */
    static List<Long> shown(FanCones x) {
        List<Long> all = told(x);
        int rays = x.about(0);
        int loads = x.about(1);
        for (int i = 0; i < rays; i++) {
            all.add(x.ray(i, 0));
            all.add(x.ray(i, 1));
        }
        for (int d = 0; d < loads; d++) {
            for (int i = 0; i < rays; i++) {
                all.add(x.load(d, i));
            }
            addName(x, d, all);
        }
        return all;
    }

    private static List<Long> told(FanCones x) {
        List<Long> all = new ArrayList<>();
        for (int what = 0; what < 8; what++) {
            all.add((long) x.about(what));
        }
        return all;
    }

    private static void addName(FanCones x, int d, List<Long> all) {
        try {
            for (int k = 0; k < 9; k++) {
                all.add((long) x.letter(d, k));
            }
        } catch (NoSuchElementException e) {
            all.add(NOTHING);
        }
    }

    /** A text that is a fan: its rays, and that nothing is left of the fan that stood. */
    static void isFan(String sentence, String text, int rays) {
        FanCones x = standing();
        taken(sentence, "fan of " + text, x, y -> read(y, text), rays);
        due(sentence, "fault() of " + text, x.fault(), 0);
        due(sentence, "size() of " + text, x.size(), 0);
        due(sentence, "rays of " + text, x.about(0), rays);
        due(sentence, "acts of " + text, x.about(5), 0);
    }

    /** A text with a fault; the sign ^ tells its place and is no part of the text. */
    static void hasFault(String sentence, int fault, String marked) {
        int place = marked.indexOf('^');
        String text = marked.substring(0, place) + marked.substring(place + 1);
        FanCones x = standing();
        FanCones twin = standing();
        due(sentence, "fan of " + marked, read(x, text), NONE);
        due(sentence, "trouble() of " + marked, x.trouble(), 4);
        due(sentence, "fault() of " + marked, x.fault(), fault);
        due(sentence, "where() of " + marked, x.where(), place);
        due(sentence, "size() of " + marked, x.size(), 0);
        same(sentence, "the fault of " + marked, x, twin);
        due(sentence, "where() behind calls that aren't refused", x.where(), NONE);
        due(sentence, "fault() behind calls that aren't refused", x.fault(), fault);
        for (int left = 1; left >= 0; left--) {
            due(sentence, "undo() behind the fault of " + marked, x.undo(), left);
            twin.undo();
            same(sentence, "undo behind the fault of " + marked, x, twin);
        }
    }

    private static FanCones standing() {
        FanCones x = made(STANDING);
        x.star(0);
        x.set(1, 2, -7);
        return x;
    }
}
