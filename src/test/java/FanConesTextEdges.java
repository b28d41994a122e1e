/** Terms I, promises 2 to 5 and 35: each sentence on the text that names a boundary case has a test of its own. */
public final class FanConesTextEdges {
    private static final int NONE = Check.NONE;
    private static final int FORM = 1;
    private static final int BOUNDS = 2;
    private static final int NAME = 3;
    private static final int MANY = 4;
    private static final int LACKS = 5;

    private static final String CLOSED = "ray a at 1 0;ray b at 0 1;ray c at -1 -1";
    private static final String AXES = "ray e at 1 0;ray n at 0 1;ray w at -1 0;ray s at 0 -1";
    private static final String TWELVE = "ray a at 1 0;ray b at 0 1;ray c at -1 0;ray d at 0 -1;ray e at 1 1;"
            + "ray f at -1 1;ray g at -1 -1;ray h at 1 -1;ray i at 1 2;ray j at 2 1;ray k at -1 2;ray l at -2 1";
    private static final String SIX = CLOSED + ";load d 1 on a;load e 1 on a;load f 1 on a;load g 1 on a;"
            + "load h 1 on a;load i 1 on a";
    private static final int BLANKS = 538976288;

    public static void main(String[] args) {
        tapeHas500Bytes();
        whatFeedLeaves();
        highestByteFirst();
        onlyByte32IsABlank();
        blanksPartTokens();
        wordsOf1To6SmallLetters();
        wholesOf1Or2Digits();
        signsAreSingle();
        noTextAtAll();
        tokenWithWhichNoTextGoesOn();
        endOfTheText();
        placesOfARay();
        nothingAbove1GoesIntoBoth();
        noTwoRaysAlike();
        upTo12Rays();
        numbersOfALoad();
        raysToldAhead();
        onceInALoad();
        zeroOnAllOthers();
        upTo6Loads();
        intIsMinusAndWhole();
        namesAreNotTheFourWords();
        namesToldOnceInAll();
        firstFromTheLeft();
        leastNumberOfOnePlace();
        boundsAreAtTheWhole();
        cannotBeSoIsAskedBehindBoth();
        nameIsAtTheName();
        manyIsAtTheFirstWord();
        fewerThanThreeRays();
        halfATurnOrMore();
        fanOfN();
        fanIsTheFanFromNowOn();
        faultOfTheLatestFan();
        whereIfRefusedBy4();
        sizeOfTheTape();
        Check.end("the edges of the text hold");
    }

    private static String many(String part, int times) {
        StringBuilder b = new StringBuilder();
        for (int i = 0; i < times; i++) {
            b.append(part);
        }
        return b.toString();
    }

    private static int feedBlanks(FanCones x) {
        return x.feed(BLANKS, BLANKS, BLANKS, BLANKS, BLANKS);
    }

    // ---- the tape

    private static void tapeHas500Bytes() {
        String sentence = "the tape has 500 bytes; none comes if there would be more";
        FanCones x = new FanCones();
        Check.feed(x, CLOSED);
        for (int size = 60; size <= 500; size += 20) {
            Check.due(sentence, "feed", feedBlanks(x), size);
        }
        for (int i = 0; i < 3; i++) {
            Check.due(sentence, "feed of more than 500", x.feed(0, 0, 0, 0, 0), NONE);
            Check.due(sentence, "size() behind it", x.size(), 500);
        }
        Check.due(sentence, "fan of all 500, of which no byte was put over", x.fan(500), 3);
        FanCones y = new FanCones();
        Check.feed(y, many(" ", 500 - CLOSED.length()) + CLOSED);
        y.feed(0, 0, 0, 0, 0);
        Check.due(sentence, "fan whose last token ends with byte 500", y.fan(500), 3);
        for (int size = 20; size <= 500; size += 20) {
            Check.due(sentence, "feed of the tape that is empty again", feedBlanks(y), size);
        }
        Check.due(sentence, "feed of more than 500 again", feedBlanks(y), NONE);
        Check.hasFault(sentence, FORM, many(" ", 499) + "^;");
        Check.hasFault(sentence, FORM, many(" ", 500) + "^");
        Check.hasFault(sentence, LACKS, many(" ", 488) + "ray a at 1 0^");
    }

    private static void whatFeedLeaves() {
        String sentence = "feed tells no number: it leaves trouble and where";
        FanCones x = new FanCones();
        x.about(8);
        for (int i = 0; i < 26; i++) {
            feedBlanks(x);
            Check.due(sentence, "trouble()", x.trouble(), 1);
        }
        Check.due(sentence, "fan of blanks", x.fan(500), NONE);
        for (int i = 0; i < 26; i++) {
            feedBlanks(x);
            Check.due(sentence, "where()", x.where(), 500);
            Check.due(sentence, "trouble()", x.trouble(), 4);
            Check.due(sentence, "fault()", x.fault(), FORM);
        }
    }

    private static void highestByteFirst() {
        String sentence = "twenty bytes, of each number the highest first";
        for (int k = 0; k < 20; k++) {
            Check.hasFault(sentence, FORM, many(" ", k) + "^!" + many(" ", 19 - k));
            int[] five = {BLANKS, BLANKS, BLANKS, BLANKS, BLANKS};
            // The byte of a small letter with its highest bit is none.
            five[k / 4] |= 225 << 24 - k % 4 * 8;
            FanCones x = new FanCones();
            x.feed(five[0], five[1], five[2], five[3], five[4]);
            Check.due(sentence, "fan with byte " + k, x.fan(20), NONE);
            Check.due(sentence, "where() of byte " + k, x.where(), k);
        }
        FanCones y = new FanCones();
        y.feed(-1, Integer.MIN_VALUE, Integer.MAX_VALUE, 0, -1);
        Check.due(sentence, "fan of byte 255", y.fan(20), NONE);
        Check.due(sentence, "where()", y.where(), 0);
    }

    // ---- tokens

    private static void onlyByte32IsABlank() {
        String sentence = "blanks, 32, part tokens";
        for (int b = 0; b < 256; b++) {
            String sign = String.valueOf((char) b);
            boolean isDigit = b >= '0' && b <= '9';
            if (b == ' ') {
                Check.isFan(sentence, sign + CLOSED + sign, 3);
            } else {
                Check.hasFault(sentence, FORM, "^" + sign + CLOSED);
            }
            if (b == ' ' || b == '-') {
                Check.isFan(sentence, "ray a at 1" + sign + " 0;ray b at 0 1;ray c at -1 -1", 3);
            } else if (isDigit) {
                Check.hasFault(sentence, BOUNDS, "ray a at ^1" + sign + " 0;ray b at 0 1;ray c at -1 -1");
            } else {
                Check.hasFault(sentence, FORM, "ray a at 1^" + sign + " 0;ray b at 0 1;ray c at -1 -1");
            }
        }
    }

    private static void blanksPartTokens() {
        String sentence = "blanks part tokens and mean nothing else";
        Check.isFan(sentence, "   ray   a   at   1   0   ;   ray   b   at   0   1   ;ray c at   -   1   -   1   ", 3);
        Check.isFan(sentence, "ray a at1 0;ray b at0 1;ray c at-1-1;load d-1on a,2on b", 3);
        Check.hasFault(sentence, FORM, "^ra y a at 1 0");
        Check.hasFault(sentence, FORM, "ray a ^a at 1 0");
        Check.hasFault(sentence, FORM, "ray a ^a t 1 0");
        Check.hasFault(sentence, FORM, "^raya at 1 0");
        Check.hasFault(sentence, FORM, "ray ^at 1 0");
        Check.hasFault(sentence, FORM, "ray aat ^1 0");
        Check.hasFault(sentence, FORM, "ray a at 1 0 ^0");
        Check.hasFault(sentence, BOUNDS, "ray a at ^10;ray b at 0 1");
    }

    private static void wordsOf1To6SmallLetters() {
        String sentence = "words of 1 to 6 small letters that stand together";
        Check.isFan(sentence, "ray a at 1 0;ray z at 0 1;ray aaaaaa at -1 -1;load zzzzzz 1 on a;load abcdef 1 on z", 3);
        Check.isFan(sentence, "ray a at 1 0;ray aa at 0 1;ray aaa at -1 -1;ray aaaa at 1 1;ray aaaaa at -1 0;"
                + "ray aaaaaa at 0 -1", 6);
        Check.isFan(sentence, "ray abcdef at 1 0;ray abcdeg at 0 1;ray bbcdef at -1 -1;load abcde 1 on abcdeg", 3);
        Check.hasFault(sentence, FORM, "ray ^aaaaaaa at 1 0");
        Check.hasFault(sentence, FORM, "ray ^zzzzzzzz at 1 0");
        Check.hasFault(sentence, FORM, "ray ^" + many("q", 300) + " at 1 0");
        Check.hasFault(sentence, FORM, "^rayabcd at 1 0");
        Check.hasFault(sentence, FORM, "ray a ^atatata 1 0");
        Check.hasFault(sentence, FORM, CLOSED + ";load ^abcdefg 1 on a");
        Check.hasFault(sentence, FORM, CLOSED + ";load d 1 ^ononono a");
        Check.hasFault(sentence, FORM, CLOSED + ";load d 1 on ^abcdefg");
        // Six letters more, and the rest would be one that stands there: it is no word all the same.
        Check.hasFault(sentence, FORM, "ray a at 1 0;ray b at 0 1;load d 1 on ^aaaaaaa");
        for (char c : new char[] {'A', 'Z', 'R', '`', '{', '@', '[', '_'}) {
            Check.hasFault(sentence, FORM, "^" + c + "ay a at 1 0");
            Check.hasFault(sentence, FORM, "ray ^" + c + " at 1 0");
            Check.hasFault(sentence, FORM, "ray a^" + c + " at 1 0");
        }
    }

    private static void wholesOf1Or2Digits() {
        String sentence = "wholes of 1 or 2 digits that stand together";
        Check.isFan(sentence, "ray a at 01 00;ray b at 00 01;ray c at -01 -09;load d 00 on a,09 on b,-20 on c", 3);
        for (String whole : new String[] {"000", "001", "009", "100", "999", "0000000000", many("1", 300)}) {
            Check.hasFault(sentence, FORM, "ray a at ^" + whole + " 0");
            Check.hasFault(sentence, FORM, "ray a at -^" + whole + " 0");
            Check.hasFault(sentence, FORM, "ray a at 1 ^" + whole);
            Check.hasFault(sentence, FORM, "ray a at 1 0;load d ^" + whole + " on a");
        }
        for (char c : new char[] {'/', ':', '+', '.'}) {
            Check.hasFault(sentence, FORM, "ray a at ^" + c + " 0");
            Check.hasFault(sentence, FORM, "ray a at 1^" + c + " 0");
        }
    }

    private static void signsAreSingle() {
        String sentence = "single ones of ; , -";
        Check.hasFault(sentence, FORM, CLOSED + ";^;" + "load d 1 on a");
        Check.hasFault(sentence, FORM, "ray a at -^-1 0");
        Check.hasFault(sentence, FORM, "ray a at 1 - ^-1");
        Check.hasFault(sentence, FORM, CLOSED + ";load d -^-1 on a");
        Check.hasFault(sentence, FORM, CLOSED + ";load d 1 on a,^, 1 on b");
        Check.hasFault(sentence, FORM, CLOSED + ";load d 1 on a,^; 1 on b");
    }

    // ---- lines

    private static void noTextAtAll() {
        String sentence = "a text has one line or more";
        Check.hasFault(sentence, FORM, "^");
        Check.hasFault(sentence, FORM, " ^");
        Check.hasFault(sentence, FORM, many(" ", 20) + "^");
        Check.hasFault(sentence, FORM, "^;");
        Check.hasFault(sentence, FORM, "^;" + CLOSED);
        Check.hasFault(sentence, FORM, CLOSED + ";^");
        Check.hasFault(sentence, FORM, CLOSED + " ;  ^");
        Check.hasFault(sentence, FORM, CLOSED + ";^;");
    }

    /** What a text has so far, and the tokens with which one goes on (~ is the end). */
    private static final String[][] GOES_ON = {
        {"", "ray load"},
        {"ray", "x a"},
        {"ray x", "at"},
        {"ray x at", "1 -"},
        {"ray x at -", "1"},
        {"ray x at 1", "1 -"},
        {"ray x at 1 -", "1"},
        {"ray x at 1 0", "; ~"},
        {"ray x at 1 -1", "; ~"},
        {"ray b at 1 0 ;", "ray load"},
        {"ray a at 1 0 ; load", "x a"},
        {"ray a at 1 0 ; load d", "1 -"},
        {"ray a at 1 0 ; load d -", "1"},
        {"ray a at 1 0 ; load d 1", "on"},
        {"ray a at 1 0 ; load d -1", "on"},
        {"ray a at 1 0 ; load d 1 on", "x a"},
        {"ray a at 1 0 ; load d 1 on a", ", ; ~"},
        {"ray a at 1 0 ; load d 1 on a ,", "1 -"},
        {"ray a at 1 0 ; load d 1 on a , -", "1"},
        {"ray a at 1 0 ; load d 1 on a ;", "ray load"},
        {"ray a at 1 0 ; ray b at 0 1 ; load d 1 on a , 2", "on"},
        {"ray a at 1 0 ; ray b at 0 1 ; load d 1 on a , 2 on", "x a"},
        {"ray a at 1 0 ; ray b at 0 1 ; load d 1 on a , 2 on b", ", ; ~"},
    };

    private static void tokenWithWhichNoTextGoesOn() {
        String sentence = "the token with which no text goes on";
        String[] tokens = {"ray", "at", "load", "on", "x", "a", "1", ";", ",", "-", "~", "!"};
        for (String[] row : GOES_ON) {
            for (String token : tokens) {
                String so = row[0].isEmpty() ? "" : row[0] + " ";
                String next = token.equals("~") ? "" : token;
                if ((" " + row[1] + " ").contains(" " + token + " ")) {
                    goesOnPast(sentence, so + next, so.length(), next);
                } else {
                    Check.hasFault(sentence, FORM, so + "^" + next);
                }
            }
        }
    }

    /** The token itself is no fault of form: the first one is at the end, or another one is met. */
    private static void goesOnPast(String sentence, String text, int place, String token) {
        FanCones x = new FanCones();
        Check.due(sentence, "fan of " + text, Check.read(x, text), NONE);
        boolean isFormThere = x.fault() == FORM && x.where() == place;
        Check.due(sentence, "no fault of form at " + place + " of " + text, isFormThere ? 1 : 0, 0);
        if (token.isEmpty()) {
            Check.due(sentence, "fault at the end of " + text, x.fault(), LACKS);
        }
    }

    private static void endOfTheText() {
        String sentence = "the end: its place";
        Check.hasFault(sentence, FORM, "ray^");
        Check.hasFault(sentence, FORM, "ray    ^");
        Check.hasFault(sentence, FORM, "ray a at 1 -   ^");
        Check.hasFault(sentence, LACKS, "ray a at 1 0    ^");
        // The end is where the first n bytes end, whatever comes behind them.
        FanCones x = new FanCones();
        String text = CLOSED + ";load d 1 on a";
        for (int n = 0; n <= text.length(); n++) {
            Check.feed(x, text);
            int rays = x.fan(n);
            boolean isClosed = n == CLOSED.length() || n == text.length();
            Check.due(sentence, "fan(" + n + ")", rays, isClosed ? 3 : NONE);
            if (n < 12) {
                // Each cut leaves the start of a text or of its first word.
                Check.due(sentence, "fault of " + n, x.fault(), FORM);
                boolean isWordCut = n == 1 || n == 2;
                boolean isAtCut = n == 7;
                Check.due(sentence, "where of " + n, x.where(), isWordCut ? 0 : isAtCut ? 6 : n);
            }
        }
    }

    // ---- rays

    private static void placesOfARay() {
        String sentence = "x, y, -9 .. 9 both";
        for (int v : new int[] {-9, -8, -1, 1, 8, 9}) {
            FanCones x = Check.made("ray q at " + v + " 1;" + AXES);
            int i = x.cone(v, 1);
            Check.due(sentence, "a ray at " + v + " 1", x.ray(i, 0) * 100 + x.ray(i, 1), v * 100 + 1);
            Check.isFan(sentence, "ray q at " + v + " -1;" + AXES, 5);
            Check.isFan(sentence, "ray q at 1 " + v + ";" + AXES, 5);
            Check.isFan(sentence, "ray q at -1 " + v + ";" + AXES, 5);
        }
        for (int v : new int[] {10, 11, 19, 90, 99}) {
            Check.hasFault(sentence, BOUNDS, "ray q at ^" + v + " 1;" + AXES);
            Check.hasFault(sentence, BOUNDS, "ray q at -^" + v + " 1;" + AXES);
            Check.hasFault(sentence, BOUNDS, "ray q at 1 ^" + v + ";" + AXES);
            Check.hasFault(sentence, BOUNDS, "ray q at 1 -^" + v + ";" + AXES);
        }
    }

    private static int common(int a, int b) {
        return b == 0 ? Math.abs(a) : common(b, a % b);
    }

    private static void nothingAbove1GoesIntoBoth() {
        String sentence = "no whole number above 1 goes into both, not both are 0";
        for (int x = -9; x <= 9; x++) {
            for (int y = -9; y <= 9; y++) {
                String text = "ray q at " + x + " " + y;
                if (common(x, y) != 1) {
                    int whole = text.length() - 1;
                    String marked = text.substring(0, whole) + "^" + text.substring(whole);
                    Check.hasFault(sentence, BOUNDS, marked + ";" + AXES);
                } else if (x * x + y * y != 1) {
                    Check.isFan(sentence, text + ";" + AXES, 5);
                }
            }
        }
        for (String axis : new String[] {"1 0", "-1 0", "0 1", "0 -1"}) {
            Check.isFan(sentence, "ray a at " + axis + ";ray b at 1 1;ray c at -1 1;ray d at -1 -1;ray e at 1 -1", 5);
        }
    }

    private static void noTwoRaysAlike() {
        String sentence = "no two alike";
        Check.hasFault(sentence, BOUNDS, "ray a at 1 0;ray b at 1 ^0");
        Check.hasFault(sentence, BOUNDS, "ray a at 1 0;ray b at 1 -^0");
        Check.hasFault(sentence, BOUNDS, "ray a at 1 0;ray b at 01 ^00");
        Check.hasFault(sentence, BOUNDS, AXES + ";ray b at -0 -^1");
        Check.hasFault(sentence, BOUNDS, AXES + ";load q 1 on e;ray b at -1 ^0");
        Check.hasFault(sentence, BOUNDS, "ray a at 9 -8;" + AXES + ";ray b at 9 -^8");
        Check.isFan(sentence, "ray a at 9 -8;" + AXES + ";ray b at -9 8;ray c at 8 -9;ray d at 9 8", 8);
    }

    private static void upTo12Rays() {
        String sentence = "up to 12 rays";
        Check.isFan(sentence, TWELVE.substring(0, TWELVE.lastIndexOf(';')), 11);
        Check.isFan(sentence, TWELVE, 12);
        Check.hasFault(sentence, MANY, TWELVE + ";^ray m at -2 -1");
        Check.isFan(sentence, TWELVE + ";load m 1 on l;load n 1 on a", 12);
        Check.hasFault(sentence, MANY, TWELVE + ";load m 1 on l;^ray n at -2 -1");
    }

    // ---- loads

    private static void numbersOfALoad() {
        String sentence = "its number, -20 .. 20";
        for (int v = -20; v <= 20; v++) {
            FanCones x = Check.made(CLOSED + ";load d " + v + " on b");
            Check.due(sentence, "load of " + v, x.load(0, 1), v);
        }
        for (int v : new int[] {21, 22, 30, 99}) {
            Check.hasFault(sentence, BOUNDS, CLOSED + ";load d ^" + v + " on b");
            Check.hasFault(sentence, BOUNDS, CLOSED + ";load d -^" + v + " on b");
            Check.hasFault(sentence, BOUNDS, CLOSED + ";load d 20 on b,-20 on a,-^" + v + " on c");
        }
    }

    private static void raysToldAhead() {
        String sentence = "on these rays, each told ahead";
        Check.hasFault(sentence, NAME, "load d 1 on ^a;" + CLOSED);
        Check.hasFault(sentence, NAME, "ray a at 1 0;load d 1 on ^b;ray b at 0 1;ray c at -1 -1");
        Check.hasFault(sentence, NAME, "ray a at 1 0;load d 1 on a,1 on ^b;ray b at 0 1;ray c at -1 -1");
        FanCones x = Check.made("ray a at 1 0;load d 7 on a;ray b at 0 1;load e 8 on b,9 on a;ray c at -1 -1");
        Check.due(sentence, "load d", x.load(0, 0), 7);
        Check.due(sentence, "load e", x.load(1, 1), 8);
        Check.due(sentence, "load e", x.load(1, 0), 9);
    }

    private static void onceInALoad() {
        String sentence = "each once in it";
        Check.hasFault(sentence, NAME, CLOSED + ";load d 1 on a,1 on ^a");
        Check.hasFault(sentence, NAME, CLOSED + ";load d 0 on a,0 on b,0 on c,0 on ^a");
        Check.hasFault(sentence, NAME, CLOSED + ";load d 1 on b,1 on c,1 on ^c");
        Check.isFan(sentence, CLOSED + ";load d 1 on a,1 on b,1 on c;load e 1 on a,1 on b,1 on c", 3);
        StringBuilder b = new StringBuilder(TWELVE + ";load m 1 on a");
        for (char c = 'b'; c <= 'l'; c++) {
            b.append(",2 on ").append(c);
        }
        Check.isFan(sentence, b.toString(), 12);
        Check.hasFault(sentence, NAME, b + ",3 on ^l");
    }

    private static void zeroOnAllOthers() {
        String sentence = "0 on all others";
        FanCones x = Check.made(CLOSED + ";load d 5 on a,5 on b,5 on c;load e 6 on a;load f 7 on b");
        Check.due(sentence, "another fan", Check.read(x, AXES + ";load d 9 on n;load f 0 on s;load g -9 on w"), 4);
        long[][] want = {{0, 9, 0, 0}, {0, 0, 0, 0}, {0, 0, -9, 0}};
        for (int d = 0; d < 3; d++) {
            for (int i = 0; i < 4; i++) {
                Check.due(sentence, "load(" + d + ", " + i + ")", x.load(d, i), want[d][i]);
            }
        }
    }

    private static void upTo6Loads() {
        String sentence = "loads, numbered from 0, up to 6";
        FanCones none = Check.made(CLOSED);
        Check.due(sentence, "no load", none.about(1), 0);
        FanCones x = Check.made(SIX);
        Check.due(sentence, "six", x.about(1), 6);
        for (int d = 0; d < 6; d++) {
            Check.due(sentence, "name of load " + d, x.letter(d, 0), 3 + d);
        }
        Check.hasFault(sentence, MANY, SIX + ";^load j 1 on a");
        Check.hasFault(sentence, MANY, SIX + ";ray x at 1 1;^load j 1 on a");
        Check.isFan(sentence, SIX + ";ray x at 1 1", 4);
    }

    private static void intIsMinusAndWhole() {
        String sentence = "INT: [-] WHOLE";
        FanCones x = Check.made("ray a at -  0 - 1;ray b at 1 -0;ray c at - 1 1;load d - 05 on a,-0 on b,-20 on c");
        Check.due(sentence, "- 05", x.load(0, 2), -5);
        Check.due(sentence, "-0", x.load(0, 0), 0);
        Check.due(sentence, "-20", x.load(0, 1), -20);
        Check.hasFault(sentence, FORM, "ray a at ^+1 0");
        Check.hasFault(sentence, FORM, "ray a at 1-^;");
        Check.hasFault(sentence, FORM, "ray a at 1 0^-");
    }

    // ---- names

    private static void namesAreNotTheFourWords() {
        String sentence = "names are words but ray, at, load, on";
        for (String word : new String[] {"ray", "at", "load", "on"}) {
            Check.hasFault(sentence, FORM, "ray ^" + word + " at 1 0");
            Check.hasFault(sentence, FORM, CLOSED + ";load ^" + word + " 1 on a");
            Check.hasFault(sentence, FORM, CLOSED + ";load d 1 on ^" + word);
            Check.hasFault(sentence, FORM, CLOSED + ";load d 1 on a,1 on ^" + word);
        }
        String[] near = {"ra", "rays", "a", "t", "ata", "loa", "loads", "o", "n", "no", "onon", "yar"};
        for (String word : near) {
            Check.isFan(sentence, "ray " + word + " at 1 0;ray bb at 0 1;ray cc at -1 -1;load dd 1 on " + word, 3);
            Check.isFan(sentence, "ray aa at 1 0;ray bb at 0 1;ray cc at -1 -1;load " + word + " 1 on aa", 3);
        }
    }

    private static void namesToldOnceInAll() {
        String sentence = "names are told once each in all";
        Check.hasFault(sentence, NAME, "ray a at 1 0;ray ^a at 0 1");
        Check.hasFault(sentence, NAME, CLOSED + ";ray ^c at 1 1");
        Check.hasFault(sentence, NAME, CLOSED + ";load ^c 1 on a");
        Check.hasFault(sentence, NAME, CLOSED + ";load d 1 on a;load e 1 on a;load ^d 1 on a");
        Check.hasFault(sentence, NAME, CLOSED + ";load d 1 on a;ray ^d at 1 1");
        // What another fan told, or one with a fault, doesn't count.
        FanCones x = Check.made(CLOSED + ";load d 1 on a");
        Check.due(sentence, "the same names again", Check.read(x, CLOSED + ";load d 1 on a"), 3);
        Check.due(sentence, "a fault", Check.read(x, "ray d at 1 0;load a 1 on d;load b !"), NONE);
        Check.due(sentence, "the same names again", Check.read(x, CLOSED + ";load d 1 on a"), 3);
    }

    // ---- faults

    private static void firstFromTheLeft() {
        String sentence = "faults, the first that is met from the left";
        String half = "ray a at 1 0;ray b at 0 1;ray c at 1 1;ray d at 1 2;ray e at 2 1;ray f at 1 3;ray g at 3 1;"
                + "ray h at 2 3;ray i at 3 2;ray j at 1 4;ray k at 4 1;ray l at 3 4";
        Check.hasFault(sentence, FORM, "ray a ^on 10 0;ray a at 0 0");
        Check.hasFault(sentence, FORM, "ray a at 1 0;ray b ^; ray a at 10 1");
        Check.hasFault(sentence, BOUNDS, "ray a at ^10 !");
        Check.hasFault(sentence, BOUNDS, "ray a at ^10");
        Check.hasFault(sentence, BOUNDS, "ray a at 0 ^0 0");
        Check.hasFault(sentence, BOUNDS, CLOSED + ";load d ^21 on q");
        Check.hasFault(sentence, BOUNDS, CLOSED + ";load d ^21 at a");
        Check.hasFault(sentence, BOUNDS, "ray a at 2 ^2;ray a at 1 0");
        Check.hasFault(sentence, NAME, CLOSED + ";ray ^a !");
        Check.hasFault(sentence, NAME, CLOSED + ";ray ^a at 10 10");
        Check.hasFault(sentence, NAME, CLOSED + ";load d 1 on ^q,21 on a");
        Check.hasFault(sentence, NAME, CLOSED + ";load ^a");
        Check.hasFault(sentence, NAME, "ray a at 1 0;ray ^a at 0 1");
        Check.hasFault(sentence, MANY, TWELVE + ";^ray !");
        Check.hasFault(sentence, MANY, TWELVE + ";^ray");
        Check.hasFault(sentence, MANY, TWELVE + ";^ray a at 99 99");
        Check.hasFault(sentence, MANY, TWELVE + ";^ray ray");
        Check.hasFault(sentence, MANY, SIX + ";^load");
        Check.hasFault(sentence, MANY, SIX + ";^load a 21 on q");
        Check.hasFault(sentence, MANY, half + ";^ray m at 0 -1");
        Check.hasFault(sentence, LACKS, half + "^");
        Check.hasFault(sentence, FORM, TWELVE + ";^rays m at 1 0");
        Check.hasFault(sentence, FORM, SIX + " ^load j 1 on a");
        Check.hasFault(sentence, NAME, TWELVE + ";load ^a 1 on a;ray m at 1 0");
        Check.hasFault(sentence, BOUNDS, SIX.replace("load i 1", "load i ^77") + ";load j 1 on a");
    }

    private static void leastNumberOfOnePlace() {
        String sentence = "of one place the least number";
        // At the end: a text that must go on, and too few rays, or too far apart.
        Check.hasFault(sentence, FORM, "ray a at 1 0;^");
        Check.hasFault(sentence, FORM, "ray a at 1^");
        Check.hasFault(sentence, FORM, "ray a at 1 0;ray b at 0 1;ray c at 1 1;load d 1 on^");
        // No whole, and out of bounds.
        Check.hasFault(sentence, FORM, "ray a at ^100 0");
        Check.hasFault(sentence, FORM, "ray a at 0 ^000");
        Check.hasFault(sentence, FORM, CLOSED + ";load d ^100 on a");
        // No word, and none of a ray.
        Check.hasFault(sentence, FORM, CLOSED + ";load d 1 on ^abcdefg");
    }

    private static void boundsAreAtTheWhole() {
        String sentence = "an INT out of bounds, at its WHOLE (not its -)";
        Check.hasFault(sentence, BOUNDS, "ray a at ^10 0");
        Check.hasFault(sentence, BOUNDS, "ray a at -^10 0");
        Check.hasFault(sentence, BOUNDS, "ray a at -    ^10 0");
        Check.hasFault(sentence, BOUNDS, "ray a at 1 -  ^10");
        Check.hasFault(sentence, BOUNDS, CLOSED + ";load d -   ^21 on a");
    }

    private static void cannotBeSoIsAskedBehindBoth() {
        String sentence = "a ray that can't be so, or is there already (asked behind both bounds), at the second WHOLE";
        Check.hasFault(sentence, BOUNDS, "ray a at ^10 0");
        Check.hasFault(sentence, BOUNDS, "ray a at ^20 20");
        Check.hasFault(sentence, BOUNDS, "ray a at 2 ^20");
        Check.hasFault(sentence, BOUNDS, "ray a at 2 -  ^4");
        Check.hasFault(sentence, BOUNDS, "ray a at 0 ^0");
        Check.hasFault(sentence, BOUNDS, "ray a at 0 -^0");
        Check.hasFault(sentence, FORM, "ray a at 0 ^; ray b at 0 1");
        Check.hasFault(sentence, BOUNDS, "ray a at 1 0;ray b at 1 - ^0");
        Check.hasFault(sentence, BOUNDS, "ray a at 1 0;ray b at 1 ^10");
    }

    private static void nameIsAtTheName() {
        String sentence = "NAME: one told again, one behind on that is no ray's, or was in that load; at it";
        Check.hasFault(sentence, NAME, "ray a at 1 0;ray   ^a   at 0 1");
        Check.hasFault(sentence, NAME, CLOSED + ";load d 1 on   ^q");
        Check.hasFault(sentence, NAME, CLOSED + ";load d 1 on ^d");
        Check.hasFault(sentence, NAME, CLOSED + ";load d 1 on a;load e 1 on ^d");
        Check.hasFault(sentence, NAME, CLOSED + ";load d 1 on a,2 on b,3 on ^a");
        Check.hasFault(sentence, NAME, CLOSED + ";load d 1 on ^aa");
    }

    private static void manyIsAtTheFirstWord() {
        String sentence = "MANY: a 13th ray, a seventh load, at the line's first word";
        Check.hasFault(sentence, MANY, TWELVE + " ;   ^ray m at -2 -1");
        Check.hasFault(sentence, MANY, SIX + " ;   ^load j 1 on a");
        Check.hasFault(sentence, MANY, SIX + " ;^load");
        // Lines that fail don't count: neither line here is a 13th or a seventh.
        Check.hasFault(sentence, BOUNDS, TWELVE.replace("ray l at -2 1", "ray l at -2 ^2") + ";ray m at -2 1");
        Check.hasFault(sentence, FORM, TWELVE + ";^at");
    }

    private static void fewerThanThreeRays() {
        String sentence = "LACKS: at the end: fewer than three rays";
        Check.hasFault(sentence, LACKS, "ray a at 1 0^");
        Check.hasFault(sentence, LACKS, "ray a at 1 0;ray b at -1 0^");
        Check.hasFault(sentence, LACKS, "ray a at 1 0;ray b at 0 1;load d 1 on a,2 on b  ^");
        Check.isFan(sentence, CLOSED, 3);
    }

    private static void halfATurnOrMore() {
        String sentence = "LACKS: between two neighbours half a turn or more";
        Check.isFan(sentence, "ray a at 9 8;ray b at -8 -7;ray c at 1 -1", 3);
        Check.hasFault(sentence, LACKS, "ray a at 9 8;ray b at -9 -8;ray c at 1 -1^");
        Check.hasFault(sentence, LACKS, "ray a at 8 7;ray b at -9 -8;ray c at 1 -1^");
        // From the last one around to the first.
        Check.isFan(sentence, "ray a at -9 -8;ray b at 8 7;ray c at -1 1", 3);
        Check.hasFault(sentence, LACKS, "ray a at -9 -8;ray b at 9 8;ray c at -1 1^");
        Check.hasFault(sentence, LACKS, "ray a at -8 -7;ray b at 9 8;ray c at -1 1^");
        // Along the line through (1, 0), where the numbers begin.
        Check.isFan(sentence, "ray a at 1 0;ray b at -9 1;ray c at 0 -1", 3);
        Check.hasFault(sentence, LACKS, "ray a at 1 0;ray b at -1 0;ray c at 0 -1^");
        Check.hasFault(sentence, LACKS, "ray a at 1 0;ray b at 0 1;ray c at -1 0^");
        Check.hasFault(sentence, LACKS, "ray a at 1 0;ray b at -9 -1;ray c at 0 -1^");
        Check.hasFault(sentence, LACKS, "ray a at 1 1;ray b at 0 1;ray c at 1 2^");
        Check.isFan(sentence, "ray a at 1 0;ray b at -1 0;ray c at 0 -1;ray d at 0 1", 4);
    }

    // ---- fan, fault, where, size

    private static void fanOfN() {
        String sentence = "fan(n): refused by 2 (n)";
        for (int n : new int[] {-1, 61, 500, 501, Integer.MIN_VALUE, Integer.MAX_VALUE}) {
            Check.refused(sentence, "fan(" + n + ")", FanConesTextEdges::withTape, x -> x.fan(n), NONE, 2);
        }
        FanCones empty = new FanCones();
        Check.due(sentence, "fan(1) of an empty tape", empty.fan(1), NONE);
        Check.due(sentence, "trouble()", empty.trouble(), 2);
        Check.due(sentence, "fan(0) of an empty tape", empty.fan(0), NONE);
        Check.due(sentence, "trouble()", empty.trouble(), 4);
        FanCones x = withTape();
        Check.taken(sentence, "fan(60), all that came", x, y -> y.fan(60), 3);
        Check.due(sentence, "size()", x.size(), 0);
        FanCones full = new FanCones();
        Check.feed(full, CLOSED + many(" ", 500 - CLOSED.length()));
        Check.due(sentence, "fan(501)", full.fan(501), NONE);
        Check.due(sentence, "size() behind it", full.size(), 500);
        Check.taken(sentence, "fan(500)", full, y -> y.fan(500), 3);
    }

    /** A fan with acts and an older fault, and sixty bytes of another on the tape. */
    private static FanCones withTape() {
        FanCones x = Check.made(AXES + ";load q 3 on n");
        x.star(0);
        x.fill(0, 4);
        Check.read(x, "ray a at 0 0");
        Check.feed(x, CLOSED + many(" ", 60 - CLOSED.length()));
        return x;
    }

    private static void fanIsTheFanFromNowOn() {
        String sentence = "the first n bytes are the fan from now on, the tape is empty then";
        FanCones x = Check.made(AXES + ";load longer 3 on n;load other 4 on e");
        x.star(0);
        x.set(0, 0, 9);
        Check.feed(x, CLOSED + ";load z 5 on c");
        Check.taken(sentence, "fan of the first bytes", x, y -> y.fan(CLOSED.length()), 3);
        Check.due(sentence, "size()", x.size(), 0);
        Check.due(sentence, "no load", x.about(1), 0);
        Check.due(sentence, "load of before", x.load(0, 0), Check.NOTHING);
        Check.due(sentence, "letter of before", Check.hasLetter(x, 0, 0) ? 1 : 0, 0);
        Check.due(sentence, "ray of before", x.ray(3, 0), Check.NOTHING);
        Check.due(sentence, "acts", x.about(5), 0);
        Check.due(sentence, "undo", x.undo(), NONE);
        Check.due(sentence, "trouble() of undo", x.trouble(), 5);
        Check.due(sentence, "fan(1), nothing is left on the tape", x.fan(1), NONE);
        Check.due(sentence, "trouble()", x.trouble(), 2);
        Check.due(sentence, "a fan again", Check.read(x, CLOSED + ";load z 5 on c"), 3);
        Check.due(sentence, "letter", x.letter(0, 0), 25);
        Check.due(sentence, "no second letter of a longer name", Check.hasLetter(x, 0, 1) ? 1 : 0, 0);
    }

    private static void faultOfTheLatestFan() {
        String sentence = "the fault of the latest fan not refused by 2; 0 without one, ahead of any";
        FanCones x = new FanCones();
        Check.due(sentence, "ahead of any", x.fault(), 0);
        x.fan(1);
        Check.due(sentence, "behind one refused by 2", x.fault(), 0);
        String[] texts = {"!", "ray a at 0 0", "ray a at 1 0;ray a", TWELVE + ";ray", "ray a at 1 0"};
        for (int k = 0; k < texts.length; k++) {
            Check.read(x, texts[k]);
            Check.due(sentence, "of " + texts[k], x.fault(), k + 1);
            x.fan(-1);
            Check.due(sentence, "behind one refused by 2", x.fault(), k + 1);
            x.about(0);
            Check.due(sentence, "behind another call", x.fault(), k + 1);
        }
        Check.read(x, CLOSED);
        Check.due(sentence, "of one without a fault", x.fault(), 0);
        Check.read(x, "!");
        x.fan(-1);
        Check.read(x, CLOSED);
        Check.due(sentence, "of one without a fault", x.fault(), 0);
    }

    private static void whereIfRefusedBy4() {
        String sentence = "its place, if the latest call that may be refused was by 4; NONE else";
        FanCones x = new FanCones();
        Check.due(sentence, "of a new object", x.where(), NONE);
        x.about(0);
        Check.due(sentence, "behind a 1", x.where(), NONE);
        x.fan(7);
        Check.due(sentence, "behind a 2", x.where(), NONE);
        Check.read(x, "ray a !");
        Check.due(sentence, "behind a 4", x.where(), 6);
        Check.due(sentence, "asked again", x.where(), 6);
        x.fault();
        x.size();
        x.trouble();
        Check.hasLetter(x, 0, 0);
        Check.due(sentence, "behind calls that tell no number", x.where(), 6);
        x.fan(7);
        Check.due(sentence, "behind a 2", x.where(), NONE);
        Check.read(x, "");
        Check.due(sentence, "at place 0", x.where(), 0);
        Check.read(x, CLOSED);
        Check.due(sentence, "behind a fan", x.where(), NONE);
        Check.read(x, "!");
        x.undo();
        Check.due(sentence, "behind a 5", x.where(), NONE);
        Check.read(x, "!");
        x.lean();
        Check.due(sentence, "behind a 0", x.where(), NONE);
    }

    private static void sizeOfTheTape() {
        String sentence = "bytes of the tape";
        FanCones x = new FanCones();
        Check.due(sentence, "of a new object", x.size(), 0);
        for (int size = 20; size <= 500; size += 20) {
            feedBlanks(x);
            Check.due(sentence, "behind a feed", x.size(), size);
        }
        feedBlanks(x);
        Check.due(sentence, "behind a feed of too many", x.size(), 500);
        x.fan(501);
        Check.due(sentence, "behind a 2", x.size(), 500);
        x.star(0);
        Check.due(sentence, "behind a 1", x.size(), 500);
        x.fan(0);
        Check.due(sentence, "behind a 4 of no byte", x.size(), 0);
        Check.feed(x, CLOSED);
        x.fan(CLOSED.length());
        Check.due(sentence, "behind a fan", x.size(), 0);
        feedBlanks(x);
        x.star(0);
        x.undo();
        Check.due(sentence, "behind acts", x.size(), 20);
    }
}
