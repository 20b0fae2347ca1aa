/** Promises 20 to 28: the TAPE, LAWS, WORLDS and OTHER RIVERS. */
public final class LawPromisesTest {
    private static final int NONE = RiverWage.NONE;
    private static final Due due = new Due("LawPromisesTest");

    public static void main(String[] args) {
        promise20Feed();
        promise21Law();
        promise21Tokens();
        promise21Faults();
        promise21Depth();
        promise21Values();
        promise22World();
        promise22ShutAndOpen();
        promise23Fits();
        promise24Best();
        promise25Rivers();
        promise26Other();
        promise27Others();
        promise28Drawer();
        due.close();
    }

    private static RiverWage fourKitchens() {
        return RiverPromisesTest.fourKitchens();
    }

    private static void promise20Feed() {
        RiverWage x = new RiverWage();
        due.is("feed nothing", x.feed(0, 0, 0), 0);
        due.is("feed 24", Texts.feed(x, "hire 1 ; part 2 ; shut w"), 24);
        due.is("feed behind", Texts.feed(x, "hen 0 ;"), 31);
        due.is("signs", x.count(6), 31);
        due.is("in order", x.law(0), 0);
        due.is("taken", x.count(6), 0);
        // 10, 32 and 126 are signs; 9, 11, 31, 127, 128, 255 are not
        due.is("which signs", x.feed(0x090A0B1F207E7F80L, 0xFFFFFFFFFFFFFFFFL, 0x8A00A0FE7FE1010DL), 3);
        due.is("which signs, fault of ~", x.law(0), Texts.fault(1, 2));
        long digits = 0x3131313131313131L;
        for (int i = 0; i < 41; i++) {
            due.is("feed up", x.feed(digits, digits, digits), 24 * (i + 1));
        }
        due.is("feed over", x.feed(digits, digits, digits), 1000);
        due.is("full", x.feed(digits, digits, digits), 1000);
        due.is("signs when full", x.count(6), 1000);
    }

    private static void promise21Law() {
        RiverWage x = fourKitchens();
        due.is("law", Texts.law(x, 0, "hire 7 ;"), 0);
        due.is("runs", x.world(0, 0, 0, 1), 90);
        due.is("its fault", Texts.law(x, 0, "hire 8 ; hire"), Texts.fault(3, 9));
        due.is("tape is empty", x.count(6), 0);
        due.is("stays as it was", x.world(0, 0, 0, 1), 90);
        for (int law : new int[] {-1, 4, Integer.MAX_VALUE, Integer.MIN_VALUE}) {
            Texts.feed(x, "hire 9 ;");
            due.is("no such law", x.law(law), -1);
            due.is("tape is empty then", x.count(6), 0);
        }
        due.is("law 3", Texts.law(x, 3, "hire 1 ;"), 0);
        due.is("law 0 is another", x.world(0, 0, 0, 1), 90);
        due.is("law 3 runs", x.world(3, 0, 0, 1), 30);
        due.is("an empty text", x.law(0), 0);
        due.is("is an empty law", x.world(0, 0, 0, 11), 120);
        due.is("blanks alone", Texts.law(x, 3, " \n "), 0);
        due.is("is an empty law, too", x.world(3, 0, 0, 11), 120);
        due.is("any order", Texts.law(x, 1, "opens when 1 ; shut when 0 ; part 3 ; hire 2 ;"), 0);
        due.is("all lines", x.world(1, 0, 0, 1), 35);
    }

    private static void promise21Tokens() {
        RiverWage x = fourKitchens();
        due.is("no blanks", Texts.law(x, 0, "hire(whole+1)*2;shut when 0;"), 0);
        due.is("value", x.world(0, 0, 0, 1), 240);
        due.is("lines", Texts.law(x, 0, "\nhire\n3\n;\n"), 0);
        due.is("a letter behind a number", Texts.law(x, 0, "hire 1and 2or 0;part 3;"), 0);
        due.is("its value", x.world(0, 0, 0, 1), 25);
        due.is("a number behind a word", Texts.law(x, 0, "hire4;part0004;"), 0);
        due.is("its value", x.world(0, 0, 0, 1), 60);
        due.is("5 digits", Texts.law(x, 0, "hire 00001 ;"), Texts.fault(1, 5));
        due.is("4 digits", Texts.law(x, 0, "hire 9999 ;"), 0);
        due.is("9 letters", Texts.law(x, 0, "hire wholewhol ;"), Texts.fault(1, 5));
        due.is("a longer word", Texts.law(x, 0, "hires 1 ;"), Texts.fault(1, 0));
        due.is("a shorter word", Texts.law(x, 0, "hir 1 ;"), Texts.fault(1, 0));
        due.is("a part of a word", Texts.law(x, 0, "hire hal ;"), Texts.fault(1, 5));
        due.is("two words in one", Texts.law(x, 0, "hire notwas ;"), Texts.fault(1, 5));
        due.is("capitals", Texts.law(x, 0, "hire Whole ;"), Texts.fault(1, 5));
        for (char sign : "!\"#$%&',./:>?@[\\]^_`{|}~".toCharArray()) {
            due.is("no token " + sign, Texts.law(x, 0, "hire 1 " + sign + " ;"), Texts.fault(1, 7));
        }
    }

    private static void promise21Faults() {
        RiverWage x = fourKitchens();
        String[] texts = {"hire", "hire ", "hire ;", "hire 1", "hire 1  ", "hire 1 2 ;", "hire 1 + ;", "hire + 1 ;",
            "hire - 1 ;", "hire 1 * * 2 ;", "hire ( 1 ;", "hire 1 ) ;", "hire ( ) ;", "hire 1 < 2 = 3 ;",
            "hire 1 = 2 + 3 < 4 ;", "hire not ;", "hire and 1 ;", "hire 1 and ;", "hire 1 not 2 ;", "hire 1 whole ;",
            "hire 1 ( 2 ) ;", "hire hire ;", "hire 1 hire ;", "hire part ;", "hire when 1 ;", "shut 1 ;", "opens whole ;",
            "shut when ;", "; hire 1 ;", "hire 1 ;;", "1 ;", "when 1 ;", "take when 1 ;", "hire most ;", "hire number ;",
            "hire bound ;", "hire silent ;", "hire shut ;", "shut when opens ;", "hire 1 ; shut", "hire 1 ; shut when"};
        int[] places = {4, 5, 5, 6, 8, 7, 9, 5,
            5, 9, 9, 7, 7, 11,
            15, 9, 5, 11, 7, 7,
            7, 5, 7, 5, 5, 5, 6,
            10, 0, 8, 0, 0, 0, 5, 5,
            5, 5, 5, 10, 13, 18};
        for (int i = 0; i < texts.length; i++) {
            due.is("fault of '" + texts[i] + "'", Texts.law(x, 0, texts[i]), Texts.fault(1, places[i]));
        }
        for (String word : new String[] {"hire", "part"}) {
            due.is("twice " + word, Texts.law(x, 0, word + " 1 ; " + word + " 1 ;"), Texts.fault(3, word.length() + 5));
        }
        due.is("twice shut", Texts.law(x, 0, "shut when 1 ; shut when"), Texts.fault(3, 14));
        due.is("twice opens", Texts.law(x, 0, "opens when 1 ; hire 1 ; opens"), Texts.fault(3, 24));
        due.is("the first one", Texts.law(x, 0, "hire 1 ; fire 2 ; hire 3 ;"), Texts.fault(1, 9));
        due.is("the first one", Texts.law(x, 0, "hire 1 ; hire ? ;"), Texts.fault(3, 9));
    }

    private static void promise21Depth() {
        RiverWage x = fourKitchens();
        due.is("4 nots", Texts.law(x, 0, "hire not not not not 1 ;"), 0);
        due.is("5 nots", Texts.law(x, 0, "hire not not not not not 1 ;"), Texts.fault(5, 25));
        due.is("6 nots", Texts.law(x, 0, "hire not not not not not not 1 ;"), Texts.fault(5, 25));
        due.is("5 nots and a (", Texts.law(x, 0, "hire not not not not not ( 1 ) ;"), Texts.fault(5, 25));
        due.is("5 nots and none", Texts.law(x, 0, "hire not not not not not ; ;"), Texts.fault(1, 25));
        due.is("5 nots and no fact", Texts.law(x, 0, "hire not not not not not most ;"), Texts.fault(1, 25));
        due.is("4 (", Texts.law(x, 0, "hire((((1))));"), 0);
        due.is("5 (", Texts.law(x, 0, "hire(((((1)))));"), Texts.fault(5, 9));
        due.is("5 ( and a fact", Texts.law(x, 0, "hire(((((was)))));"), Texts.fault(5, 9));
        due.is("5 ( and a )", Texts.law(x, 0, "hire((((()))));"), Texts.fault(1, 9));
        due.is("both", Texts.law(x, 0, "hire(not(not 1));"), 0);
        due.is("both, 5", Texts.law(x, 0, "hire(not(not(1)));"), Texts.fault(5, 13));
        due.is("behind them it is as before",
            Texts.law(x, 0, "hire((((1))))+((((2))))*not not not not 3 and not not not not(4);"), Texts.fault(5, 62));
        due.is("behind a PART the nots are closed",
            Texts.law(x, 0, "hire not not not not 1 + not not not not 1 ;"), 0);
        due.is("not within ( )", Texts.law(x, 0, "hire(not 1 + not 1 + not(not 1+ 1));"), 0);
    }

    private static void promise21Values() {
        RiverWage x = new RiverWage();
        x.kitchen(0, 0, 400, 10, false);
        x.call(0, 0, 10, 4);
        String[] texts = {"2 + 3 * 4", "( 2 + 3 ) * 4", "20 - 5 - 3", "20 - ( 5 - 3 )", "2 * 3 + 4", "1 < 2", "2 < 1",
            "2 < 2", "2 = 2", "2 = 3", "1 + 1 = 2", "2 = 1 + 1", "1 - 2 < 0", "7 and 8", "7 and 0", "0 or 9", "0 or 0",
            "1 or 1 and 0", "0 and 0 or 1", "1 or ( 1 and 0 )", "not 0", "not 5", "not 0 + 5", "not ( 0 + 5 )",
            "not not 7", "2 * not 0", "1 < 2 and 3 < 4", "1 + 2 and 0 + 3", "0 - 5", "50 + 49", "50 + 50", "9999",
            "9999 * 9999 * 9999 * 9999 + 7", "3 - 2 * 2 + 4", "1 = 1 = 1 ", "whole * half", "whole < half or 5",
            "not ( 1 < 2 ) + 3", "( 1 and 1 ) + ( 1 or 0 ) + ( 2 = 2 )", "3 * ( 1 + 2 ) * 2"};
        int[] wants = {14, 20, 12, 18, 10, 1, 0,
            0, 1, 0, 1, 1, 1, 1, 0, 1, 0,
            0, 1, 1, 1, 0, 6, 0,
            1, 2, 1, 1, 0, 99, 99, 99,
            clipped(9999 * 9999 * 9999 * 9999 + 7), 3, -1, 40, 1,
            3, 3, 18};
        for (int i = 0; i < texts.length; i++) {
            int fault = Texts.law(x, 0, "hire " + texts[i] + " ; part 0 ;");
            if (wants[i] < 0) {
                due.is("fault of " + texts[i], fault, Texts.fault(1, 11));
            } else {
                due.is("no fault of " + texts[i], fault, 0);
                due.is("value of " + texts[i], x.world(0, 0, 0, 1), 10 * wants[i]);
            }
        }
    }

    private static int clipped(int hands) {
        return Math.max(0, Math.min(99, hands));
    }

    private static void promise22World() {
        RiverWage x = fourKitchens();
        due.is("empty law", x.world(3, 9999, 3, 11), 140);
        Texts.law(x, 0, "hire draw ; part 0 ;");
        long g = 9999;
        for (int month = 1; month <= 11; month++) {
            for (int kitchen = 0; kitchen < 4; kitchen++) {
                g = (g * 1103515245L + 12345L) % 2147483648L;
                due.is("draw", x.world(0, 9999, kitchen, month), g / 65536 % 10 * 10);
            }
        }
        x.floor(0, 4, 430, 9);
        x.floor(1, 5, 420, -7);
        String[] facts = {"whole + 1", "half + 1", "wage - 400", "floor - 400", "gap", "bank + 3", "month", "trade + 10",
            "was + 5"};
        int[] kitchens = {0, 0, 2, 3, 3};
        int[] months = {3, 4, 5, 4, 5};
        int[][] wants = {{13, 14, 17, 13, 14}, {1, 1, 1, 1, 1}, {25, 25, 25, 50, 50}, {0, 30, 20, 0, 20},
            {0, 5, 0, 0, 0}, {3, 3, 4, 4, 4}, months, {10, 19, 3, 10, 3}, {5, 5, 5, 5, 5}};
        for (int i = 0; i < facts.length; i++) {
            Texts.law(x, 1, "hire " + facts[i] + " ; part 0 ;");
            for (int j = 0; j < kitchens.length; j++) {
                due.is("fact " + facts[i], x.world(1, 0, kitchens[j], months[j]), 10 * wants[i][j]);
            }
        }
        Texts.law(x, 1, "part half + 1 ;");
        due.is("without hire", x.world(1, 0, 0, 3), 100 + 5 * 7);
        x.tenths(10);
        due.is("by tenths", x.world(1, 0, 0, 3), 100 + 70);
        due.is("month 0", x.world(1, 0, 3, 0), 190);
        int[][] wrong = {{-1, 0, 0, 0}, {4, 0, 0, 0}, {0, -1, 0, 0}, {0, 10000, 0, 0}, {0, 0, -1, 0}, {0, 0, 24, 0},
            {0, 0, 4, 0}, {0, 0, 0, -1}, {0, 0, 0, 12}};
        for (int[] w : wrong) {
            due.is("world wrong", x.world(w[0], w[1], w[2], w[3]), NONE);
        }
    }

    private static void promise22ShutAndOpen() {
        RiverWage x = fourKitchens();
        x.call(3, 0, NONE, NONE);
        x.call(2, 0, 5, NONE);
        Texts.law(x, 0, "shut when month = 4 ; opens when month = 6 ;");
        due.is("before", x.world(0, 0, 0, 3), 120);
        due.is("shut", x.world(0, 0, 0, 4), 0);
        due.is("open without hands", x.world(0, 0, 0, 6), 0);
        due.is("open without hands", x.world(0, 0, 0, 11), 0);
        Texts.law(x, 0, "hire whole + 2 ; part half + was ; shut when month = 4 ; opens when month = 6 ;");
        due.is("open", x.world(0, 0, 0, 3), 160 + 20);
        due.is("shut", x.world(0, 0, 0, 5), 0);
        due.is("hands when it opens", x.world(0, 0, 0, 6), 25);
        due.is("hands when it is open", x.world(0, 0, 0, 7), 45);
        due.is("shut from the start", x.world(0, 0, 3, 0), 0);
        due.is("stays shut", x.world(0, 0, 3, 5), 0);
        due.is("opens", x.world(0, 0, 3, 6), 25);
        due.is("silent at the start: no hands", x.world(0, 0, 2, 0), 0);
        due.is("silent at the start: not shut", x.world(0, 0, 2, 1), 20);
        Texts.law(x, 0, "hire 3 ; part 0 ; shut when 1 ;");
        due.is("shut without opens", x.world(0, 0, 0, 2), 0);
        due.is("shut without opens", x.world(0, 0, 0, 11), 0);
        Texts.law(x, 0, "hire 3 ; part 0 ; opens when 1 ;");
        due.is("opens", x.world(0, 0, 3, 1), 30);
        Texts.law(x, 0, "hire 3 ; part 0 ; shut when 1 ; opens when 1 ;");
        due.is("shut in odd months", x.world(0, 0, 0, 1), 0);
        due.is("open in even ones", x.world(0, 0, 0, 2), 30);
        due.is("shut in odd months", x.world(0, 0, 0, 3), 0);
        due.is("the other way round", x.world(0, 0, 3, 1), 30);
        Texts.law(x, 0, "hire 3 ; part 0 ; shut when was ; opens when 1 - was ;");
        due.is("was when open", x.world(0, 0, 0, 5), 30);
        due.is("was when shut", x.world(0, 0, 3, 5), 0);
        Texts.law(x, 0, "hire 3 ; part 0 ; shut when 0 - 1 ;");
        due.is("below 0 is so", x.world(0, 0, 0, 1), 0);
    }

    private static void promise23Fits() {
        RiverWage x = fourKitchens();
        due.is("fits", x.fits(0, 1), 70);
        due.is("fits of 20", x.fits(0, 20), 1400);
        x.call(0, 3, 11, 4);
        due.is("fits of month 3", x.fits(0, 1), 80);
        x.call(0, 3, NONE, NONE);
        due.is("fits of a shut one", x.fits(0, 1), 190);
        x.call(0, 3, 0, NONE);
        x.call(0, 1, 11, 4);
        due.is("fits of month 1", x.fits(0, 1), 80);
        x.call(0, 1, 0, NONE);
        x.call(0, 0, 12, 4);
        due.is("month 0 begins it", x.fits(0, 1), 50);
        Texts.law(x, 1, "shut when 1 ;");
        due.is("fits when shut", x.fits(1, 1), 140 + 90 + 110 + 110);
        Texts.law(x, 2, "hire draw ; part 0 ;");
        long far = 0;
        for (int seed = 0; seed < 3; seed++) {
            for (int kitchen = 0; kitchen < 4; kitchen++) {
                far += Math.abs(x.world(2, seed, kitchen, 11) - x.hands(kitchen, 11));
            }
        }
        due.is("fits by draws", x.fits(2, 3), far);
        due.is("fits law", x.fits(-1, 1), NONE);
        due.is("fits law", x.fits(4, 1), NONE);
        due.is("fits seeds", x.fits(0, 0), NONE);
        due.is("fits seeds", x.fits(0, 21), NONE);
    }

    private static void promise24Best() {
        RiverWage x = fourKitchens();
        due.is("all alike", x.best(1), 0);
        Texts.law(x, 0, "hire whole + 1 ;");
        due.is("law 1", x.best(20), 1);
        Texts.law(x, 3, "hire whole - bank * ( month = 11 ) ;");
        due.is("law 3", x.best(2), 3);
        Texts.law(x, 2, "hire whole - bank * ( month = 11 ) ;");
        due.is("the first", x.best(2), 2);
        due.is("best seeds", x.best(0), NONE);
        due.is("best seeds", x.best(21), NONE);
        due.is("best of none", new RiverWage().best(5), 0);
    }

    private static void promise25Rivers() {
        RiverWage x = fourKitchens();
        rivers(x, 0, 5, 0, 11, 0, 5, 0);
        Texts.law(x, 0, "hire whole + bank ;");
        rivers(x, 0, 5, 0, 11, 5, 0, 0);
        rivers(x, 0, 5, 11, 0, 0, 0, 5);
        rivers(x, 0, 1, 0, 11, 1, 0, 0);
        Texts.law(x, 1, "hire whole + 3 * ( wage = 425 ) ;");
        rivers(x, 1, 2, 0, 11, 0, 2, 0);
        Texts.law(x, 1, "hire whole + ( wage = 425 ) - bank ;");
        rivers(x, 1, 2, 0, 11, 0, 0, 2);
        Texts.law(x, 1, "hire draw * bank ; part 0 ;");
        // those that are silent in a MONTH told aren't COUNTED, so there is no RIVER from 3 to 7 yet
        due.is("no river", x.rivers(1, 5, 3, 7, 0), NONE);
        for (int kitchen = 0; kitchen < 3; kitchen++) {
            x.call(kitchen, 3, 1, 0);
            x.call(kitchen, 7, 1, 0);
        }
        int[] wants = new int[3];
        for (int seed = 0; seed < 20; seed++) {
            int river = x.world(1, seed, 2, 3) - x.world(1, seed, 2, 7);
            wants[Integer.signum(river) + 1]++;
        }
        rivers(x, 1, 20, 3, 7, wants);
        int[][] wrong = {{-1, 1, 0, 11, 0}, {4, 1, 0, 11, 0}, {0, 0, 0, 11, 0}, {0, 21, 0, 11, 0}, {0, 1, 0, 0, 0},
            {0, 1, -1, 11, 0}, {0, 1, 0, 12, 0}, {0, 1, 0, 11, -1}, {0, 1, 0, 11, 3}};
        for (int[] w : wrong) {
            due.is("rivers wrong", x.rivers(w[0], w[1], w[2], w[3], w[4]), NONE);
        }
    }

    private static void rivers(RiverWage x, int law, int seeds, int b, int a, int... wants) {
        for (int what = 0; what < 3; what++) {
            due.is("rivers " + what, x.rivers(law, seeds, b, a, what), wants[what]);
        }
    }

    private static void promise26Other() {
        RiverWage x = new RiverWage();
        due.is("other sum", x.other(10000, 1, true), NONE);
        due.is("other sum", x.other(-10000, 1, true), NONE);
        due.is("other n", x.other(0, 0, true), NONE);
        due.is("other n", x.other(0, 1000, true), NONE);
        due.is("none yet", x.count(3), 0);
        due.is("other", x.other(9999, 999, true), 0);
        due.is("other", x.other(-9999, 1, false), 1);
        for (int i = 2; i < 20; i++) {
            due.is("other", x.other(i, i, i % 3 == 0), i);
        }
        due.is("20 are there", x.other(1, 1, true), NONE);
        due.is("20", x.count(3), 20);
        due.is("printed", x.count(4), 7);
    }

    private static void promise27Others() {
        RiverWage x = new RiverWage();
        due.throwsNone("others of none", () -> x.others(false, 0));
        x.other(-4, 6, false);
        due.throwsNone("none printed", () -> x.others(true, 0));
        others(x, false, -2, 3);
        x.other(10, 4, true);
        others(x, true, 5, 2);
        others(x, false, 3, 5);
        x.other(-10, 7, true);
        others(x, true, 0, 1);
        due.throwsNone("others what", () -> x.others(true, 2));
        due.throwsNone("others what", () -> x.others(false, -1));
    }

    private static void others(RiverWage x, boolean printed, long above, long below) {
        due.isFraction("others(" + printed + ")",
            () -> x.others(printed, 0), () -> x.others(printed, 1), above, below);
    }

    private static void promise28Drawer() {
        RiverWage x = new RiverWage();
        due.is("drawer of none", x.drawer(1), NONE);
        x.other(-50, 6, false);
        due.is("none printed", x.drawer(1), NONE);
        x.other(10, 4, true);
        due.is("drawer 1", x.drawer(1), 10);
        due.is("drawer 3", x.drawer(3), 4);
        due.is("drawer 5", x.drawer(5), 2);
        due.is("drawer 9", x.drawer(9), 2);
        due.is("drawer 10", x.drawer(10), 1);
        due.is("drawer 999", x.drawer(999), 1);
        due.is("drawer 0", x.drawer(0), NONE);
        due.is("drawer 1000", x.drawer(1000), NONE);
        x.other(-21, 4, true);
        due.is("below 0", x.drawer(5), 3);
        x.other(11, 4, true);
        due.is("0", x.drawer(5), 0);
    }
}
