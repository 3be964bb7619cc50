/** Promises 25 to 33: rules of deeds, crews, berths, inks, ages, clashes and pairs. */
public final class PlanTest {
    private PlanTest() {
    }

    public static void main(String[] args) {
        rules();
        crews();
        berths();
        inks();
        ages();
        clashes();
        pairs();
        wrongTapes();
        Check.finish("PlanTest");
    }

    private static int rules(NeedleShop x, boolean least, int... rows) {
        Check.tape(x, rows);
        return Check.of(() -> x.rules(least));
    }

    private static int ask(NeedleShop x, int... rows) {
        Check.tape(x, rows);
        return Check.of(x::ask);
    }

    private static void rules() {
        NeedleShop x = new NeedleShop();
        Check.due("nothing told", rules(x, false), 64);
        Check.due("first of all", rules(x, true), 0);
        Check.due("0 tells B", rules(x, false, 0, 5), 8);
        Check.due("least with B", rules(x, true, 0, 5), 5);
        Check.due("two rows", rules(x, false, 0, 5, 1, 1), 1);
        Check.due("A is 4", rules(x, true, 0, 5, 1, 1), 37);
        Check.due("even kinds leave two", rules(x, false, 2, 3, 4, 5), 2);
        Check.due("the least of these", rules(x, true, 2, 3, 4, 5), 8 + 1);
        Check.due("against itself", rules(x, false, 3, 3, 3, 4), 0);
        Check.due("none", rules(x, true, 3, 3, 3, 4), -1);
        Check.due("twenty rows", rules(x, false, new int[40]), 8);
        Check.due("ask of all", ask(x), 0);
        Check.due("ask when B is known", ask(x, 0, 5), 1);
        Check.due("ask when kind 1 is known", ask(x, 1, 5), 0);
        Check.due("ask when kind 3 is known: an even one", ask(x, 3, 5), 0);
        Check.due("ask of one", ask(x, 0, 5, 1, 1), -1);
        Check.due("ask of none", ask(x, 3, 3, 3, 4), -1);
        // A is 1 or 5 and B is 1: only odd kinds part these.
        Check.due("ask that parts two", ask(x, 0, 1, 2, 3), 1);
        Check.due("now at first", x.now(), 8);
        for (int k = 0; k < 8; k++) {
            x.told(k, 3 * k + 6 & 7);
        }
        Check.due("now by 3 and 6", x.now(), 30);
        x.told(5, 0);
        Check.due("now by none", x.now(), -1);
        for (int k = 0; k < 8; k++) {
            x.told(k, 0);
        }
        Check.due("now by 0 and 0", x.now(), 0);
    }

    private static void crews() {
        NeedleShop x = Check.shop("person age 1 luck 1 under a;person age 1 luck 1 under b;person age 1 luck 1;"
            + "person age 1 luck 1 under b;person age 1 luck 1 under a;person age 1 luck 1 under h");
        Check.due("nobody needed", x.crew(0), 0);
        Check.due("other bits count for nothing", x.crew(0x7FFFFF00), 0);
        Check.due("negative bits too", x.crew(-256), 0);
        Check.due("one, the least", x.crew(2), 2);
        Check.due("two, the least", x.crew(3), 3);
        Check.due("three", x.crew(131), 35);
        Check.due("none tells it", x.crew(4), -1);
        x.does(2, 2);
        Check.due("done is not told", x.crew(4), -1);
        x.told(1, 0);
        Check.due("1 is told no more", x.crew(2), -1);
        Check.due("all of them", x.crew(-1), -1);
        NeedleShop y = Check.shop("person age 1 luck 1 under c;person age 1 luck 1 under a;person age 1 luck 1 under c");
        Check.due("two of three", y.crew(5), 3);
        Check.due("the fewest are not the first", y.crew(1), 2);
    }

    private static int berth(NeedleShop x, int berth, int... deeds) {
        Check.tape(x, deeds);
        return Check.of(() -> x.berths(berth));
    }

    private static void berths() {
        NeedleShop x = Check.shop("person age 1 luck 1 under a;person age 1 luck 1 under b;person age 1 luck 1;"
            + "person age 1 luck 1 under a");
        Check.due("none told", berth(x, -1), 0);
        Check.due("no berth", berth(x, 0), -1);
        Check.due("two of one", berth(x, -1, 0, 0), 2);
        Check.due("first of two", berth(x, 0, 0, 0), 0);
        Check.due("second of two", berth(x, 1, 0, 0), 3);
        Check.due("three of one", berth(x, -1, 0, 0, 0), 2);
        Check.due("none is the least", berth(x, 0, 0, 0, 0), -1);
        Check.due("then the first", berth(x, 1, 0, 0, 0), 0);
        Check.due("then the next", berth(x, 2, 0, 0, 0), 3);
        x.does(2, 0);
        x.does(2, 5);
        Check.due("who has done it", berth(x, -1, 0, 0, 0), 3);
        Check.due("its berth", berth(x, 1, 0, 0, 0), 2);
        Check.due("the other one is needed elsewhere", berth(x, -1, 0, 0, 0, 5), 3);
        Check.due("so the first is none", berth(x, 0, 0, 0, 0, 5), -1);
        Check.due("berth 1", berth(x, 1, 0, 0, 0, 5), 0);
        Check.due("berth 2", berth(x, 2, 0, 0, 0, 5), 3);
        Check.due("berth 3", berth(x, 3, 0, 0, 0, 5), 2);
        Check.due("beyond", berth(x, 4, 0, 0, 0, 5), -1);
        Check.due("below", berth(x, -2, 0, 0, 0, 5), -1);
        Check.due("far beyond", berth(x, Integer.MAX_VALUE, 0), -1);
        Check.due("far below", berth(x, Integer.MIN_VALUE, 0), -1);
        NeedleShop y = Check.shop("person age 1 luck 1 under a;person age 1 luck 1 under a;person age 1 luck 1 under a;"
            + "person age 1 luck 1 under a");
        for (int b = 0; b < 4; b++) {
            Check.due("each another one", berth(y, b, 0, 0, 0, 0), b);
        }
        Check.due("six", berth(x, -1, 0, 1, 2, 3, 4, 5), 3);
        Check.due("seven", berth(x, -1, 0, 1, 2, 3, 4, 5, 6), Check.ARGUMENT);
        Check.due("no deed", berth(x, 9, 8), Check.ARGUMENT);
    }

    private static void inks() {
        NeedleShop x = Check.shop("person age 1 luck 1 under a;person age 1 luck 1;person age 1 luck 1;purse 0");
        Check.due("none", x.inks(0), 0);
        Check.due("told already", x.inks(1), 0);
        Check.due("other bits", x.inks(0xFF00), 0);
        Check.due("one", x.inks(3), 1);
        Check.due("two, and no purse", x.inks(0b10000100), 2);
        Check.due("three are too many", x.inks(0b10000110), -1);
        x.does(1, 6);
        Check.due("done is not told", x.inks(0b1000000), 1);
        x.told(7, 0);
        Check.due("no kind tells it", x.inks(128), -1);
        Check.due("nobody", new NeedleShop().inks(1), -1);
    }

    private static void ages() {
        NeedleShop x = Check.shop("person age 10 luck 1 under a;person age 50 luck 1");
        Check.due("now", x.old(10), 0);
        Check.due("next year", x.old(11), 1);
        Check.due("sixty", x.old(70), 60);
        Check.due("beyond", x.old(71), -1);
        Check.due("zero", x.old(0), 0);
        Check.due("nobody", new NeedleShop().old(99), 0);
        Check.due("99", Check.shop("person age 39 luck 1;person age 99 luck 1").old(99), 60);
        Check.due("100", Check.of(() -> x.old(100)), Check.ARGUMENT);
        Check.due("-1", Check.of(() -> new NeedleShop().old(-1)), Check.ARGUMENT);
    }

    private static int clash(NeedleShop x, int... rows) {
        Check.tape(x, rows);
        return Check.of(x::clash);
    }

    private static void clashes() {
        NeedleShop x = Check.shop("person age 10 luck 1 under a;person age 50 luck 1;person age 50 luck 1 under b");
        x.does(0, 0);
        x.does(1, 0);
        x.does(2, 0);
        Check.due("none told", clash(x), 0);
        Check.due("all so", clash(x, 0, 1, 1, 0, 2, 0), 0);
        Check.due("none so", clash(x, 0, 0, 1, 1, 2, 1), 7);
        Check.due("both ways of one", clash(x, 2, 0, 2, 1), 4);
        Check.due("both ways, turned", clash(x, 2, 1, 2, 0), 4);
        Check.due("no such person", clash(x, 3, 0), Check.ARGUMENT);
        Check.due("neither", clash(x, 0, 2), Check.ARGUMENT);
        Check.due("odd", clash(x, 0, 1, 1), Check.ARGUMENT);
        Check.due("of nobody", clash(new NeedleShop(), 0, 0), Check.ARGUMENT);
        Check.due("forty bytes", clash(x, new int[40]), 1);
        Check.due("forty-two bytes", clash(x, new int[42]), Check.ARGUMENT);
    }

    private static void pairs() {
        NeedleShop x = Check.shop("person age 10 luck 1 under a;person age 50 luck 1 under a;person age 50 luck 1;"
            + "person age 50 luck 1 under b;person age 50 luck 1 under b");
        // 0-3 and 1-4 bring two each; with 2, who is plain, a pair brings one.
        Check.due("together", x.pairs(-1), 4);
        int[] with = {3, 4, -1, 0, 1};
        for (int p = 0; p < 5; p++) {
            Check.due("with " + p, x.pairs(p), with[p]);
        }
        x.does(2, 5);
        x.does(2, 6);
        x.does(2, 7);
        // Now 2 brings four with anybody, and the first may be left.
        Check.due("together now", x.pairs(-1), 6);
        int[] now = {-1, 3, 4, 1, 2};
        for (int p = 0; p < 5; p++) {
            Check.due("now with " + p, x.pairs(p), now[p]);
        }
        NeedleShop y = Check.shop("person age 10 luck 1 under a;person age 50 luck 1 under a");
        Check.due("alike bring nothing", y.pairs(-1), 0);
        Check.due("and are none", y.pairs(0), -1);
        y.does(0, 0);
        Check.due("done and told are one", y.pairs(-1), 0);
        Check.due("no such one", Check.of(() -> y.pairs(2)), Check.INDEX);
        Check.due("no such one below", Check.of(() -> y.pairs(-2)), Check.INDEX);
        Check.due("nobody", new NeedleShop().pairs(-1), 0);
    }

    private static void wrongTapes() {
        NeedleShop x = new NeedleShop();
        Check.due("odd", rules(x, true, 1), Check.ARGUMENT);
        Check.due("the tape is used up", x.end(1), false);
        Check.due("no kind", rules(x, false, 8, 0), Check.ARGUMENT);
        Check.due("no deed", rules(x, false, 0, 8), Check.ARGUMENT);
        Check.due("high bytes", rules(x, false, 255, 255), Check.ARGUMENT);
        Check.due("too long", rules(x, false, new int[42]), Check.ARGUMENT);
        Check.due("odd", ask(x, 1, 2, 3), Check.ARGUMENT);
        Check.due("the tape is used up by ask", x.end(1), false);
        Check.due("no kind", ask(x, 0, 0, 8, 0), Check.ARGUMENT);
        Check.due("no deed", ask(x, 0, 9), Check.ARGUMENT);
        Check.due("too long", ask(x, new int[41]), Check.ARGUMENT);
        Check.due("forty", ask(x, new int[40]), 1);
        Check.due("a right tape is used up too", x.end(1), false);
    }
}
