/** Promises 10 to 18 and 44 to 53: acts, years by draws, the log, undoing and the image. */
public final class ActTest {
    private ActTest() {
    }

    public static void main(String[] args) {
        yearsByDraws();
        fameAndCaps();
        hands();
        logLimits();
        trials();
        spans();
        undoing();
        everyActIsUndone();
        imaging();
        wrongs();
        Check.finish("ActTest");
    }

    /** The draws are reckoned here by hand, in the order that the document tells. */
    private static void yearsByDraws() {
        NeedleShop x = Check.lawful(Check.shop("kind b marks 1111 0000 0000 0000 tells 4;person age 50 luck 5 under a;"
            + "person age 30 luck 3;person age 70 luck 7 under b;shake 40"), "come 10");
        int[] age = {50, 30, 70};
        int[] luck = {5, 3, 7};
        int[] bit = {1, 0, 16};
        int[] done = new int[3];
        int[] rubbed = new int[3];
        int rows = 0;
        x.seed(12345);
        int seed = 12345;
        for (int year = 0; year < 40; year++) {
            int came = 0;
            for (int p = 0; p < 3; p++) {
                age[p] = Math.min(99, age[p] + 1);
            }
            for (int p = 0; p < 3; p++) {
                if (bit[p] != 0 && (done[p] & bit[p]) == 0) {
                    seed = seed * 1103515245 + 12345;
                    if ((seed >> 16 & 0x7FFF) % 100 < age[p] / 10 + luck[p] + 10) {
                        done[p] |= bit[p];
                        came++;
                        rows++;
                    }
                }
            }
            for (int p = 0; p < 3; p++) {
                seed = seed * 1103515245 + 12345;
                if ((seed >> 16 & 0x7FFF) % 100 < 40) {
                    seed = seed * 1103515245 + 12345;
                    int place = (seed >> 16 & 0x7FFF) % 16;
                    if ((rubbed[p] >> place & 1) == 0) {
                        rubbed[p] |= 1 << place;
                        rows++;
                        if (p == 2 && rows <= 60) {
                            // The last row of the year is this one, for nobody comes behind.
                            Check.due("came in year " + year, x.years(1), came);
                            Check.due("log year", x.log(0, 0), year);
                            Check.due("log person", x.log(0, 1), 2);
                            Check.due("log sort", x.log(0, 2), 2);
                            Check.due("log place", x.log(0, 3), place);
                            came = -1;
                        }
                    }
                }
            }
            if (came >= 0) {
                Check.due("came in year " + year, x.years(1), came);
            }
            for (int p = 0; p < 3; p++) {
                Check.due("age", x.person(p, 2), age[p]);
                Check.due("done", x.person(p, 4), done[p]);
                Check.due("rubbed", x.person(p, 1), rubbed[p]);
            }
            Check.due("rows", x.count(9), Math.min(60, rows));
            Check.due("year", x.count(3), year + 1);
        }
        Check.due("seed", x.seed(1), seed);
    }

    private static void fameAndCaps() {
        NeedleShop x = Check.lawful(Check.shop("kind a marks 1000 0000 0000 0000;person age 98 luck 0 under a;year 999"),
            "come 100;fame 100 if done<1;fame 5 if year>98;fame 7 if age>98");
        Check.due("it came", x.years(1), 1);
        Check.due("fame ahead of the deed", x.person(0, 5), 10 + 100 + 5 + 7);
        Check.due("age 99", x.person(0, 2), 99);
        Check.due("came in 999", x.log(0, 0), 999);
        Check.due("no second time", x.years(1), 0);
        Check.due("age stays 99", x.person(0, 2), 99);
        for (int deed = 1; deed < 8; deed++) {
            x.told(0, deed);
            Check.lawful(x, "come 100;fame 100;fame 100");
            Check.due("again by another deed", x.years(2), 1);
            Check.due("fame has an end", x.person(0, 5), Math.min(999, 122 + 210 * deed));
        }
        Check.due("all deeds", x.person(0, 4), 255);
        Check.due("share", x.person(0, 11), 100);
        for (int i = 0; i < 151; i++) {
            x.years(60);
        }
        Check.due("year has an end", x.count(3), 9999);
        Check.due("sixty a call", Check.of(() -> x.years(60)), 0);
        Check.due("nobody's years", new NeedleShop().years(1), 0);
    }

    private static void hands() {
        NeedleShop x = Check.shop("kind a marks 0100 0000 0000 0000 tells 3;person age 9 luck 4 under a;person age 9 luck 2;purse 25;year 12");
        Check.due("rub", x.rub(0, 1), true);
        Check.due("rub bare", x.rub(0, 0), false);
        Check.due("rub again", Check.of(() -> x.rub(0, 0) ? 1 : 0), Check.STATE);
        Check.due("rub plain", x.rub(1, 1), false);
        Check.due("ink one with a kind", Check.of(() -> x.ink(0, 1)), Check.STATE);
        x.does(1, 7);
        Check.due("ink", x.ink(1, 0), 15);
        Check.due("rubbed stays", x.person(1, 1), 2);
        Check.due("done stays", x.person(1, 4), 128);
        Check.due("log year", x.log(0, 0), 12);
        Check.due("log person", x.log(0, 1), 1);
        Check.due("log ink", x.log(0, 2), 3);
        Check.due("log kind", x.log(0, 3), 0);
        Check.due("log hand", x.log(1, 2), 1);
        Check.due("log place", x.log(1, 3), 1);
        Check.due("rows", x.count(9), 4);
        Check.due("log beyond", x.log(4, 0), -1);
        Check.due("log before", x.log(-1, 0), -1);
        Check.due("wash", x.wash(0), 3);
        Check.due("washed", x.wash(0), 0);
        Check.due("told", x.told(0, 6), 3);
        Check.due("told now", x.kind(0, 1), 6);
        Check.due("hold", x.hold(0, 0), -1);
        Check.due("hold none", x.hold(0, -1), 0);
        Check.due("held none", x.kind(0, 2), -1);
        Check.due("does", x.does(1, 0), 129);
        Check.due("does again", Check.of(() -> x.does(1, 7)), Check.STATE);
        Check.due("no fame by hand", x.person(1, 5), 0);
        Check.due("no rows by hand", x.count(9), 4);
        Check.due("luck", x.luck(0, 9), 4);
        Check.due("luck then", x.person(0, 3), 9);
        Check.due("led", x.led(1, false), 2);
        Check.due("led year", x.led(1, true), 12);
        Check.due("fill", x.fill(1), 16);
        for (int i = 0; i < 9; i++) {
            x.fill(999);
        }
        Check.due("filled", x.count(5), 9007);
        Check.due("fill to the brim", x.fill(999), 9999);
        Check.due("fill beyond", x.fill(1), 9999);
        NeedleShop y = Check.shop("person age 9 luck 4;person age 9 luck 4;person age 9 luck 4;purse 29");
        Check.due("ink from 29", y.ink(2, 7), 19);
        Check.due("ink from 19", y.ink(0, 7), 9);
        Check.due("purse is less than 10", Check.of(() -> y.ink(1, 7)), Check.STATE);
        Check.due("still plain", y.plain(), 2);
        y.fill(1);
        Check.due("ten are enough", y.ink(1, 0), 0);
    }

    private static void logLimits() {
        NeedleShop x = Check.shop("person age 9 luck 4;person age 9 luck 4;person age 9 luck 4;person age 9 luck 4");
        Check.due("led of nothing", x.led(3, true), -1);
        Check.due("led rows of nothing", x.led(3, false), 0);
        for (int p = 0; p < 4; p++) {
            for (int place = 0; place < 16; place++) {
                x.rub(p, place);
            }
            x.years(3);
        }
        Check.due("sixty rows", x.count(9), 60);
        Check.due("oldest person", x.log(59, 1), 0);
        Check.due("oldest place", x.log(59, 3), 4);
        Check.due("no more", x.log(60, 3), -1);
        Check.due("the latest place", x.log(0, 3), 15);
        Check.due("the latest year", x.log(0, 0), 9);
        Check.due("led by the oldest", x.led(0, false), 12);
        Check.due("led in year", x.led(0, true), 0);
        Check.due("led of the next", x.led(1, true), 3);
        Check.due("led rows of the next", x.led(1, false), 16);
        Check.due("undo brings no row back that never left", x.undo(), true);
        Check.due("rows of the third rubbing undone", x.undo(), true);
        Check.due("the oldest again", x.log(59, 3), 3);
    }

    private static void trials() {
        String people = "kind a marks 1000 0000 0000 0000;person age 30 luck 4 under a;person age 40 luck 6 under b;"
            + "person age 20 luck 1 under c;person age 9 luck 0;shake 30";
        String law = "come 5 if rubbed>1;fame 9 if age>50;stay 2 if known";
        NeedleShop x = Check.lawful(Check.shop(people), law);
        x.does(3, 3);
        x.seed(77);
        int deeds = x.trial(20, false);
        int fame = x.trial(20, true);
        Check.due("trial of none", x.trial(0, false), 1);
        Check.due("trial of no fame", x.trial(0, true), 0);
        Check.due("nothing stays", x.count(3) + x.count(7) + x.count(8) + x.count(9), 0);
        int came = x.years(20);
        Check.due("as the trial said", x.count(6), deeds);
        Check.due("fame as the trial said", x.count(7), fame);
        Check.due("what came", came + 1, deeds);
        x.undo();
        Check.due("seed is undone too", x.seed(5), 77);
        Check.due("span of none", x.span(0, false) + x.span(0, true), 2);
        Check.due("seed stays", x.seed(1), 5);
        Check.due("trial of 61", Check.of(() -> x.trial(61, false)), Check.ARGUMENT);
        Check.due("trial of -1", Check.of(() -> x.trial(-1, true)), Check.ARGUMENT);
        Check.due("span of 61", Check.of(() -> x.span(61, false)), Check.ARGUMENT);
        Check.due("span of -1", Check.of(() -> x.span(-1, true)), Check.ARGUMENT);
    }

    /** Each span against years lived by shops of their own; some must show a seed fewer or more. */
    private static void spans() {
        boolean[] shows = new boolean[8];
        for (int come = 0; come < 40; come += 3) {
            for (int n = 1; n <= 10; n += 3) {
                int[] deeds = new int[8];
                for (int seed = 1; seed <= 7; seed++) {
                    NeedleShop y = crowd(come);
                    y.seed(seed);
                    y.years(n);
                    deeds[seed] = y.count(6);
                }
                int least = 99;
                int most = -1;
                for (int seed = 1; seed <= 6; seed++) {
                    least = Math.min(least, deeds[seed]);
                    most = Math.max(most, deeds[seed]);
                    shows[seed] |= alone(deeds, seed);
                }
                shows[7] |= deeds[7] < least || deeds[7] > most;
                Check.due("span least", crowd(come).span(n, false), least);
                Check.due("span most", crowd(come).span(n, true), most);
            }
        }
        for (int seed = 1; seed <= 7; seed++) {
            Check.due("seed " + seed + " shows somewhere", shows[seed], true);
        }
    }

    private static NeedleShop crowd(int come) {
        NeedleShop y = Check.lawful(Check.shop("person age 30 luck 4 under a;person age 40 luck 6 under b;"
            + "person age 20 luck 1 under c;person age 9 luck 0;person age 1 luck 0 under h;person age 70 luck 0 under a;shake 30"),
            "come " + come + ";come 5 if rubbed>1;stay 2 if known");
        y.does(3, 3);
        return y;
    }

    /** Whether that seed of 1 to 6 has alone the least or the greatest number. */
    private static boolean alone(int[] deeds, int seed) {
        boolean less = true;
        boolean more = true;
        for (int other = 1; other <= 6; other++) {
            less &= other == seed || deeds[seed] < deeds[other];
            more &= other == seed || deeds[seed] > deeds[other];
        }
        return less || more;
    }

    private static void undoing() {
        NeedleShop x = new NeedleShop();
        for (int i = 1; i <= 13; i++) {
            x.fill(1);
            Check.due("acts", x.count(10), Math.min(12, i));
        }
        for (int i = 12; i > 0; i--) {
            Check.due("undo", x.undo(), true);
            Check.due("purse", x.count(5), 100 + i);
            Check.due("acts left", x.count(10), i - 1);
        }
        Check.due("no more", x.undo(), false);
        Check.due("purse of the thirteenth", x.count(5), 101);
        x.fill(5);
        x.seed(9);
        Check.due("seed is no act", x.count(10), 1);
        x.fill(7);
        x.seed(33);
        x.undo();
        Check.due("seed as ahead of the act", x.seed(4), 9);
        x.undo();
        Check.due("seed as ahead of the first", x.seed(4), 1);
        x.fill(5);
        Check.tape(x, "year 5");
        x.shop();
        Check.due("a text: none are remembered", x.undo(), false);
        x.fill(5);
        Check.lawful(x, "");
        Check.due("a law: none are remembered", x.count(10), 0);
        x.fill(5);
        Check.tape(x, 1, 2, 3, 4);
        x.undo();
        Check.due("the tape is not undone", x.end(4), true);
    }

    private static void act(NeedleShop x, int which) {
        switch (which) {
            case 0: x.years(30); break;
            case 1: x.rub(0, 3); break;
            case 2: x.ink(1, 2); break;
            case 3: x.wash(2); break;
            case 4: x.told(0, 7); break;
            case 5: x.hold(0, 7); break;
            case 6: x.does(0, 7); break;
            case 7: x.luck(0, 7); break;
            default: x.fill(7); break;
        }
    }

    private static void everyActIsUndone() {
        NeedleShop x = Check.lawful(Check.shop("kind a marks 1001 0000 0000 0000;person age 30 luck 4 under a;"
            + "person age 9 luck 1;person age 50 luck 4 under b;shake 50"), "come 30;fame 5");
        x.years(2);
        x.wash(0);
        x.rub(2, 0);
        for (int which = 0; which < 9; which++) {
            String before = Check.looks(x);
            act(x, which);
            Check.due("act " + which + " changes", !Check.looks(x).equals(before), true);
            Check.due("act " + which + " is undone", x.undo(), true);
            Check.due("all as before " + which, Check.looks(x).equals(before), true);
        }
        Check.due("the first acts are still there", x.count(10), 3);
        x.told(0, x.kind(0, 1));
        x.hold(0, -1);
        x.luck(0, 4);
        x.wash(1);
        Check.due("nothing is left to be washed", x.wash(1), 0);
        Check.due("acts that change nothing are acts", x.count(10), 8);
        String before = Check.looks(x);
        for (int which = 0; which < 9; which++) {
            act(x, which);
        }
        for (int which = 0; which < 9; which++) {
            x.undo();
        }
        Check.due("all undone in turn", Check.looks(x).equals(before), true);
        Check.due("twelve less nine", x.count(10), 3);
    }

    private static void imaging() {
        NeedleShop x = Check.lawful(Check.shop("kind a marks 1001 0000 0000 0000;person age 30 luck 4 under a;"
            + "person age 9 luck 1;person age 50 luck 4 under b;shake 50"), "come 30;fame 5");
        Check.due("no image", x.back(), false);
        x.years(3);
        Check.due("a failed back forgets nothing", x.back() || x.count(10) != 1, false);
        x.image();
        Check.due("keeping forgets nothing", x.count(10), 1);
        String before = Check.looks(x);
        for (int which = 0; which < 9; which++) {
            act(x, which);
        }
        Check.tape(x, "person age 9 luck 1 under h;kind c marks 1111 1111 1111 1111 holds a;purse 3");
        x.shop();
        Check.lawful(x, "stay 100 if age > 1");
        x.fill(2);
        Check.tape(x, 1, 2);
        Check.due("back", x.back(), true);
        Check.due("all as kept", Check.looks(x).equals(before), true);
        Check.due("lines as kept", x.count(2), 2);
        Check.due("none are remembered", x.undo(), false);
        Check.due("the tape is not gone back", x.end(2), true);
        x.fill(9);
        x.undo();
        Check.due("undone behind a back", Check.looks(x).equals(before), true);
        x.years(9);
        Check.due("back once more", x.back(), true);
        Check.due("the image stays", Check.looks(x).equals(before), true);
        x.years(1);
        x.image();
        String later = Check.looks(x);
        x.undo();
        Check.due("undo leaves the image", Check.looks(x).equals(before) && x.back() && Check.looks(x).equals(later), true);
    }

    private static void wrongs() {
        NeedleShop x = Check.shop("person age 30 luck 4 under a;person age 9 luck 1;purse 9");
        x.fill(1);
        x.undo();
        String before = Check.looks(x);
        int[] none = {-1, 2, 6, Integer.MIN_VALUE, Integer.MAX_VALUE};
        for (int p : none) {
            Check.due("rub", Check.of(() -> x.rub(p, 0) ? 1 : 0), Check.INDEX);
            Check.due("ink", Check.of(() -> x.ink(p, 0)), Check.INDEX);
            Check.due("wash", Check.of(() -> x.wash(p)), Check.INDEX);
            Check.due("does", Check.of(() -> x.does(p, 0)), Check.INDEX);
            Check.due("luck", Check.of(() -> x.luck(p, 10)), Check.INDEX);
            Check.due("led", Check.of(() -> x.led(p, true)), Check.INDEX);
        }
        int[] out = {-1, 8, Integer.MIN_VALUE, Integer.MAX_VALUE};
        for (int k : out) {
            Check.due("rub place", Check.of(() -> x.rub(0, k == 8 ? 16 : k) ? 1 : 0), Check.INDEX);
            Check.due("ink kind of one with a kind", Check.of(() -> x.ink(0, k)), Check.INDEX);
            Check.due("told kind", Check.of(() -> x.told(k, 0)), Check.INDEX);
            Check.due("told deed", Check.of(() -> x.told(0, k)), Check.INDEX);
            Check.due("hold kind", Check.of(() -> x.hold(k, -1)), Check.INDEX);
            Check.due("hold held", Check.of(() -> x.hold(0, k == -1 ? -2 : k)), Check.INDEX);
            Check.due("does deed", Check.of(() -> x.does(0, k)), Check.INDEX);
            Check.due("luck n", Check.of(() -> x.luck(0, k == 8 ? 10 : k)), Check.ARGUMENT);
            Check.due("fill", Check.of(() -> x.fill(k == 8 ? 1000 : k)), Check.ARGUMENT);
            Check.due("years", Check.of(() -> x.years(k == 8 ? 61 : k)), Check.ARGUMENT);
            Check.due("log what", Check.of(() -> x.log(0, k == 8 ? 4 : k)), Check.ELEMENT);
        }
        Check.due("fill 0", Check.of(() -> x.fill(0)), Check.ARGUMENT);
        Check.due("years 0", Check.of(() -> x.years(0)), Check.ARGUMENT);
        Check.due("ink without money", Check.of(() -> x.ink(1, 0)), Check.STATE);
        Check.due("nothing changed", Check.looks(x).equals(before), true);
        Check.due("nothing remembered", x.count(10), 0);
    }
}
