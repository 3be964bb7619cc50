/** The document's limits of what a shop holds and of years, draws, the log and undoing: at each, and one step beyond. */
public final class EdgeNumberTest {
    private EdgeNumberTest() {
    }

    public static void main(String[] args) {
        atFirst();
        ages();
        fame();
        famePerDeed();
        yearsEnd();
        purse();
        comes();
        comesByDraw();
        shakeByDraw();
        shakeRubbedPlaces();
        drawsGoRound();
        orderOfAYear();
        ahead();
        sortsOfRows();
        logRows();
        undone();
        undoneYears();
        noneRemembered();
        image();
        Check.finish("EdgeNumberTest");
    }

    private static int drawn(int seed) {
        return seed >>> 16 & 0x7FFF;
    }

    private static int next(int seed) {
        return (int) (1103515245L * seed + 12345L);
    }

    /** A seed whose first draw is that number modulo 100. */
    private static int seedFor(int hundredth) {
        int seed = 0;
        while (drawn(next(seed)) % 100 != hundredth) {
            seed++;
        }
        return seed;
    }

    private static void atFirst() {
        Check.says("none at first), TELLS a DEED 0 to 7 (its own number at first), HOLDS a KIND (any, itself too) or none (at first)");
        NeedleShop x = new NeedleShop();
        for (int k = 0; k < 8; k++) {
            Check.due("marks", x.kind(k, 0), 0);
            Check.due("tells", x.kind(k, 1), k);
            Check.due("holds", x.kind(k, 2), -1);
        }
        Check.says("A shop of nobody.");
        Check.due("people", x.count(0), 0);
        Check.due("nobody is the first", Check.of(() -> x.person(0, 0)), Check.INDEX);
        Check.says("SHAKE 0 to 100 (0 at first). YEAR 0 to 9999 (0 at first). PURSE 0 to 9999 (100 at first).");
        Check.due("year", x.count(3), 0);
        Check.due("shake", x.count(4), 0);
        Check.due("purse", x.count(5), 100);
        Check.says("SEED 1 at first");
        Check.due("seed", x.seed(1), 1);
        Check.says("UNDER: a KIND or none (at first; who has none is PLAIN), RUBBED: PLACES that were seen, as bits (none at first)");
        Check.tape(x, "person age 4 luck 5");
        x.shop();
        int[] due = {-1, 0, 4, 5, 0, 0};
        for (int what = 0; what < due.length; what++) {
            Check.due("a new person's " + what, x.person(0, what), due[what]);
        }
    }

    private static void ages() {
        Check.says("AGE is 1 more (99 at most)");
        NeedleShop x = Check.shop("person age 97 luck 0;person age 98 luck 0;person age 99 luck 0;person age 0 luck 0 under a");
        int[][] due = {{98, 99, 99, 1}, {99, 99, 99, 2}, {99, 99, 99, 3}};
        for (int year = 0; year < 3; year++) {
            x.years(1);
            for (int p = 0; p < 4; p++) {
                Check.due("age of " + p + " in year " + year, x.person(p, 2), due[year][p]);
            }
        }
        x.years(60);
        Check.due("sixty more", x.person(3, 2), 63);
        Check.due("99 for good", x.person(0, 2), 99);
    }

    /** A law by which all comes, and makes known by so many: 10 and lines of at most 100. */
    private static String makesKnownBy(int n) {
        StringBuilder law = new StringBuilder("come 100");
        for (int left = n - 10; left > 0; left -= 100) {
            law.append(";fame ").append(Math.min(left, 100));
        }
        return law.toString();
    }

    private static void fame() {
        Check.says("FAME is what it MAKES KNOWN by more (999 at most; by all as it is ahead of that DEED)");
        for (int first : new int[] {10, 988, 989, 990, 998, 999, 1000, 1110}) {
            NeedleShop x = Check.lawful(Check.shop("person age 5 luck 0 under c;person age 5 luck 0"), makesKnownBy(first));
            Check.due("it comes", x.years(1), 1);
            Check.due("fame by " + first, x.person(0, 5), Math.min(first, 999));
            Check.due("no fame of who is plain", x.person(1, 5), 0);
            x.told(2, 3);
            Check.lawful(x, "come 100");
            Check.due("and again", x.years(1), 1);
            Check.due("fame by 10 more", x.person(0, 5), Math.min(first + 10, 999));
            Check.due("fame of all", x.count(7), Math.min(first + 10, 999));
        }
    }

    private static void famePerDeed() {
        Check.says("MAKES KNOWN by: 10 and the sum of N of all fame LINES that hold");
        String people = "kind a marks 1000 0000 0000 0000 tells 6;person age 41 luck 2 under a;year 234";
        String[] holds = {"done<1", "age>41", "age<43", "year>33", "year<35", "deed>5", "not found", "rubbed<1", "luck>1"};
        for (String c : holds) {
            NeedleShop x = Check.lawful(Check.shop(people), "come 100;fame 7 if " + c + ";stay 0 if " + c);
            x.years(1);
            Check.due("fame if " + c, x.person(0, 5), 17);
            NeedleShop y = Check.lawful(Check.shop(people), "come 100;fame 7 if not(" + c + ")");
            y.years(1);
            Check.due("fame if not " + c, y.person(0, 5), 10);
        }
        NeedleShop z = Check.shop("person age 99 luck 9 under a");
        z.seed(seedFor(0));
        Check.due("without a law", z.years(1) * 100 + z.person(0, 5), 110);
    }

    private static void yearsEnd() {
        Check.says("YEAR is 1 more (9999 at most)");
        NeedleShop x = Check.shop("person age 5 luck 0;person age 5 luck 0;year 999");
        for (int i = 0; i < 149; i++) {
            x.years(60);
        }
        x.years(59);
        Check.due("9998", x.count(3), 9998);
        x.ink(0, 0);
        Check.lawful(x, "come 100 if year>98;stay 9 if year<99");
        // The year 9998 begins as 98, the next one as 99.
        Check.due("sure", x.person(0, 9), 2);
        Check.due("98 brings nothing", x.ahead(0, 1, 1), 0);
        x.years(1);
        Check.due("9999", x.count(3), 9999);
        x.rub(1, 4);
        Check.due("a row of 9999", x.log(0, 0), 9999);
        Check.due("led in 9999", x.led(1, true), 9999);
        Check.due("it comes in 9999", x.years(1), 1);
        Check.due("9999 still", x.count(3), 9999);
        Check.due("the deed's row", x.log(0, 0), 9999);
        x.years(60);
        Check.due("and at last", x.count(3), 9999);
        x.told(0, 7);
        Check.due("year 99 for good", x.person(0, 6), 100);
    }

    private static void purse() {
        Check.says("PURSE is filled (1 to 999): what there is then (9999 at most)");
        NeedleShop x = new NeedleShop();
        Check.due("1", x.fill(1), 101);
        Check.due("999", x.fill(999), 1100);
        for (int i = 0; i < 8; i++) {
            x.fill(999);
        }
        Check.due("to 9998", x.fill(906), 9998);
        Check.due("to 9999", x.fill(1), 9999);
        Check.due("no more", x.fill(1), 9999);
        Check.due("nor by 999", x.fill(999), 9999);
        x.undo();
        x.undo();
        x.undo();
        Check.due("9998 again", x.count(5), 9998);
        Check.due("two more", x.fill(2), 9999);
        Check.says("IllegalStateException: it is not PLAIN, or PURSE is less than 10.");
        for (int purse : new int[] {0, 9, 10, 11, 19, 20}) {
            NeedleShop y = Check.shop("person age 5 luck 0;person age 5 luck 0;person age 5 luck 0 under h;purse " + purse);
            Check.due("ink by " + purse, Check.of(() -> y.ink(0, 3)), purse >= 10 ? purse - 10 : Check.STATE);
            Check.due("ink one more", Check.of(() -> y.ink(1, 3)), purse >= 20 ? purse - 20 : Check.STATE);
            Check.due("ink one that is not plain", Check.of(() -> y.ink(2, 3)), Check.STATE);
            Check.due("purse then", y.count(5), purse % 10);
            Check.due("plain then", y.plain(), purse >= 20 ? 0 : purse >= 10 ? 2 : 3);
        }
    }

    private static int comesBy(String person, String law) {
        return Check.lawful(Check.shop(person), law).person(0, 6);
    }

    private static void comes() {
        Check.says("COMES by: AGE by 10, rounded down, and LUCK, and the sum of N of all come LINES that hold");
        int[] ages = {0, 9, 10, 19, 20, 89, 90, 99};
        for (int age : ages) {
            Check.due("by age " + age, comesBy("person age " + age + " luck 0 under a", ""), age / 10);
            Check.due("by luck too", comesBy("person age " + age + " luck 9 under a", ""), age / 10 + 9);
        }
        Check.says("less that of all stay LINES (0 at least, 100 at most; 0 for who is PLAIN)");
        String one = "person age 10 luck 3 under a";
        Check.due("99", comesBy(one, "come 95"), 99);
        Check.due("100", comesBy(one, "come 96"), 100);
        Check.due("101 is 100", comesBy(one, "come 97"), 100);
        Check.due("1200 is 100", comesBy(one, "come 100;come 100;come 100;come 100;come 100;come 100;come 100"), 100);
        Check.due("1", comesBy(one, "stay 3"), 1);
        Check.due("0", comesBy(one, "stay 4"), 0);
        Check.due("-1 is 0", comesBy(one, "stay 5"), 0);
        Check.due("far below", comesBy(one, "stay 100;stay 100;stay 100"), 0);
        Check.due("at most behind all lines", comesBy(one, "come 100;come 100;stay 100;stay 54"), 50);
        Check.due("at least behind all lines", comesBy(one, "stay 100;stay 100;come 100;come 99"), 3);
        Check.due("who is plain", comesBy("person age 99 luck 9", "come 100"), 0);
        Check.due("fame lines count for nothing", comesBy(one, "fame 50"), 4);
        Check.due("no line that does not hold", comesBy(one, "come 50 if age<10;stay 50 if age>10"), 4);
    }

    private static void comesByDraw() {
        Check.says("if DRAW modulo 100 is below COMES (by all as it is then)");
        int[] hundredths = {0, 1, 49, 50, 51, 98, 99};
        int[] comes = {0, 1, 50, 99, 100};
        for (int by : comes) {
            for (int hundredth : hundredths) {
                NeedleShop x = Check.lawful(Check.shop("person age 0 luck 0 under e"), "come " + by);
                x.seed(seedFor(hundredth));
                Check.due(hundredth + " of " + by, x.years(1), hundredth < by ? 1 : 0);
                Check.due("done", x.person(0, 4), hundredth < by ? 16 : 0);
                Check.due("rows", x.count(9), hundredth < by ? 1 : 0);
            }
        }
        // It is 10 years old when its deed may come, though 9 ahead of that year.
        NeedleShop y = Check.shop("person age 9 luck 0 under e");
        y.seed(seedFor(0));
        Check.due("old enough by then", y.years(1), 1);
    }

    private static void shakeByDraw() {
        Check.says("if DRAW modulo 100 is below SHAKE");
        int[] hundredths = {0, 1, 49, 50, 51, 98, 99};
        int[] shakes = {0, 1, 50, 99, 100};
        for (int shake : shakes) {
            for (int hundredth : hundredths) {
                NeedleShop x = Check.shop("person age 0 luck 0;shake " + shake);
                int seed = seedFor(hundredth);
                x.seed(seed);
                x.years(1);
                int first = next(seed);
                int second = next(first);
                boolean rubs = hundredth < shake;
                Check.due(hundredth + " of " + shake, x.person(0, 1), rubs ? 1 << drawn(second) % 16 : 0);
                Check.due("seed then", x.seed(0), rubs ? second : first);
            }
        }
    }

    private static void shakeRubbedPlaces() {
        Check.says("is RUBBED (nothing, and no row, if it was)");
        for (int hundredth = 0; hundredth < 4; hundredth++) {
            int seed = seedFor(hundredth);
            int place = drawn(next(next(seed))) % 16;
            NeedleShop x = Check.shop("person age 0 luck 0;shake 100");
            x.rub(0, place);
            x.seed(seed);
            x.years(1);
            Check.due("nothing", x.person(0, 1), 1 << place);
            Check.due("no row", x.count(9), 1);
            x.wash(0);
            x.seed(seed);
            x.years(1);
            Check.due("rubbed", x.person(0, 1), 1 << place);
            Check.due("a row", x.count(9), 2);
            Check.due("its place", x.log(0, 3), place);
            Check.due("its sort", x.log(0, 2), 2);
        }
        NeedleShop all = Check.shop("person age 0 luck 0;shake 100");
        for (int place = 0; place < 16; place++) {
            all.rub(0, place);
        }
        all.years(60);
        Check.due("all are rubbed", all.person(0, 1) * 100 + all.count(9), 6553516);
    }

    private static void drawsGoRound() {
        Check.says("SEED is 1103515245 times SEED and 12345, as an int that goes round; bits 16 to 30");
        int[] seeds = {0, 1, -1, 2, Integer.MAX_VALUE, Integer.MIN_VALUE, 0x40000000, 0xC0000000, 123456789, -987654321};
        for (int seed : seeds) {
            NeedleShop x = Check.shop("person age 0 luck 0;shake 100");
            Check.due("the seed before", x.seed(seed), 1);
            x.years(1);
            int first = next(seed);
            int second = next(first);
            Check.due("the place from seed " + seed, x.log(0, 3), drawn(second) % 16);
            Check.due("seed then", x.seed(seed), second);
            Check.due("seed told", x.seed(5), seed);
        }
    }

    /** Draws of a year: one for each who waits for its deed, then one or two for each of all. */
    private static void orderOfAYear() {
        Check.says("A YEAR more: (a) each person, by numbers: AGE is 1 more");
        NeedleShop x = Check.lawful(Check.shop("person age 0 luck 0 under a;person age 0 luck 0;person age 0 luck 0 under c;shake 100"),
            "come 100 if person<1");
        x.does(2, 2);
        int seed = seedFor(7);
        x.seed(seed);
        x.years(1);
        int at = next(seed);
        for (int p = 0; p < 3; p++) {
            at = next(next(at));
            Check.due("the place of " + p, x.person(p, 1), 1 << drawn(at) % 16);
        }
        Check.due("seed behind seven draws", x.seed(9), at);
        Check.due("the deed's row is the first", x.log(3, 2) * 10 + x.log(3, 1), 0);
        Check.due("then the places, by numbers", x.log(2, 1) * 100 + x.log(1, 1) * 10 + x.log(0, 1), 12);
        Check.due("the place of a plain one has no mark", x.mark(1, x.log(1, 3)), false);
        NeedleShop nobody = new NeedleShop();
        nobody.years(60);
        Check.due("without people no draws", nobody.seed(3) * 100 + nobody.count(3), 160);
    }

    private static void ahead() {
        Check.says("AHEAD by N YEARS (0 to 60)");
        NeedleShop x = Check.lawful(Check.shop("person age 38 luck 0 under a;person age 40 luck 0;person age 0 luck 0 under c;"
            + "shake 100;year 41"), "come 100 if person+person>1;come 99 if year<1;fame 50");
        String before = Check.looks(x);
        Check.due("0", x.ahead(0, 0, 0) * 10 + x.ahead(0, 0, 1), 380);
        Check.due("60", x.ahead(0, 60, 0), 98);
        Check.due("61", Check.of(() -> x.ahead(0, 61, 0)), Check.ARGUMENT);
        Check.due("-1", Check.of(() -> x.ahead(0, -1, 0)), Check.ARGUMENT);
        Check.due("99 at most", x.ahead(1, 59, 0) * 100 + x.ahead(1, 60, 0), 9999);
        Check.says("the DEED of who COMES by 100 is DONE (no DRAWS, no FAME)");
        Check.due("who comes by 100", x.ahead(2, 0, 1) * 10 + x.ahead(2, 1, 1), 4);
        Check.due("who is plain", x.ahead(1, 60, 1), 0);
        // The year 100 is the 60th from 41 on.
        Check.due("by less than 100 never", x.ahead(0, 59, 1), 0);
        Check.due("by 99 and age", x.ahead(0, 60, 1), 1);
        x.luck(0, 0);
        x.undo();
        Check.due("nothing stays", Check.looks(x).equals(before), true);
        NeedleShop y = Check.lawful(Check.shop("person age 0 luck 0 under a"), "come 99");
        Check.due("99 is not 100", y.ahead(0, 9, 1), 0);
        Check.due("at ten years 100", y.ahead(0, 10, 1), 1);
        Check.due("sure by then", y.person(0, 9), 10);
    }

    private static void sortsOfRows() {
        Check.says("times that a DEED came (0), a PLACE was rubbed by hand (1), or by (c) (2), somebody was inked (3)");
        NeedleShop x = Check.lawful(Check.shop("kind h marks 0000 0000 0000 0000 tells 5;person age 0 luck 0 under h;"
            + "person age 0 luck 0;year 17"), "come 100");
        x.years(1);
        x.rub(1, 15);
        x.ink(1, 7);
        Check.tape(x, "shake 100;year 3");
        x.shop();
        x.seed(8);
        x.years(1);
        int second = next(next(next(8)));
        int[][] rows = {{17, 0, 0, 5}, {18, 1, 1, 15}, {18, 1, 3, 7}, {3, 1, 0, 5}, {3, 0, 2, drawn(second) % 16}};
        for (int i = 0; i < rows.length; i++) {
            for (int what = 0; what < 4; what++) {
                Check.due("row " + i + " what " + what, x.log(x.count(9) - 1 - i, what), rows[i][what]);
            }
        }
        Check.says("one does a DEED by hand (no FAME, no row)");
        int had = x.count(9);
        x.does(0, 0);
        x.wash(0);
        x.told(0, 1);
        x.hold(0, 1);
        x.luck(0, 1);
        x.fill(1);
        Check.due("no row by other acts", x.count(9), had);
    }

    private static void logRows() {
        Check.says("the latest 60 times");
        NeedleShop x = Check.shop("person age 0 luck 0;person age 0 luck 0;person age 0 luck 0;person age 0 luck 0");
        for (int i = 0; i < 62; i++) {
            Check.due("rows so far", x.count(9), Math.min(i, 60));
            Check.due("beyond the rows", x.log(Math.min(i, 60), 0), -1);
            x.rub(i / 16, i % 16);
            Check.due("the latest", x.log(0, 1) * 16 + x.log(0, 3), i);
            int oldest = Math.max(0, i - 59);
            Check.due("the oldest", x.log(Math.min(i, 59), 1) * 16 + x.log(Math.min(i, 59), 3), oldest);
        }
        Check.due("led of those kept alone", x.led(0, false), 14);
        Check.due("sixty ago", x.log(60, 1), -1);
        Check.due("61 ago", x.log(61, 1), -1);
        Check.due("59 ago", x.log(59, 3), 2);
        for (int ago : new int[] {-1, Integer.MIN_VALUE, Integer.MAX_VALUE}) {
            Check.due("log of " + ago, x.log(ago, 2), -1);
        }
        x.undo();
        Check.due("undone, the older row is there again", x.log(59, 3), 1);
        Check.due("sixty still", x.count(9), 60);
        for (int p = 0; p < 3; p++) {
            x.wash(p);
        }
        for (int i = 0; i < 16; i++) {
            x.rub(1, i);
            x.rub(2, i);
        }
        Check.due("rows of the first one", x.led(0, false), 0);
        Check.due("its latest year", x.led(0, true), -1);
    }

    private static void undone() {
        Check.says("the latest ACT not undone yet (12 are remembered; YEARS of one call are one)");
        for (int acts : new int[] {0, 1, 11, 12, 13, 14, 25}) {
            NeedleShop x = new NeedleShop();
            for (int i = 0; i < acts; i++) {
                x.fill(1);
            }
            int kept = Math.min(acts, 12);
            Check.due("can be undone", x.count(10), kept);
            for (int i = 1; i <= kept; i++) {
                Check.due("undo", x.undo(), true);
                Check.due("purse", x.count(5), 100 + acts - i);
            }
            Check.due("no further", x.undo(), false);
            Check.due("nothing happens", x.count(5) * 100 + x.count(10), (100 + acts - kept) * 100);
        }
        NeedleShop y = new NeedleShop();
        for (int i = 0; i < 12; i++) {
            y.fill(1);
        }
        y.undo();
        y.undo();
        y.fill(100);
        Check.due("eleven then", y.count(10), 11);
        y.fill(100);
        y.fill(100);
        Check.due("twelve at most", y.count(10), 12);
        for (int i = 0; i < 12; i++) {
            y.undo();
        }
        Check.due("all but the first", y.count(5), 101);
    }

    private static void undoneYears() {
        NeedleShop x = Check.lawful(Check.shop("person age 30 luck 4 under a;person age 90 luck 0 under b;shake 60"), "come 9;fame 3");
        String before = Check.looks(x);
        x.years(60);
        Check.due("one act", x.count(10), 1);
        Check.due("undone at once", x.undo() && Check.looks(x).equals(before), true);
        for (int i = 0; i < 13; i++) {
            x.years(1);
        }
        Check.due("thirteen calls", x.count(10), 12);
        Check.says("all is as ahead of it (but for the TAPE, fault(), THE IMAGE)");
        for (int i = 0; i < 12; i++) {
            x.undo();
        }
        Check.due("a year is left", x.count(3), 1);
        x.seed(44);
        x.fill(1);
        x.seed(55);
        Check.tape(x, "year");
        x.undo();
        Check.due("the seed as ahead of it", x.seed(1), 44);
        Check.due("the tape as it is", Check.tapeHas(x, 4), true);
    }

    private static void noneRemembered() {
        Check.says("A text, going back: none are remembered.");
        NeedleShop x = new NeedleShop();
        x.fill(1);
        Check.wrongShop(x, "?", 0);
        Check.wrongLaw(x, "?", 0);
        Check.due("a wrong text changes nothing", x.count(10), 1);
        Check.tape(x, "");
        x.shop();
        Check.due("an empty text", x.count(10), 0);
        Check.due("nothing to undo", x.undo(), false);
        Check.due("and nothing undone", x.count(5), 101);
        x.fill(1);
        Check.lawful(x, "come 1");
        Check.due("a law", x.count(10), 0);
        x.fill(1);
        Check.due("no image yet: nothing happens", x.back(), false);
        Check.due("one act still", x.count(10), 1);
        x.image();
        Check.due("keeping is no going back", x.count(10), 1);
        x.fill(1);
        x.back();
        Check.due("going back", x.count(10), 0);
        x.undo();
        Check.due("the purse of the image", x.count(5), 103);
        for (int i = 0; i < 12; i++) {
            x.fill(1);
        }
        Check.due("twelve anew", x.count(10), 12);
    }

    private static void image() {
        Check.says("false, and nothing happens, if none was kept.");
        NeedleShop x = Check.lawful(Check.shop("person age 30 luck 4 under a"), "come 5");
        String before = Check.looks(x);
        Check.due("none", x.back(), false);
        Check.due("nothing happens", Check.looks(x).equals(before), true);
        Check.says("(one) of all may be kept, and gone back to");
        x.image();
        x.seed(99);
        x.years(3);
        x.image();
        String later = Check.looks(x);
        x.years(3);
        Check.lawful(x, "");
        Check.tape(x, "person age 1 luck 1;year 3");
        x.shop();
        Check.tape(x, "year");
        Check.due("back", x.back(), true);
        Check.due("to the later one", Check.looks(x).equals(later), true);
        Check.due("the tape as it is", Check.tapeHas(x, 4), true);
        Check.due("the law as it was", x.count(2), 1);
        x.fill(9);
        Check.due("back again", x.back() && Check.looks(x).equals(later), true);
        NeedleShop y = new NeedleShop();
        y.image();
        Check.lawful(y, "come 5");
        y.back();
        Check.due("without a law again", y.count(2), -1);
        Check.lawful(y, "come 5");
        y.image();
        y.back();
        Check.due("lines of the later one", y.count(2), 1);
    }
}
