/** Promises 8, 9, 19, 34 to 42: what people are, have and may hope for. */
public final class PersonTest {
    private PersonTest() {
    }

    public static void main(String[] args) {
        rubbedParts();
        plainOne();
        sure();
        groups();
        gameAndOdds();
        wrongs();
        Check.finish("PersonTest");
    }

    private static void rubbedParts() {
        NeedleShop x = Check.shop("kind a marks 1100 0000 0000 0000 tells 7;kind b marks 1010 0000 0000 0000 tells 7;"
            + "kind c marks 0110 0000 0000 0001;person age 3 luck 2 under a");
        Check.due("nothing rubbed fits all", x.person(0, 7), 255);
        Check.due("fates of all", x.person(0, 10), 0b11111100);
        Check.due("thumb: all places part 2 to 6 at best", x.person(0, 8), 0);
        Check.due("blank without any", x.blank(0), true);
        Check.due("not rubbed, no mark", x.mark(0, 0), false);
        Check.due("rub a mark", x.rub(0, 0), true);
        Check.due("fits a and b", x.person(0, 7), 3);
        Check.due("fates are one", x.person(0, 10), 128);
        Check.due("thumb parts a from b", x.person(0, 8), 1);
        Check.due("mark seen", x.mark(0, 0), true);
        Check.due("blank no more", x.blank(0), false);
        Check.due("rub no mark", x.rub(0, 15), false);
        Check.due("no mark there", x.mark(0, 15), false);
        Check.due("rub the third", x.rub(0, 2), false);
        Check.due("fits a alone", x.person(0, 7), 1);
        Check.due("no thumb for one", x.person(0, 8), -1);
        Check.due("rubbed", x.person(0, 1), 0b1000000000000101);
        NeedleShop y = Check.shop("kind a marks 1000 0000 0000 0000;kind b marks 1000 0000 0000 0000;person age 3 luck 2 under b");
        for (int place = 0; place < 15; place++) {
            y.rub(0, place);
        }
        Check.due("two that are one fit", y.person(0, 7), 3);
        Check.due("thumb where nothing is parted", y.person(0, 8), 15);
        y.rub(0, 15);
        Check.due("all are rubbed", y.person(0, 8), -1);
        Check.due("found", y.found(), 1);
        y.wash(0);
        Check.due("not found", y.found(), 0);
        y.rub(0, 0);
        Check.due("found by the one mark", y.found(), 1);
        NeedleShop z = Check.shop("kind h marks 0100 0000 0000 0000;person age 3 luck 2 under c");
        Check.due("no marks: found at once", z.found(), 1);
        Check.due("thumb among seven alike and one", z.person(0, 8), 1);
        z.rub(0, 1);
        Check.due("blank on what is bare", z.blank(0), true);
        Check.due("seven fit", z.person(0, 7), 127);
        Check.due("thumb is not a rubbed place", z.person(0, 8), 0);
    }

    private static void plainOne() {
        NeedleShop x = Check.lawful(Check.shop("kind a marks 1111 1111 1111 1111;person age 50 luck 9"), "come 100");
        int[] due = {-1, 0, 50, 9, 0, 0, 0, 0, -1, -1, 0, 0};
        for (int what = 0; what < due.length; what++) {
            Check.due("plain " + what, x.person(0, what), due[what]);
        }
        Check.due("rub a plain one", x.rub(0, 3), false);
        Check.due("mark of a plain one", x.mark(0, 3), false);
        Check.due("blank", x.blank(0), true);
        Check.due("found never", x.found(), 0);
        Check.due("odds", x.odds(0, 4), 10000);
        Check.due("plain ones", x.plain(), 1);
        x.ink(0, 0);
        Check.due("the rubbed place shows now", x.mark(0, 3), true);
        Check.due("comes now", x.person(0, 6), 100);
        Check.due("sure next year", x.person(0, 9), 1);
        Check.due("odds of the sure", x.odds(0, 1), 0);
        Check.due("odds of no year", x.odds(0, 0), 10000);
        Check.due("none plain", x.plain(), 0);
    }

    private static void sure() {
        NeedleShop x = Check.lawful(Check.shop("person age 20 luck 0 under a;person age 98 luck 9 under b;year 90"),
            "come 100 if year < 1;come 82 if age > 98");
        // In the year that begins as 100 the first one comes by 100: that is the eleventh.
        Check.due("sure by the year", x.person(0, 9), 11);
        // At 99 it comes by 9 and 9 and 82.
        Check.due("sure by age", x.person(1, 9), 1);
        Check.due("ahead done", x.ahead(0, 10, 1), 0);
        Check.due("ahead done then", x.ahead(0, 11, 1), 1);
        Check.due("ahead done of the other", x.ahead(1, 60, 1), 2);
        Check.due("ahead age", x.ahead(0, 60, 0), 80);
        Check.due("age ends at 99", x.ahead(1, 60, 0), 99);
        Check.due("ahead by none", x.ahead(0, 0, 0), 20);
        Check.due("nothing stays", x.count(3) * 1000 + x.count(6), 90000);
        x.does(1, 6);
        Check.due("what was done stays ahead", x.ahead(1, 1, 1), 66);
        x.undo();
        x.does(0, 0);
        Check.due("sure of what is done", x.person(0, 9), 0);
        NeedleShop y = Check.lawful(Check.shop("person age 30 luck 0 under a"), "come 91 if age > 89");
        Check.due("sure at the sixtieth", y.person(0, 9), 60);
        NeedleShop z = Check.lawful(Check.shop("person age 29 luck 0 under a"), "come 91 if age > 89");
        Check.due("not within sixty", z.person(0, 9), -1);
        NeedleShop w = Check.lawful(Check.shop("person age 29 luck 0 under a"), "come 100;stay 3");
        Check.due("99 is not sure, 100 is", w.person(0, 9), 1);
        Check.due("at 29 it comes by 99", w.person(0, 6), 99);
        Check.due("at 30 by 100", w.ahead(0, 1, 1), 1);
        NeedleShop v = Check.shop("person age 29 luck 0;year 999");
        v.years(60);
        v.ink(0, 0);
        Check.lawful(v, "come 100 if year < 99 and year > 97");
        // 1059 is the year now: 1098 begins 39 years on, and is the fortieth.
        Check.due("year modulo 100", v.person(0, 9), 40);
    }

    private static void groups() {
        NeedleShop x = Check.lawful(Check.shop("person age 30 luck 0 under a;person age 40 luck 0;person age 40 luck 0;"
            + "person age 10 luck 0 under b;person age 5 luck 0 under a;person age 1 luck 0"), "come 100 if person<4;fame 20 if person>2");
        Check.due("eldest", x.eldest(), 1);
        Check.due("twins: two of a, three plain", x.twins(), 1 + 3);
        Check.due("famous of none", x.famous(), -1);
        Check.due("share without fame", x.person(0, 11), 0);
        Check.due("plain", x.plain(), 0b100110);
        Check.due("two deeds", x.years(1), 2);
        Check.due("famous", x.famous(), 3);
        Check.due("share of 10", x.person(0, 11), 25);
        Check.due("share of 30", x.person(3, 11), 75);
        Check.due("share of 0", x.person(4, 11), 0);
        Check.due("so far", x.soFar(), 3);
        Check.due("fame of all", x.count(7), 40);
        x.does(5, 0);
        x.does(5, 6);
        Check.due("so far, together", x.soFar(), 67);
        Check.due("deeds, one by one", x.count(6), 4);
        NeedleShop y = Check.lawful(Check.shop("person age 30 luck 0 under a;person age 30 luck 0 under b;person age 30 luck 0 under c"), "come 100");
        y.years(1);
        Check.due("thirds, rounded down", y.person(1, 11), 33);
        Check.due("famous, of several the least", y.famous(), 0);
        Check.due("eldest, of several the least", y.eldest(), 0);
        Check.due("no twins", y.twins(), 0);
    }

    private static void gameAndOdds() {
        NeedleShop x = Check.lawful(Check.shop("kind a marks 1110 0000 0000 0000;kind b marks 0111 1000 0000 0000;"
            + "person age 30 luck 0 under a;person age 39 luck 1 under b;person age 99 luck 9"), "come 30 if kind<1");
        Check.due("luck 0: neither looks", x.rests(0), 8);
        Check.due("luck 1: looking is as good", x.rests(1), 9);
        Check.due("luck 9", x.rests(2), 9);
        Check.due("odds 1", x.odds(0, 1), 6700);
        Check.due("odds 2", x.odds(0, 2), 4489);
        Check.due("odds 3, rounded down", x.odds(0, 3), 3007);
        Check.due("odds 4, rounded down each time", x.odds(0, 4), 2014);
        Check.due("kin", x.kin(0, 1), 2);
        Check.due("kin the other way", x.kin(1, 0), 2);
        Check.due("kin of a plain one", x.kin(0, 2), 0);
        x.ink(2, 1);
        Check.due("kin of one kind", x.kin(2, 1), 4);
        x.does(0, 0);
        Check.due("odds of what is done", x.odds(0, 3), 10000);
    }

    private static void wrongs() {
        NeedleShop x = Check.shop("person age 30 luck 0 under a;person age 30 luck 0");
        int[] none = {-1, 2, 6, Integer.MIN_VALUE, Integer.MAX_VALUE};
        for (int p : none) {
            Check.due("person", Check.of(() -> x.person(p, 99)), Check.INDEX);
            Check.due("mark", Check.of(() -> x.mark(p, 0) ? 1 : 0), Check.INDEX);
            Check.due("blank", Check.of(() -> x.blank(p) ? 1 : 0), Check.INDEX);
            Check.due("kin", Check.of(() -> x.kin(p, p)), Check.INDEX);
            Check.due("kin other", Check.of(() -> x.kin(0, p)), Check.INDEX);
            Check.due("rests", Check.of(() -> x.rests(p)), Check.INDEX);
            Check.due("odds", Check.of(() -> x.odds(p, 9)), Check.INDEX);
            Check.due("ahead", Check.of(() -> x.ahead(p, 99, 99)), Check.INDEX);
        }
        int[] noWhat = {-1, 12, Integer.MIN_VALUE, Integer.MAX_VALUE};
        for (int what : noWhat) {
            Check.due("person what", Check.of(() -> x.person(1, what)), Check.ELEMENT);
            Check.due("ahead what", Check.of(() -> x.ahead(1, 60, what == 12 ? 2 : what)), Check.ELEMENT);
            Check.due("mark place", Check.of(() -> x.mark(1, what == 12 ? 16 : what) ? 1 : 0), Check.INDEX);
        }
        Check.due("kin of one", Check.of(() -> x.kin(1, 1)), Check.ARGUMENT);
        Check.due("odds of 5", Check.of(() -> x.odds(1, 5)), Check.ARGUMENT);
        Check.due("odds of -1", Check.of(() -> x.odds(1, -1)), Check.ARGUMENT);
        Check.due("ahead by 61", Check.of(() -> x.ahead(1, 61, 5)), Check.ARGUMENT);
        Check.due("ahead by -1", Check.of(() -> x.ahead(1, -1, 0)), Check.ARGUMENT);
    }
}
