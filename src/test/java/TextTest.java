/** Promises 1 to 6: a new object, the tape, the texts and where they are wrong. */
public final class TextTest {
    private static final String A = "kind a marks 1000 0000 0000 0000";

    private TextTest() {
    }

    public static void main(String[] args) {
        newObject();
        tape();
        shopTexts();
        shopLimits();
        shopFaults();
        lawTexts();
        lawFaults();
        faultStays();
        Check.finish("TextTest");
    }

    private static void newObject() {
        NeedleShop x = new NeedleShop();
        int[] counts = {0, 0, -1, 0, 0, 100, 0, 0, 0, 0, 0, -1};
        for (int i = 0; i < counts.length; i++) {
            Check.due("new count " + i, x.count(i), counts[i]);
        }
        Check.due("count -1", x.count(-1), -1);
        for (int k = 0; k < 8; k++) {
            Check.due("new marks", x.kind(k, 0), 0);
            Check.due("new tells", x.kind(k, 1), k);
            Check.due("new holds", x.kind(k, 2), -1);
        }
        Check.due("new seed", x.seed(7), 1);
        Check.due("new fault", x.fault(), -1);
        Check.due("new back", x.back(), false);
        Check.due("new undo", x.undo(), false);
    }

    private static void tape() {
        NeedleShop x = new NeedleShop();
        Check.due("end of nothing", x.end(0), true);
        Check.due("end beyond", x.end(1), false);
        Check.due("end below", x.end(-1), false);
        for (int i = 1; i <= 20; i++) {
            Check.due("feed", x.feed(0, 0, 0, 0, 0), 20 * i);
        }
        Check.due("feed too much", x.feed(1, 1, 1, 1, 1), -1);
        Check.due("end at 401", x.end(401), false);
        Check.due("end at 381", x.end(381), true);
        Check.due("feed one too much", x.feed(1, 1, 1, 1, 1), -1);
        Check.due("end at 382", x.end(382), false);
        Check.due("end at 380", x.end(380), true);
        Check.due("feed to the brim", x.feed(1, 1, 1, 1, 1), 400);
        x.end(0);
        // "year 12;shake 3" by bytes: the highest of each number comes first.
        x.feed(0x79656172, 0x2031323B, 0x7368616B, 0x65203320, 0x20202020);
        Check.due("shop from bytes", x.shop(), 1);
        Check.due("year from bytes", x.count(3), 12);
        Check.due("shake from bytes", x.count(4), 3);
        Check.due("the tape is used up", x.end(1), false);
        // Bytes above 127 are themselves, not signs of other things.
        x.feed(0xFFFFFFFF, 0x80808080, 0, 0, 0);
        Check.due("law of high bytes", Check.of(x::law), Check.ARGUMENT);
        Check.due("fault of high bytes", x.fault(), 0);
        Check.due("used up by a throw", x.end(1), false);
    }

    private static void shopTexts() {
        NeedleShop x = Check.shop("  kind  b  marks 0110 1000 0001 1111 tells 5 holds h ; person age 7 luck 9under b;"
            + "person age 099 luck 00 ; shake100;purse 999;year 0 ");
        Check.due("marks", x.kind(1, 0), 0b1111_1000_0001_0110);
        Check.due("tells", x.kind(1, 1), 5);
        Check.due("holds", x.kind(1, 2), 7);
        Check.due("people", x.count(0), 2);
        Check.due("under", x.person(0, 0), 1);
        Check.due("age", x.person(0, 2), 7);
        Check.due("luck", x.person(0, 3), 9);
        Check.due("plain", x.person(1, 0), -1);
        Check.due("age 099", x.person(1, 2), 99);
        Check.due("shake", x.count(4), 100);
        Check.due("purse", x.count(5), 999);
        Check.tape(x, "kind b marks 0000 0000 0000 0000;person age 1 luck 1;year 999");
        Check.due("second text", x.shop(), 2);
        Check.due("marks anew", x.kind(1, 0), 0);
        Check.due("tells stays", x.kind(1, 1), 5);
        Check.due("holds stays", x.kind(1, 2), 7);
        Check.due("people stay", x.count(0), 3);
        Check.due("purse stays", x.count(5), 999);
        Check.due("year", x.count(3), 999);
        Check.tape(x, "kind b marks 1111 1111 1111 1111 holds b;kind b marks 1000 0000 0000 0000 tells 0");
        Check.due("third text", x.shop(), 3);
        Check.due("the later line", x.kind(1, 0), 1);
        Check.due("both lines' rest", x.kind(1, 1) * 8 + x.kind(1, 2), 1);
        Check.tape(x, "   ");
        Check.due("blanks alone", x.shop(), 4);
        Check.due("fault of blanks", x.fault(), -1);
    }

    private static void shopLimits() {
        NeedleShop x = new NeedleShop();
        String six = "person age 1 luck 1;person age 1 luck 1;person age 1 luck 1;"
            + "person age 1 luck 1;person age 1 luck 1;person age 1 luck 1";
        Check.wrongShop(x, six + "; person age 1 luck 1", 121);
        Check.due("of a wrong text nothing stays", x.count(0), 0);
        Check.wrongShop(x, six, -1);
        Check.wrongShop(x, "year 1;person", 7);
        Check.due("the year did not stay", x.count(3), 0);
        String lines = "year 0;year 1;year 2;year 3;year 4;year 5;year 6;year 7;year 8;year 9;year 1;year 2;year 3;year 14";
        Check.wrongShop(x, lines + ";  year 15", 101);
        Check.wrongShop(x, lines + ";", 99);
        Check.wrongShop(x, lines + ";;", 99);
        Check.wrongShop(x, lines, -1);
        Check.due("fourteen lines", x.count(3), 14);
        for (int n = 3; n <= 12; n++) {
            Check.due("texts", x.shop(), n);
        }
        Check.tape(x, "year x");
        Check.due("wrong is told first", Check.of(x::shop), Check.ARGUMENT);
        Check.due("fault of the wrong one", x.fault(), 5);
        Check.tape(x, "year 77");
        Check.due("a thirteenth text", Check.of(x::shop), Check.UNSUPPORTED);
        Check.due("its tape is used up", x.end(1), false);
        Check.due("fault of a right one", x.fault(), -1);
        Check.due("nothing changed", x.count(3) * 100 + x.count(1), 1412);
    }

    private static void shopFaults() {
        NeedleShop x = new NeedleShop();
        Check.wrongShop(x, ";", 0);
        Check.wrongShop(x, "  ;", 2);
        Check.wrongShop(x, "year 1;", 7);
        Check.wrongShop(x, "year 1;  ", 9);
        Check.wrongShop(x, "year 1 year 2", 7);
        Check.wrongShop(x, "year 1\t", 6);
        Check.wrongShop(x, "Year 1", 0);
        Check.wrongShop(x, "years 1", 0);
        Check.wrongShop(x, "year", 4);
        Check.wrongShop(x, "year   ", 7);
        Check.wrongShop(x, "year -1", 5);
        Check.wrongShop(x, "year 0001", 5);
        Check.wrongShop(x, "purse  9999", 7);
        Check.wrongShop(x, "shake 101", 6);
        Check.wrongShop(x, "kind A marks", 5);
        Check.wrongShop(x, "kind 1 marks", 5);
        Check.wrongShop(x, "kind z marks", 5);
        Check.wrongShop(x, "kindamarks", 0);
        Check.wrongShop(x, "kind a ", 7);
        Check.wrongShop(x, "kind a marks 0000 0000 00000 000", 23);
        Check.wrongShop(x, "kind a marks 0000 0020 0000 0000", 18);
        Check.wrongShop(x, "kind a marks 0000 0a", 18);
        Check.wrongShop(x, "kind a marks 0000,", 17);
        Check.wrongShop(x, A + " 0000", 33);
        Check.wrongShop(x, A + " tell 1", 33);
        Check.wrongShop(x, A + " tells", 38);
        Check.wrongShop(x, A + " tells 07", -1);
        Check.wrongShop(x, A + " tells 8", 39);
        Check.wrongShop(x, A + " tells 1 tells 2", 41);
        Check.wrongShop(x, A + " holds b tells 2", 41);
        Check.wrongShop(x, A + " holds", 38);
        Check.wrongShop(x, A + " holds bb", 39);
        Check.wrongShop(x, A + " holds h;", 41);
        Check.wrongShop(x, A + " tells 7holds a", -1);
        Check.wrongShop(x, "kind a marks0000 0000 0000 0000;year2", -1);
        Check.wrongShop(x, "person luck 1", 7);
        Check.wrongShop(x, "person age 100 luck 1", 11);
        Check.wrongShop(x, "person age 99 under a", 14);
        Check.wrongShop(x, "person age 99 luck 9 under", 26);
        Check.wrongShop(x, "person age 99 luck 9 under i", 27);
        Check.wrongShop(x, "person age 99 luck 9 9", 21);
        Check.due("people of right texts alone", x.count(0), 0);
        Check.wrongShop(x, "person age 99luck 9under h", -1);
        Check.due("one person", x.count(0), 1);
    }

    private static void lawTexts() {
        NeedleShop x = Check.shop("person age 0 luck 0 under c;person age 40 luck 5 under d;year 134;"
            + "kind c marks 1100 0000 0000 0000 tells 6");
        Check.due("no law", x.count(2), -1);
        Check.due("comes without law", x.person(1, 6), 9);
        String[] holding = {"found or 1 > 0", "not found", "person < 1", "kind > 1 and kind < 3", "age < 1", "luck+1>0",
            "done < 1", "rubbed < 1", "deed > 5 and deed < 7", "year > 33 and year < 35", "not not not not not not 1<2",
            "((((((1<2))))))", "not(not(not(1<2 and 2<1)))or 2<1", "1>2 and 1>2 or 1<2", "1<2 or 1>2 and 1>2",
            "(not 1 > 2) and (not known)", "999 > 998", "1+2+3 < 4+person+3", "kind+kind+deed+year>43",
            "not(1<2 and 1>2)", "not 1>2 and 1<2", "((1<2)) and (((((2>1)))))"};
        for (String c : holding) {
            Check.wrongLaw(x, "come 7 if " + c, -1);
            Check.due("holds: " + c, x.person(0, 6), 7);
        }
        String[] not = {"known", "found", "not not found", "1>2 or 2>3 and 1<2", "(1<2 or 1<2) and 1>2", "1<1", "1>1",
            "person>0", "kind<2", "age>0", "luck>0", "done>0", "rubbed>0", "deed<6", "year<34", "year>34"};
        for (String c : not) {
            Check.wrongLaw(x, "come 7 if " + c + ";come 3", -1);
            Check.due("holds not: " + c, x.person(0, 6), 3);
        }
        nestedToTheBrim(x);
        Check.wrongLaw(x, "come 50;come 40;come 30;stay 10;fame 3", -1);
        Check.due("lines", x.count(2), 5);
        Check.due("100 at most", x.person(0, 6), 100);
        Check.due("100 at most, behind all", x.person(1, 6), 100);
        Check.wrongLaw(x, "stay 100;come 99", -1);
        Check.due("0 at least", x.person(0, 6), 0);
        Check.due("age and luck", x.person(1, 6), 8);
        Check.wrongLaw(x, "", -1);
        Check.due("no lines", x.count(2), 0);
        Check.due("in place of the one before", x.person(0, 6), 0);
        x.rub(0, 0);
        Check.wrongLaw(x, "come 1 if known;come 2 if found;come 4 if rubbed > 0", -1);
        Check.due("known, not found", x.person(0, 6), 5);
        x.rub(0, 1);
        Check.due("known and found", x.person(0, 6), 7);
        x.told(0, 5);
        Check.due("no part goes by the kind a otherwise", partOfKindA(), 12);
        x.does(0, 1);
        x.does(0, 2);
        Check.wrongLaw(x, "come 1 if done>1 and done<3", -1);
        Check.due("done", x.person(0, 6), 1);
    }

    /** Each level has an "or" and an "and" waiting, and the innermost a sum: no more can wait at once. */
    private static void nestedToTheBrim(NeedleShop x) {
        for (int sum = 2; sum <= 3; sum++) {
            StringBuilder law = new StringBuilder("come 7 if ");
            for (int level = 0; level < 6; level++) {
                law.append("1>2 or 1<2 and (");
            }
            law.append("1>2 or 1<2 and 0+1+1+1>").append(sum).append("))))))").append(";come 3");
            Check.wrongLaw(x, law.toString(), -1);
            Check.due("nested to the brim", x.person(0, 6), sum == 2 ? 10 : 3);
        }
    }

    private static int partOfKindA() {
        NeedleShop x = Check.shop("kind a marks 1000 0000 0000 0000 tells 5;person age 0 luck 0 under a");
        Check.lawful(x, "come 1 if deed<6;come 2 if deed>5;come 4 if kind+deed>4;come 7 if kind<1 and deed>4");
        return x.person(0, 6);
    }

    private static void lawFaults() {
        NeedleShop x = new NeedleShop();
        Check.wrongLaw(x, ";", 0);
        Check.wrongLaw(x, "come 1;", 7);
        Check.wrongLaw(x, "come 1 ; ; come 2", 9);
        Check.wrongLaw(x, "come 0101", 5);
        Check.wrongLaw(x, "come 1 if", 9);
        Check.wrongLaw(x, "come 1 if  ", 11);
        Check.wrongLaw(x, "come 1 iffound", 7);
        Check.wrongLaw(x, "come 1 if found found", 16);
        Check.wrongLaw(x, "come 1 if found or", 18);
        Check.wrongLaw(x, "come 1 if found and;", 19);
        Check.wrongLaw(x, "come 1 if found nor", 16);
        Check.wrongLaw(x, "come 1 if not", 13);
        Check.wrongLaw(x, "come 1 if (found", 16);
        Check.wrongLaw(x, "come 1 if (found;", 16);
        Check.wrongLaw(x, "come 1 if found)", 15);
        Check.wrongLaw(x, "come 1 if ()", 11);
        Check.wrongLaw(x, "come 1 if age", 13);
        Check.wrongLaw(x, "come 1 if age and 1<2", 14);
        Check.wrongLaw(x, "come 1 if age = 2", 14);
        Check.wrongLaw(x, "come 1 if age+", 14);
        Check.wrongLaw(x, "come 1 if age+found<2", 14);
        Check.wrongLaw(x, "come 1 if age<1<2", 15);
        Check.wrongLaw(x, "come 1 if age<1000", 14);
        Check.wrongLaw(x, "come 1 if (age)<1", 14);
        Check.wrongLaw(x, "come 1 if age<(1)", 14);
        Check.wrongLaw(x, "come 1 if age<not", 14);
        Check.wrongLaw(x, "come 1 if ages<1", 10);
        Check.wrongLaw(x, "come 1 if 1<2 if 1<2", 14);
        Check.wrongLaw(x, "come 1 if (((((((1<2)))))))", 16);
        Check.wrongLaw(x, "come 1 if not(not(not(not 1<2)))", 22);
        Check.wrongLaw(x, "come 1 if not (not (not (not (not (not 1<2)))))", 25);
        Check.wrongLaw(x, "come 1 if (not(not((not 1<2))))", 20);
        Check.wrongLaw(x, "come 1 if (not(not((1<2))))", -1);
        Check.wrongLaw(x, "come 1 if not not not not not not 1<2 and not found", -1);
        Check.wrongLaw(x, "stay 100if 1<2and 2<3or 3<4;fame 0", -1);
        Check.due("three words in two lines", x.count(2), 2);
        StringBuilder twelve = new StringBuilder("come 1");
        for (int i = 1; i < 12; i++) {
            twelve.append(";come 1");
        }
        Check.wrongLaw(x, twelve + " ; stay 1", 86);
        Check.wrongLaw(x, twelve + ";", 84);
        Check.due("the law before stands", x.count(2), 2);
        Check.wrongLaw(x, twelve.toString(), -1);
        Check.due("twelve lines", x.count(2), 12);
    }

    private static void faultStays() {
        NeedleShop x = new NeedleShop();
        Check.wrongShop(x, "yeast", 0);
        x.image();
        x.fill(1);
        Check.wrongShop(x, "year", 4);
        Check.due("a wrong text is no act and makes none forgotten", x.count(10), 1);
        x.undo();
        x.back();
        Check.due("fault is not gone back to", x.fault(), 4);
        Check.tape(x, 9, 9);
        Check.due("rows are no text", Check.of(() -> x.rules(true)), Check.ARGUMENT);
        Check.due("fault is of texts", x.fault(), 4);
        Check.wrongLaw(x, "", -1);
    }
}
