/** The document's limits of the tape and of texts: each at the limit, and one step beyond it. */
public final class EdgeTextTest {
    private static final String MARKS = "kind a marks 1000 0000 0000 0000";

    private EdgeTextTest() {
    }

    public static void main(String[] args) {
        feeding();
        ending();
        texts();
        wrongAtTwelve();
        lines();
        people();
        shopNumbers();
        lawNumbers();
        figures();
        letters();
        kindLines();
        blanks();
        words();
        emptyTexts();
        moreMustCome();
        cannotStandThere();
        leftOut();
        nesting();
        nothingStays();
        faults();
        Check.finish("EdgeTextTest");
    }

    private static String blanks(int n) {
        return " ".repeat(n);
    }

    private static String lines(String line, int n) {
        return (line + ";").repeat(n - 1) + line;
    }

    private static void feeding() {
        Check.says("Twenty bytes come behind the TAPE, of each number the highest first: how many it has");
        NeedleShop x = new NeedleShop();
        Check.due("the first twenty", x.feed(0x79656172, 0x20203120, 0x20202020, 0x20202020, 0x20202020), 20);
        x.end(7);
        Check.due("behind seven", x.feed(0x32332020, 0x20202020, 0x20202020, 0x20202020, 0x20202020), 27);
        Check.due("one number of both", x.shop() * 1000 + x.count(3), 1123);
        Check.says("NONE, and none come, if it would have more than 400");
        for (int before = 379; before <= 382; before++) {
            NeedleShop y = new NeedleShop();
            Check.tape(y, "year 7" + blanks(before - 6));
            boolean fits = before <= 380;
            Check.due("feed behind " + before, y.feed(-1, -1, -1, -1, -1), fits ? before + 20 : -1);
            Check.due("bytes then", Check.tapeHas(y, fits ? before + 20 : before), true);
            Check.due("the text then", Check.of(y::shop), fits ? Check.ARGUMENT : 1);
            Check.due("its first wrong byte", y.fault(), fits ? before : -1);
        }
        NeedleShop z = new NeedleShop();
        for (int n = 20; n <= 400; n += 20) {
            Check.due("feed", z.feed(0, 0, 0, 0, 0), n);
        }
        Check.due("feed a full one", z.feed(0, 0, 0, 0, 0), -1);
        Check.due("it is full still", Check.tapeHas(z, 400), true);
    }

    private static void ending() {
        Check.says("The TAPE has its first n bytes alone: true");
        NeedleShop x = new NeedleShop();
        Check.due("0 of none", x.end(0), true);
        Check.tape(x, "year 123");
        Check.due("all of eight", x.end(8), true);
        Check.due("seven of eight", x.end(7), true);
        x.shop();
        Check.due("by seven bytes", x.count(3), 12);
        Check.says("false, and nothing happens, if it has fewer, or n is below 0");
        Check.tape(x, "year 45");
        for (int n : new int[] {8, 400, 401, Integer.MAX_VALUE, -1, Integer.MIN_VALUE}) {
            Check.due("end " + n + " of seven", x.end(n), false);
        }
        Check.due("seven still", Check.tapeHas(x, 7), true);
        x.shop();
        Check.due("by all seven", x.count(3), 45);
        Check.due("1 of a used one", x.end(1), false);
        Check.due("0 of a used one", x.end(0), true);
        Check.tape(x, "year 6");
        x.end(0);
        Check.due("a text that was ended at 0 is empty", x.shop() * 1000 + x.count(3), 3045);
    }

    private static void texts() {
        Check.says("is told in texts (at most 12, one behind another)");
        NeedleShop x = new NeedleShop();
        x.image();
        for (int n = 1; n <= 12; n++) {
            Check.tape(x, "year " + n);
            Check.due("text", x.shop(), n);
            Check.wrongShop(x, "year", 4);
            Check.lawful(x, "come 1");
            Check.due("wrong ones and laws are not counted", x.count(1), n);
        }
        Check.says("UnsupportedOperationException: there are 12");
        String before = Check.looks(x);
        x.fill(1);
        for (String text : new String[] {"year 13", "", "   "}) {
            Check.tape(x, text);
            Check.due("a thirteenth '" + text + "'", Check.of(x::shop), Check.UNSUPPORTED);
            Check.due("uses the tape up", Check.tapeHas(x, 0), true);
            Check.due("remembered acts stay", x.count(10), 1);
        }
        x.undo();
        Check.due("nothing changed", Check.looks(x).equals(before), true);
        Check.due("a law may still come", Check.lawful(x, "come 1;come 2").count(2), 2);
        x.back();
        Check.tape(x, "year 99");
        Check.due("gone back, there are none", x.shop(), 1);
    }

    private static void wrongAtTwelve() {
        Check.says("Of several exceptions the one told first is thrown");
        NeedleShop x = Check.shop(new String[] {"", "", "", "", "", "", "", "", "", "", "", ""});
        Check.wrongShop(x, "year", 4);
        Check.wrongShop(x, "year 1000", 5);
        Check.wrongShop(x, lines("person age 1 luck 1", 7), 120);
        Check.tape(x, lines("person age 1 luck 1", 6));
        Check.due("a right one", Check.of(x::shop), Check.UNSUPPORTED);
        Check.says("The first wrong byte of the latest text that was read; NONE without one, and ahead of any.");
        Check.due("that was read, and is not wrong", x.fault(), -1);
        Check.due("nobody came", x.count(0), 0);
    }

    private static void lines() {
        Check.says("LINE { ; LINE }, at most 14");
        NeedleShop x = new NeedleShop();
        for (String line : new String[] {"year 5", "purse 5", "shake 5"}) {
            int length = lines(line, 14).length();
            Check.wrongShop(x, lines(line, 13), -1);
            Check.wrongShop(x, lines(line, 14), -1);
            Check.wrongShop(x, lines(line, 15), length + 1);
            Check.wrongShop(x, lines(line, 14) + "  ;   " + line, length + 6);
            Check.wrongShop(x, lines(line, 16), length + 1);
            Check.wrongShop(x, lines(line, 14) + ";", length + 1);
            Check.wrongShop(x, lines(line, 14) + ";  ", length + 3);
            Check.wrongShop(x, lines(line, 14) + "; ;", length + 2);
            Check.wrongShop(x, lines(line, 13) + ";yea 5;year 5", length - line.length());
        }
        Check.says("LINE { ; LINE }, at most 12: come N");
        for (String line : new String[] {"come 5", "stay 5", "fame 5", "come 5 if found"}) {
            int length = lines(line, 12).length();
            Check.wrongLaw(x, lines(line, 11), -1);
            Check.due("eleven", x.count(2), 11);
            Check.wrongLaw(x, lines(line, 13), length + 1);
            Check.wrongLaw(x, lines(line, 12) + " ;  " + line, length + 4);
            Check.due("eleven still", x.count(2), 11);
            Check.wrongLaw(x, lines(line, 12), -1);
            Check.due("twelve", x.count(2), 12);
            Check.wrongLaw(x, lines(line, 12) + ";", length + 1);
            Check.wrongLaw(x, lines(line, 12) + ";)", length + 1);
        }
    }

    private static void people() {
        Check.says("PEOPLE (at most 6, numbered from 0 on)");
        String one = "person age 7 luck 3";
        NeedleShop x = new NeedleShop();
        Check.wrongShop(x, lines(one, 7), 120);
        Check.wrongShop(x, lines(one, 6) + "; year 5;  person", 130);
        Check.due("nobody yet", x.count(0), 0);
        Check.wrongShop(x, lines(one, 5) + ";year 5", -1);
        Check.due("five", x.count(0), 5);
        Check.due("a sixth is none yet", Check.of(() -> x.person(5, 2)), Check.INDEX);
        Check.wrongShop(x, one + " under h;" + one, 28);
        Check.due("five still", x.count(0), 5);
        Check.wrongShop(x, "person age 8 luck 4 under h", -1);
        Check.due("the sixth", x.person(5, 2) * 100 + x.person(5, 3) * 10 + x.person(5, 0), 847);
        Check.due("a seventh is none", Check.of(() -> x.person(6, 2)), Check.INDEX);
        Check.wrongShop(x, one, 0);
        Check.wrongShop(x, "  person", 2);
        Check.wrongShop(x, "person age 777", 0);
        Check.wrongShop(x, "year 8;person age 1 luck 1", 7);
        Check.due("six, and the year before", x.count(0) * 10 + x.count(3), 65);
        Check.wrongShop(x, "year 8", -1);
    }

    /** A number's text from its least to one beyond its greatest, in its place of a line. */
    private static void numbers(boolean law, String ahead, String behind, int most) {
        int at = ahead.length();
        for (String right : new String[] {"0", "1", "00", "000", "007", String.valueOf(most)}) {
            told(law, ahead + right + behind, -1);
        }
        String[] wrong = {String.valueOf(most + 1), "0000", "00001", "1000", "9999999999", "4294967296", "18446744073709551616",
            "-1", "+1", "x", ";", "=1"};
        for (String number : wrong) {
            told(law, ahead + number + behind, at);
        }
        if (most < 99) {
            told(law, ahead + "0" + (most + 1) + behind, at);
        }
        told(law, ahead, at);
        told(law, ahead + "   ", at + 3);
    }

    private static void told(boolean law, String text, int at) {
        if (law) {
            Check.wrongLaw(new NeedleShop(), text, at);
        } else {
            Check.wrongShop(new NeedleShop(), text, at);
        }
    }

    private static void shopNumbers() {
        Check.says("tells 0 to 7; luck 0 to 9; age 0 to 99; purse, year 0 to 999");
        numbers(false, "year ", "", 999);
        numbers(false, "purse ", " ", 999);
        numbers(false, "person age ", " luck 5", 99);
        numbers(false, "person age 5 luck ", " under c", 9);
        numbers(false, MARKS + " tells ", " holds b", 7);
        Check.says("SHAKE 0 to 100 (0 at first)");
        numbers(false, "shake ", "", 100);
        Check.says("Numbers are of 1 to 3 digits.");
        NeedleShop x = Check.shop("year 999;purse 999;shake 100;person age 99 luck 9;" + MARKS + " tells 7");
        Check.due("year", x.count(3), 999);
        Check.due("purse", x.count(5), 999);
        Check.due("shake", x.count(4), 100);
        Check.due("age", x.person(0, 2), 99);
        Check.due("luck", x.person(0, 3), 9);
        Check.due("tells", x.kind(0, 1), 7);
        Check.tape(x, "year 000;purse 00;shake 0;person age 000 luck 000;" + MARKS + " tells 000");
        x.shop();
        Check.due("all of these 0", x.count(3) + x.count(5) + x.count(4) + x.person(1, 2) + x.person(1, 3) + x.kind(0, 1), 0);
        Check.tape(x, "year 010;purse 099;shake 07;person age 009 luck 008;" + MARKS + " tells 006");
        x.shop();
        Check.due("by tens, year", x.count(3), 10);
        Check.due("purse", x.count(5), 99);
        Check.due("the others", x.count(4) * 1000 + x.person(2, 2) * 100 + x.person(2, 3) * 10 + x.kind(0, 1), 7986);
    }

    private static void lawNumbers() {
        Check.says("All numbers are of 1 to 3 digits (N 0 to 100).");
        for (String verb : new String[] {"come ", "stay ", "fame "}) {
            numbers(true, verb, "", 100);
            numbers(true, verb, " if known", 100);
            numbers(true, "come 100;" + verb, "", 100);
        }
        NeedleShop x = new NeedleShop();
        String[] ahead = {"come 1 if ", "come 1 if 3 + ", "come 1 if age > ", "come 1 if age > luck + ", "come 1 if not ("};
        String[] behind = {"<5", "<5", "", "", "<5)"};
        for (int i = 0; i < ahead.length; i++) {
            int at = ahead[i].length();
            for (String right : new String[] {"0", "000", "101", "999"}) {
                Check.wrongLaw(x, ahead[i] + right + behind[i], -1);
            }
            for (String wrong : new String[] {"0000", "1000", "9999", "-1", "founds", "tells"}) {
                Check.wrongLaw(x, ahead[i] + wrong + behind[i], at);
            }
            Check.wrongLaw(x, ahead[i], at);
        }
    }

    private static void figures() {
        Check.says("four figures 0 or 1 for the PLACES of a row, the least first");
        NeedleShop x = null;
        for (int place = 0; place < 16; place++) {
            StringBuilder rows = new StringBuilder("0000 0000 0000 0000");
            rows.setCharAt(place / 4 * 5 + place % 4, '1');
            x = Check.shop("kind h marks " + rows);
            Check.due("place " + place, x.kind(7, 0), 1 << place);
        }
        Check.due("all", Check.shop("kind h marks 1111 1111 1111 1111").kind(7, 0), 65535);
        Check.says("each four wrong at their begin");
        String[] wrong = {"000", "00000", "0", "00000000", "2000", "0200", "0020", "0002", "0009", "000a", "000-", "a000", "-000", "marks"};
        for (int row = 0; row < 4; row++) {
            for (String figures : wrong) {
                String ahead = "kind a marks " + "0101 ".repeat(row);
                String behind = " 1010".repeat(3 - row);
                // What is no figure ends the figures; three of these are then too few.
                Check.wrongShop(x, ahead + figures + behind, ahead.length());
            }
        }
        Check.says("figures are as long as they go on, so blanks stand between the four");
        Check.wrongShop(x, "kind a marks 0000000000000000", 13);
        Check.wrongShop(x, "kind a marks 0000 00000000 0000", 18);
        Check.wrongShop(x, "kind a marks0000  0000   0000 0000tells1holds h", -1);
        Check.wrongShop(x, MARKS + " 0000", 33);
        Check.wrongShop(x, MARKS + "0", 28);
    }

    private static void letters() {
        Check.says("K: one letter a to h");
        String[] ahead = {"kind ", MARKS + " holds ", "person age 1 luck 1 under "};
        String[] behind = {" marks 1000 0000 0000 0000", "", ""};
        for (int i = 0; i < ahead.length; i++) {
            for (char k = 'a'; k <= 'h'; k++) {
                Check.wrongShop(new NeedleShop(), ahead[i] + k + behind[i], -1);
            }
            for (String wrong : new String[] {"i", "z", "`", "A", "H", "aa", "hh", "ha", "0", "1", "?", "{", "\u00e1", "\u0001"}) {
                Check.wrongShop(new NeedleShop(), ahead[i] + wrong + behind[i], ahead[i].length());
            }
        }
        NeedleShop x = Check.shop("kind h marks 0000 0000 0000 0000 holds a;person age 1 luck 1 under h;kind a marks 1000 0000 0000 0000 holds h");
        Check.due("h holds a", x.kind(7, 2), 0);
        Check.due("a holds h", x.kind(0, 2), 7);
        Check.due("under h", x.person(0, 0), 7);
    }

    private static void kindLines() {
        Check.says("what a kind line does not tell stays");
        NeedleShop x = Check.shop("kind c marks 1000 0000 0000 0000 tells 7 holds c");
        Check.due("a kind that holds itself", x.kind(2, 2), 2);
        Check.tape(x, "kind c marks 0000 0000 0000 0000");
        x.shop();
        Check.due("tells and holds stay", x.kind(2, 1) * 10 + x.kind(2, 2), 72);
        Check.due("marks are told anew", x.kind(2, 0), 0);
        Check.tape(x, "kind c marks 0000 0000 0000 0000 tells 0");
        x.shop();
        Check.due("holds stays", x.kind(2, 1) * 10 + x.kind(2, 2), 2);
        Check.tape(x, "kind c marks 0000 0000 0000 0000 holds a");
        x.shop();
        Check.due("tells stays", x.kind(2, 1) * 10 + x.kind(2, 2), 0);
        Check.wrongShop(x, MARKS + " holds b tells 2", 41);
        Check.wrongShop(x, MARKS + " tells 2 tells 2", 41);
        Check.wrongShop(x, MARKS + " holds b holds b", 41);
        Check.wrongShop(x, "person age 1 luck 1 under a under a", 28);
        Check.wrongShop(x, "person luck 1 age 1", 7);
        Check.wrongShop(x, "person age 1 under a", 13);
    }

    private static void blanks() {
        Check.says("between all there may be blanks (32), also ahead and behind");
        NeedleShop x = new NeedleShop();
        Check.wrongShop(x, "   kind   a   marks   1000   0000   0000   0000   tells   1   holds   b   ;   year   1   ", -1);
        Check.wrongShop(x, "kind a marks1000 0000 0000 0000tells1holds b;year1;shake2;purse3;person age1luck1under c", -1);
        Check.wrongLaw(x, "   come   1   if   not   (   age   +   1   <   2   or   found   )   ;   stay   2   ", -1);
        Check.wrongLaw(x, "come1if not(age+1<2or found);stay2", -1);
        Check.wrongLaw(x, "come1if(age<2and known)or 1<age;fame7", -1);
        for (char sign : new char[] {'\t', '\n', '\r', 0, 31, 33, 127, 128, 160, 255}) {
            Check.wrongShop(x, sign + "year 1", 0);
            Check.wrongShop(x, "year" + sign + "1", 4);
            Check.wrongShop(x, "year 1" + sign, 6);
            Check.wrongShop(x, "year 1;" + sign, 7);
            Check.wrongLaw(x, "come 1" + sign + "if found", 6);
            Check.wrongLaw(x, "come 1 if found " + sign, 16);
            Check.wrongLaw(x, String.valueOf(sign), 0);
        }
    }

    private static void words() {
        Check.says("Words are as long as a to z go on");
        NeedleShop x = new NeedleShop();
        for (String word : new String[] {"kind", "person", "shake", "purse", "year"}) {
            Check.wrongShop(x, " " + word + "s 1", 1);
            Check.wrongShop(x, " " + word.substring(1) + " 1", 1);
            Check.wrongShop(x, " " + word.substring(0, word.length() - 1) + " 1", 1);
            Check.wrongShop(x, " " + word.substring(0, 1).toUpperCase() + word.substring(1) + " 1", 1);
            Check.wrongShop(x, " " + word.substring(0, 3) + " " + word.substring(3) + " 1", 1);
            Check.wrongShop(x, "year 1;  " + word + word, 9);
        }
        Check.wrongShop(x, "kinda marks 1000 0000 0000 0000", 0);
        Check.wrongShop(x, "kind amarks 1000 0000 0000 0000", 5);
        Check.wrongShop(x, MARKS + " holdsb", 33);
        Check.wrongShop(x, "person age 1 luck 1 undera", 20);
        Check.wrongShop(x, "personage 1 luck 1", 0);
        for (String word : new String[] {"come", "stay", "fame"}) {
            Check.wrongLaw(x, " " + word + "s 1", 1);
            Check.wrongLaw(x, " " + word.substring(1) + " 1", 1);
            Check.wrongLaw(x, " " + word.substring(0, 3) + " 1", 1);
        }
        for (String word : new String[] {"found", "known", "not", "person", "kind", "age", "luck", "done", "rubbed", "deed", "year"}) {
            Check.wrongLaw(x, "come 1 if " + word + "s", 10);
            Check.wrongLaw(x, "come 1 if " + word.substring(1) + " < 1", 10);
            Check.wrongLaw(x, "come 1 if " + word.substring(0, word.length() - 1) + " < 1", 10);
        }
        Check.wrongLaw(x, "come 1 if found orknown", 16);
        Check.wrongLaw(x, "come 1 if found andknown", 16);
        Check.wrongLaw(x, "come 1 if notfound", 10);
        Check.wrongLaw(x, "come 1 iffound", 7);
        Check.wrongLaw(x, "kind 1", 0);
        Check.wrongShop(x, "come 1", 0);
    }

    private static void emptyTexts() {
        Check.says("A text that is empty, or blanks alone, has no LINE.");
        NeedleShop x = new NeedleShop();
        Check.due("an empty text of the shop", x.shop(), 1);
        Check.due("is not wrong", x.fault(), -1);
        Check.due("an empty law", x.law(), 0);
        Check.due("has no lines, but is one", x.count(2), 0);
        for (int n : new int[] {1, 2, 20, 400}) {
            Check.wrongShop(x, blanks(n), -1);
            Check.lawful(x, "come 1");
            Check.tape(x, blanks(n));
            Check.due("a law of blanks", x.law() * 10 + x.fault(), -1);
        }
        Check.due("texts", x.count(1), 5);
        Check.wrongShop(x, ";", 0);
        Check.wrongShop(x, "   ;", 3);
        Check.wrongLaw(x, ";", 0);
        Check.wrongLaw(x, "   ;", 3);
    }

    private static final String[] SHOP = {"kind", "a", "marks", "1000", "0100", "0010", "0001", "tells", "3", "holds", "b", ";",
        "person", "age", "5", "luck", "6", "under", "c", ";", "shake", "7", ";", "purse", "8", ";", "year", "9"};
    private static final String SHOP_ENDS = "......x.x.x.....x.x..x..x..x";
    private static final String[] LAW = {"come", "5", "if", "not", "(", "found", "or", "age", "+", "3", "<", "kind", "and", "known", ")",
        "and", "rubbed", ">", "1", "+", "done", ";", "stay", "6", ";", "fame", "7", "if", "known"};
    private static final String LAW_ENDS = ".x............x...x.x..x..x.x";

    private static String joined(String[] things, int n) {
        StringBuilder text = new StringBuilder();
        for (int i = 0; i < n; i++) {
            text.append(i > 0 ? " " : "").append(things[i]);
        }
        return text.toString();
    }

    private static void moreMustCome() {
        Check.says("or the text's length, if more must come");
        for (int i = 0; i < SHOP.length; i++) {
            String text = joined(SHOP, i + 1);
            boolean ends = SHOP_ENDS.charAt(i) == 'x';
            Check.wrongShop(new NeedleShop(), text, ends ? -1 : text.length());
            Check.wrongShop(new NeedleShop(), text + "   ", ends ? -1 : text.length() + 3);
        }
        for (int i = 0; i < LAW.length; i++) {
            String text = joined(LAW, i + 1);
            boolean ends = LAW_ENDS.charAt(i) == 'x';
            Check.wrongLaw(new NeedleShop(), text, ends ? -1 : text.length());
            Check.wrongLaw(new NeedleShop(), text + " ", ends ? -1 : text.length() + 1);
        }
        Check.wrongShop(new NeedleShop(), "year 7" + blanks(393) + ";", 400);
        Check.wrongShop(new NeedleShop(), "year" + blanks(396), 400);
        Check.wrongLaw(new NeedleShop(), "come 7 if" + blanks(391), 400);
        Check.wrongLaw(new NeedleShop(), "come 7" + blanks(394), -1);
        Check.wrongLaw(new NeedleShop(), blanks(394) + "come 7", -1);
    }

    private static void cannotStandThere() {
        Check.says("the begin of the first thing that cannot stand there");
        for (String wrong : new String[] {"?", "Z", "zz", "=", "(("}) {
            for (int i = 0; i <= SHOP.length; i++) {
                String ahead = joined(SHOP, i) + " ";
                Check.wrongShop(new NeedleShop(), ahead + wrong, ahead.length());
                Check.wrongShop(new NeedleShop(), ahead + " " + wrong + " ; year x", ahead.length() + 1);
            }
        }
        for (String wrong : new String[] {"?", "Z", "zz", "=", "]"}) {
            for (int i = 0; i <= LAW.length; i++) {
                String ahead = joined(LAW, i) + " ";
                Check.wrongLaw(new NeedleShop(), ahead + wrong, ahead.length());
                Check.wrongLaw(new NeedleShop(), ahead + " " + wrong + " ; come x", ahead.length() + 1);
            }
        }
    }

    /** Where the text is wrong when a thing is left out: at what comes in its place, but for these things. */
    private static void leftOut() {
        for (int i = 0; i < SHOP.length; i++) {
            // Another row's figures come in the place of a row's, until the fourth is missing.
            int wrong = i >= 3 && i <= 6 ? 7 : i + 1;
            Check.wrongShop(new NeedleShop(), without(SHOP, i), joined(SHOP, wrong).length() + (wrong < SHOP.length ? 0 : -1)
                - SHOP[i].length());
        }
        for (int i = 0; i < LAW.length; i++) {
            // Without "not" the law is right; a bracket that is missing shows where the other one stands or must.
            int wrong = LAW[i].equals("(") ? 14 : LAW[i].equals(")") ? 21 : i + 1;
            Check.wrongLaw(new NeedleShop(), without(LAW, i), LAW[i].equals("not") ? -1
                : joined(LAW, wrong).length() + (wrong < LAW.length ? 0 : -1) - LAW[i].length());
        }
        Check.wrongLaw(new NeedleShop(), "5", 0);
        Check.wrongLaw(new NeedleShop(), "come 1;5 if found", 7);
        Check.wrongShop(new NeedleShop(), "5", 0);
    }

    private static String without(String[] things, int left) {
        String[] rest = new String[things.length - 1];
        for (int i = 0; i < rest.length; i++) {
            rest[i] = things[i < left ? i : i + 1];
        }
        return joined(rest, rest.length);
    }

    private static void nesting() {
        Check.says("( and not within one another at most 6 deep.");
        NeedleShop x = new NeedleShop();
        // Each way to nest six deep, by the bits of a number: 1 is "not", 0 is "(".
        for (int way = 0; way < 64; way++) {
            StringBuilder ahead = new StringBuilder("come 1 if ");
            StringBuilder behind = new StringBuilder();
            for (int level = 0; level < 6; level++) {
                ahead.append((way >> level & 1) != 0 ? "not " : "(");
                behind.append((way >> level & 1) != 0 ? "" : ")");
            }
            Check.wrongLaw(x, ahead + "found" + behind, -1);
            Check.wrongLaw(x, ahead + "not found" + behind, ahead.length());
            Check.wrongLaw(x, ahead + " (found)" + behind, ahead.length() + 1);
            Check.wrongLaw(x, ahead + "found and not known" + behind, endsInNot(way) ? -1 : ahead.length() + 10);
        }
        Check.wrongLaw(x, "come 1 if ((((((found)))))) or ((((((known)))))) and not not not not not not found", -1);
        Check.wrongLaw(x, "come 1 if ((((((found) or (known))))))", -1);
        Check.wrongLaw(x, "come 1 if ((((((found) or (known) or ((known)))))))", 38);
        Check.wrongLaw(x, "come 1 if ((((((found))))));come 1 if (((((((found)))))))", 44);
    }

    /** Whether the innermost is a "not", which an "and" leaves again. */
    private static boolean endsInNot(int way) {
        return (way >> 5 & 1) != 0;
    }

    private static void nothingStays() {
        Check.says("Of a wrong text nothing stays.");
        NeedleShop x = Check.lawful(Check.shop("kind a marks 1000 0000 0000 0000 tells 5 holds b;person age 7 luck 3 under a;"
            + "shake 9;purse 77;year 55"), "come 30 if age<9;fame 4");
        x.fill(3);
        String before = Check.looks(x);
        String[] right = {"kind a marks 0111 0000 0000 0000", "kind a marks 1000 0000 0000 0000 tells 1",
            "kind a marks 1000 0000 0000 0000 holds c", "person age 1 luck 1", "shake 1", "purse 1", "year 1"};
        for (String line : right) {
            Check.wrongShop(x, line + ";", line.length() + 1);
            Check.wrongShop(x, line + ";yeah", line.length() + 1);
            Check.due("nothing of '" + line + "'", Check.looks(x).equals(before), true);
        }
        for (String line : new String[] {"come 99", "stay 99", "fame 99", "come 1;come 2;come 3"}) {
            Check.wrongLaw(x, line + ";", line.length() + 1);
            Check.wrongLaw(x, line + " if", line.length() + 3);
            Check.due("nothing of '" + line + "'", Check.looks(x).equals(before), true);
        }
        Check.due("acts are remembered still", x.count(10), 1);
        x.years(1);
        x.seed(1);
        Check.due("undone", x.undo() && Check.looks(x).equals(before), true);
    }

    private static void faults() {
        Check.says("The first wrong byte of the latest text that was read; NONE without one, and ahead of any.");
        NeedleShop x = new NeedleShop();
        Check.due("ahead of any", x.fault(), -1);
        Check.wrongLaw(x, "come", 4);
        Check.wrongShop(x, "year 1", -1);
        Check.wrongShop(x, "?", 0);
        Check.wrongLaw(x, "come 1", -1);
        Check.wrongLaw(x, "come 1?", 6);
        Check.tape(x, "12345");
        x.end(2);
        Check.due("bytes that were not read", x.fault(), 6);
        Check.due("rows", Check.of(x::ask) + x.fault(), Check.ARGUMENT + 6);
        Check.tape(x, "9");
        Check.due("berths", Check.of(() -> x.berths(0)) + x.fault(), Check.ARGUMENT + 6);
        Check.tape(x, "9");
        Check.due("clash", Check.of(x::clash) + x.fault(), Check.ARGUMENT + 6);
        Check.due("rules of none", x.rules(false) + x.fault(), 70);
        Check.says("(but for the TAPE, fault() and THE IMAGE itself)");
        x.image();
        Check.wrongLaw(x, "  come", 6);
        Check.wrongLaw(x, " ?", 1);
        x.back();
        Check.due("gone back", x.fault(), 1);
        x.fill(1);
        Check.wrongLaw(x, "  ?", 2);
        x.undo();
        Check.due("undone", x.fault(), 2);
    }
}
