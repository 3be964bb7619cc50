import java.util.function.IntUnaryOperator;

/** What each call refuses, what none is, and what it answers at the least and the greatest, promise by promise. */
public final class EdgeCallTest {
    /** A shop in which every call can be asked: one bears a kind, one is plain. */
    private static final String TWO = "kind a marks 1100 1000 0000 0001;person age 30 luck 4 under a;person age 9 luck 1;purse 9";
    private static final int[] FAR = {Integer.MIN_VALUE, -2147483000, -100, -2, 100, 65536, Integer.MAX_VALUE};

    private EdgeCallTest() {
    }

    public static void main(String[] args) {
        kinds();
        people();
        places();
        deeds();
        numbers();
        whats();
        order();
        tapes();
        states();
        countsAndLog();
        Check.finish("EdgeCallTest");
    }

    /** Nothing changes by a call that throws, and a tape that it does not use is there still. */
    private static void refused(NeedleShop x, String what, Check.Call call, int want) {
        String before = Check.looks(x);
        int acts = x.count(10);
        int fault = x.fault();
        Check.tape(x, 1, 2, 3);
        Check.due(what, Check.of(call), want);
        Check.due(what + " leaves the tape", Check.tapeHas(x, 3), true);
        Check.due(what + " changes nothing", Check.looks(x).equals(before), true);
        Check.due(what + " is no act", x.count(10), acts);
        Check.due(what + " is no text", x.fault(), fault);
    }

    /** Within 0 to most the call answers; beyond, and far beyond, it throws. */
    private static void limits(String what, int least, int most, int thrown, IntUnaryOperator call, NeedleShop x) {
        for (int n : new int[] {least, most}) {
            int got = Check.of(() -> call.applyAsInt(n));
            Check.due(what + " " + n + " is one", got > -100, true);
        }
        refused(x, what + " " + (least - 1), () -> call.applyAsInt(least - 1), thrown);
        refused(x, what + " " + (most + 1), () -> call.applyAsInt(most + 1), thrown);
        for (int n : FAR) {
            if (n < least - 1 || n > most) {
                refused(x, what + " " + n, () -> call.applyAsInt(n), thrown);
            }
        }
    }

    private static int bit(boolean answer) {
        return answer ? 1 : 0;
    }

    private static void kinds() {
        Check.says("IndexOutOfBoundsException: there is no such PLACE, KIND, DEED, person.");
        NeedleShop x = Check.shop(TWO);
        for (int w = 0; w <= 10; w++) {
            int what = w;
            limits("kind " + what + " of", 0, 7, Check.INDEX, k -> x.kind(k, what), x);
        }
        limits("told", 0, 7, Check.INDEX, k -> x.told(k, 0), x);
        limits("hold", 0, 7, Check.INDEX, k -> x.hold(k, 0), x);
        limits("hold 0", -1, 7, Check.INDEX, k -> x.hold(0, k), x);
        limits("reach", 0, 7, Check.INDEX, k -> x.reach(k, 0, 15), x);
        limits("turned", 0, 7, Check.INDEX, k -> x.turned(k, 0), x);
        limits("turned 0", 0, 7, Check.INDEX, k -> x.turned(0, k), x);
        limits("shifts", 0, 7, Check.INDEX, k -> x.shifts(k, 0, true), x);
        limits("shifts 0", 0, 7, Check.INDEX, k -> x.shifts(0, k, false), x);
        limits("ring", 0, 7, Check.INDEX, k -> bit(x.ring(k)), x);
        x.fill(999);
        limits("ink 1 with", 0, 7, Check.INDEX, k -> inkAndUndo(x, k), x);
    }

    private static int inkAndUndo(NeedleShop x, int kind) {
        int purse = x.ink(1, kind);
        x.undo();
        return purse;
    }

    private static int rubAndUndo(NeedleShop x, int person, int place) {
        int mark = bit(x.rub(person, place));
        x.undo();
        return mark;
    }

    private static int doAndUndo(NeedleShop x, int person, int deed) {
        int done = x.does(person, deed);
        x.undo();
        return done;
    }

    private static void people() {
        for (int n = 0; n <= 6; n++) {
            NeedleShop x = n == 0 ? new NeedleShop() : Check.shop(("person age 1 luck 1;").repeat(n - 1) + "person age 1 luck 1");
            int last = n - 1;
            for (int what = 0; what <= 11; what++) {
                int asked = what;
                ofPeople(x, last, "person " + what, p -> x.person(p, asked));
            }
            ofPeople(x, last, "mark", p -> bit(x.mark(p, 0)));
            ofPeople(x, last, "rub", p -> rubAndUndo(x, p, 0));
            ofPeople(x, last, "ink", p -> x.ink(p, 0) + bit(x.undo()));
            ofPeople(x, last, "wash", x::wash);
            ofPeople(x, last, "does", p -> doAndUndo(x, p, 0));
            ofPeople(x, last, "luck", p -> x.luck(p, 1));
            ofPeople(x, last, "blank", p -> bit(x.blank(p)));
            ofPeople(x, last, "rests", x::rests);
            ofPeople(x, last, "odds", p -> x.odds(p, 1));
            ofPeople(x, last, "ahead", p -> x.ahead(p, 1, 0));
            ofPeople(x, last, "led", p -> x.led(p, true));
            if (n > 1) {
                ofPeople(x, last, "kin", p -> p == 0 ? x.kin(p, 1) : x.kin(p, 0));
                ofPeople(x, last, "kin of 0", p -> p == 0 ? x.kin(1, p) : x.kin(0, p));
            }
            limits("pairs", -1, last, Check.INDEX, x::pairs, x);
        }
    }

    private static void ofPeople(NeedleShop x, int last, String what, IntUnaryOperator call) {
        if (last >= 0) {
            limits(what, 0, last, Check.INDEX, call, x);
        } else {
            refused(x, what + " of nobody", () -> call.applyAsInt(0), Check.INDEX);
            refused(x, what + " below nobody", () -> call.applyAsInt(-1), Check.INDEX);
        }
    }

    private static void places() {
        NeedleShop x = Check.shop(TWO);
        limits("mark", 0, 15, Check.INDEX, p -> bit(x.mark(0, p)), x);
        limits("rub", 0, 15, Check.INDEX, p -> rubAndUndo(x, 0, p), x);
        limits("rub a plain one", 0, 15, Check.INDEX, p -> rubAndUndo(x, 1, p), x);
        limits("reach from", 0, 15, Check.INDEX, p -> x.reach(0, p, 0), x);
        limits("reach to", 0, 15, Check.INDEX, p -> x.reach(0, 0, p), x);
        Check.says("A PLACE of a person is rubbed: whether there is a MARK. IllegalStateException: it is RUBBED.");
        int marks = x.kind(0, 0);
        for (int place = 0; place < 16; place++) {
            int at = place;
            Check.due("rub " + place, x.rub(0, place), (marks >> place & 1) != 0);
            Check.due("mark " + place, x.mark(0, place), (marks >> place & 1) != 0);
            Check.due("rub a plain one at " + place, x.rub(1, place), false);
            refused(x, "rub again " + place, () -> bit(x.rub(0, at)), Check.STATE);
            refused(x, "rub the plain one again " + place, () -> bit(x.rub(1, at)), Check.STATE);
        }
        Check.says("(not, if it is not RUBBED)");
        Check.due("washed of all", x.wash(0), 65535);
        for (int place = 0; place < 16; place++) {
            Check.due("mark " + place + " unseen", x.mark(0, place), false);
        }
        Check.due("washed of none", x.wash(0), 0);
        Check.due("rub what was washed", x.rub(0, 0), true);
    }

    private static void deeds() {
        NeedleShop x = Check.shop(TWO);
        limits("told 0", 0, 7, Check.INDEX, d -> x.told(0, d), x);
        limits("does 0", 0, 7, Check.INDEX, d -> doAndUndo(x, 0, d), x);
        limits("does, of a plain one,", 0, 7, Check.INDEX, d -> doAndUndo(x, 1, d), x);
        limits("tellers", 0, 7, Check.INDEX, x::tellers, x);
        Check.says("One does a DEED by hand: DONE then, as bits. IllegalStateException: it has DONE it.");
        for (int deed = 0; deed < 8; deed++) {
            int again = deed;
            Check.due("does " + deed, x.does(1, deed), (2 << deed) - 1);
            refused(x, "does again " + deed, () -> x.does(1, again), Check.STATE);
        }
        Check.due("another has done none", x.person(0, 4), 0);
    }

    private static void numbers() {
        NeedleShop x = Check.shop(TWO);
        Check.says("So many YEARS more (1 to 60): how many DEEDS came in these. IllegalArgumentException: they are none.");
        limits("years", 1, 60, Check.ARGUMENT, x::years, x);
        Check.due("61 years in all", x.count(3), 61);
        Check.says("LUCK is told: what it was. IllegalArgumentException: n is none (0 to 9).");
        limits("luck", 0, 9, Check.ARGUMENT, n -> x.luck(0, n), x);
        Check.due("luck at last", x.luck(0, 0), 9);
        Check.due("luck at least", x.person(0, 3), 0);
        Check.says("PURSE is filled (1 to 999)");
        limits("fill", 1, 999, Check.ARGUMENT, x::fill, x);
        Check.due("purse then", x.count(5), 1009);
        Check.says("IllegalArgumentException: the AGE is none.");
        limits("old", 0, 99, Check.ARGUMENT, x::old, x);
        limits("old of nobody", 0, 99, Check.ARGUMENT, new NeedleShop()::old, x);
        Check.says("of a person and N YEARS (0 to 4)");
        limits("odds", 0, 4, Check.ARGUMENT, n -> x.odds(0, n), x);
        limits("odds of a plain one", 0, 4, Check.ARGUMENT, n -> x.odds(1, n), x);
        Check.says("IllegalArgumentException: N is none (0 to 60); NoSuchElementException: another what.");
        limits("ahead", 0, 60, Check.ARGUMENT, n -> x.ahead(1, n, 1), x);
        Check.says("of N YEARS (0 to 60) from now (draws, too; nothing stays)");
        limits("trial", 0, 60, Check.ARGUMENT, n -> x.trial(n, false), x);
        limits("trial of fame", 0, 60, Check.ARGUMENT, n -> x.trial(n, true), x);
        limits("trial of nobody", 0, 60, Check.ARGUMENT, n -> new NeedleShop().trial(n, true), x);
        limits("span", 0, 60, Check.ARGUMENT, n -> x.span(n, false), x);
        limits("span's most", 0, 60, Check.ARGUMENT, n -> x.span(n, true), x);
    }

    private static void whats() {
        NeedleShop x = Check.shop(TWO);
        Check.says("10 BEARERS, as bits. NoSuchElementException: another what.");
        limits("kind 0", 0, 10, Check.ELEMENT, what -> x.kind(0, what), x);
        limits("kind 7", 0, 10, Check.ELEMENT, what -> x.kind(7, what), x);
        Check.says("11 SHARE. NoSuchElementException: another what.");
        limits("person 0", 0, 11, Check.ELEMENT, what -> x.person(0, what), x);
        limits("person 1", 0, 11, Check.ELEMENT, what -> x.person(1, what), x);
        Check.says("what 0 AGE, 1 DONE, as bits.");
        limits("ahead of 0", 0, 1, Check.ELEMENT, what -> x.ahead(0, 60, what), x);
        limits("ahead by none", 0, 1, Check.ELEMENT, what -> x.ahead(0, 0, what), x);
        Check.says("NONE without. NoSuchElementException: another what.");
        limits("log without rows", 0, 3, Check.ELEMENT, what -> x.log(0, what), x);
        limits("log before all", 0, 3, Check.ELEMENT, what -> x.log(-1, what), x);
        x.rub(0, 3);
        limits("log of a row", 0, 3, Check.ELEMENT, what -> x.log(0, what), x);
        limits("log beyond the row", 0, 3, Check.ELEMENT, what -> x.log(1, what), x);
        Check.says("10 acts that can be UNDONE. NONE for another what.");
        for (int what : new int[] {-1, 11, 12, 100, Integer.MIN_VALUE, Integer.MAX_VALUE}) {
            Check.due("count " + what, x.count(what), -1);
        }
        Check.due("count 10", x.count(10), 1);
        Check.due("count 0", x.count(0), 2);
    }

    private static void order() {
        Check.says("Of several exceptions the one told first is thrown");
        NeedleShop x = Check.shop(TWO);
        x.rub(0, 0);
        x.does(0, 0);
        for (int p : new int[] {-1, 2}) {
            refused(x, "person and what", () -> x.person(p, 12), Check.INDEX);
            refused(x, "person and luck", () -> x.luck(p, 10), Check.INDEX);
            refused(x, "person and odds", () -> x.odds(p, 5), Check.INDEX);
            refused(x, "person, years and what", () -> x.ahead(p, 61, 2), Check.INDEX);
            refused(x, "person and what ahead", () -> x.ahead(p, 60, 2), Check.INDEX);
            refused(x, "one that is none, twice", () -> x.kin(p, p), Check.INDEX);
            refused(x, "one and none", () -> x.kin(0, p), Check.INDEX);
            refused(x, "none and one", () -> x.kin(p, 0), Check.INDEX);
            refused(x, "person and purse", () -> x.ink(p, 0), Check.INDEX);
        }
        for (int k : new int[] {-1, 8}) {
            refused(x, "kind and what", () -> x.kind(k, 11), Check.INDEX);
            refused(x, "kind for who is not plain", () -> x.ink(0, k), Check.INDEX);
            refused(x, "kind without purse", () -> x.ink(1, k), Check.INDEX);
            refused(x, "kind and deed", () -> x.told(k, 8), Check.INDEX);
        }
        refused(x, "years and what", () -> x.ahead(0, 61, 2), Check.ARGUMENT);
        refused(x, "years below and what", () -> x.ahead(0, -1, -1), Check.ARGUMENT);
        refused(x, "what alone", () -> x.ahead(0, 60, 2), Check.ELEMENT);
        refused(x, "one twice", () -> x.kin(1, 1), Check.ARGUMENT);
        refused(x, "the first twice", () -> x.kin(0, 0), Check.ARGUMENT);
        refused(x, "rubbed", () -> bit(x.rub(0, 0)), Check.STATE);
        refused(x, "no place of who is rubbed", () -> bit(x.rub(0, 16)), Check.INDEX);
        refused(x, "done", () -> x.does(0, 0), Check.STATE);
        refused(x, "no deed of who has done one", () -> x.does(0, 8), Check.INDEX);
        refused(x, "ink who is not plain", () -> x.ink(0, 0), Check.STATE);
        refused(x, "ink without purse", () -> x.ink(1, 0), Check.STATE);
    }

    /** A tape of rows: so many bytes, all alike but the last two. */
    private static int[] rows(int bytes, int first, int second) {
        int[] tape = new int[bytes];
        if (bytes > 0) {
            tape[bytes - 1] = second;
        }
        if (bytes > 1) {
            tape[bytes - 2] = first;
        }
        return tape;
    }

    private static void rowsTape(NeedleShop x, String what, Check.Call call, int firsts, int seconds) {
        for (int bytes : new int[] {0, 1, 2, 3, 38, 39, 40, 41, 42, 60, 400}) {
            asked(x, what + " of " + bytes, call, bytes <= 40 && bytes % 2 == 0, rows(bytes, 0, 0));
        }
        for (int bytes : new int[] {2, 4, 40}) {
            for (int wrong : new int[] {firsts, 127, 128, 255}) {
                asked(x, what + " of the first " + wrong, call, false, rows(bytes, wrong, 0));
            }
            asked(x, what + " of the first at most", call, true, rows(bytes, firsts - 1, 0));
            for (int wrong : new int[] {seconds, 127, 128, 255}) {
                asked(x, what + " of the second " + wrong, call, false, rows(bytes, 0, wrong));
            }
            asked(x, what + " of the second at most", call, true, rows(bytes, 0, seconds - 1));
        }
    }

    private static void asked(NeedleShop x, String what, Check.Call call, boolean right, int[] tape) {
        String before = Check.looks(x);
        int acts = x.count(10);
        int fault = x.fault();
        Check.tape(x, tape);
        int got = Check.of(call);
        Check.due(what, right ? bit(got > -100) : got, right ? 1 : Check.ARGUMENT);
        Check.due(what + " uses the tape up", Check.tapeHas(x, 0), true);
        boolean same = Check.looks(x).equals(before) && x.count(10) == acts && x.fault() == fault;
        Check.due(what + " changes nothing", same, true);
    }

    private static void tapes() {
        NeedleShop x = Check.shop(TWO);
        x.does(0, 3);
        Check.wrongShop(x, "  ?", 2);
        Check.says("(of each two bytes: the KIND, the DEED; at most 40 bytes)");
        rowsTape(x, "rules", () -> x.rules(false), 8, 8);
        rowsTape(x, "least", () -> x.rules(true), 8, 8);
        Check.says("(the TAPE likewise); NONE. IllegalArgumentException: the TAPE is not that.");
        rowsTape(x, "ask", x::ask, 8, 8);
        Check.says("(of each two bytes: the person, 1 or 0; at most 40 bytes), as bits.");
        rowsTape(x, "clash", x::clash, 2, 2);
        NeedleShop six = Check.shop("person age 1 luck 1;".repeat(5) + "person age 1 luck 1");
        rowsTape(six, "clash of six", six::clash, 6, 2);
        NeedleShop nobody = new NeedleShop();
        asked(nobody, "clash of nobody", nobody::clash, true, new int[0]);
        asked(nobody, "clash of nobody's row", nobody::clash, false, new int[] {0, 0});
        Check.says("IllegalArgumentException: the TAPE is not that (more than 6; none may be told).");
        for (int berth : new int[] {-1, 0, 5, 6, 99}) {
            for (int bytes = 0; bytes <= 8; bytes++) {
                asked(x, "berths of " + bytes, () -> x.berths(berth), bytes <= 6, rows(bytes, 0, 0));
            }
            asked(x, "berths of 40", () -> x.berths(berth), false, rows(40, 0, 0));
            for (int bytes = 1; bytes <= 6; bytes++) {
                asked(x, "a berth of deed 7", () -> x.berths(berth), true, rows(bytes, 0, 7));
                asked(x, "a berth of deed 8", () -> x.berths(berth), false, rows(bytes, 0, 8));
                asked(x, "a berth of deed 255", () -> x.berths(berth), false, rows(bytes, 0, 255));
            }
        }
    }

    /** The tape stays where a call does not use it, whether it answers or not. */
    private static void states() {
        Check.says("a call that throws changes nothing but the TAPE, where it is used up");
        NeedleShop x = Check.shop(TWO);
        x.fill(500);
        Check.tape(x, 7, 7, 7, 7, 7);
        x.years(1);
        x.rub(0, 0);
        x.ink(1, 0);
        x.wash(0);
        x.told(0, 1);
        x.hold(0, 1);
        x.does(0, 5);
        x.luck(0, 5);
        x.fill(5);
        x.undo();
        x.image();
        x.back();
        x.trial(3, true);
        x.span(3, true);
        x.seed(3);
        Check.due("five bytes still", Check.tapeHas(x, 5), true);
    }

    private static void countsAndLog() {
        Check.says("0 PEOPLE, 1 texts of THE SHOP, 2 LINES of THE LAW (NONE without one), 3 YEAR, 4 SHAKE, 5 PURSE");
        NeedleShop x = new NeedleShop();
        int[] first = {0, 0, -1, 0, 0, 100, 0, 0, 0, 0, 0};
        for (int what = 0; what < first.length; what++) {
            Check.due("count " + what + " at first", x.count(what), first[what]);
        }
        Check.lawful(x, "");
        Check.due("a law without lines", x.count(2), 0);
        Check.says("6 DEEDS DONE of all together, 7 FAME of all together, 8 RUBBED PLACES of all together");
        NeedleShop six = Check.lawful(Check.shop("person age 1 luck 1 under a;".repeat(5) + "person age 1 luck 1 under b"),
            "come 100;" + "fame 100;".repeat(9) + "fame 89");
        for (int p = 0; p < 6; p++) {
            for (int place = 0; place < 16; place++) {
                six.rub(p, place);
            }
            for (int deed = 2; deed < 8; deed++) {
                six.does(p, deed);
            }
        }
        Check.due("all rubbed", six.count(8), 96);
        Check.due("six times six deeds", six.count(6), 36);
        six.years(1);
        Check.due("six came", six.count(6), 42);
        Check.due("fame of six", six.count(7), 6 * 999);
        six.told(0, 1);
        six.told(1, 0);
        six.years(1);
        Check.due("all have done all", six.count(6), 48);
        Check.due("and so far", six.soFar(), 255);
        Check.due("a sixth each", six.person(5, 11), 16);
        Check.due("sixty rows", six.count(9), 60);
    }
}
