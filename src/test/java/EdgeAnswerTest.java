/** The least and the greatest that each question answers, the least of several, and when it answers none. */
public final class EdgeAnswerTest {
    private static final String ALL = "1111 1111 1111 1111";
    private static final String BARE = "0000 0000 0000 0000";

    private EdgeAnswerTest() {
    }

    public static void main(String[] args) {
        fits();
        blank();
        thumb();
        few();
        same();
        pieces();
        holes();
        reach();
        turned();
        shifts();
        nests();
        deepest();
        rules();
        ask();
        now();
        crew();
        berths();
        inks();
        sure();
        old();
        clash();
        fates();
        pairs();
        kin();
        rests();
        odds();
        groups();
        oneOfAll();
        shares();
        trials();
        led();
        lawFacts();
        oneBehindAnother();
        Check.finish("EdgeAnswerTest");
    }

    private static String people(int n, String under) {
        String one = "person age 20 luck 3" + under;
        return (one + ";").repeat(n - 1) + one;
    }

    /** The marks of a set of places, as a kind line tells them. */
    private static String marks(int places) {
        StringBuilder rows = new StringBuilder();
        for (int place = 0; place < 16; place++) {
            rows.append(place > 0 && place % 4 == 0 ? " " : "").append(places >> place & 1);
        }
        return rows.toString();
    }

    /** A shop of eight kinds with these marks. */
    private static NeedleShop kinds(int... places) {
        NeedleShop x = new NeedleShop();
        for (int k = 0; k < places.length; k++) {
            Check.tape(x, "kind " + (char) ('a' + k) + " marks " + marks(places[k]));
            x.shop();
        }
        return x;
    }

    private static NeedleShop with(NeedleShop x, String text) {
        Check.tape(x, text);
        x.shop();
        return x;
    }

    private static void fits() {
        Check.says("0 of who is PLAIN), as bits");
        NeedleShop x = with(kinds(1, 3, 7, 15, 31, 63, 127, 255), people(1, " under a") + ";" + people(1, ""));
        Check.due("all fit who is not rubbed", x.person(0, 7), 255);
        Check.due("none fit who is plain", x.person(1, 7), 0);
        int[] left = {255, 1, 1, 1};
        for (int place = 0; place < 4; place++) {
            x.rub(0, place);
            x.rub(1, place);
            Check.due("fit behind place " + place, x.person(0, 7), left[place]);
            Check.due("none still", x.person(1, 7), 0);
        }
        x.wash(0);
        for (int place = 7; place >= 0; place--) {
            x.rub(0, place);
            Check.due("fit from the end on " + place, x.person(0, 7), place == 0 ? 1 : (1 << place) - 1);
        }
        NeedleShop y = with(kinds(5, 5), people(1, " under c"));
        for (int place = 0; place < 16; place++) {
            y.rub(0, place);
        }
        Check.due("kinds that are not told fit as well", y.person(0, 7), 252);
    }

    private static void blank() {
        Check.says("whether on no RUBBED PLACE there is a MARK (so also without any)");
        NeedleShop x = with(kinds(0x7FFF), people(1, " under a") + ";" + people(1, "") + ";" + people(1, " under b"));
        for (int p = 0; p < 3; p++) {
            Check.due("without any", x.blank(p), true);
            x.rub(p, 15);
            Check.due("on a bare one", x.blank(p), true);
            x.rub(p, 14);
            Check.due("on a mark, if there is one", x.blank(p), p != 0);
        }
        x.wash(0);
        Check.due("washed", x.blank(0), true);
    }

    private static void thumb() {
        Check.says("(of several the least; none with fewer than two, or if all are RUBBED)");
        NeedleShop x = with(kinds(1, 2, 4, 8, 16, 32, 64, 128), people(1, " under h") + ";" + people(1, ""));
        Check.due("who is plain", x.person(1, 8), -1);
        for (int place = 0; place < 7; place++) {
            Check.due("one to the others", x.person(0, 8), place);
            x.rub(0, place);
        }
        Check.due("one is left", x.person(0, 7), 128);
        Check.due("fewer than two", x.person(0, 8), -1);
        NeedleShop y = with(kinds(0, 0, 0, 0, 0x8000, 0x8000, 0x8000, 0x8000), people(1, " under a"));
        Check.due("four to four at the last place", y.person(0, 8), 15);
        y.rub(0, 15);
        Check.due("nothing parts them: the least", y.person(0, 8), 0);
        for (int place = 0; place < 15; place++) {
            Check.due("the least not rubbed", y.person(0, 8), place);
            y.rub(0, place);
        }
        Check.due("all are rubbed", y.person(0, 8), -1);
        Check.due("though four fit", y.person(0, 7), 15);
        NeedleShop z = with(kinds(0x11, 0x11, 0x01, 0x30, 0x30, 0x20, 0x20, 0x20), people(1, " under a"));
        Check.due("four to four before three to five", z.person(0, 8), 4);
    }

    private static void few() {
        Check.says("none of the seven other KINDS (told or not) has just its MARKS: of several the least as bits; none");
        Check.due("all kinds are bare", new NeedleShop().kind(0, 3), -1);
        NeedleShop x = kinds(0x8000);
        Check.due("one place, the last", x.kind(0, 3), 0x8000);
        Check.due("a bare one among bare ones", x.kind(7, 3), -1);
        NeedleShop y = kinds(65535);
        Check.due("of sixteen the least", y.kind(0, 3), 1);
        NeedleShop z = kinds(0, 1, 2, 4, 8, 16, 32, 0x8000);
        Check.due("seven places", z.kind(0, 3), 0x803F);
        Check.due("one place", z.kind(7, 3), 0x8000);
        NeedleShop w = kinds(0, 3, 5, 6, 9, 10, 12, 15);
        // No place parts a from all: a pair leaves one of two marks; of three the first is enough.
        Check.due("three places, the least", w.kind(0, 3), 7);
        Check.due("three for all", w.kind(7, 3), 7);
        NeedleShop v = kinds(0xC000, 0x8000, 0x4000, 0, 0, 0, 0, 0);
        Check.due("two places at the end", v.kind(0, 3), 0xC000);
        NeedleShop twin = kinds(7, 7);
        Check.due("one that has a twin", twin.kind(1, 3), -1);
    }

    private static void same() {
        Check.says("of the same MARKS, it too, as bits");
        Check.due("all bare", new NeedleShop().kind(3, 4), 255);
        NeedleShop x = kinds(1, 2, 4, 8, 16, 32, 64, 128);
        for (int k = 0; k < 8; k++) {
            Check.due("it alone", x.kind(k, 4), 1 << k);
        }
        Check.due("two", kinds(65535, 1, 2, 65535).kind(3, 4), 9);
        Check.due("one place apart", kinds(0x8001, 1).kind(0, 4), 1);
    }

    private static void pieces() {
        Check.says("into how many pieces its MARKS fall by sides (up, down, left, right)");
        NeedleShop x = kinds(0, 65535, 0xA5A5, 0x5A5A, 1, 0x8000, 0x0018, 0x0F0F);
        int[] pieces = {0, 1, 8, 8, 1, 1, 2, 2};
        int[] largest = {0, 16, 1, 1, 1, 1, 1, 4};
        for (int k = 0; k < 8; k++) {
            Check.due("pieces of " + k, x.kind(k, 5), pieces[k]);
            Check.due("largest of " + k, x.kind(k, 6), largest[k]);
        }
        NeedleShop snake = kinds(0x1F8F, 0xF18F, 0xF99F, 0x8421, 0x1248);
        Check.due("corners do not join", snake.kind(3, 5) * 10 + snake.kind(4, 5), 44);
        Check.due("a ring of twelve", snake.kind(2, 5) * 100 + snake.kind(2, 6), 112);
        Check.due("a way of ten", snake.kind(0, 5) * 100 + snake.kind(0, 6), 110);
        Check.due("a way that is cut", snake.kind(1, 5) * 100 + snake.kind(1, 6), 205);
    }

    private static void holes() {
        Check.says("without a MARK from which one cannot come by sides along such to the edge, as bits");
        NeedleShop x = kinds(0, 65535, 0xF99F, 0x0252, 0xF91F, 0xF98F, 0x799F, 0x4A52);
        int[] holes = {0, 0, 0x0660, 0x0020, 0, 0, 0x0660, 0x0000};
        holes[7] = holesOf(0x4A52);
        for (int k = 0; k < 8; k++) {
            Check.due("holes of " + k, x.kind(k, 7), holes[k]);
        }
        Check.due("a corner lets nobody out", kinds(0xF99E).kind(0, 7), 0x0660);
        Check.due("each inner place by itself", kinds(0xF9BF).kind(0, 7), 0x0640);
        Check.due("one of each", kinds(0x0272).kind(0, 7), 0);
    }

    /** By hand: 0x4A52 has the inner places 6 and 9 (marks) and 5 and 10 (bare, shut in by their four sides). */
    private static int holesOf(int marks) {
        int holes = 0;
        int[] inner = {5, 6, 9, 10};
        for (int place : inner) {
            int sides = 1 << place - 4 | 1 << place + 4 | 1 << place - 1 | 1 << place + 1;
            if ((marks >> place & 1) == 0 && (marks & sides) == sides) {
                holes |= 1 << place;
            }
        }
        return holes;
    }

    private static void reach() {
        Check.says("the fewest steps by sides from MARK to MARK; none (also, if one is none)");
        NeedleShop x = kinds(65535, 0x1F8F, 0, 0xF11F, 0x0018);
        Check.due("corner to corner", x.reach(0, 0, 15), 6);
        Check.due("the longest way", x.reach(1, 0, 12), 9);
        Check.due("one step", x.reach(0, 5, 6) * 10 + x.reach(0, 5, 9), 11);
        Check.due("round the open side", x.reach(3, 3, 15), 9);
        Check.due("no mark at all", x.reach(2, 0, 0), -1);
        Check.due("two pieces", x.reach(4, 3, 4), -1);
        Check.says("(0 of one PLACE with a MARK); NONE.");
        for (int place = 0; place < 16; place++) {
            Check.due("one place", x.reach(0, place, place), 0);
            Check.due("one place without", x.reach(2, place, place), -1);
            int mark = 0x1F8F >> place & 1;
            Check.due("from a mark to none, or one", x.reach(1, 0, place) >= 0, mark != 0);
            Check.due("and to a mark from it", x.reach(1, place, 0) >= 0, mark != 0);
        }
    }

    private static void turned() {
        Check.says("the first one's MARKS are the other one's, the fewest; none");
        NeedleShop x = kinds(1, 8, 0x8000, 0x1000, 0, 65535, 0x9009, 3);
        int[] of = {0, 1, 2, 3};
        for (int k = 0; k < 4; k++) {
            Check.due("a corner to corner " + k, x.turned(0, k), of[k]);
        }
        Check.due("row 0, column 1 comes to row 1, column 3", kinds(2, 128).turned(0, 1), 1);
        Check.due("bare ones", x.turned(4, 4), 0);
        Check.due("full ones", x.turned(5, 5), 0);
        Check.due("all corners", x.turned(6, 6), 0);
        Check.due("one to two", x.turned(0, 7), -1);
        Check.due("bare to full", x.turned(4, 5), -1);
        Check.due("the other way round is none", kinds(0x13, 0x31).turned(0, 1), -1);
        Check.due("half turn alike: the fewer", kinds(0x000F, 0xF000, 0x8888, 0x1111, 0x8001, 0x1008).turned(4, 5), 1);
    }

    private static void shifts() {
        Check.says("(of several the least; so the least without MARKS)");
        NeedleShop x = kinds(0, 65535, 1, 0x8000, 8, 0x1000);
        Check.due("without marks", x.shifts(0, 0, false) * 10 + x.shifts(0, 0, true), 0);
        Check.due("none on all", x.shifts(0, 1, false) * 10 + x.shifts(0, 1, true), 0);
        Check.due("all on none", x.shifts(1, 0, false) * 10 + x.shifts(1, 0, true), 0);
        Check.due("all on all", x.shifts(1, 1, false) * 100 + x.shifts(1, 1, true), 2416);
        Check.due("3 rows and columns up and left", x.shifts(3, 2, false), 0);
        Check.due("by which one lies", x.shifts(3, 2, true), 1);
        Check.due("3 rows and columns down and right", x.shifts(2, 3, false), 48);
        Check.due("3 up, 3 right", x.shifts(5, 4, false), 6);
        Check.due("3 down, 3 left", x.shifts(4, 5, false), 42);
        Check.due("of all several: the least", x.shifts(2, 1, false), 24);
        Check.due("to the least", x.shifts(3, 1, false), 0);
        Check.says("(what leaves the field is lost)");
        Check.due("a row does not go on in the next", kinds(0x0008, 0x0010).shifts(0, 1, false), 7 * 4 + 0);
        Check.due("nor back", kinds(0x0010, 0x0008).shifts(0, 1, false), 7 * 2 + 6);
    }

    private static void nests() {
        Check.says("by HOLDS, on and on, itself too; none, if one never ends");
        NeedleShop x = new NeedleShop();
        Check.due("it alone", x.kind(5, 8) * 1000 + x.kind(5, 9), 1032);
        for (int k = 0; k < 7; k++) {
            x.hold(k, k + 1);
        }
        Check.due("eight deep", x.kind(0, 8) * 1000 + x.kind(0, 9), 8255);
        Check.due("one deep", x.kind(7, 8) * 1000 + x.kind(7, 9), 1128);
        x.hold(7, 7);
        Check.due("the last holds itself", x.kind(0, 8), -1);
        Check.due("all within still", x.kind(0, 9), 255);
        Check.says("whether one comes back to it");
        Check.due("it comes back", x.ring(7), true);
        Check.due("the one ahead does not", x.ring(6), false);
        x.hold(7, 0);
        for (int k = 0; k < 8; k++) {
            Check.due("eight in a ring", x.ring(k), true);
            Check.due("never ends", x.kind(k, 8), -1);
            Check.due("all within", x.kind(k, 9), 255);
        }
        x.hold(7, -1);
        for (int k = 0; k < 8; k++) {
            Check.due("no ring", x.ring(k), false);
        }
        Check.says("(holds NONE: none): which it held; NONE.");
        Check.due("held none", x.hold(7, 7), -1);
        Check.due("held itself", x.hold(7, -1), 7);
        Check.due("held 7", x.hold(6, -1), 7);
        Check.due("held none again", x.hold(6, -1), -1);
    }

    private static void deepest() {
        Check.says("(of several the least; none, if none ends)");
        NeedleShop x = new NeedleShop();
        Check.due("all alike", x.deepest(), 0);
        x.hold(6, 5);
        Check.due("two deep", x.deepest(), 6);
        x.hold(3, 1);
        Check.due("of several the least", x.deepest(), 3);
        x.hold(7, 6);
        Check.due("three deep", x.deepest(), 7);
        x.hold(5, 7);
        Check.due("a ring counts for nothing", x.deepest(), 3);
        for (int k = 0; k < 8; k++) {
            x.hold(k, k);
        }
        Check.due("none ends", x.deepest(), -1);
        x.hold(7, -1);
        Check.due("the last one ends", x.deepest(), 7);
    }

    private static int fitting(boolean least, int... rows) {
        NeedleShop x = new NeedleShop();
        Check.tape(x, rows);
        return x.rules(least);
    }

    private static int asked(int... rows) {
        NeedleShop x = new NeedleShop();
        Check.tape(x, rows);
        return x.ask();
    }

    private static void rules() {
        Check.says("A times the KIND and B, modulo 8, is the DEED: pairs that fit: how many");
        Check.due("none told", fitting(false), 64);
        Check.due("kind 0", fitting(false, 0, 7), 8);
        Check.due("two even kinds", fitting(false, 0, 0, 4, 4), 4);
        Check.due("one left", fitting(false, 7, 0, 0, 7), 1);
        Check.due("none left", fitting(false, 0, 0, 0, 7), 0);
        Check.due("none left by evenness", fitting(false, 0, 0, 2, 1), 0);
        Check.due("one row twice", fitting(false, 5, 5, 5, 5), 8);
        Check.says("the first (8 times A and B); none");
        Check.due("of all", fitting(true), 0);
        Check.due("the greatest", fitting(true, 0, 7, 1, 6), 63);
        Check.due("none", fitting(true, 0, 0, 0, 7), -1);
        for (int a = 0; a < 8; a++) {
            for (int b = 0; b < 8; b++) {
                Check.due("A and B", fitting(true, 0, b, 1, a + b & 7), 8 * a + b);
            }
        }
    }

    private static void ask() {
        Check.says("so that the greatest part is the least (of several the least; none with fewer than two)");
        Check.due("of all 64", asked(), 0);
        Check.due("of one", asked(0, 0, 1, 0), -1);
        Check.due("of none", asked(0, 0, 0, 1), -1);
        Check.due("of two", asked(0, 0, 2, 0), 1);
        Check.due("of four", asked(0, 0, 4, 0), 1);
        Check.due("of eight by 0", asked(0, 0), 1);
        Check.due("of eight by 1", asked(1, 0), 0);
        Check.due("of eight by 7", asked(7, 3), 0);
        Check.due("of two by 1 and 5", asked(1, 0, 5, 4), partedBy(1, 0, 5, 4));
    }

    /** The least kind by which the greatest part is the least, told out in full. */
    private static int partedBy(int... rows) {
        int best = -1;
        int least = 65;
        for (int kind = 0; kind < 8; kind++) {
            int[] parts = new int[8];
            for (int pair = 0; pair < 64; pair++) {
                boolean fit = true;
                for (int i = 0; i < rows.length; i += 2) {
                    fit &= (pair / 8 * rows[i] + pair % 8) % 8 == rows[i + 1];
                }
                parts[(pair / 8 * kind + pair % 8) % 8] += fit ? 1 : 0;
            }
            int greatest = 0;
            for (int part : parts) {
                greatest = Math.max(greatest, part);
            }
            if (greatest < least) {
                least = greatest;
                best = kind;
            }
        }
        return best;
    }

    private static void now() {
        Check.says("are by one such pair: the first; none");
        NeedleShop x = new NeedleShop();
        Check.due("each its own", x.now(), 8);
        for (int pair : new int[] {0, 7, 56, 63, 35}) {
            for (int k = 0; k < 8; k++) {
                x.told(k, pair / 8 * k + pair % 8 & 7);
            }
            Check.due("now", x.now(), pair);
            for (int k = 0; k < 8; k++) {
                x.told(k, x.kind(k, 1) + 1 & 7);
                Check.due("apart by kind " + k, x.now(), -1);
                x.undo();
            }
        }
    }

    private static void crew() {
        Check.says("of several the least as bits (0 of no DEEDS); none");
        NeedleShop nobody = new NeedleShop();
        Check.due("no deeds, nobody", nobody.crew(0), 0);
        Check.due("a deed, nobody", nobody.crew(1), -1);
        Check.says("(others than DEEDS count for nothing); NONE.");
        Check.due("other bits", nobody.crew(-256), 0);
        Check.due("other bits of inks", nobody.inks(-256), 0);
        Check.due("and one", nobody.crew(-255), -1);
        NeedleShop x = with(new NeedleShop(), "person age 1 luck 1 under c;person age 1 luck 1 under d;person age 1 luck 1 under e;"
            + "person age 1 luck 1 under f;person age 1 luck 1 under g;person age 1 luck 1 under h");
        Check.due("all six", x.crew(0b11111100), 63);
        Check.due("the last", x.crew(128), 32);
        Check.due("one that none tells", x.crew(0b11111110), -1);
        NeedleShop y = with(new NeedleShop(), people(6, " under h"));
        Check.due("of six the least", y.crew(128), 1);
        y.does(0, 3);
        Check.due("done is not told", y.crew(8), -1);
        NeedleShop plain = with(new NeedleShop(), people(6, ""));
        Check.due("plain ones tell nothing", plain.crew(1), -1);
        Check.due("and are not needed for nothing", plain.crew(0), 0);
    }

    private static int berth(NeedleShop x, int berth, int... deeds) {
        Check.tape(x, deeds);
        return x.berths(berth);
    }

    private static void berths() {
        Check.says("(berth by berth, none being the least, then the PEOPLE); none (also of no berth)");
        NeedleShop nobody = new NeedleShop();
        Check.due("no berths", berth(nobody, -1), 0);
        Check.due("nobody", berth(nobody, -1, 0, 1, 2, 3, 4, 5), 0);
        Check.due("nobody's berth", berth(nobody, 0, 0), -1);
        NeedleShop six = with(new NeedleShop(), people(6, " under h"));
        Check.due("six of one", berth(six, -1, 7, 7, 7, 7, 7, 7), 6);
        for (int b = -3; b < 9; b++) {
            Check.due("berth " + b, berth(six, b, 7, 7, 7, 7, 7, 7), b == -1 ? 6 : b < 0 || b > 5 ? -1 : b);
        }
        Check.due("one of six", berth(six, -1, 0, 1, 2, 3, 4, 7), 1);
        Check.due("the first for the last berth", berth(six, 5, 0, 1, 2, 3, 4, 7), 0);
        Check.due("none for the first", berth(six, 0, 0, 1, 2, 3, 4, 7), -1);
        NeedleShop one = with(new NeedleShop(), people(1, ""));
        one.does(0, 4);
        Check.due("a plain one who has done it", berth(one, -1, 4, 4), 1);
        Check.due("none, being the least, first", berth(one, 0, 4, 4), -1);
        Check.due("then it", berth(one, 1, 4, 4), 0);
    }

    private static void inks() {
        Check.says("how many; none, if there are too few, or no KIND TELLS one of these");
        for (int plain = 0; plain <= 6; plain++) {
            NeedleShop x = plain == 0 ? new NeedleShop() : with(new NeedleShop(), people(plain, "") + ";purse 0");
            for (int deeds = 0; deeds <= 8; deeds++) {
                Check.due(deeds + " by " + plain, x.inks((1 << deeds) - 1), deeds <= plain ? deeds : -1);
            }
        }
        NeedleShop y = with(new NeedleShop(), people(1, " under a") + ";" + people(1, ""));
        Check.due("none is missing", y.inks(1), 0);
        Check.due("one is", y.inks(3), 1);
        Check.due("two are", y.inks(7), -1);
        y.told(0, 5);
        Check.due("no kind tells it", y.inks(1), -1);
        Check.due("told by one already", y.inks(32), 0);
        y.told(1, 0);
        Check.due("another kind tells it", y.inks(1), 1);
        y.does(0, 7);
        Check.due("done is not told", y.inks(128), 1);
    }

    private static void sure() {
        Check.says("the first N (0 to 60) AHEAD by which its DEED is DONE (0, if it is now); none (of who is PLAIN, too)");
        for (int age = 27; age <= 31; age++) {
            NeedleShop x = Check.lawful(Check.shop("person age " + age + " luck 0 under b;person age 99 luck 9"), "come 91 if age>88");
            // At 89 it comes by 99, at 90 by 100.
            Check.due("from " + age, x.person(0, 9), age >= 30 ? 90 - age : -1);
            Check.due("who is plain", x.person(1, 9), -1);
            x.does(1, 0);
            Check.due("who is plain and has done one", x.person(1, 9), -1);
            x.does(0, 0);
            Check.due("another deed is not its own", x.person(0, 9), age >= 30 ? 90 - age : -1);
            x.does(0, 1);
            Check.due("it is done now", x.person(0, 9), 0);
        }
        NeedleShop y = Check.shop("person age 99 luck 9 under a");
        Check.due("never without a law", y.person(0, 9), -1);
        Check.due("next year", Check.lawful(y, "come 100").person(0, 9), 1);
    }

    private static void old() {
        Check.says("by which all PEOPLE are so old at least (0 without PEOPLE); none");
        NeedleShop nobody = new NeedleShop();
        Check.due("without people", nobody.old(0) + nobody.old(99), 0);
        for (int age : new int[] {0, 38, 39, 40, 98, 99}) {
            NeedleShop x = Check.shop("person age 99 luck 0;person age " + age + " luck 0;person age 99 luck 0");
            for (int wanted : new int[] {0, 1, 59, 60, 61, 98, 99}) {
                int n = Math.max(0, wanted - age);
                Check.due(wanted + " from " + age, x.old(wanted), n <= 60 ? n : -1);
            }
        }
    }

    private static int clashing(NeedleShop x, int... rows) {
        Check.tape(x, rows);
        return x.clash();
    }

    private static void clash() {
        Check.says("of whom that is not so (of who is PLAIN: DONE never), as bits");
        NeedleShop x = with(new NeedleShop(), people(5, " under h") + ";" + people(1, ""));
        Check.due("none told", clashing(x), 0);
        Check.due("all not done", clashing(x, 0, 0, 1, 0, 2, 0, 3, 0, 4, 0, 5, 0), 0);
        Check.due("all done", clashing(x, 0, 1, 1, 1, 2, 1, 3, 1, 4, 1, 5, 1), 63);
        for (int deed = 0; deed < 8; deed++) {
            x.does(5, deed);
        }
        Check.due("plain: never", clashing(x, 5, 0), 0);
        Check.due("plain: not done", clashing(x, 5, 1), 32);
        x.does(4, 6);
        Check.due("another deed", clashing(x, 4, 0), 0);
        x.does(4, 7);
        Check.due("its own", clashing(x, 4, 0), 16);
        Check.due("both ways", clashing(x, 4, 0, 4, 1), 16);
    }

    private static void fates() {
        Check.says("that KINDS of FITS TELL, as bits");
        NeedleShop x = with(kinds(1, 1, 2), people(1, " under a") + ";" + people(1, ""));
        Check.due("all", x.person(0, 10), 255);
        Check.due("who is plain", x.person(1, 10), 0);
        x.rub(0, 0);
        Check.due("two", x.person(0, 10), 3);
        x.told(1, 0);
        Check.due("two that tell one", x.person(0, 10), 1);
        x.told(0, 7);
        x.told(1, 7);
        Check.due("the last", x.person(0, 10), 128);
    }

    private static void pairs() {
        Check.says("(person by person, none being the least, then the others); none");
        NeedleShop nobody = new NeedleShop();
        Check.due("nobody", nobody.pairs(-1), 0);
        NeedleShop one = with(new NeedleShop(), people(1, " under a"));
        Check.due("one alone", one.pairs(-1), 0);
        Check.due("with nobody", one.pairs(0), -1);
        NeedleShop six = with(new NeedleShop(), people(6, " under a"));
        Check.due("six alike", six.pairs(-1), 0);
        for (int p = 0; p < 6; p++) {
            Check.due("none is the least", six.pairs(p), -1);
        }
        NeedleShop most = with(new NeedleShop(), people(6, ""));
        for (int p = 0; p < 6; p += 2) {
            for (int deed = 0; deed < 8; deed++) {
                most.does(p, deed);
            }
        }
        Check.due("three times eight", most.pairs(-1), 24);
        int[] with = {1, 0, 3, 2, 5, 4};
        for (int p = 0; p < 6; p++) {
            Check.due("each with its next", most.pairs(p), with[p]);
        }
        NeedleShop middle = with(new NeedleShop(), people(5, ""));
        for (int deed = 0; deed < 8; deed++) {
            middle.does(deed < 4 ? 0 : 4, deed);
            middle.does(deed < 4 ? 2 : 3, deed);
        }
        Check.due("one in the middle is left", middle.pairs(-1), 16);
        int[] two = {3, -1, 4, 0, 2};
        for (int p = 0; p < 5; p++) {
            Check.due("with two of four", middle.pairs(p), two[p]);
        }
        Check.says("its KIND, if it is not PLAIN, TELLS it, or it has DONE it");
        NeedleShop both = with(new NeedleShop(), people(1, " under a") + ";" + people(1, ""));
        Check.due("told by one", both.pairs(-1), 1);
        both.does(1, 0);
        Check.due("done by the other", both.pairs(-1), 0);
        both.does(1, 1);
        Check.due("one more", both.pairs(-1) * 10 + both.pairs(0), 11);
    }

    private static void kin() {
        Check.says("how many PLACES are MARKS of both their KINDS (0, if one is PLAIN)");
        NeedleShop x = with(kinds(65535, 0x8001, 0x7FFE), "person age 1 luck 1 under a;person age 1 luck 1 under a;person age 1 luck 1 under b;"
            + "person age 1 luck 1 under c;person age 1 luck 1;person age 1 luck 1");
        Check.due("sixteen", x.kin(0, 1), 16);
        Check.due("two", x.kin(0, 2), 2);
        Check.due("fourteen", x.kin(3, 1), 14);
        Check.due("none", x.kin(2, 3), 0);
        Check.due("one is plain", x.kin(0, 4) + x.kin(4, 0), 0);
        Check.due("both are", x.kin(4, 5), 0);
    }

    private static void rests() {
        Check.says("choices (2 times its and the needle's) from which neither would have more by its other one: as bits");
        for (int luck = 0; luck <= 9; luck++) {
            NeedleShop x = Check.lawful(Check.shop("person age 1 luck " + luck + " under a;person age 1 luck " + luck),
                "come 100;fame 100;fame 100;fame 100;fame 100;fame 100;fame 100;fame 100;fame 100;fame 100;fame 100");
            Check.due("luck " + luck, x.rests(0), luck >= 1 ? 9 : 8);
            Check.due("of a plain one", x.rests(1), luck >= 1 ? 9 : 8);
            x.years(1);
            Check.due("with fame 999", x.rests(0), luck >= 1 ? 9 : 8);
        }
    }

    private static void odds() {
        Check.says("in 10000, rounded down each time (10000, if it is DONE, and of who is PLAIN)");
        int[] comes = {0, 1, 33, 50, 99, 100};
        for (int by : comes) {
            NeedleShop x = Check.lawful(Check.shop("person age 1 luck 0 under d;person age 99 luck 9"), "come " + by);
            int due = 10000;
            for (int n = 0; n <= 4; n++) {
                Check.due(n + " years by " + by, x.odds(0, n), due);
                Check.due("who is plain", x.odds(1, n), 10000);
                due = due * (100 - by) / 100;
            }
            x.does(0, 0);
            Check.due("another deed", x.odds(0, 1), 100 * (100 - by));
            x.does(0, 3);
            Check.due("it is done", x.odds(0, 4), 10000);
        }
        Check.due("67 of 100, four times", Check.lawful(Check.shop("person age 1 luck 0 under d"), "come 33").odds(0, 4), 2014);
    }

    private static void groups() {
        Check.says("who are not PLAIN and found, as bits");
        NeedleShop nobody = new NeedleShop();
        Check.due("nobody", nobody.plain() + nobody.found() + nobody.soFar() + nobody.twins(), 0);
        NeedleShop six = with(kinds(3), people(6, ""));
        Check.due("all plain", six.plain(), 63);
        Check.due("plain ones are not found", six.found(), 0);
        Check.says("(both PLAIN, too): how many");
        Check.due("fifteen twins", six.twins(), 15);
        six.ink(5, 0);
        Check.due("five plain", six.plain(), 31);
        Check.due("ten twins", six.twins(), 10);
        six.ink(0, 0);
        Check.due("six and one", six.twins(), 7);
        Check.due("not found yet", six.found(), 0);
        six.rub(5, 0);
        Check.due("one mark of two", six.found(), 0);
        six.rub(5, 1);
        Check.due("found", six.found(), 32);
        six.ink(1, 1);
        Check.due("without marks", six.found(), 34);
        Check.says("that somebody has DONE, as bits");
        six.does(2, 7);
        six.does(3, 7);
        six.does(4, 0);
        Check.due("so far", six.soFar(), 129);
        Check.says("as bits. TELLERS of a DEED");
        for (int k = 0; k < 8; k++) {
            six.told(k, 7);
        }
        Check.due("tellers of 7", six.tellers(7), 255);
        Check.due("tellers of 0", six.tellers(0), 0);
        Check.due("bearers of a", six.kind(0, 10), 33);
        Check.due("bearers of h", six.kind(7, 10), 0);
        Check.due("bearers of all", with(new NeedleShop(), people(6, " under h")).kind(7, 10), 63);
    }

    private static void oneOfAll() {
        Check.says("the person of the most AGE (of several the least; none)");
        Check.due("nobody", new NeedleShop().eldest(), -1);
        Check.due("of age 0", Check.shop("person age 0 luck 0").eldest(), 0);
        Check.due("of several", Check.shop("person age 3 luck 0;person age 4 luck 0;person age 4 luck 0").eldest(), 1);
        NeedleShop x = Check.shop("person age 98 luck 0;person age 99 luck 0");
        Check.due("the older", x.eldest(), 1);
        x.years(1);
        Check.due("both 99", x.eldest(), 0);
        Check.says("of the most FAME (of several the least; none, if it is 0)");
        Check.due("nobody", new NeedleShop().famous(), -1);
        NeedleShop y = Check.lawful(Check.shop("person age 1 luck 0 under a;person age 1 luck 0 under b;person age 1 luck 0 under c"),
            "come 100 if person>0;stay 100 if person<1");
        Check.due("fame 0", y.famous(), -1);
        y.years(1);
        Check.due("of two", y.famous(), 1);
        y.told(2, 5);
        y.years(1);
        Check.due("the more", y.famous(), 2);
    }

    private static void shares() {
        Check.says("of FAME of all, in hundredths, rounded down (0 without)");
        NeedleShop x = Check.lawful(Check.shop("person age 1 luck 0 under a;person age 1 luck 0 under b;person age 1 luck 0 under c;"
            + "person age 1 luck 0"), "come 100;fame 90 if person>1;fame 100 if person>1");
        Check.due("without", x.person(0, 11) + x.person(3, 11), 0);
        x.years(1);
        // 10, 10 and 200 of 220.
        int[] shares = {4, 4, 90, 0};
        for (int p = 0; p < 4; p++) {
            Check.due("share of " + p, x.person(p, 11), shares[p]);
        }
        NeedleShop y = Check.lawful(Check.shop("person age 1 luck 0 under a;person age 1 luck 0"), "come 100");
        y.years(1);
        Check.due("all of it", y.person(0, 11) * 1000 + y.person(1, 11), 100000);
    }

    private static void trials() {
        Check.says("how many DEEDS all have DONE then together; FAME of all together");
        NeedleShop nobody = new NeedleShop();
        Check.due("nobody", nobody.trial(60, false) + nobody.trial(60, true) + nobody.span(60, true), 0);
        NeedleShop x = Check.lawful(with(new NeedleShop(), people(6, " under h") + ";shake 50"), "come 100;fame 100");
        x.does(0, 0);
        x.does(1, 0);
        String before = Check.looks(x);
        Check.due("none", x.trial(0, false) * 10 + x.trial(0, true), 20);
        Check.due("one", x.trial(1, false), 8);
        Check.due("fame of one", x.trial(1, true), 660);
        Check.due("sixty", x.trial(60, false) * 1000 + x.trial(60, true), 8660);
        Check.says("the least and the greatest number of DEEDS so from SEED 1, 2, .. 6");
        Check.due("none", x.span(0, false) * 10 + x.span(0, true), 22);
        Check.due("sure", x.span(1, false) * 10 + x.span(60, true), 88);
        Check.due("nothing stays", Check.looks(x).equals(before), true);
        Check.due("no act", x.count(10), 2);
    }

    private static void led() {
        Check.says("how many rows of THE LOG are of a person; the YEAR of the latest (none)");
        NeedleShop x = Check.shop("person age 1 luck 0;person age 1 luck 0;year 0");
        Check.due("none", x.led(0, false) * 10 + x.led(0, true), -1);
        x.rub(0, 0);
        Check.due("one in year 0", x.led(0, false) * 10 + x.led(0, true), 10);
        x.years(5);
        x.ink(1, 3);
        x.years(1);
        x.rub(0, 1);
        Check.due("two, the latest in 6", x.led(0, false) * 10 + x.led(0, true), 26);
        Check.due("one in 5", x.led(1, false) * 10 + x.led(1, true), 15);
    }

    private static int comes(NeedleShop x, String condition) {
        return Check.lawful(x, "come 50 if " + condition).person(0, 6) >= 50 ? 1 : 0;
    }

    /** A part is just its number: it is not below and not above it, but below one more and above one less. */
    private static void isJust(NeedleShop x, String part, int n) {
        Check.due(part + " is not below " + n, comes(x, part + "<" + n), 0);
        Check.due(part + " is not above " + n, comes(x, part + ">" + n), 0);
        Check.due(part + " is below " + (n + 1), comes(x, part + "<" + (n + 1)), 1);
        Check.due(part + "+1 is above " + n, comes(x, part + "+1>" + n), 1);
    }

    private static void lawFacts() {
        Check.says("kind: UNDER; done, rubbed: how many; deed: what its KIND TELLS; year: YEAR modulo 100");
        NeedleShop x = Check.shop("kind h marks " + ALL + " tells 0;kind a marks " + BARE + ";person age 99 luck 9 under h;year 99");
        isJust(x, "person", 0);
        isJust(x, "kind", 7);
        isJust(x, "age", 99);
        isJust(x, "luck", 9);
        isJust(x, "deed", 0);
        isJust(x, "year", 99);
        for (int n = 0; n <= 16; n += 8) {
            isJust(x, "rubbed", n);
            for (int i = 0; i < 8 && n < 16; i++) {
                x.rub(0, n + i);
            }
        }
        for (int deed = 0; deed < 8; deed++) {
            isJust(x, "done", deed);
            x.does(0, deed);
        }
        isJust(x, "done", 8);
        x.years(1);
        Check.due("the year 100", x.count(3), 100);
        isJust(x, "year", 0);
        NeedleShop sixth = with(new NeedleShop(), people(5, "") + ";person age 0 luck 0 under a");
        Check.lawful(sixth, "come 3 if person>4;come 4 if person<5");
        Check.due("the sixth is 5", sixth.person(5, 6), 3);
        Check.says("found: all MARKS of its KIND are RUBBED; known: no other KIND fits it (FITS)");
        NeedleShop y = with(kinds(0x8001, 0x8000, 1), people(1, " under a"));
        int[][] due = {{0, 0}, {0, 0}, {1, 1}};
        int[] rub = {0, 15};
        for (int i = 0; i <= 2; i++) {
            Check.due("found behind " + i, comes(y, "found"), due[i][0]);
            Check.due("known behind " + i, comes(y, "known"), due[i][1]);
            Check.due("not found behind " + i, comes(y, "not found"), 1 - due[i][0]);
            Check.due("not known behind " + i, comes(y, "not known"), 1 - due[i][1]);
            Check.due("both behind " + i, comes(y, "known and found and 1<2"), due[i][0] & due[i][1]);
            if (i < 2) {
                y.rub(0, rub[i]);
            }
        }
        NeedleShop bare = with(kinds(1), people(1, " under b"));
        Check.due("without marks it is found", comes(bare, "found"), 1);
        Check.due("but six others fit", comes(bare, "known"), 0);
        Check.due("999 and more", comes(bare, "999+999+999>998+999+999"), 1);
    }

    /** What a question leaves behind in the rows that it uses must not show in the next one's answer. */
    private static void oneBehindAnother() {
        Check.says("How the state is held inside the object is free");
        for (int n = 0; n <= 6; n++) {
            NeedleShop x = n == 0 ? kinds(1, 2, 4, 8, 16, 32, 64, 128) : with(kinds(1, 2, 4, 8, 16, 32, 64, 128), people(n, ""));
            for (int p = 0; p < n; p++) {
                x.does(p, p % 2);
            }
            for (int berths = 0; berths <= 6; berths++) {
                for (int k = 0; k < 8; k++) {
                    Check.due("few", x.kind(k, 3), 1 << k);
                    Check.due("pairs behind few", x.pairs(-1), n / 2 * 2);
                    Check.due("few", x.kind(k, 3), 1 << k);
                    Check.due("berths behind few", berth(x, -1, new int[berths]), Math.min(berths, (n + 1) / 2));
                    Check.due("pairs behind berths", x.pairs(-1), n / 2 * 2);
                }
                Check.due("crew behind all", x.crew(0) * 10 + x.crew(1), -1);
            }
        }
    }
}
