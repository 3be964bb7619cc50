/** Promises 7 and 20 to 24, 43: kinds, their marks as figures, and kinds within kinds. */
public final class KindTest {
    private KindTest() {
    }

    public static void main(String[] args) {
        questions();
        pieces();
        few();
        ways();
        turnsAndShifts();
        nests();
        wrongs();
        Check.finish("KindTest");
    }

    private static void questions() {
        NeedleShop x = Check.shop("kind a marks 1000 0000 0000 0000 tells 3;kind b marks 1000 0000 0000 0000;"
            + "person age 1 luck 1 under b;person age 1 luck 1;person age 1 luck 1 under b");
        Check.due("one mark is one piece", x.kind(0, 5), 1);
        Check.due("one mark is the largest piece", x.kind(0, 6), 1);
        Check.due("same of a", x.kind(0, 4), 3);
        Check.due("same of c", x.kind(2, 4), 252);
        Check.due("bearers", x.kind(1, 10), 5);
        Check.due("no bearers", x.kind(0, 10), 0);
        Check.due("tellers of 3", x.tellers(3), 9);
        Check.due("tellers of 0", x.tellers(0), 0);
        Check.due("few of one with a twin", x.kind(0, 3), -1);
    }

    private static void pieces() {
        NeedleShop x = Check.shop("kind a marks 1010 0101 1010 0101;kind b marks 1111 0001 1111 1000;"
            + "kind c marks 0110 1001 0110 0000;kind d marks 1111 1111 1111 1111;kind e marks 1001 0000 0000 1001;"
            + "kind f marks 0001 1000 0000 0000;kind g marks 1111 1001 1011 1011");
        int[] pieces = {8, 1, 4, 1, 4, 2, 1, 0};
        int[] largest = {1, 10, 2, 16, 1, 1, 12, 0};
        int[] holes = {0b0000_0010_0100_0000, 0, 0b0000_0000_0110_0000, 0, 0, 0, 0, 0};
        for (int k = 0; k < 8; k++) {
            Check.due("pieces " + k, x.kind(k, 5), pieces[k]);
            Check.due("largest " + k, x.kind(k, 6), largest[k]);
            Check.due("holes " + k, x.kind(k, 7), holes[k]);
        }
        Check.tape(x, "kind g marks 1111 1001 1011 1101");
        x.shop();
        Check.due("a hole of three, bare at a corner of the edge alone", x.kind(6, 7), 0b0000_0010_0110_0000);
    }

    private static void few() {
        NeedleShop x = Check.shop("kind a marks 1110 0000 0000 0000;kind b marks 1100 0000 0000 0000;"
            + "kind c marks 1010 0000 0000 0000;kind d marks 0110 0000 0000 0000;kind e marks 1000 0000 0000 0000;"
            + "kind f marks 0100 0000 0000 0000;kind g marks 0010 0000 0000 0000");
        for (int k = 0; k < 8; k++) {
            Check.due("few needs three", x.kind(k, 3), 7);
        }
        Check.tape(x, "kind h marks 0000 0000 0000 0001");
        x.shop();
        Check.due("few needs one", x.kind(7, 3), 32768);
        Check.due("few of a", x.kind(0, 3), 7);
        Check.due("few of e", x.kind(4, 3), 7);
        NeedleShop y = Check.shop("kind a marks 0000 0000 0000 0000;kind b marks 0100 0000 0000 0001;"
            + "kind c marks 0010 0000 0000 0001;kind d marks 0001 0000 0000 0001;kind e marks 0000 1000 0000 0001;"
            + "kind f marks 0000 0100 0000 0001;kind g marks 0000 0010 0000 0001;kind h marks 0000 0001 0000 0001");
        Check.due("few by one place for all", y.kind(0, 3), 32768);
        Check.due("few of b", y.kind(1, 3), 2);
        NeedleShop z = Check.shop("kind b marks 1000 0000 0000 0000;kind c marks 0100 0000 0000 0000;"
            + "kind d marks 0010 0000 0000 0000;kind e marks 0001 0000 0000 0000;kind f marks 0000 1000 0000 0000;"
            + "kind g marks 0000 0100 0000 0000;kind h marks 0000 0000 0000 0001");
        Check.due("few needs seven", z.kind(0, 3), 0b1000_0000_0011_1111);
    }

    private static void ways() {
        NeedleShop x = Check.shop("kind a marks 1111 0001 1111 1000;kind b marks 1001 0000 0000 0000");
        Check.due("along the snake", x.reach(0, 0, 12), 9);
        Check.due("and back", x.reach(0, 12, 0), 9);
        Check.due("one place", x.reach(0, 7, 7), 0);
        Check.due("one place without", x.reach(0, 5, 5), -1);
        Check.due("to none", x.reach(0, 0, 4), -1);
        Check.due("from none", x.reach(0, 4, 0), -1);
        Check.due("rows do not join at their ends", x.reach(1, 0, 3), -1);
        NeedleShop y = Check.shop("kind a marks 0001 1000 0000 0000");
        Check.due("3 and 4 are no neighbours", y.reach(0, 3, 4), -1);
    }

    private static void turnsAndShifts() {
        NeedleShop x = Check.shop("kind a marks 1100 0000 0000 0000;kind b marks 0001 0001 0000 0000;"
            + "kind c marks 0000 0000 0000 0011;kind d marks 0000 0000 1000 1000;kind e marks 1111 1111 1111 1111;"
            + "kind f marks 0000 0110 0110 0000");
        for (int k = 0; k < 4; k++) {
            Check.due("turns of a to " + k, x.turned(0, k), k);
            Check.due("turns of it to a", x.turned(k, 0), (4 - k) % 4);
        }
        Check.due("all is one by no turn", x.turned(4, 4), 0);
        Check.due("none", x.turned(0, 4), -1);
        Check.due("nothing turned", x.turned(6, 7), 0);
        Check.due("shift of a to c", x.shifts(0, 2, false), 7 * 6 + 5);
        Check.due("both lie", x.shifts(0, 2, true), 2);
        Check.due("shift of c to a", x.shifts(2, 0, false), 7 * 0 + 1);
        Check.due("a to itself", x.shifts(0, 0, false), 24);
        Check.due("of several the least: one below the other", x.shifts(0, 1, false), 7 * 3 + 5);
        Check.due("one lies", x.shifts(0, 1, true), 1);
        Check.due("f in all: up and left first", x.shifts(5, 4, false), 7 * 2 + 2);
        Check.due("four lie", x.shifts(5, 4, true), 4);
        Check.due("all to f", x.shifts(4, 5, false), 7 * 2 + 2);
        Check.due("without marks", x.shifts(6, 4, false) + x.shifts(6, 4, true), 0);
        Check.due("on no marks", x.shifts(4, 6, false) + x.shifts(4, 6, true), 0);
    }

    private static void nests() {
        NeedleShop x = new NeedleShop();
        for (int k = 7; k > 0; k--) {
            x.hold(k, k - 1);
        }
        for (int k = 0; k < 8; k++) {
            Check.due("deep " + k, x.kind(k, 8), k + 1);
            Check.due("within " + k, x.kind(k, 9), (2 << k) - 1);
            Check.due("ring " + k, x.ring(k), false);
        }
        Check.due("deepest", x.deepest(), 7);
        Check.due("held", x.hold(3, 5), 2);
        Check.due("ring of 3, 5, 4", x.ring(3) && x.ring(4) && x.ring(5), true);
        Check.due("6 leads into it", x.ring(6), false);
        Check.due("within 6", x.kind(6, 9), 0b1111000);
        Check.due("6 never ends", x.kind(6, 8), -1);
        Check.due("within 4", x.kind(4, 9), 0b111000);
        Check.due("deepest that ends", x.deepest(), 2);
        x.hold(1, -1);
        Check.due("deepest, the least of several", x.deepest(), 2);
        x.hold(2, -1);
        Check.due("of several the least", x.deepest(), 0);
        x.hold(0, 0);
        x.hold(1, 0);
        x.hold(2, 1);
        Check.due("none ends", x.deepest(), -1);
        Check.due("within 2", x.kind(2, 9), 7);
        Check.due("a ring of one", x.ring(0), true);
        Check.due("eight in one ring", ringOfAll(), 8 * 255);
    }

    private static int ringOfAll() {
        NeedleShop x = new NeedleShop();
        int sum = 0;
        for (int k = 0; k < 8; k++) {
            x.hold(k, (k + 3) % 8);
        }
        for (int k = 0; k < 8; k++) {
            sum += x.ring(k) && x.kind(k, 8) == -1 ? x.kind(k, 9) : 0;
        }
        return sum;
    }

    private static void wrongs() {
        NeedleShop x = new NeedleShop();
        int[] none = {-1, 8, Integer.MIN_VALUE, Integer.MAX_VALUE};
        for (int k : none) {
            Check.due("kind", Check.of(() -> x.kind(k, 99)), Check.INDEX);
            Check.due("reach", Check.of(() -> x.reach(k, 0, 0)), Check.INDEX);
            Check.due("reach place", Check.of(() -> x.reach(0, k == 8 ? 16 : k, 0)), Check.INDEX);
            Check.due("reach other", Check.of(() -> x.reach(0, 0, k == 8 ? 16 : k)), Check.INDEX);
            Check.due("turned", Check.of(() -> x.turned(k, 0)), Check.INDEX);
            Check.due("turned other", Check.of(() -> x.turned(0, k)), Check.INDEX);
            Check.due("shifts", Check.of(() -> x.shifts(k, 0, true)), Check.INDEX);
            Check.due("shifts other", Check.of(() -> x.shifts(0, k, false)), Check.INDEX);
            Check.due("ring", Check.of(() -> x.ring(k) ? 1 : 0), Check.INDEX);
            Check.due("tellers", Check.of(() -> x.tellers(k)), Check.INDEX);
        }
        int[] noWhat = {-1, 11, Integer.MIN_VALUE, Integer.MAX_VALUE};
        for (int what : noWhat) {
            Check.due("kind what", Check.of(() -> x.kind(0, what)), Check.ELEMENT);
        }
    }
}
