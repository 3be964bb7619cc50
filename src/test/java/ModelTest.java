import java.util.Random;

/** Drawn runs of at most 512 calls: each answer of NeedleShop against the Model's. */
public final class ModelTest {
    private static final int RUNS = 2000;

    private final Random random;
    private final NeedleShop shop = new NeedleShop();
    private final Model model = new Model();
    private final StringBuilder told = new StringBuilder();
    private int calls;
    private boolean apart;

    private ModelTest(long seed) {
        random = new Random(seed);
    }

    public static void main(String[] args) {
        int runs = args.length > 0 ? Integer.parseInt(args[0]) : RUNS;
        int from = args.length > 1 ? Integer.parseInt(args[1]) : 0;
        for (int run = from; run < from + runs; run++) {
            ModelTest test = new ModelTest(run);
            test.play();
            Check.due("run " + run + (test.apart ? ": " + test.told : ""), test.apart, false);
        }
        Check.finish("ModelTest");
    }

    private void play() {
        if (random.nextInt(8) != 0) {
            text(true, texts().shop());
        }
        if (random.nextInt(4) != 0) {
            text(false, texts().law());
        }
        int most = 100 + random.nextInt(380);
        while (calls < most && !apart) {
            step();
        }
    }

    private Texts texts() {
        return new Texts(random);
    }

    private int below(int n) {
        return random.nextInt(n);
    }

    /** Mostly 0 to n - 1, now and then beside it. */
    private int near(int n) {
        int r = below(40);
        return r == 0 ? -1 : r == 1 ? n : r == 2 ? random.nextInt() : below(n);
    }

    private void same(String call, Check.Call ours, Check.Call theirs) {
        calls++;
        int a = Check.of(ours);
        int b = Check.of(theirs);
        told.append(call).append(" -> ").append(a).append('\n');
        if (a != b) {
            told.append("the model says ").append(b);
            apart = true;
        }
    }

    private static int one(boolean b) {
        return b ? 1 : 0;
    }

    private void tape(String text) {
        int[] w = new int[5];
        for (int from = 0; from < text.length(); from += 20) {
            for (int i = 0; i < 20; i++) {
                int c = from + i < text.length() ? text.charAt(from + i) & 255 : 0;
                w[i / 4] = w[i / 4] << 8 | c;
            }
            same("feed", () -> shop.feed(w[0], w[1], w[2], w[3], w[4]), () -> model.feed(w));
        }
        same("end " + text.length(), () -> one(shop.end(text.length())), () -> one(model.end(text.length())));
    }

    private void text(boolean isShop, String text) {
        told.append('\'').append(text).append("'\n");
        tape(text);
        if (isShop) {
            same("shop", shop::shop, model::shop);
        } else {
            same("law", shop::law, model::law);
        }
        same("fault", shop::fault, model::fault);
    }

    private void rows(int firsts, int seconds) {
        StringBuilder rows = new StringBuilder();
        int n = below(30) == 0 ? below(44) : 2 * below(5);
        for (int i = 0; i < n; i++) {
            rows.append((char) (below(60) == 0 ? below(256) : below(Math.max(1, i % 2 == 0 ? firsts : seconds))));
        }
        tape(rows.toString());
    }

    private void step() {
        int p = near(Math.max(1, shop.count(0)));
        int k = near(8);
        int j = near(8);
        int place = near(16);
        int place2 = near(16);
        boolean flag = random.nextBoolean();
        int which = below(100);
        if (which < 30) {
            acts(which, p, k, j, place);
        } else if (which < 60) {
            looks(which, p, k, flag, place);
        } else if (which < 80) {
            plans(which, p, k, j, flag);
        } else {
            rest(which, p, k, j, flag, place, place2);
        }
    }

    private void acts(int which, int p, int k, int j, int place) {
        int n = near(10);
        int years = below(3) == 0 ? near(61) : 1 + below(3);
        int fill = near(1000);
        switch (which) {
            case 0: case 1: case 2: case 3: case 4: case 5:
                same("years " + years, () -> shop.years(years), () -> model.years(years));
                break;
            case 6: case 7: case 8: case 9: case 10: case 11:
                same("rub " + p + " " + place, () -> one(shop.rub(p, place)), () -> one(model.rub(p, place)));
                break;
            case 12: case 13:
                same("ink " + p + " " + k, () -> shop.ink(p, k), () -> model.ink(p, k));
                break;
            case 14: case 15:
                same("wash " + p, () -> shop.wash(p), () -> model.wash(p));
                break;
            case 16: case 17:
                same("told " + k + " " + j, () -> shop.told(k, j), () -> model.told(k, j));
                break;
            case 18: case 19: case 20:
                int h = below(3) == 0 ? -1 : j;
                same("hold " + k + " " + h, () -> shop.hold(k, h), () -> model.hold(k, h));
                break;
            case 21: case 22:
                same("does " + p + " " + k, () -> shop.does(p, k), () -> model.does(p, k));
                break;
            case 23:
                same("luck " + p + " " + n, () -> shop.luck(p, n), () -> model.luck(p, n));
                break;
            case 24:
                same("fill " + fill, () -> shop.fill(fill), () -> model.fill(fill));
                break;
            case 25: case 26:
                same("undo", () -> one(shop.undo()), () -> one(model.undo()));
                break;
            case 27:
                shop.image();
                model.image();
                told.append("image\n");
                break;
            case 28:
                if (below(4) == 0) {
                    same("back", () -> one(shop.back()), () -> one(model.back()));
                }
                break;
            default:
                int seed = below(2) == 0 ? random.nextInt() : below(7);
                same("seed " + seed, () -> shop.seed(seed), () -> model.seed(seed));
                break;
        }
    }

    private void looks(int which, int p, int k, boolean flag, int place) {
        int what = near(12);
        if (which < 38) {
            same("kind " + k + " " + what, () -> shop.kind(k, what), () -> model.kind(k, what));
        } else if (which < 52) {
            same("person " + p + " " + what, () -> shop.person(p, what), () -> model.person(p, what));
        } else if (which < 54) {
            same("mark " + p + " " + place, () -> one(shop.mark(p, place)), () -> one(model.mark(p, place)));
        } else if (which < 55) {
            same("blank " + p, () -> one(shop.blank(p)), () -> one(model.blank(p)));
        } else if (which < 57) {
            int ago = near(Math.max(1, shop.count(9)));
            int part = near(4);
            same("log " + ago + " " + part, () -> shop.log(ago, part), () -> model.log(ago, part));
        } else if (which < 58) {
            same("led " + p + " " + flag, () -> shop.led(p, flag), () -> model.led(p, flag));
        } else {
            same("count " + what, () -> shop.count(what), () -> model.count(what));
        }
    }

    private void plans(int which, int p, int k, int j, boolean flag) {
        int deeds = below(10) == 0 ? random.nextInt() : below(256) & below(256);
        int n = near(61);
        switch (which) {
            case 60:
                rows(8, 8);
                same("rules", () -> shop.rules(flag), () -> model.rules(flag));
                break;
            case 61:
                rows(8, 8);
                same("ask", shop::ask, model::ask);
                break;
            case 62:
                same("now", shop::now, model::now);
                break;
            case 63: case 64:
                same("crew " + deeds, () -> shop.crew(deeds), () -> model.crew(deeds));
                break;
            case 65: case 66: case 67:
                StringBuilder berths = new StringBuilder();
                int size = below(30) == 0 ? 7 : below(7);
                for (int i = 0; i < size; i++) {
                    berths.append((char) (below(50) == 0 ? 8 : below(flag ? 8 : 3)));
                }
                tape(berths.toString());
                int b = below(3) == 0 ? -1 : near(6);
                same("berths " + b, () -> shop.berths(b), () -> model.berths(b));
                break;
            case 68: case 69:
                same("inks " + deeds, () -> shop.inks(deeds), () -> model.inks(deeds));
                break;
            case 70:
                int age = near(100);
                same("old " + age, () -> shop.old(age), () -> model.old(age));
                break;
            case 71:
                rows(Math.max(1, shop.count(0)), 2);
                same("clash", shop::clash, model::clash);
                break;
            case 72: case 73: case 74:
                int one = below(3) == 0 ? -1 : p;
                same("pairs " + one, () -> shop.pairs(one), () -> model.pairs(one));
                break;
            case 75: case 76:
                int what = near(2);
                same("ahead " + p + " " + n + " " + what, () -> shop.ahead(p, n, what), () -> model.ahead(p, n, what));
                break;
            case 77: case 78:
                same("trial " + n + " " + flag, () -> shop.trial(n, flag), () -> model.trial(n, flag));
                break;
            default:
                same("span " + n + " " + flag, () -> shop.span(n, flag), () -> model.span(n, flag));
                break;
        }
    }

    private void rest(int which, int p, int k, int j, boolean flag, int place, int place2) {
        int p2 = near(Math.max(1, shop.count(0)));
        int n = near(5);
        switch (which) {
            case 80: case 81:
                same("reach " + k + " " + place + " " + place2, () -> shop.reach(k, place, place2), () -> model.reach(k, place, place2));
                break;
            case 82:
                same("turned " + k + " " + j, () -> shop.turned(k, j), () -> model.turned(k, j));
                break;
            case 83: case 84:
                same("shifts " + k + " " + j + flag, () -> shop.shifts(k, j, flag), () -> model.shifts(k, j, flag));
                break;
            case 85:
                same("ring " + k, () -> one(shop.ring(k)), () -> one(model.ring(k)));
                break;
            case 86:
                same("deepest", shop::deepest, model::deepest);
                break;
            case 87:
                same("kin " + p + " " + p2, () -> shop.kin(p, p2), () -> model.kin(p, p2));
                break;
            case 88:
                same("rests " + p, () -> shop.rests(p), () -> model.rests(p));
                break;
            case 89:
                same("odds " + p + " " + n, () -> shop.odds(p, n), () -> model.odds(p, n));
                break;
            case 90:
                same("plain", shop::plain, model::plain);
                break;
            case 91:
                same("found", shop::found, model::found);
                break;
            case 92:
                same("soFar", shop::soFar, model::soFar);
                break;
            case 93:
                same("eldest", shop::eldest, model::eldest);
                break;
            case 94:
                same("famous", shop::famous, model::famous);
                break;
            case 95:
                same("twins", shop::twins, model::twins);
                break;
            case 96:
                same("tellers " + k, () -> shop.tellers(k), () -> model.tellers(k));
                break;
            case 97:
                text(true, texts().shop());
                break;
            default:
                text(false, texts().law());
                break;
        }
    }
}
