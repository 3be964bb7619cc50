import java.io.IOException;
import java.nio.file.Files;
import java.nio.file.Path;
import java.util.NoSuchElementException;

/** What the tests share: telling the tape, comparing answers, and the exit code. */
final class Check {
    interface Call {
        int answer();
    }

    static final int INDEX = -101;
    static final int ARGUMENT = -102;
    static final int STATE = -103;
    static final int UNSUPPORTED = -104;
    static final int ELEMENT = -105;

    private static final Path DOCUMENT = Path.of("../shared/DOC.md");

    private static int asked;
    private static int wrong;
    private static String document;
    private static String sentence = "";

    private Check() {
    }

    static void due(String what, int got, int want) {
        asked++;
        if (got != want) {
            wrong++;
            System.out.println(sentence + what + " answered " + got + ", due is " + want);
        }
    }

    /** What is asked from here on is asked for these words, which the document must have. */
    static void says(String words) {
        sentence = "";
        due("the document says '" + words + "'", document().contains(words), true);
        sentence = "[" + words + "] ";
    }

    private static String document() {
        try {
            document = document == null ? Files.readString(DOCUMENT) : document;
            return document;
        } catch (IOException e) {
            throw new IllegalStateException("no document at " + DOCUMENT, e);
        }
    }

    static void due(String what, boolean got, boolean want) {
        due(what, got ? 1 : 0, want ? 1 : 0);
    }

    /** The answer, or the number that stands for the very class of the exception. */
    static int of(Call call) {
        try {
            return call.answer();
        } catch (RuntimeException e) {
            Class<?> c = e.getClass();
            if (c == IndexOutOfBoundsException.class) {
                return INDEX;
            } else if (c == IllegalArgumentException.class) {
                return ARGUMENT;
            } else if (c == IllegalStateException.class) {
                return STATE;
            } else if (c == UnsupportedOperationException.class) {
                return UNSUPPORTED;
            } else if (c == NoSuchElementException.class) {
                return ELEMENT;
            }
            throw e;
        }
    }

    static void tape(NeedleShop shop, String text) {
        shop.end(0);
        int[] word = new int[5];
        for (int from = 0; from < text.length(); from += 20) {
            for (int i = 0; i < 5; i++) {
                word[i] = 0;
                for (int j = 0; j < 4; j++) {
                    int at = from + 4 * i + j;
                    word[i] = word[i] << 8 | (at < text.length() ? text.charAt(at) & 255 : 0);
                }
            }
            if (shop.feed(word[0], word[1], word[2], word[3], word[4]) < 0) {
                throw new IllegalStateException("the test's text is too long");
            }
        }
        shop.end(text.length());
    }

    static void tape(NeedleShop shop, int... bytes) {
        StringBuilder text = new StringBuilder();
        for (int b : bytes) {
            text.append((char) b);
        }
        tape(shop, text.toString());
    }

    static NeedleShop shop(String... texts) {
        NeedleShop shop = new NeedleShop();
        for (String text : texts) {
            tape(shop, text);
            shop.shop();
        }
        return shop;
    }

    static NeedleShop lawful(NeedleShop shop, String law) {
        tape(shop, law);
        shop.law();
        return shop;
    }

    /** A wrong text of THE SHOP, told to a copy-free shop: where it is wrong. */
    static void wrongShop(NeedleShop shop, String text, int at) {
        tape(shop, text);
        due("shop of '" + text + "'", of(shop::shop), at < 0 ? of(() -> shop.count(1)) : ARGUMENT);
        due("fault of '" + text + "'", shop.fault(), at);
    }

    static void wrongLaw(NeedleShop shop, String text, int at) {
        tape(shop, text);
        due("law of '" + text + "'", of(shop::law), at < 0 ? of(() -> shop.count(2)) : ARGUMENT);
        due("fault of '" + text + "'", shop.fault(), at);
    }

    /** All that a shop tells of itself and no call changes by being asked, in one text. */
    static String looks(NeedleShop x) {
        StringBuilder all = new StringBuilder();
        for (int what = 0; what < 10; what++) {
            all.append(x.count(what)).append(' ');
        }
        for (int k = 0; k < 8; k++) {
            all.append(x.kind(k, 0)).append(' ').append(x.kind(k, 1)).append(' ').append(x.kind(k, 2)).append(' ');
        }
        for (int p = 0; p < x.count(0); p++) {
            for (int what = 0; what < 7; what++) {
                all.append(x.person(p, what)).append(' ');
            }
        }
        for (int ago = 0; ago < x.count(9); ago++) {
            for (int what = 0; what < 4; what++) {
                all.append(x.log(ago, what)).append(' ');
            }
        }
        int seed = x.seed(0);
        x.seed(seed);
        return all.append(seed).toString();
    }

    /** Whether the tape has so many bytes; it has these still when it was asked. */
    static boolean tapeHas(NeedleShop x, int n) {
        return !x.end(n + 1) && x.end(n);
    }

    static void finish(String name) {
        System.out.println(name + ": " + asked + " answers, " + wrong + " wrong");
        System.exit(wrong == 0 && asked > 0 ? 0 : 1);
    }
}
