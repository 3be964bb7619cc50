import java.util.Random;

/** Drawn texts of THE SHOP and THE LAW, some of them spoilt at a drawn place. */
final class Texts {
    private final Random random;

    Texts(Random random) {
        this.random = random;
    }

    private int below(int n) {
        return random.nextInt(n);
    }

    private String letter() {
        return String.valueOf((char) ('a' + below(8)));
    }

    /** Now and then one beyond the bound, or a number of another length. */
    private String number(int most) {
        int r = below(80);
        if (r == 0) {
            return String.valueOf(most + 1);
        }
        if (r == 1) {
            return "000" + below(10);
        }
        return r == 2 ? "0" + below(Math.min(most, 9) + 1) : String.valueOf(below(most + 1));
    }

    private String gap() {
        int r = below(30);
        return r == 0 ? "  " : r == 1 ? "   " : " ";
    }

    private String sign(String s) {
        int r = below(4);
        return r == 0 ? " " + s : r == 1 ? s + " " : r == 2 ? " " + s + " " : s;
    }

    private String cut(String text) {
        return text.length() > 400 ? text.substring(0, 400) : text;
    }

    private String spoilt(String text) {
        if (below(5) != 0 || text.isEmpty()) {
            return cut(text);
        }
        int at = below(text.length());
        String signs = " ;()<>+az01k9A=";
        String put = String.valueOf(signs.charAt(below(signs.length())));
        switch (below(4)) {
            case 0:
                return cut(text.substring(0, at));
            case 1:
                return cut(text.substring(0, at) + put + text.substring(at));
            case 2:
                return cut(text.substring(0, at) + put + text.substring(at + 1));
            default:
                return cut(text.substring(0, at) + text.substring(at + 1));
        }
    }

    String shop() {
        int lines = below(12) == 0 ? 13 + below(3) : below(8);
        StringBuilder text = new StringBuilder(below(6) == 0 ? " " : "");
        for (int i = 0; i < lines; i++) {
            text.append(i > 0 ? sign(";") : "").append(lines > 12 ? "year " + number(999) : shopLine());
        }
        return spoilt(text.toString());
    }

    private String shopLine() {
        int r = below(10);
        if (r < 4) {
            StringBuilder line = new StringBuilder("kind" + gap() + letter() + gap() + "marks");
            int dense = 1 + below(4);
            for (int row = 0; row < 4; row++) {
                line.append(gap());
                for (int c = 0; c < 4; c++) {
                    line.append(below(5) < dense ? '1' : '0');
                }
            }
            if (below(3) == 0) {
                line.append(gap()).append("tells").append(gap()).append(number(7));
            }
            if (below(3) == 0) {
                line.append(gap()).append("holds").append(gap()).append(letter());
            }
            return line.toString();
        }
        if (r < 7) {
            String under = below(4) == 0 ? "" : gap() + "under" + gap() + letter();
            return "person" + gap() + "age" + gap() + number(99) + gap() + "luck" + gap() + number(9) + under;
        }
        return r == 7 ? "shake " + number(100) : r == 8 ? "purse " + number(999) : "year " + number(999);
    }

    String law() {
        int lines = below(12) == 0 ? 11 + below(3) : below(6);
        StringBuilder text = new StringBuilder();
        for (int i = 0; i < lines; i++) {
            String verb = new String[]{"come", "come", "stay", "fame"}[below(4)];
            text.append(i > 0 ? sign(";") : "").append(verb).append(gap()).append(number(100));
            if (below(3) != 0) {
                text.append(gap()).append("if").append(gap()).append(anyOf(below(20) == 0 ? 7 : 3));
            }
        }
        return spoilt(text.toString());
    }

    private String anyOf(int deep) {
        String text = allOf(deep);
        return below(4) == 0 ? text + gap() + "or" + gap() + allOf(deep) : text;
    }

    private String allOf(int deep) {
        String text = atom(deep);
        return below(4) == 0 ? text + gap() + "and" + gap() + atom(deep) : text;
    }

    private String atom(int deep) {
        int r = below(deep > 3 ? 4 : 9);
        if (deep > 0 && r < 2) {
            return "not" + gap() + atom(deep - 1);
        }
        if (deep > 0 && r < 4) {
            return sign("(") + anyOf(deep - 1) + sign(")");
        }
        if (r == 4) {
            return "found";
        }
        if (r == 5) {
            return "known";
        }
        return sum() + sign(below(2) == 0 ? "<" : ">") + sum();
    }

    private String sum() {
        return below(4) == 0 ? part() + sign("+") + part() : part();
    }

    private String part() {
        String[] words = {"person", "kind", "age", "luck", "done", "rubbed", "deed", "year"};
        return below(2) == 0 ? words[below(8)] : number(below(3) == 0 ? 999 : below(2) == 0 ? 99 : 9);
    }
}
