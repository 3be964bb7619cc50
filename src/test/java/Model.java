import java.util.ArrayDeque;
import java.util.ArrayList;
import java.util.Arrays;
import java.util.HashSet;
import java.util.List;
import java.util.NoSuchElementException;
import java.util.Set;

/** The document told a second time, as slowly and plainly as can be, to hold NeedleShop against. */
final class Model {
    static final int NONE = -1;

    /** A text's first wrong byte. */
    static final class Wrong extends RuntimeException {
        private static final long serialVersionUID = 1L;
        final int at;

        Wrong(int at) {
            super("wrong", null, false, false);
            this.at = at;
        }
    }

    static final class Person {
        Integer under;
        Set<Integer> rubbed = new HashSet<>();
        int age;
        int luck;
        Set<Integer> done = new HashSet<>();
        int fame;

        Person copy() {
            Person p = new Person();
            p.under = under;
            p.rubbed = new HashSet<>(rubbed);
            p.age = age;
            p.luck = luck;
            p.done = new HashSet<>(done);
            p.fame = fame;
            return p;
        }
    }

    static final class World {
        boolean[][] marks = new boolean[8][16];
        int[] tells = {0, 1, 2, 3, 4, 5, 6, 7};
        Integer[] holds = new Integer[8];
        List<Person> people = new ArrayList<>();
        int shake;
        int year;
        int purse = 100;
        int seed = 1;
        int texts;
        List<int[]> log = new ArrayList<>();
        List<Line> law;

        World copy() {
            World w = new World();
            for (int k = 0; k < 8; k++) {
                w.marks[k] = marks[k].clone();
            }
            w.tells = tells.clone();
            w.holds = holds.clone();
            for (Person p : people) {
                w.people.add(p.copy());
            }
            w.shake = shake;
            w.year = year;
            w.purse = purse;
            w.seed = seed;
            w.texts = texts;
            w.log = new ArrayList<>(log);
            w.law = law;
            return w;
        }
    }

    interface Cond {
        boolean holds(World w, int person);
    }

    interface Sum {
        int of(World w, int person);
    }

    record Line(String verb, int n, Cond cond) {
    }

    record Token(int sort, String text, int at) {
    }

    private static final int WORD = 0;
    private static final int DIGITS = 1;
    private static final int OTHER = 2;
    private static final int END = 3;

    private String tape = "";
    private int fault = NONE;
    private World world = new World();
    private World image;
    private List<World> past = new ArrayList<>();

    private List<Token> tokens;
    private int next;

    // ---- texts

    private static List<Token> split(String text) {
        List<Token> all = new ArrayList<>();
        int i = 0;
        while (i < text.length()) {
            int from = i;
            char c = text.charAt(i);
            if (c == ' ') {
                i++;
                continue;
            }
            int sort = c >= 'a' && c <= 'z' ? WORD : c >= '0' && c <= '9' ? DIGITS : OTHER;
            i++;
            while (sort != OTHER && i < text.length()) {
                char d = text.charAt(i);
                boolean same = sort == WORD ? d >= 'a' && d <= 'z' : d >= '0' && d <= '9';
                if (!same) {
                    break;
                }
                i++;
            }
            all.add(new Token(sort, text.substring(from, i), from));
        }
        all.add(new Token(END, "", text.length()));
        return all;
    }

    private Token peek() {
        return tokens.get(next);
    }

    private boolean sees(String text) {
        return peek().text.equals(text) && peek().sort != END;
    }

    private void word(String text) {
        if (!sees(text)) {
            throw new Wrong(peek().at);
        }
        next++;
    }

    private int number(int most) {
        Token t = peek();
        if (t.sort != DIGITS || t.text.length() > 3 || Integer.parseInt(t.text) > most) {
            throw new Wrong(t.at);
        }
        next++;
        return Integer.parseInt(t.text);
    }

    private int kindLetter() {
        Token t = peek();
        if (t.sort != WORD || t.text.length() != 1 || t.text.charAt(0) > 'h') {
            throw new Wrong(t.at);
        }
        next++;
        return t.text.charAt(0) - 'a';
    }

    private void shopLine(World w) {
        if (sees("kind")) {
            next++;
            int k = kindLetter();
            word("marks");
            boolean[] marks = new boolean[16];
            for (int row = 0; row < 4; row++) {
                Token t = peek();
                if (!t.text.matches("[01]{4}")) {
                    throw new Wrong(t.at);
                }
                for (int c = 0; c < 4; c++) {
                    marks[4 * row + c] = t.text.charAt(c) == '1';
                }
                next++;
            }
            w.marks[k] = marks;
            if (sees("tells")) {
                next++;
                w.tells[k] = number(7);
            }
            if (sees("holds")) {
                next++;
                w.holds[k] = kindLetter();
            }
        } else if (sees("person")) {
            if (w.people.size() == 6) {
                throw new Wrong(peek().at);
            }
            next++;
            Person p = new Person();
            word("age");
            p.age = number(99);
            word("luck");
            p.luck = number(9);
            if (sees("under")) {
                next++;
                p.under = kindLetter();
            }
            w.people.add(p);
        } else if (sees("shake")) {
            next++;
            w.shake = number(100);
        } else if (sees("purse")) {
            next++;
            w.purse = number(999);
        } else if (sees("year")) {
            next++;
            w.year = number(999);
        } else {
            throw new Wrong(peek().at);
        }
    }

    private Line lawLine() {
        String verb = peek().text;
        if (!verb.equals("come") && !verb.equals("stay") && !verb.equals("fame")) {
            throw new Wrong(peek().at);
        }
        next++;
        int n = number(100);
        Cond cond = (w, p) -> true;
        if (sees("if")) {
            next++;
            cond = anyOf(0);
        }
        return new Line(verb, n, cond);
    }

    private Cond anyOf(int deep) {
        List<Cond> parts = new ArrayList<>(List.of(allOf(deep)));
        while (sees("or")) {
            next++;
            parts.add(allOf(deep));
        }
        return (w, p) -> parts.stream().anyMatch(c -> c.holds(w, p));
    }

    private Cond allOf(int deep) {
        List<Cond> parts = new ArrayList<>(List.of(atom(deep)));
        while (sees("and")) {
            next++;
            parts.add(atom(deep));
        }
        return (w, p) -> parts.stream().allMatch(c -> c.holds(w, p));
    }

    private Cond atom(int deep) {
        if (sees("not") || sees("(")) {
            boolean not = sees("not");
            if (deep == 6) {
                throw new Wrong(peek().at);
            }
            next++;
            if (not) {
                Cond inner = atom(deep + 1);
                return (w, p) -> !inner.holds(w, p);
            }
            Cond inner = anyOf(deep + 1);
            word(")");
            return inner;
        }
        if (sees("found")) {
            next++;
            return Model::isFound;
        }
        if (sees("known")) {
            next++;
            return (w, p) -> fits(w, p).size() == 1;
        }
        Sum left = sum();
        boolean less = sees("<");
        if (!less && !sees(">")) {
            throw new Wrong(peek().at);
        }
        next++;
        Sum right = sum();
        return less ? (w, p) -> left.of(w, p) < right.of(w, p) : (w, p) -> left.of(w, p) > right.of(w, p);
    }

    private Sum sum() {
        List<Sum> parts = new ArrayList<>(List.of(part()));
        while (sees("+")) {
            next++;
            parts.add(part());
        }
        return (w, p) -> parts.stream().mapToInt(s -> s.of(w, p)).sum();
    }

    private Sum part() {
        Token t = peek();
        if (t.sort == DIGITS) {
            int n = number(999);
            return (w, p) -> n;
        }
        next++;
        switch (t.text) {
            case "person":
                return (w, p) -> p;
            case "kind":
                return (w, p) -> w.people.get(p).under;
            case "age":
                return (w, p) -> w.people.get(p).age;
            case "luck":
                return (w, p) -> w.people.get(p).luck;
            case "done":
                return (w, p) -> w.people.get(p).done.size();
            case "rubbed":
                return (w, p) -> w.people.get(p).rubbed.size();
            case "deed":
                return (w, p) -> w.tells[w.people.get(p).under];
            case "year":
                return (w, p) -> w.year % 100;
            default:
                throw new Wrong(t.at);
        }
    }

    private void open() {
        tokens = split(tape);
        next = 0;
        tape = "";
    }

    private void lineEnd(int lines, int most) {
        if (!sees(";")) {
            throw new Wrong(peek().at);
        }
        next++;
        if (lines == most) {
            throw new Wrong(peek().at);
        }
    }

    int shop() {
        open();
        World w = world.copy();
        fault = NONE;
        try {
            int lines = 0;
            if (peek().sort != END) {
                shopLine(w);
                lines++;
                while (peek().sort != END) {
                    lineEnd(lines, 14);
                    shopLine(w);
                    lines++;
                }
            }
        } catch (Wrong e) {
            fault = e.at;
            throw new IllegalArgumentException();
        }
        if (world.texts == 12) {
            throw new UnsupportedOperationException();
        }
        world = w;
        past.clear();
        return ++world.texts;
    }

    int law() {
        open();
        List<Line> lines = new ArrayList<>();
        fault = NONE;
        try {
            if (peek().sort != END) {
                lines.add(lawLine());
                while (peek().sort != END) {
                    lineEnd(lines.size(), 12);
                    lines.add(lawLine());
                }
            }
        } catch (Wrong e) {
            fault = e.at;
            throw new IllegalArgumentException();
        }
        world.law = lines;
        past.clear();
        return lines.size();
    }

    int fault() {
        return fault;
    }

    int feed(int... numbers) {
        if (tape.length() + 20 > 400) {
            return NONE;
        }
        for (int n : numbers) {
            for (int i = 3; i >= 0; i--) {
                tape += (char) (n >> 8 * i & 255);
            }
        }
        return tape.length();
    }

    boolean end(int n) {
        if (n < 0 || tape.length() < n) {
            return false;
        }
        tape = tape.substring(0, n);
        return true;
    }

    // ---- words of the document

    private static int bits(Iterable<Integer> set) {
        int b = 0;
        for (int i : set) {
            b |= 1 << i;
        }
        return b;
    }

    private static int orNone(Integer i) {
        return i == null ? NONE : i;
    }

    private static boolean isFound(World w, int p) {
        Person who = w.people.get(p);
        for (int place = 0; place < 16; place++) {
            if (w.marks[who.under][place] && !who.rubbed.contains(place)) {
                return false;
            }
        }
        return true;
    }

    private static Set<Integer> fits(World w, int p) {
        Person who = w.people.get(p);
        Set<Integer> kinds = new HashSet<>();
        for (int k = 0; k < 8 && who.under != null; k++) {
            boolean same = true;
            for (int place : who.rubbed) {
                same &= w.marks[k][place] == w.marks[who.under][place];
            }
            if (same) {
                kinds.add(k);
            }
        }
        return kinds;
    }

    private static int lines(World w, int p, String verb) {
        int sum = 0;
        if (w.law != null) {
            for (Line l : w.law) {
                if (l.verb.equals(verb) && l.cond.holds(w, p)) {
                    sum += l.n;
                }
            }
        }
        return sum;
    }

    private static int comes(World w, int p) {
        Person who = w.people.get(p);
        if (who.under == null) {
            return 0;
        }
        int by = who.age / 10 + who.luck + lines(w, p, "come") - lines(w, p, "stay");
        return by < 0 ? 0 : by > 100 ? 100 : by;
    }

    private static int draw(World w) {
        w.seed = (int) (1103515245L * w.seed + 12345L);
        return (w.seed & 0x7FFF0000) >> 16;
    }

    private static boolean doneIt(World w, int p) {
        Person who = w.people.get(p);
        return who.under != null && who.done.contains(w.tells[who.under]);
    }

    private static int year(World w, boolean ahead) {
        int came = 0;
        for (Person who : w.people) {
            who.age = Math.min(99, who.age + 1);
        }
        for (int p = 0; p < w.people.size(); p++) {
            Person who = w.people.get(p);
            if (who.under == null || doneIt(w, p)) {
                continue;
            }
            if (ahead) {
                if (comes(w, p) == 100) {
                    who.done.add(w.tells[who.under]);
                }
            } else if (draw(w) % 100 < comes(w, p)) {
                who.fame = Math.min(999, who.fame + 10 + lines(w, p, "fame"));
                who.done.add(w.tells[who.under]);
                w.log.add(new int[]{w.year, p, 0, w.tells[who.under]});
                came++;
            }
        }
        for (int p = 0; p < w.people.size() && !ahead; p++) {
            if (draw(w) % 100 < w.shake) {
                int place = draw(w) % 16;
                if (w.people.get(p).rubbed.add(place)) {
                    w.log.add(new int[]{w.year, p, 2, place});
                }
            }
        }
        w.year = Math.min(9999, w.year + 1);
        while (w.log.size() > 60) {
            w.log.remove(0);
        }
        return came;
    }

    private static World later(World w, int n) {
        World then = w.copy();
        for (int i = 0; i < n; i++) {
            year(then, true);
        }
        return then;
    }

    private static int deeds(World w) {
        return w.people.stream().mapToInt(p -> p.done.size()).sum();
    }

    private static int fame(World w) {
        return w.people.stream().mapToInt(p -> p.fame).sum();
    }

    private static List<Integer> sides(int place) {
        List<Integer> all = new ArrayList<>();
        int r = place / 4;
        int c = place % 4;
        int[][] steps = {{-1, 0}, {1, 0}, {0, -1}, {0, 1}};
        for (int[] s : steps) {
            int rr = r + s[0];
            int cc = c + s[1];
            if (rr >= 0 && rr < 4 && cc >= 0 && cc < 4) {
                all.add(4 * rr + cc);
            }
        }
        return all;
    }

    /** Steps from a place to each other one along places that are as asked; NONE where there is no way. */
    private static int[] ways(boolean[] marks, boolean as, int from) {
        int[] steps = new int[16];
        Arrays.fill(steps, NONE);
        if (marks[from] != as) {
            return steps;
        }
        ArrayDeque<Integer> queue = new ArrayDeque<>(List.of(from));
        steps[from] = 0;
        while (!queue.isEmpty()) {
            int at = queue.poll();
            for (int to : sides(at)) {
                if (marks[to] == as && steps[to] == NONE) {
                    steps[to] = steps[at] + 1;
                    queue.add(to);
                }
            }
        }
        return steps;
    }

    private int few(int kind) {
        int best = NONE;
        for (int set = 0; set < 65536; set++) {
            if (best != NONE && Integer.bitCount(set) >= Integer.bitCount(best)) {
                continue;
            }
            boolean known = true;
            for (int other = 0; other < 8; other++) {
                boolean differs = other == kind;
                for (int place = 0; place < 16 && !differs; place++) {
                    differs = (set >> place & 1) == 1 && world.marks[other][place] != world.marks[kind][place];
                }
                known &= differs;
            }
            if (known) {
                best = set;
            }
        }
        return best;
    }

    private List<Integer> chain(int kind) {
        List<Integer> all = new ArrayList<>();
        Integer at = kind;
        while (at != null && !all.contains(at)) {
            all.add(at);
            at = world.holds[at];
        }
        return all;
    }

    private int deep(int kind) {
        List<Integer> all = chain(kind);
        return world.holds[all.get(all.size() - 1)] == null ? all.size() : NONE;
    }

    private int thumb(int p) {
        Person who = world.people.get(p);
        Set<Integer> fits = fits(world, p);
        int best = NONE;
        int least = 99;
        for (int place = 0; place < 16 && fits.size() >= 2; place++) {
            int with = 0;
            int without = 0;
            for (int k : fits) {
                if (world.marks[k][place]) {
                    with++;
                } else {
                    without++;
                }
            }
            if (!who.rubbed.contains(place) && Math.max(with, without) < least) {
                best = place;
                least = Math.max(with, without);
            }
        }
        return best;
    }

    // ---- the face

    private void kindIs(int k) {
        if (k < 0 || k > 7) {
            throw new IndexOutOfBoundsException();
        }
    }

    private void placeIs(int p) {
        if (p < 0 || p > 15) {
            throw new IndexOutOfBoundsException();
        }
    }

    private Person who(int p) {
        if (p < 0 || p >= world.people.size()) {
            throw new IndexOutOfBoundsException();
        }
        return world.people.get(p);
    }

    private void numberIs(int n, int low, int high) {
        if (n < low || n > high) {
            throw new IllegalArgumentException();
        }
    }

    private void act() {
        past.add(world.copy());
        if (past.size() > 12) {
            past.remove(0);
        }
    }

    int kind(int k, int what) {
        kindIs(k);
        boolean[] marks = world.marks[k];
        Set<Integer> set = new HashSet<>();
        Set<Integer> firsts = new HashSet<>();
        int largest = 0;
        switch (what) {
            case 0:
                for (int place = 0; place < 16; place++) {
                    if (marks[place]) {
                        set.add(place);
                    }
                }
                return bits(set);
            case 1:
                return world.tells[k];
            case 2:
                return orNone(world.holds[k]);
            case 3:
                return few(k);
            case 4:
                for (int other = 0; other < 8; other++) {
                    if (Arrays.equals(marks, world.marks[other])) {
                        set.add(other);
                    }
                }
                return bits(set);
            case 5:
            case 6:
                for (int place = 0; place < 16; place++) {
                    int[] ways = ways(marks, true, place);
                    int size = 0;
                    int first = NONE;
                    for (int to = 15; to >= 0; to--) {
                        if (ways[to] != NONE) {
                            size++;
                            first = to;
                        }
                    }
                    if (first != NONE) {
                        firsts.add(first);
                    }
                    largest = Math.max(largest, size);
                }
                return what == 5 ? firsts.size() : largest;
            case 7:
                for (int place = 0; place < 16; place++) {
                    int[] ways = ways(marks, false, place);
                    boolean out = marks[place];
                    for (int to = 0; to < 16; to++) {
                        out |= ways[to] != NONE && sides(to).size() < 4;
                    }
                    if (!out) {
                        set.add(place);
                    }
                }
                return bits(set);
            case 8:
                return deep(k);
            case 9:
                return bits(chain(k));
            case 10:
                for (int p = 0; p < world.people.size(); p++) {
                    if (world.people.get(p).under != null && world.people.get(p).under == k) {
                        set.add(p);
                    }
                }
                return bits(set);
            default:
                throw new NoSuchElementException();
        }
    }

    int person(int p, int what) {
        Person who = who(p);
        Set<Integer> set = new HashSet<>();
        switch (what) {
            case 0:
                return orNone(who.under);
            case 1:
                return bits(who.rubbed);
            case 2:
                return who.age;
            case 3:
                return who.luck;
            case 4:
                return bits(who.done);
            case 5:
                return who.fame;
            case 6:
                return comes(world, p);
            case 7:
                return bits(fits(world, p));
            case 8:
                return thumb(p);
            case 9:
                for (int n = 0; n <= 60; n++) {
                    if (doneIt(later(world, n), p)) {
                        return n;
                    }
                }
                return NONE;
            case 10:
                for (int k : fits(world, p)) {
                    set.add(world.tells[k]);
                }
                return bits(set);
            case 11:
                return fame(world) == 0 ? 0 : 100 * who.fame / fame(world);
            default:
                throw new NoSuchElementException();
        }
    }

    boolean mark(int p, int place) {
        Person who = who(p);
        placeIs(place);
        return who.under != null && who.rubbed.contains(place) && world.marks[who.under][place];
    }

    int years(int n) {
        numberIs(n, 1, 60);
        act();
        int came = 0;
        for (int i = 0; i < n; i++) {
            came += year(world, false);
        }
        return came;
    }

    private void row(int p, int sort, int value) {
        world.log.add(new int[]{world.year, p, sort, value});
        if (world.log.size() > 60) {
            world.log.remove(0);
        }
    }

    boolean rub(int p, int place) {
        who(p);
        placeIs(place);
        if (who(p).rubbed.contains(place)) {
            throw new IllegalStateException();
        }
        act();
        who(p).rubbed.add(place);
        row(p, 1, place);
        return mark(p, place);
    }

    int ink(int p, int k) {
        who(p);
        kindIs(k);
        if (who(p).under != null || world.purse < 10) {
            throw new IllegalStateException();
        }
        act();
        who(p).under = k;
        world.purse -= 10;
        row(p, 3, k);
        return world.purse;
    }

    int wash(int p) {
        int had = bits(who(p).rubbed);
        act();
        who(p).rubbed.clear();
        return had;
    }

    int told(int k, int d) {
        kindIs(k);
        kindIs(d);
        act();
        int was = world.tells[k];
        world.tells[k] = d;
        return was;
    }

    int hold(int k, int h) {
        kindIs(k);
        if (h != NONE) {
            kindIs(h);
        }
        act();
        int was = orNone(world.holds[k]);
        world.holds[k] = h == NONE ? null : Integer.valueOf(h);
        return was;
    }

    int does(int p, int d) {
        who(p);
        kindIs(d);
        if (who(p).done.contains(d)) {
            throw new IllegalStateException();
        }
        act();
        who(p).done.add(d);
        return bits(who(p).done);
    }

    int luck(int p, int n) {
        int was = who(p).luck;
        numberIs(n, 0, 9);
        act();
        who(p).luck = n;
        return was;
    }

    int fill(int n) {
        numberIs(n, 1, 999);
        act();
        world.purse = Math.min(9999, world.purse + n);
        return world.purse;
    }

    boolean blank(int p) {
        who(p);
        for (int place = 0; place < 16; place++) {
            if (mark(p, place)) {
                return false;
            }
        }
        return true;
    }

    int reach(int k, int place, int other) {
        kindIs(k);
        placeIs(place);
        placeIs(other);
        return ways(world.marks[k], true, place)[other];
    }

    int turned(int k, int other) {
        kindIs(k);
        kindIs(other);
        boolean[] m = world.marks[k];
        for (int turns = 0; turns < 4; turns++) {
            if (Arrays.equals(m, world.marks[other])) {
                return turns;
            }
            boolean[] t = new boolean[16];
            for (int r = 0; r < 4; r++) {
                for (int c = 0; c < 4; c++) {
                    t[4 * c + 3 - r] = m[4 * r + c];
                }
            }
            m = t;
        }
        return NONE;
    }

    int shifts(int k, int other, boolean many) {
        kindIs(k);
        kindIs(other);
        int best = -1;
        int code = -1;
        for (int dr = -3; dr <= 3; dr++) {
            for (int dc = -3; dc <= 3; dc++) {
                int lie = 0;
                for (int r = 0; r < 4; r++) {
                    for (int c = 0; c < 4; c++) {
                        boolean in = r + dr >= 0 && r + dr < 4 && c + dc >= 0 && c + dc < 4;
                        if (in && world.marks[k][4 * r + c] && world.marks[other][4 * (r + dr) + c + dc]) {
                            lie++;
                        }
                    }
                }
                if (lie > best) {
                    best = lie;
                    code = 7 * (dr + 3) + dc + 3;
                }
            }
        }
        return many ? best : code;
    }

    boolean ring(int k) {
        kindIs(k);
        Integer at = world.holds[k];
        for (int i = 0; i < 20 && at != null; i++) {
            if (at == k) {
                return true;
            }
            at = world.holds[at];
        }
        return false;
    }

    int deepest() {
        int best = NONE;
        for (int k = 0; k < 8; k++) {
            if (deep(k) != NONE && (best == NONE || deep(k) > deep(best))) {
                best = k;
            }
        }
        return best;
    }

    private List<int[]> rows(int firsts, int seconds) {
        String t = tape;
        tape = "";
        if (t.length() > 40 || t.length() % 2 == 1) {
            throw new IllegalArgumentException();
        }
        List<int[]> rows = new ArrayList<>();
        for (int i = 0; i < t.length(); i += 2) {
            numberIs(t.charAt(i), 0, firsts - 1);
            numberIs(t.charAt(i + 1), 0, seconds - 1);
            rows.add(new int[]{t.charAt(i), t.charAt(i + 1)});
        }
        return rows;
    }

    private static List<int[]> pairsThatFit(List<int[]> rows) {
        List<int[]> fit = new ArrayList<>();
        for (int a = 0; a < 8; a++) {
            for (int b = 0; b < 8; b++) {
                boolean all = true;
                for (int[] row : rows) {
                    all &= (a * row[0] + b) % 8 == row[1];
                }
                if (all) {
                    fit.add(new int[]{a, b});
                }
            }
        }
        return fit;
    }

    private static int least(List<int[]> fit) {
        return fit.isEmpty() ? NONE : 8 * fit.get(0)[0] + fit.get(0)[1];
    }

    int rules(boolean least) {
        List<int[]> fit = pairsThatFit(rows(8, 8));
        return least ? least(fit) : fit.size();
    }

    int ask() {
        List<int[]> fit = pairsThatFit(rows(8, 8));
        int best = NONE;
        int least = 99;
        for (int k = 0; k < 8 && fit.size() >= 2; k++) {
            int[] part = new int[8];
            for (int[] ab : fit) {
                part[(ab[0] * k + ab[1]) % 8]++;
            }
            int greatest = Arrays.stream(part).max().getAsInt();
            if (greatest < least) {
                least = greatest;
                best = k;
            }
        }
        return best;
    }

    int now() {
        List<int[]> rows = new ArrayList<>();
        for (int k = 0; k < 8; k++) {
            rows.add(new int[]{k, world.tells[k]});
        }
        return least(pairsThatFit(rows));
    }

    private Set<Integer> toldBy(int group) {
        Set<Integer> told = new HashSet<>();
        for (int p = 0; p < world.people.size(); p++) {
            if ((group >> p & 1) == 1 && who(p).under != null) {
                told.add(world.tells[who(p).under]);
            }
        }
        return told;
    }

    int crew(int deeds) {
        int best = NONE;
        for (int group = 0; group < 1 << world.people.size(); group++) {
            if ((bits(toldBy(group)) & deeds & 255) == (deeds & 255)
                    && (best == NONE || Integer.bitCount(group) < Integer.bitCount(best))) {
                best = group;
            }
        }
        return best;
    }

    private Set<Integer> has(int p) {
        Set<Integer> has = new HashSet<>(who(p).done);
        if (who(p).under != null) {
            has.add(world.tells[who(p).under]);
        }
        return has;
    }

    /** All ways in their order; a way is the better one only if it fills more. */
    private void tryBerths(String deeds, int[] way, int berth, int[] best) {
        if (berth == deeds.length()) {
            int filled = (int) Arrays.stream(way).filter(p -> p != NONE).count();
            if (filled > best[6]) {
                System.arraycopy(way, 0, best, 0, way.length);
                best[6] = filled;
            }
            return;
        }
        way[berth] = NONE;
        tryBerths(deeds, way, berth + 1, best);
        for (int p = 0; p < world.people.size(); p++) {
            boolean taken = false;
            for (int b = 0; b < berth; b++) {
                taken |= way[b] == p;
            }
            if (!taken && has(p).contains((int) deeds.charAt(berth))) {
                way[berth] = p;
                tryBerths(deeds, way, berth + 1, best);
            }
        }
        way[berth] = NONE;
    }

    int berths(int berth) {
        String deeds = tape;
        tape = "";
        numberIs(deeds.length(), 0, 6);
        for (char d : deeds.toCharArray()) {
            numberIs(d, 0, 7);
        }
        int[] best = {NONE, NONE, NONE, NONE, NONE, NONE, -1};
        tryBerths(deeds, new int[deeds.length()], 0, best);
        if (berth == NONE) {
            return best[6];
        }
        return berth < 0 || berth >= deeds.length() ? NONE : best[berth];
    }

    int inks(int deeds) {
        int all = (1 << world.people.size()) - 1;
        int plain = Integer.bitCount(plain());
        int told = bits(toldBy(all));
        int best = NONE;
        for (int kinds = 0; kinds < 256; kinds++) {
            int then = told;
            for (int k = 0; k < 8; k++) {
                then |= (kinds >> k & 1) << world.tells[k];
            }
            int n = Integer.bitCount(kinds);
            if ((deeds & 255 & ~then) == 0 && n <= plain && (best == NONE || n < best)) {
                best = n;
            }
        }
        return best;
    }

    int old(int age) {
        numberIs(age, 0, 99);
        for (int n = 0; n <= 60; n++) {
            if (later(world, n).people.stream().allMatch(p -> p.age >= age)) {
                return n;
            }
        }
        return NONE;
    }

    int clash() {
        Set<Integer> not = new HashSet<>();
        for (int[] row : rows(world.people.size(), 2)) {
            if (doneIt(world, row[0]) ? row[1] == 0 : row[1] == 1) {
                not.add(row[0]);
            }
        }
        return bits(not);
    }

    private void tryPairs(int[] way, int p, int[] best) {
        int size = world.people.size();
        if (p == size) {
            int sum = 0;
            for (int q = 0; q < size; q++) {
                if (way[q] > q) {
                    Set<Integer> either = new HashSet<>(has(q));
                    either.addAll(has(way[q]));
                    Set<Integer> both = new HashSet<>(has(q));
                    both.retainAll(has(way[q]));
                    sum += either.size() - both.size();
                }
            }
            if (sum > best[6]) {
                System.arraycopy(way, 0, best, 0, 6);
                best[6] = sum;
            }
            return;
        }
        if (way[p] != NONE) {
            tryPairs(way, p + 1, best);
            return;
        }
        tryPairs(way, p + 1, best);
        for (int q = p + 1; q < size; q++) {
            if (way[q] == NONE) {
                way[p] = q;
                way[q] = p;
                tryPairs(way, p + 1, best);
                way[p] = NONE;
                way[q] = NONE;
            }
        }
    }

    int pairs(int p) {
        if (p != NONE) {
            who(p);
        }
        int[] best = {NONE, NONE, NONE, NONE, NONE, NONE, -1};
        int[] way = {NONE, NONE, NONE, NONE, NONE, NONE};
        tryPairs(way, 0, best);
        return p == NONE ? best[6] : best[p];
    }

    int kin(int p, int other) {
        Person a = who(p);
        Person b = who(other);
        if (p == other) {
            throw new IllegalArgumentException();
        }
        int n = 0;
        for (int place = 0; place < 16 && a.under != null && b.under != null; place++) {
            n += world.marks[a.under][place] && world.marks[b.under][place] ? 1 : 0;
        }
        return n;
    }

    int rests(int p) {
        int[][][] gain = {{{who(p).luck, 5}, {-3, -(who(p).fame / 100)}}, {{1, 2}, {2, 4}}};
        Set<Integer> rest = new HashSet<>();
        for (int i = 0; i < 2; i++) {
            for (int j = 0; j < 2; j++) {
                if (gain[i][j][0] >= gain[1 - i][j][0] && gain[i][j][1] >= gain[i][1 - j][1]) {
                    rest.add(2 * i + j);
                }
            }
        }
        return bits(rest);
    }

    int odds(int p, int n) {
        who(p);
        numberIs(n, 0, 4);
        if (who(p).under == null || doneIt(world, p)) {
            return 10000;
        }
        int odds = 10000;
        for (int i = 0; i < n; i++) {
            odds = odds * (100 - comes(world, p)) / 100;
        }
        return odds;
    }

    int plain() {
        Set<Integer> set = new HashSet<>();
        for (int p = 0; p < world.people.size(); p++) {
            if (who(p).under == null) {
                set.add(p);
            }
        }
        return bits(set);
    }

    int found() {
        Set<Integer> set = new HashSet<>();
        for (int p = 0; p < world.people.size(); p++) {
            if (who(p).under != null && isFound(world, p)) {
                set.add(p);
            }
        }
        return bits(set);
    }

    int soFar() {
        Set<Integer> set = new HashSet<>();
        world.people.forEach(p -> set.addAll(p.done));
        return bits(set);
    }

    int eldest() {
        int most = world.people.stream().mapToInt(p -> p.age).max().orElse(0);
        for (int p = 0; p < world.people.size(); p++) {
            if (who(p).age == most) {
                return p;
            }
        }
        return NONE;
    }

    int famous() {
        int most = world.people.stream().mapToInt(p -> p.fame).max().orElse(0);
        for (int p = 0; p < world.people.size(); p++) {
            if (most > 0 && who(p).fame == most) {
                return p;
            }
        }
        return NONE;
    }

    int twins() {
        int n = 0;
        for (Person a : world.people) {
            for (Person b : world.people) {
                n += a != b && orNone(a.under) == orNone(b.under) ? 1 : 0;
            }
        }
        return n / 2;
    }

    int tellers(int d) {
        kindIs(d);
        Set<Integer> set = new HashSet<>();
        for (int k = 0; k < 8; k++) {
            if (world.tells[k] == d) {
                set.add(k);
            }
        }
        return bits(set);
    }

    int ahead(int p, int n, int what) {
        who(p);
        numberIs(n, 0, 60);
        if (what != 0 && what != 1) {
            throw new NoSuchElementException();
        }
        Person then = later(world, n).people.get(p);
        return what == 0 ? then.age : bits(then.done);
    }

    private World tried(int n, int seed) {
        World w = world.copy();
        w.seed = seed;
        for (int i = 0; i < n; i++) {
            year(w, false);
        }
        return w;
    }

    int trial(int n, boolean fame) {
        numberIs(n, 0, 60);
        World w = tried(n, world.seed);
        return fame ? fame(w) : deeds(w);
    }

    int span(int n, boolean most) {
        numberIs(n, 0, 60);
        List<Integer> all = new ArrayList<>();
        for (int seed = 1; seed <= 6; seed++) {
            all.add(deeds(tried(n, seed)));
        }
        all.sort(null);
        return most ? all.get(5) : all.get(0);
    }

    int led(int p, boolean year) {
        who(p);
        int rows = 0;
        int latest = NONE;
        for (int[] row : world.log) {
            if (row[1] == p) {
                rows++;
                latest = row[0];
            }
        }
        return year ? latest : rows;
    }

    int log(int ago, int what) {
        if (what < 0 || what > 3) {
            throw new NoSuchElementException();
        }
        return ago < 0 || ago >= world.log.size() ? NONE : world.log.get(world.log.size() - 1 - ago)[what];
    }

    int seed(int n) {
        int was = world.seed;
        world.seed = n;
        return was;
    }

    boolean undo() {
        if (past.isEmpty()) {
            return false;
        }
        world = past.remove(past.size() - 1);
        return true;
    }

    void image() {
        image = world.copy();
    }

    boolean back() {
        if (image == null) {
            return false;
        }
        world = image.copy();
        past.clear();
        return true;
    }

    int count(int what) {
        int rubbed = world.people.stream().mapToInt(p -> p.rubbed.size()).sum();
        int[] all = {world.people.size(), world.texts, world.law == null ? NONE : world.law.size(), world.year, world.shake,
            world.purse, deeds(world), fame(world), rubbed, world.log.size(), past.size()};
        return what < 0 || what >= all.length ? NONE : all[what];
    }
}
