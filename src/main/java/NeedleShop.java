import java.util.NoSuchElementException;

/** A tattooist's shop: kinds of signs, people who bear them, and the deeds that the signs foretell. */
public final class NeedleShop {
    public static final int NONE = -1;

    private static final int SIDE = 4;
    private static final int PLACES = 16;
    private static final int KINDS = 8;
    private static final int DEEDS = 8;
    private static final int PEOPLE = 6;
    private static final int ALL_PLACES = 65535;
    private static final int ALL_DEEDS = 255;
    private static final int ALL_KINDS = 255;

    private static final int TAPE = 400;
    private static final int TAPE_OF_ROWS = 40;
    private static final int BERTHS = 6;
    private static final int SHOP_TEXTS = 12;
    private static final int SHOP_LINES = 14;
    private static final int LAW_LINES = 12;
    private static final int DEEPEST_NESTING = 6;

    private static final int MOST_AGE = 99;
    private static final int MOST_LUCK = 9;
    private static final int MOST_FAME = 999;
    private static final int MOST_YEAR = 9999;
    private static final int MOST_PURSE = 9999;
    private static final int MOST_FILL = 999;
    private static final int MOST_YEARS = 60;
    private static final int MOST_ODDS_YEARS = 4;
    private static final int SPAN_SEEDS = 6;
    private static final int INK_PRICE = 10;
    private static final int LOG_ROWS = 60;
    private static final int REMEMBERED = 12;

    private static final int ROW_CAME = 0;
    private static final int ROW_HAND = 1;
    private static final int ROW_SHAKE = 2;
    private static final int ROW_INK = 3;

    private final Tape tape;
    private int fault;
    private final State state;
    private final State spare;
    private final State kept;
    private final Law law;
    private final Law spareLaw;
    private final Law keptLaw;
    private boolean isKept;
    private final Past past;
    private final Planner planner;

    public NeedleShop() {
        tape = new Tape();
        fault = NONE;
        state = new State();
        spare = new State();
        kept = new State();
        law = new Law();
        spareLaw = new Law();
        keptLaw = new Law();
        isKept = false;
        past = new Past();
        planner = new Planner();
    }

    public int feed(int a, int b, int c, int d, int e) {
        if (tape.size() + 20 > TAPE) {
            return NONE;
        }
        tape.put(a);
        tape.put(b);
        tape.put(c);
        tape.put(d);
        tape.put(e);
        return tape.size();
    }

    public boolean end(int n) {
        if (n < 0 || n > tape.size()) {
            return false;
        }
        tape.cut(n);
        return true;
    }

    public int shop() throws IllegalArgumentException, UnsupportedOperationException {
        tape.open();
        spare.copyFrom(state);
        ShopText.readAll(tape, spare);
        fault = tape.wrongByte();
        if (fault != NONE) {
            throw new IllegalArgumentException("the text is wrong");
        }
        if (state.texts >= SHOP_TEXTS) {
            throw new UnsupportedOperationException("there are 12 texts");
        }
        spare.texts++;
        state.copyFrom(spare);
        past.forget();
        return state.texts;
    }

    public int law() throws IllegalArgumentException {
        tape.open();
        LawText.readAll(tape, spareLaw);
        fault = tape.wrongByte();
        if (fault != NONE) {
            throw new IllegalArgumentException("the text is wrong");
        }
        law.copyFrom(spareLaw);
        past.forget();
        return law.lines;
    }

    public int fault() {
        return fault;
    }

    public int kind(int kind, int what) throws IndexOutOfBoundsException, NoSuchElementException {
        needKind(kind);
        int marks = state.marks[kind];
        switch (what) {
            case 0:
                return marks;
            case 1:
                return state.tells[kind];
            case 2:
                return state.holds[kind];
            case 3:
                return planner.fewestPlaces(state, kind);
            case 4:
                return state.kindsLike(kind, ALL_PLACES);
            case 5:
                return Field.pieces(marks);
            case 6:
                return Field.largestPiece(marks);
            case 7:
                return Field.holes(marks);
            case 8:
                return Nest.depth(state, kind);
            case 9:
                return Nest.allWithin(state, kind);
            case 10:
                return state.bearers(kind);
            default:
                throw new NoSuchElementException("no such question");
        }
    }

    public int person(int person, int what) throws IndexOutOfBoundsException, NoSuchElementException {
        needPerson(person);
        switch (what) {
            case 0:
                return state.under[person];
            case 1:
                return state.rubbed[person];
            case 2:
                return state.age[person];
            case 3:
                return state.luck[person];
            case 4:
                return state.done[person];
            case 5:
                return state.fame[person];
            case 6:
                return law.comes(state, person);
            case 7:
                return state.fits(person);
            case 8:
                return state.thumb(person);
            case 9:
                return sureYear(person);
            case 10:
                return state.fates(person);
            case 11:
                return state.share(person);
            default:
                throw new NoSuchElementException("no such question");
        }
    }

    public boolean mark(int person, int place) throws IndexOutOfBoundsException {
        needPerson(person);
        needPlace(place);
        return (state.rubbed[person] & state.marksOf(person) & 1 << place) != 0;
    }

    public int years(int n) throws IllegalArgumentException {
        if (n < 1) {
            throw new IllegalArgumentException("too few years");
        }
        needYears(n, MOST_YEARS);
        past.remember(state);
        int came = 0;
        for (int i = 0; i < n; i++) {
            came += state.passYear(law);
        }
        return came;
    }

    public boolean rub(int person, int place) throws IndexOutOfBoundsException, IllegalStateException {
        needPerson(person);
        needPlace(place);
        int bit = 1 << place;
        if ((state.rubbed[person] & bit) != 0) {
            throw new IllegalStateException("the place is rubbed");
        }
        past.remember(state);
        state.rubbed[person] |= bit;
        state.addRow(person, ROW_HAND, place);
        return (state.marksOf(person) & bit) != 0;
    }

    public int ink(int person, int kind) throws IndexOutOfBoundsException, IllegalStateException {
        needPerson(person);
        needKind(kind);
        if (!state.isPlain(person) || state.purse < INK_PRICE) {
            throw new IllegalStateException("no inking");
        }
        past.remember(state);
        state.under[person] = kind;
        state.purse -= INK_PRICE;
        state.addRow(person, ROW_INK, kind);
        return state.purse;
    }

    public int wash(int person) throws IndexOutOfBoundsException {
        needPerson(person);
        past.remember(state);
        int had = state.rubbed[person];
        state.rubbed[person] = 0;
        return had;
    }

    public int told(int kind, int deed) throws IndexOutOfBoundsException {
        needKind(kind);
        needDeed(deed);
        past.remember(state);
        int was = state.tells[kind];
        state.tells[kind] = deed;
        return was;
    }

    public int hold(int kind, int holds) throws IndexOutOfBoundsException {
        needKind(kind);
        if (holds != NONE) {
            needKind(holds);
        }
        past.remember(state);
        int was = state.holds[kind];
        state.holds[kind] = holds;
        return was;
    }

    public int does(int person, int deed) throws IndexOutOfBoundsException, IllegalStateException {
        needPerson(person);
        needDeed(deed);
        int bit = 1 << deed;
        if ((state.done[person] & bit) != 0) {
            throw new IllegalStateException("the deed is done");
        }
        past.remember(state);
        state.done[person] |= bit;
        return state.done[person];
    }

    public int luck(int person, int n) throws IndexOutOfBoundsException, IllegalArgumentException {
        needPerson(person);
        if (n < 0 || n > MOST_LUCK) {
            throw new IllegalArgumentException("no such luck");
        }
        past.remember(state);
        int was = state.luck[person];
        state.luck[person] = n;
        return was;
    }

    public int fill(int n) throws IllegalArgumentException {
        if (n < 1 || n > MOST_FILL) {
            throw new IllegalArgumentException("no such filling");
        }
        past.remember(state);
        state.purse = Math.min(state.purse + n, MOST_PURSE);
        return state.purse;
    }

    public boolean blank(int person) throws IndexOutOfBoundsException {
        needPerson(person);
        return (state.rubbed[person] & state.marksOf(person)) == 0;
    }

    public int reach(int kind, int place, int other) throws IndexOutOfBoundsException {
        needKind(kind);
        needPlace(place);
        needPlace(other);
        return Field.steps(state.marks[kind], place, other);
    }

    public int turned(int kind, int other) throws IndexOutOfBoundsException {
        needKind(kind);
        needKind(other);
        return Field.quarterTurns(state.marks[kind], state.marks[other]);
    }

    public int shifts(int kind, int other, boolean many) throws IndexOutOfBoundsException {
        needKind(kind);
        needKind(other);
        int shift = Field.bestShift(state.marks[kind], state.marks[other]);
        return many ? Field.lyingOn(state.marks[kind], state.marks[other], shift) : shift;
    }

    public boolean ring(int kind) throws IndexOutOfBoundsException {
        needKind(kind);
        return Nest.comesBack(state, kind);
    }

    public int deepest() {
        return Nest.deepestKind(state);
    }

    public int rules(boolean least) throws IllegalArgumentException {
        int size = tape.useUp();
        needRows(size, KINDS, DEEDS);
        long fitting = Rules.fittingRows(tape, size);
        return least ? Rules.first(fitting) : Long.bitCount(fitting);
    }

    public int ask() throws IllegalArgumentException {
        int size = tape.useUp();
        needRows(size, KINDS, DEEDS);
        return Rules.bestQuestion(Rules.fittingRows(tape, size));
    }

    public int now() {
        return Rules.first(Rules.fittingKinds(state));
    }

    public int crew(int deeds) {
        return planner.fewestTellers(state, deeds & ALL_DEEDS);
    }

    public int berths(int berth) throws IllegalArgumentException {
        int size = tape.useUp();
        needBerths(size);
        planner.fillBerths(state, tape, size);
        return berth == NONE ? planner.berthsFilled() : planner.berthPerson(state, tape, size, berth);
    }

    public int inks(int deeds) {
        int missing = deeds & ALL_DEEDS & ~state.toldByGroup(state.everybody());
        if ((missing & ~state.deedsOfKinds(ALL_KINDS)) != 0) {
            return NONE;
        }
        int fewest = Integer.bitCount(missing);
        return fewest <= Integer.bitCount(state.plainOnes()) ? fewest : NONE;
    }

    public int old(int age) throws IllegalArgumentException {
        if (age < 0 || age > MOST_AGE) {
            throw new IllegalArgumentException("no such age");
        }
        int n = 0;
        for (int person = 0; person < state.people; person++) {
            n = Math.max(n, age - state.age[person]);
        }
        return n <= MOST_YEARS ? n : NONE;
    }

    public int clash() throws IllegalArgumentException {
        int size = tape.useUp();
        needRows(size, state.people, 2);
        int clashing = 0;
        for (int i = 0; i + 1 < size; i += 2) {
            int person = tape.byteAt(i);
            if (state.hasDoneItsDeed(person) != (tape.byteAt(i + 1) == 1)) {
                clashing |= 1 << person;
            }
        }
        return clashing;
    }

    public int pairs(int person) throws IndexOutOfBoundsException {
        if (person != NONE) {
            needPerson(person);
        }
        planner.pairPeople(state);
        return person == NONE ? planner.pairedDeeds() : planner.partner(state, person);
    }

    public int kin(int person, int other) throws IndexOutOfBoundsException, IllegalArgumentException {
        needPerson(person);
        needPerson(other);
        if (person == other) {
            throw new IllegalArgumentException("both are one");
        }
        return Integer.bitCount(state.marksOf(person) & state.marksOf(other));
    }

    public int rests(int person) throws IndexOutOfBoundsException {
        needPerson(person);
        int resting = 0;
        for (int choice = 0; choice < 4; choice++) {
            boolean content = state.dockerGain(person, choice) >= state.dockerGain(person, choice ^ 2)
                && state.needleGain(person, choice) >= state.needleGain(person, choice ^ 1);
            if (content) {
                resting |= 1 << choice;
            }
        }
        return resting;
    }

    public int odds(int person, int n) throws IndexOutOfBoundsException, IllegalArgumentException {
        needPerson(person);
        needYears(n, MOST_ODDS_YEARS);
        int odds = 10000;
        if (!state.awaitsDeed(person)) {
            return odds;
        }
        int staysAway = 100 - law.comes(state, person);
        for (int i = 0; i < n; i++) {
            odds = odds * staysAway / 100;
        }
        return odds;
    }

    public int plain() {
        return state.plainOnes();
    }

    public int found() {
        int group = 0;
        for (int person = 0; person < state.people; person++) {
            if (!state.isPlain(person) && state.isFound(person)) {
                group |= 1 << person;
            }
        }
        return group;
    }

    public int soFar() {
        int deeds = 0;
        for (int person = 0; person < state.people; person++) {
            deeds |= state.done[person];
        }
        return deeds;
    }

    public int eldest() {
        int best = NONE;
        for (int person = 0; person < state.people; person++) {
            if (best == NONE || state.age[person] > state.age[best]) {
                best = person;
            }
        }
        return best;
    }

    public int famous() {
        int best = NONE;
        int most = 0;
        for (int person = 0; person < state.people; person++) {
            if (state.fame[person] > most) {
                best = person;
                most = state.fame[person];
            }
        }
        return best;
    }

    public int twins() {
        int pairs = 0;
        for (int person = 0; person < state.people; person++) {
            for (int other = 0; other < person; other++) {
                if (state.under[person] == state.under[other]) {
                    pairs++;
                }
            }
        }
        return pairs;
    }

    public int tellers(int deed) throws IndexOutOfBoundsException {
        needDeed(deed);
        int kinds = 0;
        for (int kind = 0; kind < KINDS; kind++) {
            if (state.tells[kind] == deed) {
                kinds |= 1 << kind;
            }
        }
        return kinds;
    }

    public int ahead(int person, int n, int what)
            throws IndexOutOfBoundsException, IllegalArgumentException, NoSuchElementException {
        needPerson(person);
        needYears(n, MOST_YEARS);
        if (what != 0 && what != 1) {
            throw new NoSuchElementException("no such question");
        }
        spare.copyFrom(state);
        for (int i = 0; i < n; i++) {
            spare.passYearAhead(law);
        }
        return what == 0 ? spare.age[person] : spare.done[person];
    }

    public int trial(int n, boolean fame) throws IllegalArgumentException {
        needYears(n, MOST_YEARS);
        tryYears(n, state.seed);
        return fame ? spare.fameOfAll() : spare.deedsOfAll();
    }

    public int span(int n, boolean most) throws IllegalArgumentException {
        needYears(n, MOST_YEARS);
        int best = NONE;
        for (int seed = 1; seed <= SPAN_SEEDS; seed++) {
            tryYears(n, seed);
            int deeds = spare.deedsOfAll();
            if (best == NONE || (most ? deeds > best : deeds < best)) {
                best = deeds;
            }
        }
        return best;
    }

    public int led(int person, boolean year) throws IndexOutOfBoundsException {
        needPerson(person);
        int rows = 0;
        int latest = NONE;
        for (int ago = state.rowCount - 1; ago >= 0; ago--) {
            if (state.rowPart(ago, 1) == person) {
                rows++;
                latest = state.rowPart(ago, 0);
            }
        }
        return year ? latest : rows;
    }

    public int log(int ago, int what) throws NoSuchElementException {
        if (what < 0 || what > 3) {
            throw new NoSuchElementException("no such question");
        }
        return state.rowPart(ago, what);
    }

    public int seed(int n) {
        int was = state.seed;
        state.seed = n;
        return was;
    }

    public boolean undo() {
        return past.goBack(state);
    }

    public void image() {
        kept.copyFrom(state);
        keptLaw.copyFrom(law);
        isKept = true;
    }

    public boolean back() {
        if (!isKept) {
            return false;
        }
        state.copyFrom(kept);
        law.copyFrom(keptLaw);
        past.forget();
        return true;
    }

    public int count(int what) {
        switch (what) {
            case 0:
                return state.people;
            case 1:
                return state.texts;
            case 2:
                return law.lines;
            case 3:
                return state.year;
            case 4:
                return state.shake;
            case 5:
                return state.purse;
            case 6:
                return state.deedsOfAll();
            case 7:
                return state.fameOfAll();
            case 8:
                return state.rubbedOfAll();
            case 9:
                return state.rowCount;
            case 10:
                return past.size();
            default:
                return NONE;
        }
    }

    private void needPerson(int person) {
        if (person < 0 || person >= state.people) {
            throw new IndexOutOfBoundsException("no such person");
        }
    }

    private static void needKind(int kind) {
        if (kind < 0 || kind >= KINDS) {
            throw new IndexOutOfBoundsException("no such kind");
        }
    }

    private static void needDeed(int deed) {
        if (deed < 0 || deed >= DEEDS) {
            throw new IndexOutOfBoundsException("no such deed");
        }
    }

    private static void needPlace(int place) {
        if (place < 0 || place >= PLACES) {
            throw new IndexOutOfBoundsException("no such place");
        }
    }

    private static void needYears(int n, int most) {
        if (n < 0 || n > most) {
            throw new IllegalArgumentException("no such number of years");
        }
    }

    private void needRows(int size, int firsts, int seconds) {
        if (size > TAPE_OF_ROWS || size % 2 != 0) {
            throw new IllegalArgumentException("the tape is no rows");
        }
        for (int i = 0; i + 1 < size; i += 2) {
            if (tape.byteAt(i) >= firsts || tape.byteAt(i + 1) >= seconds) {
                throw new IllegalArgumentException("the tape has a wrong row");
            }
        }
    }

    private void needBerths(int size) {
        if (size > BERTHS) {
            throw new IllegalArgumentException("too many berths");
        }
        for (int i = 0; i < size; i++) {
            if (tape.byteAt(i) >= DEEDS) {
                throw new IllegalArgumentException("no such deed");
            }
        }
    }

    private int sureYear(int person) {
        if (state.isPlain(person)) {
            return NONE;
        }
        spare.copyFrom(state);
        for (int n = 0; n <= MOST_YEARS; n++) {
            if (spare.hasDoneItsDeed(person)) {
                return n;
            }
            spare.passYearAhead(law);
        }
        return NONE;
    }

    private void tryYears(int n, int seed) {
        spare.copyFrom(state);
        spare.seed = seed;
        for (int i = 0; i < n; i++) {
            spare.passYear(law);
        }
    }

    /** All that an act may change, in one piece, so that it can be tried, kept and gone back to. */
    private static final class State {
        final int[] marks;
        final int[] tells;
        final int[] holds;
        final int[] under;
        final int[] rubbed;
        final int[] age;
        final int[] luck;
        final int[] done;
        final int[] fame;
        final int[] rows;
        int people;
        int shake;
        int year;
        int purse;
        int seed;
        int texts;
        int rowCount;
        int nextRow;

        State() {
            marks = new int[KINDS];
            tells = new int[KINDS];
            holds = new int[KINDS];
            under = new int[PEOPLE];
            rubbed = new int[PEOPLE];
            age = new int[PEOPLE];
            luck = new int[PEOPLE];
            done = new int[PEOPLE];
            fame = new int[PEOPLE];
            rows = new int[LOG_ROWS];
            for (int kind = 0; kind < KINDS; kind++) {
                tells[kind] = kind;
                holds[kind] = NONE;
            }
            purse = 100;
            seed = 1;
        }

        void copyFrom(State other) {
            System.arraycopy(other.marks, 0, marks, 0, KINDS);
            System.arraycopy(other.tells, 0, tells, 0, KINDS);
            System.arraycopy(other.holds, 0, holds, 0, KINDS);
            System.arraycopy(other.under, 0, under, 0, PEOPLE);
            System.arraycopy(other.rubbed, 0, rubbed, 0, PEOPLE);
            System.arraycopy(other.age, 0, age, 0, PEOPLE);
            System.arraycopy(other.luck, 0, luck, 0, PEOPLE);
            System.arraycopy(other.done, 0, done, 0, PEOPLE);
            System.arraycopy(other.fame, 0, fame, 0, PEOPLE);
            System.arraycopy(other.rows, 0, rows, 0, LOG_ROWS);
            people = other.people;
            shake = other.shake;
            year = other.year;
            purse = other.purse;
            seed = other.seed;
            texts = other.texts;
            rowCount = other.rowCount;
            nextRow = other.nextRow;
        }

        void addPerson(int itsAge, int itsLuck, int kind) {
            if (people >= PEOPLE) {
                return;
            }
            under[people] = kind;
            rubbed[people] = 0;
            age[people] = itsAge;
            luck[people] = itsLuck;
            done[people] = 0;
            fame[people] = 0;
            people++;
        }

        boolean isPlain(int person) {
            return under[person] < 0 || under[person] >= KINDS;
        }

        int marksOf(int person) {
            return isPlain(person) ? 0 : marks[under[person]];
        }

        /** As a bit, so that who is plain has none. */
        int deedBitOf(int person) {
            return isPlain(person) ? 0 : 1 << tells[under[person]];
        }

        boolean hasDoneItsDeed(int person) {
            return (done[person] & deedBitOf(person)) != 0;
        }

        boolean awaitsDeed(int person) {
            return !isPlain(person) && !hasDoneItsDeed(person);
        }

        int deedsHad(int person) {
            return done[person] | deedBitOf(person);
        }

        boolean isFound(int person) {
            return (marksOf(person) & ~rubbed[person]) == 0;
        }

        int everybody() {
            return (1 << people) - 1;
        }

        int plainOnes() {
            int group = 0;
            for (int person = 0; person < people; person++) {
                if (isPlain(person)) {
                    group |= 1 << person;
                }
            }
            return group;
        }

        int bearers(int kind) {
            int group = 0;
            for (int person = 0; person < people; person++) {
                if (under[person] == kind) {
                    group |= 1 << person;
                }
            }
            return group;
        }

        int toldByGroup(int group) {
            int deeds = 0;
            for (int person = 0; person < people; person++) {
                if ((group >> person & 1) != 0) {
                    deeds |= deedBitOf(person);
                }
            }
            return deeds;
        }

        int deedsOfKinds(int kinds) {
            int deeds = 0;
            for (int kind = 0; kind < KINDS; kind++) {
                if ((kinds >> kind & 1) != 0) {
                    deeds |= 1 << tells[kind];
                }
            }
            return deeds;
        }

        int kindsLike(int kind, int places) {
            int kinds = 0;
            for (int other = 0; other < KINDS; other++) {
                if (((marks[other] ^ marks[kind]) & places) == 0) {
                    kinds |= 1 << other;
                }
            }
            return kinds;
        }

        int fits(int person) {
            return isPlain(person) ? 0 : kindsLike(under[person], rubbed[person]);
        }

        int fates(int person) {
            return deedsOfKinds(fits(person));
        }

        int thumb(int person) {
            int kinds = fits(person);
            int all = Integer.bitCount(kinds);
            if (all < 2) {
                return NONE;
            }
            int best = NONE;
            int least = all + 1;
            for (int place = 0; place < PLACES; place++) {
                int marked = Integer.bitCount(kinds & kindsMarkedAt(place));
                int greater = Math.max(marked, all - marked);
                if ((rubbed[person] >> place & 1) == 0 && greater < least) {
                    best = place;
                    least = greater;
                }
            }
            return best;
        }

        int kindsMarkedAt(int place) {
            int kinds = 0;
            for (int kind = 0; kind < KINDS; kind++) {
                kinds |= (marks[kind] >> place & 1) << kind;
            }
            return kinds;
        }

        int share(int person) {
            int all = fameOfAll();
            return all <= 0 ? 0 : fame[person] * 100 / all;
        }

        int fameOfAll() {
            int sum = 0;
            for (int person = 0; person < people; person++) {
                sum += fame[person];
            }
            return sum;
        }

        int deedsOfAll() {
            return membersOfAll(done);
        }

        int rubbedOfAll() {
            return membersOfAll(rubbed);
        }

        private int membersOfAll(int[] sets) {
            int sum = 0;
            for (int person = 0; person < people && person < sets.length; person++) {
                sum += Integer.bitCount(sets[person]);
            }
            return sum;
        }

        /** A choice is 2 times the docker's (0 looks) and the needle's (0 is true). */
        int dockerGain(int person, int choice) {
            switch (choice) {
                case 0:
                    return luck[person];
                case 1:
                    return -3;
                case 2:
                    return 1;
                default:
                    return 2;
            }
        }

        int needleGain(int person, int choice) {
            switch (choice) {
                case 0:
                    return 5;
                case 1:
                    return -(fame[person] / 100);
                case 2:
                    return 2;
                default:
                    return 4;
            }
        }

        /** One number a row, so that the many states that are kept stay small. */
        void addRow(int person, int sort, int value) {
            if (nextRow < 0 || nextRow >= LOG_ROWS) {
                return;
            }
            rows[nextRow] = ((year * 8 + person) * 4 + sort) * 16 + value;
            nextRow = (nextRow + 1) % LOG_ROWS;
            rowCount = Math.min(rowCount + 1, LOG_ROWS);
        }

        int rowPart(int ago, int what) {
            if (ago < 0 || ago >= rowCount) {
                return NONE;
            }
            int at = (nextRow + LOG_ROWS - 1 - ago) % LOG_ROWS;
            if (at < 0) {
                return NONE;
            }
            switch (what) {
                case 0:
                    return rows[at] >> 9;
                case 1:
                    return rows[at] >> 6 & 7;
                case 2:
                    return rows[at] >> 4 & 3;
                default:
                    return rows[at] & 15;
            }
        }

        int draw() {
            seed = 1103515245 * seed + 12345;
            return seed >>> 16 & 32767;
        }

        int passYear(Law law) {
            growOld();
            int came = 0;
            for (int person = 0; person < people; person++) {
                if (awaitsDeed(person) && draw() % 100 < law.comes(this, person)) {
                    bringDeed(person, law.makesKnown(this, person));
                    came++;
                }
            }
            for (int person = 0; person < people; person++) {
                if (draw() % 100 < shake) {
                    shakeOver(person, draw() % PLACES);
                }
            }
            endYear();
            return came;
        }

        void passYearAhead(Law law) {
            growOld();
            for (int person = 0; person < people; person++) {
                if (awaitsDeed(person) && law.comes(this, person) == 100) {
                    done[person] |= deedBitOf(person);
                }
            }
            endYear();
        }

        void growOld() {
            for (int person = 0; person < people; person++) {
                age[person] = Math.min(age[person] + 1, MOST_AGE);
            }
        }

        void endYear() {
            year = Math.min(year + 1, MOST_YEAR);
        }

        void bringDeed(int person, int known) {
            if (isPlain(person)) {
                return;
            }
            int deed = tells[under[person]];
            fame[person] = Math.min(fame[person] + known, MOST_FAME);
            done[person] |= 1 << deed;
            addRow(person, ROW_CAME, deed);
        }

        void shakeOver(int person, int place) {
            int bit = 1 << place;
            if ((rubbed[person] & bit) == 0) {
                rubbed[person] |= bit;
                addRow(person, ROW_SHAKE, place);
            }
        }
    }

    /** The states ahead of the latest acts, in a ring: the oldest gives way to a thirteenth. */
    private static final class Past {
        private final State[] states;
        private int next;
        private int size;

        Past() {
            states = new State[REMEMBERED];
            for (int i = 0; i < REMEMBERED; i++) {
                states[i] = new State();
            }
        }

        int size() {
            return size;
        }

        void forget() {
            size = 0;
        }

        void remember(State state) {
            if (next < 0 || next >= REMEMBERED) {
                return;
            }
            states[next].copyFrom(state);
            next = (next + 1) % REMEMBERED;
            size = Math.min(size + 1, REMEMBERED);
        }

        boolean goBack(State state) {
            if (size == 0) {
                return false;
            }
            next = (next + REMEMBERED - 1) % REMEMBERED;
            size--;
            state.copyFrom(states[next]);
            return true;
        }
    }

    /** THE LAW: lines whose conditions are kept as steps of a small stack machine. */
    private static final class Law {
        static final int COME = 0;
        static final int STAY = 1;
        static final int FAME = 2;

        static final int PARTS = 8;
        static final int FOUND = 8;
        static final int KNOWN = 9;
        static final int FACTS = 10;
        static final int ADD = 10;
        static final int LESS = 11;
        static final int MORE = 12;
        static final int NOT = 13;
        static final int AND = 14;
        static final int OR = 15;
        static final int NUMBER = 16;

        /** Two waiting sides a level of nesting, seven levels, and a comparison on top. */
        static final int STACK = 24;

        int lines;
        private int steps;
        private final int[] verbs;
        private final int[] amounts;
        private final int[] ends;
        private final int[] code;
        private final int[] facts;
        private final int[] stack;

        Law() {
            lines = NONE;
            verbs = new int[LAW_LINES];
            amounts = new int[LAW_LINES];
            ends = new int[LAW_LINES];
            code = new int[TAPE];
            facts = new int[FACTS];
            stack = new int[STACK];
        }

        void copyFrom(Law other) {
            lines = other.lines;
            steps = other.steps;
            System.arraycopy(other.verbs, 0, verbs, 0, LAW_LINES);
            System.arraycopy(other.amounts, 0, amounts, 0, LAW_LINES);
            System.arraycopy(other.ends, 0, ends, 0, LAW_LINES);
            System.arraycopy(other.code, 0, code, 0, TAPE);
        }

        void clear() {
            lines = 0;
            steps = 0;
        }

        void addStep(int step) {
            if (steps < TAPE) {
                code[steps] = step;
                steps++;
            }
        }

        /** The steps of its condition were added just before. */
        void addLine(int verb, int amount) {
            if (lines >= 0 && lines < LAW_LINES) {
                verbs[lines] = verb;
                amounts[lines] = amount;
                ends[lines] = steps;
                lines++;
            }
        }

        int comes(State state, int person) {
            if (state.isPlain(person)) {
                return 0;
            }
            learn(state, person);
            int by = state.age[person] / 10 + state.luck[person] + total(COME) - total(STAY);
            return Math.max(0, Math.min(by, 100));
        }

        int makesKnown(State state, int person) {
            learn(state, person);
            return 10 + total(FAME);
        }

        /** In the order of LawText's words for parts; found and known behind them. */
        private void learn(State state, int person) {
            int kind = state.under[person];
            int rubbed = state.rubbed[person];
            if (kind < 0 || kind >= KINDS) {
                return;
            }
            facts[0] = person;
            facts[1] = kind;
            facts[2] = state.age[person];
            facts[3] = state.luck[person];
            facts[4] = Integer.bitCount(state.done[person]);
            facts[5] = Integer.bitCount(rubbed);
            facts[6] = state.tells[kind];
            facts[7] = state.year % 100;
            facts[FOUND] = (state.marks[kind] & ~rubbed) == 0 ? 1 : 0;
            facts[KNOWN] = state.kindsLike(kind, rubbed) == 1 << kind ? 1 : 0;
        }

        private int total(int verb) {
            int sum = 0;
            int from = 0;
            for (int line = 0; line < lines; line++) {
                if (verbs[line] == verb && applies(from, ends[line])) {
                    sum += amounts[line];
                }
                from = ends[line];
            }
            return sum;
        }

        private boolean applies(int from, int to) {
            int height = 0;
            for (int i = from; i < to; i++) {
                height = take(code[i], height);
            }
            return height == 0 || stack[0] != 0;
        }

        /** One step; the answer is how high the stack stands behind it. */
        private int take(int step, int height) {
            if (step >= NUMBER || step < FACTS) {
                if (height >= STACK || step < 0) {
                    return height;
                }
                stack[height] = step >= NUMBER ? step - NUMBER : facts[step];
                return height + 1;
            }
            if (step == NOT) {
                if (height >= 1) {
                    stack[height - 1] = 1 - stack[height - 1];
                }
                return height;
            }
            if (height < 2) {
                return height;
            }
            stack[height - 2] = joined(step, stack[height - 2], stack[height - 1]);
            return height - 1;
        }

        private static int joined(int step, int left, int right) {
            switch (step) {
                case ADD:
                    return left + right;
                case LESS:
                    return left < right ? 1 : 0;
                case MORE:
                    return left > right ? 1 : 0;
                case AND:
                    return left & right;
                default:
                    return left | right;
            }
        }
    }

    /** The bytes that were fed, read thing by thing: it then stands at the begin of a thing or at the end. */
    private static final class Tape {
        private final int[] bytes;
        private int size;
        private int length;
        private int at;
        private int wrong;

        Tape() {
            bytes = new int[TAPE];
            wrong = NONE;
        }

        int size() {
            return size;
        }

        void put(int number) {
            for (int shift = 24; shift >= 0 && size < TAPE; shift -= 8) {
                bytes[size] = number >>> shift & 255;
                size++;
            }
        }

        void cut(int n) {
            size = Math.max(0, Math.min(n, size));
        }

        /** The bytes stay until the next ones come, so a call can still read what it used up. */
        int useUp() {
            int had = size;
            size = 0;
            return had;
        }

        int byteAt(int place) {
            return place < 0 || place >= TAPE ? 0 : bytes[place];
        }

        void open() {
            length = useUp();
            wrong = NONE;
            moveTo(0);
        }

        int wrongByte() {
            return wrong;
        }

        /** Goes to the end too, so that all that is still asked for finds nothing. */
        void fail() {
            if (wrong == NONE) {
                wrong = at;
            }
            at = length;
        }

        boolean takeSign(char sign) {
            if (at >= length || bytes[at] != sign) {
                return false;
            }
            moveTo(at + 1);
            return true;
        }

        void needSign(char sign) {
            if (!takeSign(sign)) {
                fail();
            }
        }

        /** Whether that line comes; one too many, and what is no line's begin, is wrong where it begins. */
        boolean takeLine(int line, int most) {
            boolean comes = line == 0 ? at < length : takeSign(';');
            if (comes ? line >= most : at < length) {
                fail();
                return false;
            }
            return comes;
        }

        boolean takeWord(String word) {
            int end = runEnd('a', 'z');
            if (end - at != word.length()) {
                return false;
            }
            for (int i = at; i < end; i++) {
                if (bytes[i] != word.charAt(i - at)) {
                    return false;
                }
            }
            moveTo(end);
            return true;
        }

        void needWord(String word) {
            if (!takeWord(word)) {
                fail();
            }
        }

        boolean atNumber() {
            return runEnd('0', '9') > at;
        }

        int takeNumber(int most) {
            int end = runEnd('0', '9');
            int value = 0;
            for (int i = at; i < end && i < at + 3; i++) {
                value = value * 10 + bytes[i] - '0';
            }
            if (end == at || end - at > 3 || value > most) {
                fail();
                return 0;
            }
            moveTo(end);
            return value;
        }

        int takeKind() {
            int end = runEnd('a', 'z');
            if (end - at != 1 || bytes[at] >= 'a' + KINDS) {
                fail();
                return NONE;
            }
            int kind = bytes[at] - 'a';
            moveTo(end);
            return kind;
        }

        int takeFigures() {
            int end = runEnd('0', '9');
            int figures = 0;
            boolean right = end - at == SIDE;
            for (int i = at; right && i < end; i++) {
                right = bytes[i] <= '1';
                figures |= (bytes[i] - '0') << i - at;
            }
            if (!right) {
                fail();
                return 0;
            }
            moveTo(end);
            return figures;
        }

        private int runEnd(char low, char high) {
            int end = at;
            while (end < length && bytes[end] >= low && bytes[end] <= high) {
                end++;
            }
            return end;
        }

        private void moveTo(int place) {
            at = place;
            while (at < length && bytes[at] == ' ') {
                at++;
            }
        }
    }

    /** Reads a text of THE SHOP into a state, which is thrown away if the text is wrong. */
    private static final class ShopText {
        private ShopText() {
        }

        static void readAll(Tape in, State to) {
            for (int line = 0; line <= SHOP_LINES && in.takeLine(line, SHOP_LINES); line++) {
                readLine(in, to);
            }
        }

        private static void readLine(Tape in, State to) {
            if (in.takeWord("kind")) {
                readKind(in, to);
            } else if (to.people < PEOPLE && in.takeWord("person")) {
                readPerson(in, to);
            } else if (in.takeWord("shake")) {
                to.shake = in.takeNumber(100);
            } else if (in.takeWord("purse")) {
                to.purse = in.takeNumber(999);
            } else if (in.takeWord("year")) {
                to.year = in.takeNumber(999);
            } else {
                in.fail();
            }
        }

        private static void readKind(Tape in, State to) {
            int kind = in.takeKind();
            in.needWord("marks");
            int marks = 0;
            for (int row = 0; row < SIDE; row++) {
                marks |= in.takeFigures() << SIDE * row;
            }
            int deed = in.takeWord("tells") ? in.takeNumber(DEEDS - 1) : NONE;
            int held = in.takeWord("holds") ? in.takeKind() : NONE;
            if (kind < 0 || kind >= KINDS) {
                return;
            }
            to.marks[kind] = marks;
            if (deed != NONE) {
                to.tells[kind] = deed;
            }
            if (held != NONE) {
                to.holds[kind] = held;
            }
        }

        private static void readPerson(Tape in, State to) {
            in.needWord("age");
            int age = in.takeNumber(MOST_AGE);
            in.needWord("luck");
            int luck = in.takeNumber(MOST_LUCK);
            int kind = in.takeWord("under") ? in.takeKind() : NONE;
            to.addPerson(age, luck, kind);
        }
    }

    /** Reads the text of THE LAW into a law's lines and steps. */
    private static final class LawText {
        private LawText() {
        }

        static void readAll(Tape in, Law to) {
            to.clear();
            for (int line = 0; line <= LAW_LINES && in.takeLine(line, LAW_LINES); line++) {
                readLine(in, to);
            }
        }

        private static void readLine(Tape in, Law to) {
            int verb = NONE;
            if (in.takeWord("come")) {
                verb = Law.COME;
            } else if (in.takeWord("stay")) {
                verb = Law.STAY;
            } else if (in.takeWord("fame")) {
                verb = Law.FAME;
            } else {
                in.fail();
            }
            int amount = in.takeNumber(100);
            if (in.takeWord("if")) {
                readAnyOf(in, to, 0);
            }
            to.addLine(verb, amount);
        }

        private static void readAnyOf(Tape in, Law to, int depth) {
            readAllOf(in, to, depth);
            for (int i = 0; i < TAPE && in.takeWord("or"); i++) {
                readAllOf(in, to, depth);
                to.addStep(Law.OR);
            }
        }

        private static void readAllOf(Tape in, Law to, int depth) {
            readAtom(in, to, depth);
            for (int i = 0; i < TAPE && in.takeWord("and"); i++) {
                readAtom(in, to, depth);
                to.addStep(Law.AND);
            }
        }

        /** A seventh "not" or "(" is not taken, and so found wrong where it begins. */
        private static void readAtom(Tape in, Law to, int depth) {
            if (depth < DEEPEST_NESTING && in.takeWord("not")) {
                readAtom(in, to, depth + 1);
                to.addStep(Law.NOT);
            } else if (depth < DEEPEST_NESTING && in.takeSign('(')) {
                readAnyOf(in, to, depth + 1);
                in.needSign(')');
            } else if (in.takeWord("found")) {
                to.addStep(Law.FOUND);
            } else if (in.takeWord("known")) {
                to.addStep(Law.KNOWN);
            } else {
                readSum(in, to);
                boolean less = in.takeSign('<');
                if (!less) {
                    in.needSign('>');
                }
                readSum(in, to);
                to.addStep(less ? Law.LESS : Law.MORE);
            }
        }

        private static void readSum(Tape in, Law to) {
            to.addStep(readPart(in));
            for (int i = 0; i < TAPE && in.takeSign('+'); i++) {
                to.addStep(readPart(in));
                to.addStep(Law.ADD);
            }
        }

        private static int readPart(Tape in) {
            if (in.atNumber()) {
                return Law.NUMBER + in.takeNumber(999);
            }
            for (int part = 0; part < Law.PARTS; part++) {
                if (in.takeWord(partWord(part))) {
                    return part;
                }
            }
            in.fail();
            return 0;
        }

        private static String partWord(int part) {
            switch (part) {
                case 0:
                    return "person";
                case 1:
                    return "kind";
                case 2:
                    return "age";
                case 3:
                    return "luck";
                case 4:
                    return "done";
                case 5:
                    return "rubbed";
                case 6:
                    return "deed";
                default:
                    return "year";
            }
        }
    }

    /** What marks on the field of sixteen places are as a figure. */
    private static final class Field {
        private static final int LEFT_COLUMN = 0x1111;
        private static final int RIGHT_COLUMN = 0x8888;
        private static final int EDGE = 0xF99F;

        private Field() {
        }

        static int pieces(int marks) {
            int left = marks;
            int pieces = 0;
            for (int i = 0; i < PLACES && left != 0; i++) {
                left &= ~spread(left & -left, marks);
                pieces++;
            }
            return pieces;
        }

        static int largestPiece(int marks) {
            int left = marks;
            int largest = 0;
            for (int i = 0; i < PLACES && left != 0; i++) {
                int piece = spread(left & -left, marks);
                left &= ~piece;
                largest = Math.max(largest, Integer.bitCount(piece));
            }
            return largest;
        }

        static int holes(int marks) {
            int bare = ALL_PLACES & ~marks;
            return bare & ~spread(bare & EDGE, bare);
        }

        static int steps(int marks, int from, int to) {
            int reached = marks & 1 << from;
            for (int steps = 0; steps < PLACES; steps++) {
                if ((reached >> to & 1) != 0) {
                    return steps;
                }
                reached = grown(reached) & marks;
            }
            return NONE;
        }

        static int quarterTurns(int marks, int other) {
            int turned = marks;
            for (int turns = 0; turns < 4; turns++) {
                if (turned == other) {
                    return turns;
                }
                turned = turnedOnce(turned);
            }
            return NONE;
        }

        static int bestShift(int marks, int other) {
            int best = 0;
            int most = 0;
            for (int shift = 0; shift < 49; shift++) {
                int lying = lyingOn(marks, other, shift);
                if (lying > most) {
                    best = shift;
                    most = lying;
                }
            }
            return best;
        }

        /** How many marks lie on the other's when moved by the shift of that number. */
        static int lyingOn(int marks, int other, int shift) {
            int down = shift / 7 - 3;
            int right = shift % 7 - 3;
            int moved = marks;
            for (int i = 0; i < right; i++) {
                moved = (moved & ~RIGHT_COLUMN) << 1;
            }
            for (int i = 0; i < -right; i++) {
                moved = (moved & ~LEFT_COLUMN) >> 1;
            }
            moved = down >= 0 ? moved << SIDE * down : moved >> -SIDE * down;
            return Integer.bitCount(moved & other);
        }

        private static int turnedOnce(int marks) {
            int turned = 0;
            for (int place = 0; place < PLACES; place++) {
                int row = place / SIDE;
                int column = place % SIDE;
                turned |= (marks >> place & 1) << SIDE * column + SIDE - 1 - row;
            }
            return turned;
        }

        /** Fifteen steps lead to every place that can be come to. */
        private static int spread(int from, int within) {
            int reached = from;
            for (int i = 0; i < PLACES; i++) {
                reached = grown(reached) & within;
            }
            return reached;
        }

        private static int grown(int places) {
            int sideways = (places & ~RIGHT_COLUMN) << 1 | (places & ~LEFT_COLUMN) >> 1;
            int upright = places << SIDE & ALL_PLACES | places >> SIDE;
            return places | sideways | upright;
        }
    }

    /** Kinds within kinds. */
    private static final class Nest {
        private Nest() {
        }

        static int allWithin(State state, int kind) {
            int seen = 0;
            int at = kind;
            for (int i = 0; i < KINDS && at >= 0 && at < KINDS; i++) {
                seen |= 1 << at;
                at = state.holds[at];
            }
            return seen;
        }

        static int depth(State state, int kind) {
            int at = kind;
            for (int depth = 0; depth <= KINDS; depth++) {
                if (at < 0 || at >= KINDS) {
                    return depth;
                }
                at = state.holds[at];
            }
            return NONE;
        }

        static boolean comesBack(State state, int kind) {
            int held = state.holds[kind];
            return held != NONE && (allWithin(state, held) >> kind & 1) != 0;
        }

        static int deepestKind(State state) {
            int best = NONE;
            int most = 0;
            for (int kind = 0; kind < KINDS; kind++) {
                int depth = depth(state, kind);
                if (depth > most) {
                    best = kind;
                    most = depth;
                }
            }
            return best;
        }
    }

    /** Pairs A and B by which deeds may go, as the bits 8 times A and B of a long. */
    private static final class Rules {
        private static final int PAIRS = 64;
        private static final long ALL = -1L;

        private Rules() {
        }

        /** Those of the pairs by which the kind tells the deed. */
        static long narrowed(long fitting, int kind, int deed) {
            long left = 0;
            for (int a = 0; a < 8; a++) {
                left |= fitting & 1L << 8 * a + (deed - a * kind & 7);
            }
            return left;
        }

        static long fittingRows(Tape rows, int size) {
            long fitting = ALL;
            for (int i = 0; i + 1 < size; i += 2) {
                fitting = narrowed(fitting, rows.byteAt(i), rows.byteAt(i + 1));
            }
            return fitting;
        }

        static long fittingKinds(State state) {
            long fitting = ALL;
            for (int kind = 0; kind < KINDS; kind++) {
                fitting = narrowed(fitting, kind, state.tells[kind]);
            }
            return fitting;
        }

        static int first(long fitting) {
            for (int pair = 0; pair < PAIRS; pair++) {
                if ((fitting >>> pair & 1) != 0) {
                    return pair;
                }
            }
            return NONE;
        }

        static int bestQuestion(long fitting) {
            if (Long.bitCount(fitting) < 2) {
                return NONE;
            }
            int best = NONE;
            int least = PAIRS + 1;
            for (int kind = 0; kind < KINDS; kind++) {
                int greatest = greatestPart(fitting, kind);
                if (greatest < least) {
                    best = kind;
                    least = greatest;
                }
            }
            return best;
        }

        private static int greatestPart(long fitting, int kind) {
            int greatest = 0;
            for (int deed = 0; deed < DEEDS; deed++) {
                greatest = Math.max(greatest, Long.bitCount(narrowed(fitting, kind, deed)));
            }
            return greatest;
        }
    }

    /** Best choices, found by a row of what can still be had from each stand on. */
    private static final class Planner {
        private static final int GROUPS = 64;
        private static final int FAR = 1 << 30;

        private final int[] best;

        Planner() {
            best = new int[(BERTHS + 1) * GROUPS];
        }

        /**
         * The row is by the set of kinds that are told apart. A place costs 65536 and its bit, so that the
         * least cost has the fewest places and among these the least bits.
         */
        int fewestPlaces(State state, int kind) {
            for (int apart = 0; apart <= ALL_KINDS; apart++) {
                best[apart] = FAR;
            }
            best[1 << kind] = 0;
            for (int place = 0; place < PLACES; place++) {
                int marked = state.kindsMarkedAt(place);
                int parts = (marked >> kind & 1) != 0 ? ALL_KINDS & ~marked : marked;
                int price = ALL_PLACES + 1 + (1 << place);
                for (int apart = 0; apart <= ALL_KINDS; apart++) {
                    best[apart | parts] = Math.min(best[apart | parts], best[apart] + price);
                }
            }
            return best[ALL_KINDS] >= FAR ? NONE : best[ALL_KINDS] & ALL_PLACES;
        }

        int fewestTellers(State state, int deeds) {
            int crew = NONE;
            for (int group = 0; group <= state.everybody(); group++) {
                boolean fewer = crew == NONE || Integer.bitCount(group) < Integer.bitCount(crew);
                if (fewer && (deeds & ~state.toldByGroup(group)) == 0) {
                    crew = group;
                }
            }
            return crew;
        }

        /** The row is by the berth that is next and the people who are taken. */
        void fillBerths(State state, Tape deeds, int berths) {
            for (int taken = 0; taken < GROUPS; taken++) {
                best[GROUPS * berths + taken] = 0;
            }
            for (int berth = berths - 1; berth >= 0; berth--) {
                for (int taken = 0; taken <= state.everybody(); taken++) {
                    int most = best[GROUPS * (berth + 1) + taken];
                    for (int person = 0; person < state.people; person++) {
                        most = Math.max(most, filledWith(state, deeds.byteAt(berth), berth, taken, person));
                    }
                    best[GROUPS * berth + taken] = most;
                }
            }
        }

        int berthsFilled() {
            return best[0];
        }

        int berthPerson(State state, Tape deeds, int berths, int wanted) {
            int taken = 0;
            for (int berth = 0; berth < berths; berth++) {
                int person = firstForBerth(state, deeds.byteAt(berth), berth, taken);
                if (berth == wanted) {
                    return person;
                }
                if (person != NONE) {
                    taken |= 1 << person;
                }
            }
            return NONE;
        }

        private int firstForBerth(State state, int deed, int berth, int taken) {
            int most = best[GROUPS * berth + taken];
            if (best[GROUPS * (berth + 1) + taken] == most) {
                return NONE;
            }
            for (int person = 0; person < state.people; person++) {
                if (filledWith(state, deed, berth, taken, person) == most) {
                    return person;
                }
            }
            return NONE;
        }

        /** How many berths from this one on are filled if the person has it; NONE, if that cannot be. */
        private int filledWith(State state, int deed, int berth, int taken, int person) {
            boolean free = (taken >> person & 1) == 0;
            boolean able = (state.deedsHad(person) >> deed & 1) != 0;
            return free && able ? 1 + best[GROUPS * (berth + 1) + (taken | 1 << person)] : NONE;
        }

        /** The row is by the people who are settled. */
        void pairPeople(State state) {
            int all = state.everybody();
            best[all] = 0;
            for (int settled = all - 1; settled >= 0; settled--) {
                int person = firstUnsettled(settled);
                int most = best[settled | 1 << person];
                for (int other = person + 1; other < state.people; other++) {
                    most = Math.max(most, gainedWith(state, settled, person, other));
                }
                best[settled] = most;
            }
        }

        int pairedDeeds() {
            return best[0];
        }

        int partner(State state, int wanted) {
            int settled = 0;
            for (int person = 0; person < state.people; person++) {
                if ((settled >> person & 1) == 0) {
                    int other = firstPartner(state, settled, person);
                    if (person == wanted) {
                        return other;
                    }
                    if (other == wanted) {
                        return person;
                    }
                    settled |= 1 << person | (other == NONE ? 0 : 1 << other);
                }
            }
            return NONE;
        }

        private int firstPartner(State state, int settled, int person) {
            if (best[settled | 1 << person] == best[settled]) {
                return NONE;
            }
            for (int other = person + 1; other < state.people; other++) {
                if (gainedWith(state, settled, person, other) == best[settled]) {
                    return other;
                }
            }
            return NONE;
        }

        /** How many deeds all who are not settled bring if these two are a pair; NONE, if they cannot be. */
        private int gainedWith(State state, int settled, int person, int other) {
            int both = 1 << person | 1 << other;
            if ((settled & both) != 0) {
                return NONE;
            }
            int justOneHas = state.deedsHad(person) ^ state.deedsHad(other);
            return Integer.bitCount(justOneHas) + best[settled | both];
        }

        private static int firstUnsettled(int settled) {
            int person = 0;
            while (person < PEOPLE - 1 && (settled >> person & 1) != 0) {
                person++;
            }
            return person;
        }
    }
}
