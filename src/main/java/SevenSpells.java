import java.util.Arrays;

/** A land under spells: told in texts, changed by deeds, foretold. The document numbers what it promises. */
public final class SevenSpells {
    public static final int NONE = -1, UNKNOWN = -2, OUTSIDE = -3, NOT = -4, FULL = -5;

    private static final int MOST_PEOPLE = 3, PEOPLE_AT_FIRST = 2, GIFTS = 2, LAST_DAY = 6;
    private static final int MOST_SPELLS = 5, MOST_TERMS = 3, MOST_ASKED = 7;
    private static final int MOST_LETTERS = 240, LAST_LETTER = 255, MOST_LINES = 12;
    private static final int MOST_DEEDS = 9999, MOST_UNDONE = 8, MOST_KEPT = 2;
    private static final int MOST_IN_ROW = 12, MOST_PRINCES = 5, MOST_TRIED = 8;
    private static final int ALLOWED = 0;

    private final Row text = new Row(MOST_LETTERS);
    private final Told told = new Told();
    private final Reader reader = new Reader(text);
    private final Rules rules = new Rules();
    private final Search fromNow = new Search(rules);
    // A second one, so that a question "what if" does not spoil what is already known of now.
    private final Search whatIf = new Search(rules);
    private final Trials trials = new Trials();
    private final Row undoable = new Row(MOST_UNDONE);
    private final int[] keptStates = new int[MOST_KEPT];
    private final int[] keptDeeds = new int[MOST_KEPT];
    private final Row row = new Row(MOST_IN_ROW);
    private final Row princes = new Row(MOST_PRINCES);
    private int state;
    private int deeds;

    public SevenSpells() {
        beginAsTold();
    }

    // ---- what is told

    public int write(int letter) {
        if (letter < 0 || letter > LAST_LETTER) {
            return OUTSIDE;
        }
        return text.add(letter) ? text.size() : FULL;
    }

    public int erase() {
        return text.empty();
    }

    public int fault() {
        return reader.firstFault(told);
    }

    public int land() {
        if (reader.firstFault(told) != NONE) {
            return NOT;
        }
        told.takeOver(reader.draft());
        text.empty();
        beginAsTold();
        return reader.lines();
    }

    private void beginAsTold() {
        rules.learn(told);
        fromNow.stale();
        whatIf.stale();
        state = told.firstState();
        deeds = 0;
        undoable.empty();
        Arrays.fill(keptDeeds, NONE);
        row.empty();
        princes.empty();
        trials.empty();
    }

    public int person(int person, int what) {
        if (!told.hasPerson(person)) {
            return UNKNOWN;
        }
        if (what < 0 || what > 3) {
            return OUTSIDE;
        }
        if (what == 3) {
            return State.weepers(state) >> person & 1;
        }
        return oneIf((state & rules.cursesOn(person, what)) != 0);
    }

    public int spell(int spell, int what) {
        if (!told.hasSpell(spell)) {
            return UNKNOWN;
        }
        switch (what) {
            case 0: return told.kindOf(spell);
            case 1: return told.targetOf(spell);
            case 2: return state >> spell & 1;
            case 3: return oneIf((state & rules.bindersOf(spell)) != 0);
            case 4: return told.termsOf(spell);
            case 5: return told.wakenedBy(spell);
            default: return OUTSIDE;
        }
    }

    public int term(int spell, int i, int what) {
        if (!told.hasSpell(spell) || i < 0 || i >= told.termsOf(spell)) {
            return UNKNOWN;
        }
        switch (what) {
            case 0: return told.sortOf(spell, i);
            case 1: return told.numberOf(spell, i);
            case 2: return oneIf(isSoNow(spell, i));
            default: return OUTSIDE;
        }
    }

    public int as(int spell, int kind) {
        if (!told.hasSpell(spell)) {
            return UNKNOWN;
        }
        if (kind < Kind.ANY_SPELL || kind > Kind.ANY_BIND) {
            return OUTSIDE;
        }
        if (!Kind.isA(told.kindOf(spell), kind)) {
            return NOT;
        }
        return termsSoNow(spell);
    }

    private boolean isSoNow(int spell, int i) {
        return Term.isSo(told.sortOf(spell, i), told.numberOf(spell, i), state);
    }

    private int termsSoNow(int spell) {
        int so = 0;
        for (int i = 0; i < MOST_TERMS && i < told.termsOf(spell); i++) {
            so += oneIf(isSoNow(spell, i));
        }
        return so;
    }

    public int laidBy(int spell) {
        if (!told.hasSpell(spell)) {
            return UNKNOWN;
        }
        int best = NONE;
        int most = 0;
        for (int witch = 0; witch < Term.WITCHES; witch++) {
            int loved = wordsLovedBy(witch, spell);
            if (loved > most) {
                most = loved;
                best = witch;
            }
        }
        return best;
    }

    private int wordsLovedBy(int witch, int spell) {
        int loved = 0;
        for (int i = 0; i < MOST_TERMS && i < told.termsOf(spell); i++) {
            loved += oneIf(Term.lover(told.sortOf(spell, i)) == witch);
        }
        return loved;
    }

    // ---- deeds

    public int can(int person, int sort, int which) {
        int refused = refusal(person, sort, which);
        if (refused != ALLOWED) {
            return refused;
        }
        return oneIf(rules.after(state, rules.deedOf(person, sort, which)) != NONE);
    }

    /** ALLOWED, or why such a deed cannot even be spoken of. */
    private int refusal(int person, int sort, int which) {
        if (!told.hasPerson(person)) {
            return UNKNOWN;
        }
        if (sort == Deed.KISS && !isAnother(person, which)) {
            return UNKNOWN;
        }
        if (sort == Deed.SMASH && (which < 0 || which >= GIFTS)) {
            return UNKNOWN;
        }
        return sort < Deed.KISS || sort > Deed.NIGHT ? OUTSIDE : ALLOWED;
    }

    private boolean isAnother(int person, int whom) {
        return told.hasPerson(whom) && whom != person;
    }

    public int act(int person, int sort, int which) {
        int refused = refusal(person, sort, which);
        if (refused != ALLOWED) {
            return refused;
        }
        int after = rules.after(state, rules.deedOf(person, sort, which));
        if (after == NONE) {
            return NOT;
        }
        if (deeds >= MOST_DEEDS) {
            return FULL;
        }
        if (undoable.isFull()) {
            undoable.dropFirst();
        }
        undoable.add(state);
        state = State.of(after);
        deeds++;
        return State.lifted(after);
    }

    public int undo() {
        if (undoable.size() == 0) {
            return NOT;
        }
        state = undoable.at(undoable.size() - 1);
        undoable.dropLast();
        deeds--;
        return undoable.size();
    }

    public int keep(int k) {
        if (k < 0 || k >= keptStates.length || k >= keptDeeds.length) {
            return UNKNOWN;
        }
        keptStates[k] = state;
        keptDeeds[k] = deeds;
        return deeds;
    }

    public int back(int k) {
        if (k < 0 || k >= keptStates.length || k >= keptDeeds.length) {
            return UNKNOWN;
        }
        if (keptDeeds[k] == NONE) {
            return NOT;
        }
        state = keptStates[k];
        deeds = keptDeeds[k];
        undoable.empty();
        return deeds;
    }

    // ---- foretold

    public int fewest(int set) {
        if (!told.hasAll(set)) {
            return UNKNOWN;
        }
        return fromNow().fewestWithout(set);
    }

    private Search fromNow() {
        fromNow.ask(state, told.everybody(), 0);
        return fromNow;
    }

    private Search whatIf(int start, int doers, int unlifted) {
        whatIf.ask(start, doers, unlifted);
        return whatIf;
    }

    public int way(int set, int i, int what) {
        if (!told.hasAll(set)) {
            return UNKNOWN;
        }
        if (i < 0 || what < 0 || what > 2) {
            return OUTSIDE;
        }
        int deed = fromNow().deedTo(set, i);
        if (deed == NONE) {
            return NONE;
        }
        if (what == 0) {
            return rules.doerOf(deed);
        }
        return what == 1 ? rules.sortOf(deed) : rules.whichOf(deed);
    }

    public int helpers(int set, int what) {
        if (!told.hasAll(set)) {
            return UNKNOWN;
        }
        if (what < 0 || what > 1) {
            return OUTSIDE;
        }
        int needed = fewestHelpers(set);
        return needed == NONE || what == 1 ? needed : Integer.bitCount(needed);
    }

    private int fewestHelpers(int set) {
        if (fromNow().fewestWithout(set) == NONE) {
            return NONE;
        }
        int all = told.everybody();
        for (int size = 0; size < MOST_PEOPLE; size++) {
            for (int doers = 0; doers < all; doers++) {
                if (Integer.bitCount(doers) == size && whatIf(state, doers, 0).fewestWithout(set) != NONE) {
                    return doers;
                }
            }
        }
        return all;
    }

    public int nights(int set) {
        if (!told.hasAll(set)) {
            return UNKNOWN;
        }
        return whatIf.fewestNightsWithout(state, told.everybody(), set);
    }

    public int never() {
        return fromNow().heldEverywhere();
    }

    public int ahead(int spell) {
        if (!told.hasSpell(spell)) {
            return UNKNOWN;
        }
        int bit = 1 << spell;
        if ((state & bit) == 0 || fromNow().fewestWithout(bit) == NONE) {
            return NOT;
        }
        int found = 0;
        for (int other = 0; other < MOST_SPELLS; other++) {
            int otherBit = 1 << other;
            if (other != spell && (State.holding(state) & otherBit) != 0
                    && whatIf(state, told.everybody(), otherBit).fewestWithout(bit) == NONE) {
                found |= otherBit;
            }
        }
        return found;
    }

    public int props() {
        int never = fromNow().heldEverywhere();
        int found = 0;
        for (int spell = 0; spell < MOST_SPELLS; spell++) {
            if ((never >> spell & 1) != 0 && isPropped(spell, never)) {
                found |= 1 << spell;
            }
        }
        return found;
    }

    private boolean isPropped(int spell, int never) {
        if (termsSoNow(spell) != told.termsOf(spell) - 1) {
            return false;
        }
        int others = never & ~(1 << spell);
        for (int i = 0; i < MOST_TERMS && i < told.termsOf(spell); i++) {
            if (!isSoNow(spell, i)) {
                return told.sortOf(spell, i) == Term.GONE && (others >> told.numberOf(spell, i) & 1) != 0;
            }
        }
        return false;
    }

    public int gone(int set, int what) {
        if (!told.hasAll(set)) {
            return UNKNOWN;
        }
        if (what < 0 || what > 1) {
            return OUTSIDE;
        }
        int best = NONE;
        int least = fromNow().fewestWithout(set);
        for (int spell = 0; spell < MOST_SPELLS; spell++) {
            int bit = 1 << spell;
            if ((State.holding(state) & ~set & bit) != 0) {
                int then = whatIf(state & ~bit, told.everybody(), 0).fewestWithout(set);
                if (then != NONE && (least == NONE || then < least)) {
                    least = then;
                    best = spell;
                }
            }
        }
        return best == NONE || what == 0 ? best : least;
    }

    public int many(int n) {
        return n < 0 ? OUTSIDE : fromNow().statesAt(n);
    }

    public int farthest() {
        return fromNow().greatestDistance();
    }

    // ---- rows, princes

    public int row(int person, int sort, int which) {
        int refused = refusal(person, sort, which);
        if (refused != ALLOWED) {
            return refused;
        }
        return row.add(rules.deedOf(person, sort, which)) ? row.size() : FULL;
    }

    public int burn() {
        return row.empty();
    }

    public int judge(int what) {
        if (what < 0 || what > 1) {
            return OUTSIDE;
        }
        int then = state;
        int failing = NONE;
        for (int i = 0; i < MOST_IN_ROW && i < row.size() && failing == NONE; i++) {
            int after = rules.after(then, row.at(i));
            if (after == NONE) {
                failing = i;
            } else {
                then = State.of(after);
            }
        }
        return what == 0 ? failing : Integer.bitCount(State.holding(then));
    }

    public int prince(int person, int day, int whom) {
        if (!told.hasPerson(person) || !isAnother(person, whom)) {
            return UNKNOWN;
        }
        if (day < 0 || day > LAST_DAY) {
            return OUTSIDE;
        }
        int kiss = rules.deedOf(person, Deed.KISS, whom);
        return princes.add(kiss << Deed.DAY_BITS | day) ? princes.size() : FULL;
    }

    public int dismiss() {
        return princes.empty();
    }

    public int inLine(int what) {
        if (what < 0 || what > 1) {
            return OUTSIDE;
        }
        int then = state;
        int lifted = 0;
        int waited = 0;
        for (int i = 0; i < MOST_PRINCES && i < princes.size(); i++) {
            int day = princes.at(i) & Deed.DAY_MASK;
            for (int night = 0; night < LAST_DAY && State.day(then) != day; night++) {
                int after = rules.after(then, rules.nightDeed());
                then = State.of(after);
                lifted += Integer.bitCount(State.lifted(after));
                waited++;
            }
            int after = rules.after(then, princes.at(i) >> Deed.DAY_BITS);
            if (after != NONE) {
                then = State.of(after);
                lifted += Integer.bitCount(State.lifted(after));
            }
        }
        return what == 0 ? lifted : waited;
    }

    // ---- a secret spell

    public int tried(int kisser, int weepers, int day, int broken, int lifted) {
        if (kisser != NONE && !told.hasPerson(kisser)) {
            return UNKNOWN;
        }
        if ((weepers & ~told.everybody()) != 0 || broken < 0 || broken >= 1 << GIFTS) {
            return UNKNOWN;
        }
        if (day < 0 || day > LAST_DAY || lifted < 0 || lifted > 1) {
            return OUTSIDE;
        }
        int trial = Trials.packed(kisser, weepers, day, broken);
        return trials.add(trial, lifted) ? trials.size() : FULL;
    }

    public int forget() {
        return trials.empty();
    }

    public int mayBe(int what) {
        if (what < 0 || what > 4) {
            return OUTSIDE;
        }
        trials.weigh(told.people());
        if (what == 0) {
            return trials.howMany();
        }
        int first = trials.firstTerm();
        if (first == NONE) {
            return NOT;
        }
        int second = trials.secondTerm(first);
        switch (what) {
            case 1: return trials.sortOf(first);
            case 2: return trials.numberOf(first);
            case 3: return second == NONE ? NONE : trials.sortOf(second);
            default: return second == NONE ? NONE : trials.numberOf(second);
        }
    }

    public int next() {
        trials.weigh(told.people());
        return trials.bestDay();
    }

    public int count(int what) {
        switch (what) {
            case 0: return told.people();
            case 1: return told.spells();
            case 2: return State.holding(state);
            case 3: return State.broken(state);
            case 4: return State.weepers(state);
            case 5: return State.day(state);
            case 6: return State.asked(state);
            case 7: return deeds;
            case 8: return undoable.size();
            case 9: return row.size();
            case 10: return princes.size();
            case 11: return trials.size();
            case 12: return text.size();
            default: return OUTSIDE;
        }
    }

    private static int oneIf(boolean so) {
        return so ? 1 : 0;
    }

    /** The kinds of spells, and the wider kinds that are over them. */
    private static final class Kind {
        static final int SLEEP = 0, FROG = 1, MUTE = 2, BIND = 3;
        static final int CURSES = 3;
        static final int ANY_SPELL = 0, ANY_BIND = 5;
        private static final int NARROWEST = 2, DEEPEST = 3;
        private static final int[] OVER = {NONE, 0, 1, 1, 1, 0};

        private Kind() {
        }

        static boolean isA(int kind, int wider) {
            int at = kind + NARROWEST;
            for (int step = 0; step < DEEPEST && at >= 0 && at < OVER.length; step++) {
                if (at == wider) {
                    return true;
                }
                at = OVER[at];
            }
            return false;
        }
    }

    /** What an if is made of. */
    private static final class Term {
        static final int KISS = 0, WEEP = 1, DAY = 2, HOLDS = 3, GONE = 4, BROKEN = 5, WHOLE = 6, ASKED = 7;
        static final int WITCHES = 3;

        private Term() {
        }

        static boolean isSo(int sort, int number, int state) {
            if (sort == KISS) {
                return false;
            }
            if (sort == ASKED) {
                return State.asked(state) >= number;
            }
            return (state & maskOf(sort, number)) == valueOf(sort, number);
        }

        /** The bits of a state that the term looks at; KISS and ASKED are no matter of bits. */
        static int maskOf(int sort, int number) {
            switch (sort) {
                case WEEP: return 1 << State.WEEP_AT + number;
                case DAY: return State.DAY_BITS;
                case HOLDS:
                case GONE: return 1 << number;
                case BROKEN:
                case WHOLE: return 1 << State.BROKEN_AT + number;
                default: return 0;
            }
        }

        /** How those bits are where the term is so. */
        static int valueOf(int sort, int number) {
            switch (sort) {
                case DAY: return number << State.DAY_AT;
                case GONE:
                case WHOLE: return 0;
                default: return maskOf(sort, number);
            }
        }

        static int lover(int sort) {
            switch (sort) {
                case KISS:
                case WEEP: return 0;
                case DAY:
                case ASKED: return 1;
                default: return 2;
            }
        }
    }

    /** The sorts of deeds. */
    private static final class Deed {
        static final int KISS = 0, WEEP = 1, SMASH = 2, ASK = 3, NIGHT = 4;
        // Each: two others to kiss, weeping, two gifts to smash, asking; and the night of all.
        static final int MOST = MOST_PEOPLE * 6 + 1;
        static final int DAY_BITS = 3, DAY_MASK = 7;

        private Deed() {
        }
    }

    /**
     * A state of the land is one number, so that rows of states are rows of numbers: which spells hold, which gifts
     * are broken, who weeps, how often was asked, the day. The day is highest, so that all states lie below COUNT.
     */
    private static final class State {
        static final int BROKEN_AT = 5, WEEP_AT = 7, ASKED_AT = 10, DAY_AT = 13, LIFTED_AT = 16;
        static final int WEEP_BITS = 7 << WEEP_AT, DAY_BITS = 7 << DAY_AT;
        static final int COUNT = 7 << DAY_AT;
        private static final int SPELL_BITS = 31, BITS = 0xFFFF;

        private State() {
        }

        static int holding(int state) {
            return state & SPELL_BITS;
        }

        static int broken(int state) {
            return state >> BROKEN_AT & 3;
        }

        static int weepers(int state) {
            return state >> WEEP_AT & 7;
        }

        static int asked(int state) {
            return state >> ASKED_AT & 7;
        }

        static int day(int state) {
            return state >> DAY_AT & 7;
        }

        static int nextDay(int state) {
            int today = state >> DAY_AT & 7;
            int tomorrow = today >= LAST_DAY ? 0 : today + 1;
            return state & ~(WEEP_BITS | DAY_BITS) | tomorrow << DAY_AT;
        }

        /** Of what Rules.after tells: the state alone. */
        static int of(int after) {
            return after & BITS;
        }

        /** Of what Rules.after tells: the spells that were lifted. */
        static int lifted(int after) {
            return after >> LIFTED_AT & SPELL_BITS;
        }
    }

    /** A row of numbers that has an end. */
    private static final class Row {
        private final int[] items;
        private int size;

        Row(int most) {
            items = new int[Math.max(most, 0)];
        }

        int size() {
            return size;
        }

        boolean isFull() {
            return size >= items.length;
        }

        int at(int i) {
            return i < 0 || i >= size || i >= items.length ? NONE : items[i];
        }

        boolean add(int item) {
            if (size < 0 || size >= items.length) {
                return false;
            }
            items[size] = item;
            size++;
            return true;
        }

        void dropFirst() {
            for (int i = 1; i < size && i < items.length; i++) {
                items[i - 1] = items[i];
            }
            dropLast();
        }

        void dropLast() {
            size = Math.max(size - 1, 0);
        }

        int empty() {
            int had = size;
            size = 0;
            return had;
        }
    }

    /** The land as texts tell it: its people, its spells, and the day and the gifts with which it begins. */
    private static final class Told {
        private int people = PEOPLE_AT_FIRST;
        private int spells;
        private int day;
        private int broken;
        private final int[] kinds = new int[MOST_SPELLS];
        private final int[] targets = new int[MOST_SPELLS];
        private final int[] wakes = new int[MOST_SPELLS];
        private final int[] terms = new int[MOST_SPELLS];
        private final int[] sorts = new int[MOST_SPELLS * MOST_TERMS];
        private final int[] numbers = new int[MOST_SPELLS * MOST_TERMS];

        void takeOver(Told other) {
            people = other.people;
            spells = other.spells;
            day = other.day;
            broken = other.broken;
            System.arraycopy(other.kinds, 0, kinds, 0, MOST_SPELLS);
            System.arraycopy(other.targets, 0, targets, 0, MOST_SPELLS);
            System.arraycopy(other.wakes, 0, wakes, 0, MOST_SPELLS);
            System.arraycopy(other.terms, 0, terms, 0, MOST_SPELLS);
            System.arraycopy(other.sorts, 0, sorts, 0, MOST_SPELLS * MOST_TERMS);
            System.arraycopy(other.numbers, 0, numbers, 0, MOST_SPELLS * MOST_TERMS);
        }

        void tellPeople(int number) {
            people = number;
            spells = 0;
            broken = 0;
            day = 0;
        }

        void tellDay(int number) {
            day = number;
        }

        void tellBroken(int gift) {
            broken |= 1 << gift;
        }

        void tellBare() {
            spells = 0;
        }

        /** The spell that is being told is no spell yet: its number is spells() until it is ended. */
        void beginSpell(int kind, int target) {
            if (!isFull()) {
                kinds[spells] = kind;
                targets[spells] = target;
                terms[spells] = 0;
                wakes[spells] = NONE;
            }
        }

        void addTerm(int sort, int number) {
            if (!isFull() && terms[spells] >= 0 && terms[spells] < MOST_TERMS) {
                int at = spells * MOST_TERMS + terms[spells];
                sorts[at] = sort;
                numbers[at] = number;
                terms[spells]++;
            }
        }

        void endSpell(int wakened) {
            if (!isFull()) {
                wakes[spells] = wakened;
                spells++;
            }
        }

        boolean isFull() {
            return spells < 0 || spells >= MOST_SPELLS;
        }

        int people() {
            return people;
        }

        int everybody() {
            return (1 << people) - 1;
        }

        int spells() {
            return spells;
        }

        boolean hasPerson(int person) {
            return person >= 0 && person < people;
        }

        boolean hasSpell(int spell) {
            return spell >= 0 && spell < spells && spell < MOST_SPELLS;
        }

        boolean hasAll(int set) {
            return set >= 0 && set < 1 << spells;
        }

        int kindOf(int spell) {
            return hasSpell(spell) ? kinds[spell] : NONE;
        }

        int targetOf(int spell) {
            return hasSpell(spell) ? targets[spell] : NONE;
        }

        int wakenedBy(int spell) {
            return hasSpell(spell) ? wakes[spell] : NONE;
        }

        int termsOf(int spell) {
            return hasSpell(spell) ? terms[spell] : 0;
        }

        int sortOf(int spell, int i) {
            return hasTerm(spell, i) ? sorts[spell * MOST_TERMS + i] : NONE;
        }

        int numberOf(int spell, int i) {
            return hasTerm(spell, i) ? numbers[spell * MOST_TERMS + i] : NONE;
        }

        private boolean hasTerm(int spell, int i) {
            return hasSpell(spell) && i >= 0 && i < MOST_TERMS && i < terms[spell];
        }

        int firstState() {
            return (1 << spells) - 1 | broken << State.BROKEN_AT | day << State.DAY_AT;
        }
    }

    /**
     * Reads a text into a draft, as far as it can. A token is known by its code; a number of one digit is its own code.
     * Whatever finds that the token at hand cannot stand there leaves it at hand.
     */
    private static final class Reader {
        private static final int UNREADABLE = -1, SEMICOLON = 10, END = 11;
        // Their codes are those of WORDS in its order; so kinds and sorts of terms stand in their own order there.
        private static final int LAND = 12, SLEEP = 13, FROG = 14, MUTE = 15, BIND = 16, BARE = 17, IF = 18, AND = 19;
        private static final int WAKES = 20, KISS = 21, WEEP = 22, DAY = 23, HOLDS = 24, GONE = 25, BROKEN = 26;
        private static final int ASKED = 28;
        private static final String WORDS =
                "land sleep frog mute bind bare if and wakes kiss weep day holds gone broken whole asked ";

        private final Row text;
        private final Row codes = new Row(MOST_LETTERS + 1);
        private final Row places = new Row(MOST_LETTERS + 1);
        private final Told draft = new Told();
        private int at;
        private int lines;

        Reader(Row text) {
            this.text = text;
        }

        Told draft() {
            return draft;
        }

        int lines() {
            return lines;
        }

        /** Where the text fails first, NONE if nowhere: then the draft is the land as the text tells it. */
        int firstFault(Told told) {
            draft.takeOver(told);
            cutIntoTokens();
            at = 0;
            for (lines = 1; lines <= MOST_LINES; lines++) {
                if (!readLine()) {
                    return places.at(at);
                }
                if (codes.at(at) == END) {
                    return NONE;
                }
                if (lines == MOST_LINES || !takes(SEMICOLON)) {
                    return places.at(at);
                }
            }
            return places.at(at);
        }

        private void cutIntoTokens() {
            codes.empty();
            places.empty();
            for (int i = 0; i < text.size(); i++) {
                if (beginsToken(i)) {
                    codes.add(codeOf(i, endOfToken(i)));
                    places.add(i);
                }
            }
            codes.add(END);
            places.add(text.size());
        }

        private boolean beginsToken(int i) {
            int letter = text.at(i);
            int ahead = text.at(i - 1);
            boolean goesOn = isSmall(letter) && isSmall(ahead) || isDigit(letter) && isDigit(ahead);
            return letter != ' ' && !goesOn;
        }

        private int endOfToken(int begin) {
            int end = begin + 1;
            if (isSmall(text.at(begin))) {
                while (end < text.size() && isSmall(text.at(end))) {
                    end++;
                }
            } else if (isDigit(text.at(begin))) {
                while (end < text.size() && isDigit(text.at(end))) {
                    end++;
                }
            }
            return end;
        }

        private static boolean isSmall(int letter) {
            return letter >= 'a' && letter <= 'z';
        }

        private static boolean isDigit(int letter) {
            return letter >= '0' && letter <= '9';
        }

        private int codeOf(int begin, int end) {
            int letter = text.at(begin);
            if (isSmall(letter)) {
                return wordCode(begin, end);
            }
            if (isDigit(letter)) {
                return end - begin == 1 ? letter - '0' : UNREADABLE;
            }
            return letter == ';' ? SEMICOLON : UNREADABLE;
        }

        private int wordCode(int begin, int end) {
            int code = LAND;
            int first = 0;
            for (int i = 0; i < WORDS.length(); i++) {
                if (WORDS.charAt(i) == ' ') {
                    if (i - first == end - begin && isSpelled(begin, first, i)) {
                        return code;
                    }
                    code++;
                    first = i + 1;
                }
            }
            return UNREADABLE;
        }

        private boolean isSpelled(int begin, int first, int behind) {
            for (int i = first; i < behind && i < WORDS.length(); i++) {
                if (WORDS.charAt(i) != text.at(begin + i - first)) {
                    return false;
                }
            }
            return true;
        }

        private boolean readLine() {
            int word = codes.at(at);
            if (word >= SLEEP && word <= BIND) {
                return readSpell(word);
            }
            if (takes(BARE)) {
                draft.tellBare();
                return true;
            }
            if (word != LAND && word != DAY && word != BROKEN) {
                return false;
            }
            at++;
            int number = takeNumberBehind(word);
            if (number == NONE) {
                return false;
            }
            if (word == LAND) {
                draft.tellPeople(number);
            } else if (word == DAY) {
                draft.tellDay(number);
            } else {
                draft.tellBroken(number);
            }
            return true;
        }

        private boolean readSpell(int word) {
            if (draft.isFull()) {
                return false;
            }
            at++;
            int target = takeNumberBehind(word);
            if (target == NONE || !takes(IF)) {
                return false;
            }
            draft.beginSpell(word - SLEEP, target);
            for (int terms = 0; terms < MOST_TERMS && (terms == 0 || takes(AND)); terms++) {
                if (!readTerm()) {
                    return false;
                }
            }
            int wakened = NONE;
            if (takes(WAKES)) {
                wakened = takeNumberBehind(WAKES);
                if (wakened == NONE) {
                    return false;
                }
            }
            draft.endSpell(wakened);
            return true;
        }

        private boolean readTerm() {
            int word = codes.at(at);
            if (word < KISS || word > ASKED) {
                return false;
            }
            at++;
            int number = takeNumberBehind(word);
            if (number == NONE) {
                return false;
            }
            draft.addTerm(word - KISS, number);
            return true;
        }

        private boolean takes(int code) {
            if (codes.at(at) != code) {
                return false;
            }
            at++;
            return true;
        }

        private int takeNumberBehind(int word) {
            int number = codes.at(at);
            int least = word == LAND || word == ASKED ? 1 : 0;
            if (number < least || number > 9 || number > lastNumberBehind(word)) {
                return NONE;
            }
            at++;
            return number;
        }

        private int lastNumberBehind(int word) {
            switch (word) {
                case LAND: return MOST_PEOPLE;
                case SLEEP:
                case FROG:
                case MUTE:
                case KISS:
                case WEEP: return draft.people() - 1;
                case BIND: return draft.spells() - 1;
                // The spell that is being told is not among spells() yet, but may name itself.
                case HOLDS:
                case GONE:
                case WAKES: return draft.spells();
                case DAY: return LAST_DAY;
                case ASKED: return MOST_ASKED;
                default: return GIFTS - 1;
            }
        }
    }

    /** What is told, made ready for states: which deeds there are, what each needs and does, what lifts a spell. */
    private static final class Rules {
        private static final int NO_KISS = 0, NEVER_SO = -1;

        private int people;
        private int spells;
        private int deedCount;
        // A spell is lifted in a state whose bits under its mask are its value, if enough was asked and its kiss is the deed.
        private final int[] masks = new int[MOST_SPELLS];
        private final int[] values = new int[MOST_SPELLS];
        private final int[] askings = new int[MOST_SPELLS];
        private final int[] kissesNeeded = new int[MOST_SPELLS];
        private final int[] wakings = new int[MOST_SPELLS];
        private final int[] binders = new int[MOST_SPELLS];
        private final int[] curses = new int[Kind.CURSES * MOST_PEOPLE];
        private final int[] doers = new int[Deed.MOST];
        private final int[] sorts = new int[Deed.MOST];
        private final int[] whichs = new int[Deed.MOST];
        // A deed cannot be in a state that has a bit of its bars; done, it adds its bits, which are not there then.
        private final int[] bars = new int[Deed.MOST];
        private final int[] bits = new int[Deed.MOST];
        private final int[] kisses = new int[Deed.MOST];

        void learn(Told told) {
            people = told.people();
            spells = Math.min(told.spells(), MOST_SPELLS);
            learnTargets(told);
            for (int s = 0; s < spells && s < MOST_SPELLS; s++) {
                learnSpell(told, s);
            }
            learnDeeds();
        }

        private void learnTargets(Told told) {
            Arrays.fill(curses, 0);
            Arrays.fill(binders, 0);
            for (int s = 0; s < spells && s < MOST_SPELLS; s++) {
                int kind = told.kindOf(s);
                int target = told.targetOf(s);
                if (kind == Kind.BIND && target >= 0 && target < MOST_SPELLS) {
                    binders[target] |= 1 << s;
                } else if (isCurse(target, kind)) {
                    curses[kind * MOST_PEOPLE + target] |= 1 << s;
                }
            }
        }

        private static boolean isCurse(int person, int kind) {
            return person >= 0 && person < MOST_PEOPLE && kind >= 0 && kind < Kind.CURSES;
        }

        private void learnSpell(Told told, int s) {
            if (s < 0 || s >= MOST_SPELLS) {
                return;
            }
            masks[s] = 1 << s | binders[s];
            values[s] = 1 << s;
            askings[s] = 0;
            kissesNeeded[s] = NO_KISS;
            int wakened = told.wakenedBy(s);
            wakings[s] = wakened == NONE ? 0 : 1 << wakened;
            for (int i = 0; i < MOST_TERMS && i < told.termsOf(s); i++) {
                int sort = told.sortOf(s, i);
                int number = told.numberOf(s, i);
                if (sort == Term.KISS) {
                    needKiss(s, told.kindOf(s) == Kind.BIND ? NEVER_SO : kissOf(number, told.targetOf(s)));
                } else if (sort == Term.ASKED) {
                    askings[s] = Math.max(askings[s], number);
                } else {
                    needBits(s, Term.maskOf(sort, number), Term.valueOf(sort, number));
                }
            }
        }

        private static int kissOf(int kisser, int kissed) {
            return 1 + kisser * MOST_PEOPLE + kissed;
        }

        private void needKiss(int s, int kiss) {
            if (s >= 0 && s < MOST_SPELLS) {
                boolean alike = kissesNeeded[s] == NO_KISS || kissesNeeded[s] == kiss;
                kissesNeeded[s] = alike ? kiss : NEVER_SO;
            }
        }

        private void needBits(int s, int mask, int value) {
            if (s < 0 || s >= MOST_SPELLS) {
                return;
            }
            if ((masks[s] & mask & (values[s] ^ value)) != 0) {
                kissesNeeded[s] = NEVER_SO;
            }
            masks[s] |= mask;
            values[s] |= value;
        }

        /** In the order in which ways are compared: by people, sorts, whom or what; the night last. */
        private void learnDeeds() {
            deedCount = 0;
            for (int p = 0; p < people && p < MOST_PEOPLE; p++) {
                int asleep = cursesOn(p, Kind.SLEEP);
                for (int whom = 0; whom < people && whom < MOST_PEOPLE; whom++) {
                    if (whom != p) {
                        addDeed(p, Deed.KISS, whom, asleep, 0);
                    }
                }
                int tears = 1 << State.WEEP_AT + p;
                addDeed(p, Deed.WEEP, 0, asleep | tears, tears);
                for (int gift = 0; gift < GIFTS; gift++) {
                    int shards = 1 << State.BROKEN_AT + gift;
                    addDeed(p, Deed.SMASH, gift, asleep | cursesOn(p, Kind.FROG) | shards, shards);
                }
                addDeed(p, Deed.ASK, 0, asleep | cursesOn(p, Kind.MUTE), 1 << State.ASKED_AT);
            }
            addDeed(NONE, Deed.NIGHT, 0, 0, 0);
        }

        private void addDeed(int doer, int sort, int which, int barred, int added) {
            if (deedCount < 0 || deedCount >= Deed.MOST) {
                return;
            }
            doers[deedCount] = doer;
            sorts[deedCount] = sort;
            whichs[deedCount] = which;
            bars[deedCount] = barred;
            bits[deedCount] = added;
            kisses[deedCount] = sort == Deed.KISS ? kissOf(doer, which) : NO_KISS;
            deedCount++;
        }

        /** No more states than these can come about, whatever is done. */
        int mostStates() {
            int most = 7 * 8 * 4 << people + spells;
            return most < 1 || most > State.COUNT ? State.COUNT : most;
        }

        int cursesOn(int person, int kind) {
            return isCurse(person, kind) ? curses[kind * MOST_PEOPLE + person] : 0;
        }

        int bindersOf(int spell) {
            return spell < 0 || spell >= MOST_SPELLS ? 0 : binders[spell];
        }

        int deedOf(int person, int sort, int which) {
            for (int d = 0; d < deedCount && d < Deed.MOST; d++) {
                boolean his = sort == Deed.NIGHT || doers[d] == person;
                boolean it = sort != Deed.KISS && sort != Deed.SMASH || whichs[d] == which;
                if (sorts[d] == sort && his && it) {
                    return d;
                }
            }
            return NONE;
        }

        int nightDeed() {
            return deedCount - 1;
        }

        private boolean isDeed(int deed) {
            return deed >= 0 && deed < deedCount && deed < Deed.MOST;
        }

        int doerOf(int deed) {
            return isDeed(deed) ? doers[deed] : NONE;
        }

        int sortOf(int deed) {
            return isDeed(deed) ? sorts[deed] : NONE;
        }

        int whichOf(int deed) {
            return isDeed(deed) ? whichs[deed] : NONE;
        }

        /** By bits: the deeds of these people, and the night. */
        int deedsBy(int who) {
            int found = 0;
            for (int d = 0; d < deedCount && d < Deed.MOST; d++) {
                if (doers[d] == NONE || (who >> doers[d] & 1) != 0) {
                    found |= 1 << d;
                }
            }
            return found;
        }

        /**
         * The state behind a deed, and above it the spells that were lifted: State takes them apart. NONE: it can not
         * be. All that is foretold is made of this, so it calls as little as it can.
         */
        int after(int state, int deed) {
            if (deed < 0 || deed >= deedCount || deed >= Deed.MOST || (state & bars[deed]) != 0) {
                return NONE;
            }
            if (sorts[deed] == Deed.ASK && State.asked(state) >= MOST_ASKED) {
                return NONE;
            }
            int then = sorts[deed] == Deed.NIGHT ? State.nextDay(state) : state + bits[deed];
            int kiss = kisses[deed];
            int asked = State.asked(then);
            int lifted = 0;
            for (int s = 0; s < spells && s < MOST_SPELLS; s++) {
                if ((then & masks[s]) == values[s] && asked >= askings[s]
                        && (kissesNeeded[s] == NO_KISS || kissesNeeded[s] == kiss)) {
                    then = then & ~(1 << s) | wakings[s];
                    lifted |= 1 << s;
                }
            }
            return then | lifted << State.LIFTED_AT;
        }
    }

    /**
     * All states that can come from one, nearest first, looked for only as far as was asked and remembered. As deeds
     * are tried in their order, the first way found to a state is the first of its shortest ways, and of states at
     * one distance the one found first has the first way.
     */
    private static final class Search {
        private static final int DEED_AT = 16, FROM_AT = 24, DISTANCE_AT = 40;
        private static final int DEED_MASK = 0xFF, FROM_MASK = 0xFFFF, DISTANCE_MASK = 0xFFFF;

        private final Rules rules;
        private final long[] seen = new long[State.COUNT / 64];
        // Each: the state, the deed that led to it, from which place of this row, and how many deeds from the start.
        private long[] found = new long[0];
        private int size;
        private int opened;
        private int start = NONE;
        private int doers;
        private int unlifted;
        private int deedsAllowed;

        Search(Rules rules) {
            this.rules = rules;
        }

        /** What was found is of no more use. */
        void stale() {
            start = NONE;
        }

        /** The states from this one, by deeds of these doers and nights alone, by none of which one of unlifted is lifted. */
        void ask(int from, int byWhom, int notLifting) {
            if (start != from || doers != byWhom || unlifted != notLifting) {
                begin(from, byWhom, notLifting);
            }
        }

        private void begin(int from, int byWhom, int notLifting) {
            if (found.length < rules.mostStates()) {
                found = new long[rules.mostStates()];
            }
            Arrays.fill(seen, 0L);
            size = 0;
            opened = 0;
            start = from;
            doers = byWhom;
            unlifted = notLifting;
            deedsAllowed = rules.deedsBy(byWhom);
            add(from, 0, 0, 0);
        }

        private void add(int state, int deed, int from, int distance) {
            int word = state >> 6;
            if (word < 0 || word >= seen.length || size < 0 || size >= found.length) {
                return;
            }
            long bit = 1L << (state & 63);
            if ((seen[word] & bit) == 0) {
                seen[word] |= bit;
                found[size] = state | (long) deed << DEED_AT | (long) from << FROM_AT | (long) distance << DISTANCE_AT;
                size++;
            }
        }

        private int stateAt(int i) {
            return i < 0 || i >= found.length ? 0 : State.of((int) found[i]);
        }

        private int deedAt(int i) {
            return i < 0 || i >= found.length ? 0 : (int) (found[i] >> DEED_AT) & DEED_MASK;
        }

        private int fromAt(int i) {
            return i < 0 || i >= found.length ? 0 : (int) (found[i] >> FROM_AT) & FROM_MASK;
        }

        private int distanceAt(int i) {
            return i < 0 || i >= found.length ? 0 : (int) (found[i] >> DISTANCE_AT) & DISTANCE_MASK;
        }

        /** All that one of these deeds more makes of the state at place i. */
        private void open(int i, int firstDeed, int lastDeed) {
            opened = i + 1;
            int state = stateAt(i);
            int distance = distanceAt(i) + 1;
            for (int deed = firstDeed; deed <= lastDeed && deed < Deed.MOST; deed++) {
                int after = (deedsAllowed >> deed & 1) == 0 ? NONE : rules.after(state, deed);
                if (after != NONE && (State.lifted(after) & unlifted) == 0) {
                    add(State.of(after), deed, i, distance);
                }
            }
        }

        private int firstWithout(int set) {
            for (int i = 0; i < size && i < State.COUNT; i++) {
                if ((stateAt(i) & set) == 0) {
                    return i;
                }
                if (i >= opened) {
                    open(i, 0, rules.nightDeed());
                }
            }
            return NONE;
        }

        int fewestWithout(int set) {
            int place = firstWithout(set);
            return place == NONE ? NONE : distanceAt(place);
        }

        /** Deed i of the first shortest way to a state without the set; NONE: it is not so long, or there is none. */
        int deedTo(int set, int i) {
            int place = firstWithout(set);
            if (place == NONE || i >= distanceAt(place)) {
                return NONE;
            }
            for (int step = distanceAt(place) - 1; step > i; step--) {
                place = fromAt(place);
            }
            return deedAt(place);
        }

        /** What comes without one night more is all found ahead of the next night, so the first found has the fewest. */
        int fewestNightsWithout(int from, int byWhom, int set) {
            begin(from, byWhom, 0);
            stale();
            int layer = 0;
            for (int nights = 0; nights < State.COUNT && layer < size; nights++) {
                for (int i = layer; i < size && i < State.COUNT; i++) {
                    if ((stateAt(i) & set) == 0) {
                        return nights;
                    }
                    open(i, 0, rules.nightDeed() - 1);
                }
                int next = size;
                for (int i = layer; i < next && i < State.COUNT; i++) {
                    open(i, rules.nightDeed(), rules.nightDeed());
                }
                layer = next;
            }
            return NONE;
        }

        int heldEverywhere() {
            int held = State.holding(start);
            for (int i = 0; i < size && i < State.COUNT && held != 0; i++) {
                held &= stateAt(i);
                if (i >= opened) {
                    open(i, 0, rules.nightDeed());
                }
            }
            return held;
        }

        private void openAll() {
            for (int i = opened; i < size && i < State.COUNT; i++) {
                open(i, 0, rules.nightDeed());
            }
        }

        int statesAt(int distance) {
            openAll();
            int states = 0;
            for (int i = 0; i < size && i < State.COUNT; i++) {
                if (distanceAt(i) == distance) {
                    states++;
                }
            }
            return states;
        }

        int greatestDistance() {
            openAll();
            return distanceAt(size - 1);
        }
    }

    /** What was tried with a secret spell, and which ifs it leaves. */
    private static final class Trials {
        private static final int WEEP_AT = 3, DAY_AT = 6, BROKEN_AT = 9;
        private static final int DAYS = LAST_DAY + 1;
        private static final int MOST_CANDIDATES = 2 * MOST_PEOPLE + DAYS + 2 * GIFTS;

        private final Row trials = new Row(MOST_TRIED);
        // By bits: in which of the trials it was lifted, in which of them each candidate term was so.
        private int lifted;
        private final int[] so = new int[MOST_CANDIDATES];
        private int people;

        static int packed(int kisser, int weepers, int day, int broken) {
            return kisser + 1 | weepers << WEEP_AT | day << DAY_AT | broken << BROKEN_AT;
        }

        boolean add(int trial, int wasLifted) {
            if (!trials.add(trial)) {
                return false;
            }
            lifted |= wasLifted << trials.size() - 1;
            return true;
        }

        int size() {
            return trials.size();
        }

        int empty() {
            lifted = 0;
            return trials.empty();
        }

        private int candidates() {
            return Math.min(2 * people + DAYS + 2 * GIFTS, MOST_CANDIDATES);
        }

        int sortOf(int candidate) {
            if (candidate < people) {
                return Term.KISS;
            }
            if (candidate < 2 * people) {
                return Term.WEEP;
            }
            if (candidate < 2 * people + DAYS) {
                return Term.DAY;
            }
            return candidate < 2 * people + DAYS + GIFTS ? Term.BROKEN : Term.WHOLE;
        }

        int numberOf(int candidate) {
            switch (sortOf(candidate)) {
                case Term.KISS: return candidate;
                case Term.WEEP: return candidate - people;
                case Term.DAY: return candidate - 2 * people;
                case Term.BROKEN: return candidate - 2 * people - DAYS;
                default: return candidate - 2 * people - DAYS - GIFTS;
            }
        }

        private boolean isSoIn(int candidate, int trial) {
            int number = numberOf(candidate);
            switch (sortOf(candidate)) {
                case Term.KISS: return (trial & 7) == number + 1;
                case Term.WEEP: return (trial >> WEEP_AT + number & 1) != 0;
                case Term.DAY: return (trial >> DAY_AT & 7) == number;
                case Term.BROKEN: return (trial >> BROKEN_AT + number & 1) != 0;
                default: return (trial >> BROKEN_AT + number & 1) == 0;
            }
        }

        /** Makes ready for questions about candidates. */
        void weigh(int peopleNow) {
            people = peopleNow;
            for (int c = 0; c < candidates() && c < MOST_CANDIDATES; c++) {
                so[c] = 0;
                for (int i = 0; i < MOST_TRIED && i < trials.size(); i++) {
                    so[c] |= oneIf(isSoIn(c, trials.at(i))) << i;
                }
            }
        }

        /** Whether the if of both may be; one with itself stands for the if of it alone. */
        private boolean fits(int one, int other) {
            if (one < 0 || one >= MOST_CANDIDATES || other < 0 || other >= MOST_CANDIDATES) {
                return false;
            }
            return (so[one] & so[other]) == lifted;
        }

        int howMany() {
            int many = 0;
            for (int one = 0; one < candidates(); one++) {
                for (int other = one; other < candidates(); other++) {
                    many += oneIf(fits(one, other));
                }
            }
            return many;
        }

        /** The first term of the first if that may be: those of one term are ahead of those of two. */
        int firstTerm() {
            for (int one = 0; one < candidates(); one++) {
                if (fits(one, one)) {
                    return one;
                }
            }
            for (int one = 0; one < candidates(); one++) {
                if (partnerOf(one) != NONE) {
                    return one;
                }
            }
            return NONE;
        }

        int secondTerm(int first) {
            return fits(first, first) ? NONE : partnerOf(first);
        }

        private int partnerOf(int one) {
            for (int other = one + 1; other < candidates(); other++) {
                if (fits(one, other)) {
                    return other;
                }
            }
            return NONE;
        }

        int bestDay() {
            int all = howMany();
            int best = NONE;
            int fewest = all + 1;
            for (int day = 0; day < DAYS && all > 0; day++) {
                int would = liftedBy(packed(NONE, 0, day, 0));
                int more = Math.max(would, all - would);
                if (more < fewest) {
                    fewest = more;
                    best = day;
                }
            }
            return best;
        }

        private int liftedBy(int trial) {
            int would = 0;
            for (int one = 0; one < candidates(); one++) {
                for (int other = one; other < candidates() && isSoIn(one, trial); other++) {
                    would += oneIf(fits(one, other) && isSoIn(other, trial));
                }
            }
            return would;
        }
    }
}
