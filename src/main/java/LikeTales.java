/** Tales told as nets of ties, and which parts of one answer those of another. */
public final class LikeTales {

    public static final int NONE = -6, UNKNOWN = -1, OUTSIDE = -2, STATE = -3, FULL = -4, NO = -5;

    private static final int KINDS = 16;
    private static final int TALES = 12;
    private static final int THINGS = 6;
    private static final int TIES = 14;
    private static final int ENDS = 3;
    private static final int TOP_LEVEL = 2;
    // Sorts, labels and moments are single digits.
    private static final int DIGITS = 10;
    // An end that is a tie is told as this and the tie's number.
    private static final int FIRST_TIE = 10;
    // An end that is a guess is told as this and the guess's number.
    private static final int FIRST_GUESS = 30;
    private static final int END_CODES = FIRST_TIE + TIES;
    // Inside the class: no kind, no tie, no end, no moment, no partner.
    private static final int NOTHING = -1;
    // A partner not yet decided on while the pairings are tried.
    private static final int OPEN = -2;
    private static final int ALONE_DIGIT = 9;

    // How answering ties are weighed: by height and kind; each as one; each as one with its very moment.
    private static final int BY_WORTH = 0;
    private static final int BY_COUNT = 1;
    private static final int BY_SAMENESS = 2;

    private final Language language;
    private final Net[] tales;
    private final Answering answering;
    private final Search search;
    private final Kept kept;
    // Guesses by a pairing that is only tried.
    private final Guesses triedGuesses;
    private final Weaver weaver;
    private final Seeker seeker;
    private boolean timed = false;
    private boolean hasSought = false;
    private int soughtHeld = 0;
    private int soughtWorth = NONE;

    public LikeTales() {
        Language kinds = new Language();
        Answering answers = new Answering(kinds);
        Search pairings = new Search(answers);
        Kept likeness = new Kept();
        Net[] nets = new Net[TALES];
        for (int t = 0; t < TALES; t++) {
            nets[t] = new Net();
        }
        language = kinds;
        tales = nets;
        answering = answers;
        search = pairings;
        kept = likeness;
        triedGuesses = new Guesses(likeness.from, answers.partners, answers.answers);
        weaver = new Weaver(kinds, answers);
        seeker = new Seeker(nets, pairings);
    }

    // ---- 1 the language, tales

    public int kind(int kind, int ends, boolean even) {
        if (!isKind(kind)) {
            return UNKNOWN;
        }
        if (ends < 1 || ends > ENDS) {
            return OUTSIDE;
        }
        if (isInUse(kind) || language.isLinked(kind)) {
            return STATE;
        }
        int before = language.ends[kind];
        language.ends[kind] = ends;
        language.even[kind] = even && ends == 2;
        return before;
    }

    public int wider(int kind, int over) {
        if (!isKind(kind) || over != NOTHING && !isKind(over)) {
            return UNKNOWN;
        }
        if (isInUse(kind)) {
            return STATE;
        }
        if (over != NOTHING && !language.mayStandOver(over, kind)) {
            return NO;
        }
        int before = language.wider[kind];
        language.wider[kind] = over;
        return orNone(before);
    }

    public int opposite(int kind, int other) {
        if (!isKind(kind) || !isKind(other)) {
            return UNKNOWN;
        }
        if (language.ends[kind] != language.ends[other]) {
            return NO;
        }
        language.oppose(kind, other);
        return 1;
    }

    public int ofKind(int kind, int what) {
        if (!isKind(kind)) {
            return UNKNOWN;
        }
        switch (what) {
            case 0: return language.ends[kind];
            case 1: return language.even[kind] ? 1 : 0;
            case 2: return orNone(language.wider[kind]);
            case 3: return orNone(language.opposite[kind]);
            case 4: return tiesToldOf(kind);
            default: return OUTSIDE;
        }
    }

    public int alike(int one, int other) {
        if (!isKind(one) || !isKind(other)) {
            return UNKNOWN;
        }
        return orNone(language.meetingLevel(one, other));
    }

    public int timed(int v) {
        if (v != 0 && v != 1) {
            return OUTSIDE;
        }
        int before = timed ? 1 : 0;
        timed = v == 1;
        return before;
    }

    public int tale(int t, int things) {
        if (!isTale(t)) {
            return UNKNOWN;
        }
        if (things < 0 || things > THINGS) {
            return OUTSIDE;
        }
        tales[t].empty(things);
        return 1;
    }

    public int sort(int t, int thing, int sort) {
        if (!isTale(t) || thing < 0 || thing >= tales[t].things) {
            return UNKNOWN;
        }
        if (!isDigit(sort)) {
            return OUTSIDE;
        }
        int before = tales[t].sorts[thing];
        tales[t].sorts[thing] = sort;
        return before;
    }

    public int label(int t, int label) {
        if (!isTale(t)) {
            return UNKNOWN;
        }
        if (!isDigit(label)) {
            return OUTSIDE;
        }
        int before = tales[t].label;
        tales[t].label = label;
        return before;
    }

    public int tie(int t, int kind, int a, int b, int c, int moment) {
        if (!isTale(t) || !isKind(kind)) {
            return UNKNOWN;
        }
        Net tale = tales[t];
        boolean hasMoment = moment == NOTHING || isDigit(moment);
        if (!hasMoment || !tale.hasEnds(language.ends[kind], a, b, c)) {
            return OUTSIDE;
        }
        if (tale.ties >= TIES) {
            return FULL;
        }
        if (tale.find(language, kind, a, b, c) != NOTHING) {
            return NO;
        }
        return tale.put(kind, a, b, c, moment);
    }

    public int ofTie(int t, int tie, int what) {
        if (!isTale(t) || tie < 0 || tie >= tales[t].ties) {
            return UNKNOWN;
        }
        Net tale = tales[t];
        switch (what) {
            case 0: return tale.kinds[tie];
            case 1:
            case 2:
            case 3: return orNone(tale.ends[tie * ENDS + what - 1]);
            case 4: return tale.moments[tie];
            case 5: return tale.heights[tie];
            default: return OUTSIDE;
        }
    }

    public int ofTale(int t, int what) {
        if (!isTale(t)) {
            return UNKNOWN;
        }
        Net tale = tales[t];
        if (what >= 10 && what < 10 + THINGS) {
            return what - 10 < tale.things ? tale.sorts[what - 10] : UNKNOWN;
        }
        switch (what) {
            case 0: return tale.things;
            case 1: return tale.ties;
            case 2: return tale.label;
            case 3: return tale.greatestHeight();
            default: return OUTSIDE;
        }
    }

    public int copy(int t, int u) {
        if (!isTale(t) || !isTale(u)) {
            return UNKNOWN;
        }
        tales[u].become(tales[t]);
        return tales[u].ties;
    }

    // ---- 2 likenesses

    public int like(int a, int b, int level) {
        int refusal = refusedLikeness(a, b, level);
        if (refusal != 0) {
            return refusal;
        }
        kept.take(tales[a], tales[b], level, timed);
        int worth = search.likeness(kept.from, kept.to, level, timed);
        kept.takePairing(answering.partners, answering.answers);
        return worth;
    }

    public int partner(int k) {
        if (!kept.isThere) {
            return STATE;
        }
        if (k < 0 || k >= kept.from.things) {
            return UNKNOWN;
        }
        return orNone(kept.partners[k]);
    }

    public int answer(int k) {
        if (!kept.isThere) {
            return STATE;
        }
        if (k < 0 || k >= kept.from.ties) {
            return UNKNOWN;
        }
        return orNone(kept.answers[k]);
    }

    public int likes(int a, int b, int level, int i) {
        int refusal = refusedLikeness(a, b, level);
        if (refusal != 0) {
            return refusal;
        }
        if (i < -1) {
            return NONE;
        }
        search.likeness(tales[a], tales[b], level, timed);
        int listed = search.list(i);
        if (i == -1) {
            return listed;
        }
        return i < listed ? search.digits() : NONE;
    }

    public int worth(int a, int b, int level, int digits) {
        int refusal = refusedLikeness(a, b, level);
        if (refusal != 0) {
            return refusal;
        }
        answering.take(tales[a], tales[b], level, timed, BY_WORTH);
        if (!answering.readDigits(digits)) {
            return OUTSIDE;
        }
        return answering.settle() + answering.sortsShared();
    }

    public int same(int a, int b) {
        if (!isTale(a) || !isTale(b)) {
            return UNKNOWN;
        }
        Net one = tales[a];
        Net other = tales[b];
        boolean asMany = one.things == other.things && one.ties == other.ties;
        return asMany && search.isSame(one, other) ? 1 : 0;
    }

    // ---- 3 guesses

    public int guess(int i) {
        if (!kept.isThere) {
            return STATE;
        }
        Guesses guesses = kept.guesses;
        if (i == -1) {
            return guesses.count;
        }
        return i < 0 || i >= guesses.count ? NONE : guesses.ties[i];
    }

    public int ofGuess(int i, int k) {
        if (!kept.isThere) {
            return STATE;
        }
        if (k < 0 || k > 4) {
            return OUTSIDE;
        }
        Guesses guesses = kept.guesses;
        if (i < 0 || i >= guesses.count) {
            return NONE;
        }
        if (k < ENDS) {
            return orNone(guesses.endOver(i, k));
        }
        boolean holds = k == 3 ? guesses.isHeld(i, kept.to, language) : guesses.isAgainst(i, kept.to, language);
        return holds ? 1 : 0;
    }

    public int giveUp() {
        if (!kept.isThere) {
            return STATE;
        }
        answering.take(kept.from, kept.to, kept.level, kept.timed, BY_WORTH);
        int paired = kept.pairedThings();
        int fewest = THINGS + 1;
        int least = 0;
        for (int set = 0; set < 1 << THINGS; set++) {
            int count = Integer.bitCount(set);
            if ((set & ~paired) == 0 && count < fewest && isPeaceWithout(set)) {
                fewest = count;
                least = set;
            }
        }
        return least;
    }

    // ---- 4 the store

    public int bound(int a, int b) {
        if (!isTale(a) || !isTale(b)) {
            return UNKNOWN;
        }
        return Seeker.boundOf(tales[a], tales[b]);
    }

    public int seek(int a) {
        if (!isTale(a)) {
            return UNKNOWN;
        }
        int found = seeker.likest(a, timed);
        hasSought = true;
        soughtHeld = seeker.held;
        soughtWorth = orNone(seeker.bestWorth);
        return orNone(found);
    }

    public int sought(int what) {
        if (what != 0 && what != 1) {
            return OUTSIDE;
        }
        if (!hasSought) {
            return STATE;
        }
        return what == 0 ? soughtHeld : soughtWorth;
    }

    // ---- 5 common, series

    public int common(int a, int b, int c, int level) {
        if (!isTale(a) || !isTale(b) || !isTale(c)) {
            return UNKNOWN;
        }
        if (!isLevel(level)) {
            return OUTSIDE;
        }
        if (c == a || c == b) {
            return NO;
        }
        search.likeness(tales[a], tales[b], level, timed);
        weaver.weaveCommon(tales[a], tales[b]);
        tales[c].become(weaver.made);
        return tales[c].ties;
    }

    public int series(int a, int b, int c, int d) {
        if (!isTale(a) || !isTale(b) || !isTale(c) || !isTale(d)) {
            return UNKNOWN;
        }
        search.likeness(tales[a], tales[b], 0, timed);
        weaver.noteFirst(tales[a]);
        search.likeness(tales[a], tales[c], 0, timed);
        weaver.weaveLeft(tales[a], tales[c]);
        weaver.bridge(tales[a]);
        if (!weaver.putWon(tales[a], tales[b])) {
            return FULL;
        }
        tales[d].become(weaver.made);
        return tales[d].ties;
    }

    public int leftOut(int a, int b) {
        if (!isTale(a) || !isTale(b)) {
            return UNKNOWN;
        }
        return tales[a].ties - search.mostAnswering(tales[a], tales[b], timed);
    }

    // ---- 6 trials

    public int trial(int what) {
        boolean byLabel = what >= 10 && what < 10 + DIGITS;
        if (what != 0 && what != 1 && !byLabel) {
            return OUTSIDE;
        }
        int counted = 0;
        for (int t = 0; t < TALES; t++) {
            boolean isAsked = tales[t].ties > 0 && (!byLabel || tales[t].label == what - 10);
            if (isAsked && (what == 1 || isRight(t, seeker.likest(t, timed)))) {
                counted++;
            }
        }
        return counted;
    }

    // ---- what the calls share

    private static boolean isKind(int kind) {
        return kind >= 0 && kind < KINDS;
    }

    private static boolean isTale(int t) {
        return t >= 0 && t < TALES;
    }

    private static boolean isLevel(int level) {
        return level >= 0 && level <= TOP_LEVEL;
    }

    private static boolean isDigit(int v) {
        return v >= 0 && v < DIGITS;
    }

    private static int orNone(int v) {
        return v < 0 ? NONE : v;
    }

    private static int refusedLikeness(int a, int b, int level) {
        if (!isTale(a) || !isTale(b)) {
            return UNKNOWN;
        }
        return isLevel(level) ? 0 : OUTSIDE;
    }

    private int tiesToldOf(int kind) {
        int count = 0;
        for (int t = 0; t < TALES; t++) {
            count += tales[t].countOfKind(kind);
        }
        return count;
    }

    private boolean isInUse(int kind) {
        return tiesToldOf(kind) + kept.from.countOfKind(kind) + kept.to.countOfKind(kind) > 0;
    }

    private boolean isRight(int t, int likest) {
        return likest >= 0 && likest < TALES && tales[likest].label == tales[t].label;
    }

    private boolean isPeaceWithout(int givenUp) {
        for (int x = 0; x < kept.from.things; x++) {
            answering.partners[x] = (givenUp >> x & 1) != 0 ? NOTHING : kept.partners[x];
        }
        answering.settle();
        triedGuesses.gather();
        for (int g = 0; g < triedGuesses.count; g++) {
            if (triedGuesses.isAgainst(g, kept.to, language)) {
                return false;
            }
        }
        return true;
    }

    /** The kinds of ties, with the wider ones above them. */
    private static final class Language {
        final int[] ends = new int[KINDS];
        final boolean[] even = new boolean[KINDS];
        final int[] wider = new int[KINDS];
        final int[] opposite = new int[KINDS];

        Language() {
            for (int k = 0; k < KINDS; k++) {
                ends[k] = 2;
                wider[k] = NOTHING;
                opposite[k] = NOTHING;
            }
        }

        boolean isLinked(int kind) {
            if (wider[kind] != NOTHING || opposite[kind] != NOTHING) {
                return true;
            }
            for (int k = 0; k < KINDS; k++) {
                if (wider[k] == kind) {
                    return true;
                }
            }
            return false;
        }

        boolean mayStandOver(int over, int kind) {
            if (ends[over] != ends[kind]) {
                return false;
            }
            int k = over;
            for (int step = 0; step <= KINDS && k != NOTHING; step++) {
                if (k == kind) {
                    return false;
                }
                k = wider[k];
            }
            return true;
        }

        void oppose(int kind, int other) {
            loosen(kind);
            loosen(other);
            if (kind != other) {
                opposite[kind] = other;
                opposite[other] = kind;
            }
        }

        private void loosen(int kind) {
            int former = opposite[kind];
            if (former != NOTHING) {
                opposite[former] = NOTHING;
                opposite[kind] = NOTHING;
            }
        }

        int above(int kind, int level) {
            int k = kind;
            for (int l = 0; l < level && wider[k] != NOTHING; l++) {
                k = wider[k];
            }
            return k;
        }

        /** The lowest level at which both kinds are alike, or NOTHING. */
        int meetingLevel(int one, int other) {
            for (int l = 0; l <= TOP_LEVEL; l++) {
                if (above(one, l) == above(other, l)) {
                    return l;
                }
            }
            return NOTHING;
        }
    }

    /** A tale: its things and ties. */
    private static final class Net {
        int things = 0;
        int ties = 0;
        int label = 0;
        final int[] sorts = new int[THINGS];
        final int[] kinds = new int[TIES];
        final int[] ends = new int[TIES * ENDS];
        final int[] moments = new int[TIES];
        final int[] heights = new int[TIES];

        void empty(int count) {
            things = count;
            ties = 0;
            label = 0;
            for (int x = 0; x < THINGS; x++) {
                sorts[x] = 0;
            }
        }

        void become(Net other) {
            things = other.things;
            ties = other.ties;
            label = other.label;
            System.arraycopy(other.sorts, 0, sorts, 0, THINGS);
            System.arraycopy(other.kinds, 0, kinds, 0, TIES);
            System.arraycopy(other.ends, 0, ends, 0, TIES * ENDS);
            System.arraycopy(other.moments, 0, moments, 0, TIES);
            System.arraycopy(other.heights, 0, heights, 0, TIES);
        }

        boolean hasEnds(int count, int one, int two, int three) {
            return isEnd(one)
                && (count >= 2 ? isEnd(two) : two == NOTHING)
                && (count >= 3 ? isEnd(three) : three == NOTHING);
        }

        private boolean isEnd(int end) {
            return end >= 0 && end < things || end >= FIRST_TIE && end < FIRST_TIE + ties;
        }

        /** The tie of that kind with those ends, or NOTHING. */
        int find(Language language, int kind, int one, int two, int three) {
            for (int i = 0; i < ties; i++) {
                if (kinds[i] == kind) {
                    int first = ends[i * ENDS];
                    int second = ends[i * ENDS + 1];
                    boolean straight = first == one && second == two && ends[i * ENDS + 2] == three;
                    if (straight || language.even[kind] && first == two && second == one) {
                        return i;
                    }
                }
            }
            return NOTHING;
        }

        /** Puts a tie whose kind, ends and room have been looked at. */
        int put(int kind, int one, int two, int three, int moment) {
            if (ties >= TIES) {
                return NOTHING;
            }
            int tie = ties;
            kinds[tie] = kind;
            ends[tie * ENDS] = one;
            ends[tie * ENDS + 1] = two;
            ends[tie * ENDS + 2] = three;
            moments[tie] = moment;
            heights[tie] = 1 + Math.max(heightOfEnd(one), Math.max(heightOfEnd(two), heightOfEnd(three)));
            ties++;
            return tie;
        }

        private int heightOfEnd(int end) {
            return end >= FIRST_TIE && end < FIRST_TIE + ties ? heights[end - FIRST_TIE] : 0;
        }

        int greatestHeight() {
            int greatest = 0;
            for (int i = 0; i < ties; i++) {
                greatest = Math.max(greatest, heights[i]);
            }
            return greatest;
        }

        int countOfKind(int kind) {
            int count = 0;
            for (int i = 0; i < ties; i++) {
                if (kinds[i] == kind) {
                    count++;
                }
            }
            return count;
        }

        int countOfMoments() {
            int count = 0;
            for (int i = 0; i < ties; i++) {
                if (moments[i] != NOTHING) {
                    count++;
                }
            }
            return count;
        }
    }

    /**
     * Which ties answer by a pairing, and how much they may yet be worth by one that is decided in part.
     * Sets of ties of the other tale are bits of an int, so that one step looks at all of them.
     */
    private static final class Answering {
        private final Language language;
        private Net from = new Net();
        private Net to = from;
        private int weighing = BY_WORTH;
        final Timing timing = new Timing();
        final int[] partners = new int[THINGS];
        final int[] answers = new int[TIES];
        // For each tie: those of the other tale that may answer it, by what is decided so far.
        private final int[] likely = new int[TIES];
        // For each tie: those of a kind alike; of an even kind alike to its own even one; of its very kind;
        // of a kind alike at level 1 or below.
        private final int[] could = new int[TIES];
        private final int[] turned = new int[TIES];
        private final int[] one = new int[TIES];
        private final int[] near = new int[TIES];
        // For each place and end: the ties of the other tale that have that end at that place.
        private final int[] having = new int[ENDS * END_CODES];
        // For each place: the ties of the other tale that have a thing there that is not taken.
        private final int[] havingFree = new int[ENDS];

        Answering(Language language) {
            this.language = language;
        }

        void take(Net newFrom, Net newTo, int level, boolean isTimed, int newWeighing) {
            from = newFrom;
            to = newTo;
            weighing = newWeighing;
            timing.take(newFrom, newTo, isTimed);
            for (int i = 0; i < from.ties; i++) {
                compareTie(i, level);
            }
            for (int h = 0; h < ENDS * END_CODES; h++) {
                having[h] = 0;
            }
            for (int j = 0; j < to.ties; j++) {
                noteEnds(j);
            }
        }

        private void compareTie(int i, int level) {
            could[i] = 0;
            turned[i] = 0;
            one[i] = 0;
            near[i] = 0;
            for (int j = 0; j < to.ties; j++) {
                int meeting = language.meetingLevel(from.kinds[i], to.kinds[j]);
                boolean isFit = weighing != BY_SAMENESS || from.moments[i] == to.moments[j];
                if (isFit && meeting != NOTHING && meeting <= level) {
                    int bit = 1 << j;
                    could[i] |= bit;
                    one[i] |= meeting == 0 ? bit : 0;
                    near[i] |= meeting <= 1 ? bit : 0;
                    boolean areEven = language.even[from.kinds[i]] && language.even[to.kinds[j]];
                    turned[i] |= areEven ? bit : 0;
                }
            }
        }

        private void noteEnds(int j) {
            for (int place = 0; place < ENDS; place++) {
                int end = to.ends[j * ENDS + place];
                if (end >= 0 && end < END_CODES) {
                    having[place * END_CODES + end] |= 1 << j;
                }
            }
        }

        /** Reads a pairing told by digits; false, if it is none. */
        boolean readDigits(int digits) {
            int rest = digits;
            int taken = 0;
            for (int x = from.things - 1; x >= 0; x--) {
                int digit = rest % DIGITS;
                rest /= DIGITS;
                boolean isFree = digit >= 0 && digit < to.things && (taken >> digit & 1) == 0;
                if (digit != ALONE_DIGIT && !isFree) {
                    return false;
                }
                partners[x] = digit == ALONE_DIGIT ? NOTHING : digit;
                taken |= digit == ALONE_DIGIT ? 0 : 1 << digit;
            }
            return rest == 0;
        }

        /** Finds the answer of each tie by the pairing, which is decided for all things: their weight. */
        int settle() {
            int weight = 0;
            int cameTo = 0;
            for (int i = 0; i < from.ties; i++) {
                int mask = reachable(i) & ~cameTo;
                answers[i] = firstOf(timing.matters ? timing.inStep(i, mask, answers) : mask);
                int bit = answers[i] == NOTHING ? 0 : 1 << answers[i];
                likely[i] = bit;
                cameTo |= bit;
                weight += gain(from.heights[i], bit & one[i], bit & near[i], bit);
            }
            return weight;
        }

        /** The most that the ties can weigh, whatever becomes of the open partners. */
        int hope(int taken) {
            noteFree(taken);
            int weight = 0;
            int anyOne = 0;
            int anyNear = 0;
            int any = 0;
            for (int i = 0; i < from.ties; i++) {
                int mask = reachable(i);
                likely[i] = mask;
                any |= mask;
                anyOne |= mask & one[i];
                anyNear |= mask & near[i];
                if (timing.matters && timing.isOrdered(i, mask)) {
                    spread(i, mask);
                } else {
                    weight += gain(from.heights[i], mask & one[i], mask & near[i], mask);
                }
            }
            weight += timing.matters ? timing.heaviestOrder() : 0;
            // Each tie of the other tale answers once, so what they can give is a bound as well.
            int given = 0;
            for (int j = 0; j < to.ties; j++) {
                int bit = 1 << j;
                given += gain(to.heights[j], anyOne & bit, anyNear & bit, any & bit);
            }
            return Math.min(weight, given);
        }

        private void noteFree(int taken) {
            for (int place = 0; place < ENDS; place++) {
                int mask = 0;
                for (int y = 0; y < to.things; y++) {
                    if ((taken >> y & 1) == 0) {
                        mask |= having[place * END_CODES + y];
                    }
                }
                havingFree[place] = mask;
            }
        }

        private int gain(int height, int ofOne, int ofNear, int ofAny) {
            if (weighing != BY_WORTH) {
                return ofAny != 0 ? 1 : 0;
            }
            return height * (ofOne != 0 ? 6 : ofNear != 0 ? 4 : ofAny != 0 ? 3 : 0);
        }

        /** The ties of the other tale of a kind alike whose ends may answer those of tie i. */
        private int reachable(int i) {
            int first = from.ends[i * ENDS];
            int second = from.ends[i * ENDS + 1];
            int third = from.ends[i * ENDS + 2];
            int mask = could[i];
            if (mask == 0) {
                return 0;
            }
            mask &= reach(first, 0);
            if (second != NOTHING) {
                mask &= reach(second, 1);
            }
            if (third != NOTHING) {
                mask &= reach(third, 2);
            }
            if (turned[i] != 0) {
                mask |= turned[i] & reach(first, 1) & reach(second, 0);
            }
            return mask;
        }

        /** The ties of the other tale whose end at that place may answer that end. */
        private int reach(int end, int place) {
            if (end < THINGS) {
                int y = end < 0 ? NOTHING : partners[end];
                if (y == OPEN) {
                    return havingFree[place];
                }
                return y < 0 ? 0 : having[place * END_CODES + y];
            }
            int tie = end - FIRST_TIE;
            int wanted = tie < 0 || tie >= TIES ? 0 : likely[tie];
            int mask = 0;
            for (int j = 0; j < to.ties && wanted >> j != 0; j++) {
                if ((wanted >> j & 1) != 0) {
                    mask |= having[place * END_CODES + FIRST_TIE + j];
                }
            }
            return mask;
        }

        private int firstOf(int mask) {
            for (int j = 0; j < to.ties && mask >> j != 0; j++) {
                if ((mask >> j & 1) != 0) {
                    return j;
                }
            }
            return NOTHING;
        }

        /** What tie i may weigh with each moment of the other tale. */
        private void spread(int i, int mask) {
            for (int m = 0; m < DIGITS; m++) {
                int there = mask & timing.atMoment[m];
                if (there != 0) {
                    timing.add(i, m, gain(from.heights[i], there & one[i], there & near[i], there));
                }
            }
        }

        /** How many pairs of things have one sort. */
        int sortsShared() {
            int count = 0;
            for (int x = 0; x < from.things; x++) {
                int y = partners[x];
                if (y >= 0 && from.sorts[x] == to.sorts[y]) {
                    count++;
                }
            }
            return count;
        }
    }

    /** The order of moments in two tales. */
    private static final class Timing {
        private Net from = new Net();
        private Net to = from;
        // Whether an answer can be out of order.
        boolean matters = false;
        // For each moment: the ties of the other tale at it, and those ahead of it.
        final int[] atMoment = new int[DIGITS];
        private final int[] ahead = new int[DIGITS];
        private int withMoments = 0;
        // What may be won with a moment of the one and a moment of the other tale.
        private final int[] weights = new int[DIGITS * DIGITS];
        private final int[] heaviest = new int[DIGITS];

        void take(Net newFrom, Net newTo, boolean isTimed) {
            from = newFrom;
            to = newTo;
            // One moment alone cannot be out of order.
            matters = isTimed && from.countOfMoments() > 1 && to.countOfMoments() > 1;
            withMoments = 0;
            for (int m = 0; m < DIGITS; m++) {
                ahead[m] = withMoments;
                atMoment[m] = 0;
                for (int j = 0; j < to.ties; j++) {
                    atMoment[m] |= to.moments[j] == m ? 1 << j : 0;
                }
                withMoments |= atMoment[m];
            }
        }

        /** The mask without the ties that would answer tie i out of order with those that answer already. */
        int inStep(int i, int mask, int[] answers) {
            int left = mask;
            for (int k = 0; k < i && k < answers.length && left != 0; k++) {
                if (answers[k] != NOTHING) {
                    left &= ~outOfStep(i, k, answers[k]);
                }
            }
            return left;
        }

        private int outOfStep(int i, int before, int answer) {
            int here = from.moments[i];
            int hereBefore = from.moments[before];
            int thereBefore = to.moments[answer];
            if (here == NOTHING || hereBefore == NOTHING || thereBefore == NOTHING) {
                return 0;
            }
            if (here == hereBefore) {
                return withMoments & ~atMoment[thereBefore];
            }
            boolean isBehind = here > hereBefore;
            return isBehind ? ahead[thereBefore] | atMoment[thereBefore] : withMoments & ~ahead[thereBefore];
        }

        /** Whether tie i has a moment, and all of the mask have. */
        boolean isOrdered(int i, int mask) {
            return from.moments[i] != NOTHING && (mask & ~withMoments) == 0;
        }

        /** Adds what tie i may weigh with that moment of the other tale. */
        void add(int i, int moment, int weight) {
            int here = from.moments[i];
            if (here != NOTHING) {
                weights[here * DIGITS + moment] += weight;
            }
        }

        /** The most of what was added that can be had in order; then all is taken away again. */
        int heaviestOrder() {
            for (int there = 0; there < DIGITS; there++) {
                heaviest[there] = 0;
            }
            for (int here = 0; here < DIGITS; here++) {
                for (int there = DIGITS - 1; there >= 0; there--) {
                    int before = there > 0 ? heaviest[there - 1] : 0;
                    heaviest[there] = Math.max(heaviest[there], before + weights[here * DIGITS + there]);
                    weights[here * DIGITS + there] = 0;
                }
                for (int there = 1; there < DIGITS; there++) {
                    heaviest[there] = Math.max(heaviest[there], heaviest[there - 1]);
                }
            }
            return heaviest[DIGITS - 1];
        }
    }

    /** Tries the pairings in order of rows and leaves those that cannot be better. */
    private static final class Search {
        private final Answering answering;
        private final int[] partners;
        private Net from = new Net();
        private Net to = from;
        private boolean countsSorts = true;
        // For each thing: the things of the other tale of its sort, as bits.
        private final int[] sameSort = new int[THINGS];
        private int taken = 0;
        // How many things may go without a partner.
        private int spare = 0;
        private int bestWorth = NOTHING;
        private int bestPairs = NOTHING;
        private final int[] bestPartners = new int[THINGS];
        // While likenesses are listed: how many came, and which one is wanted (-1: all are counted).
        private boolean isListing = false;
        private int listed = 0;
        private int wanted = NOTHING;

        Search(Answering answering) {
            this.answering = answering;
            this.partners = answering.partners;
        }

        /** Finds the likeness and leaves it in the answering: its worth. */
        int likeness(Net a, Net b, int level, boolean timed) {
            prepare(a, b, level, timed, BY_WORTH);
            place(this, 0, 0);
            System.arraycopy(bestPartners, 0, partners, 0, THINGS);
            answering.settle();
            return bestWorth;
        }

        /** After likeness(): how many there are, or up to the wanted one, which then is the best. */
        int list(int which) {
            isListing = true;
            listed = 0;
            wanted = which;
            open();
            place(this, 0, 0);
            isListing = false;
            return listed;
        }

        int digits() {
            int number = 0;
            for (int x = 0; x < from.things; x++) {
                number = number * DIGITS + (bestPartners[x] == NOTHING ? ALONE_DIGIT : bestPartners[x]);
            }
            return number;
        }

        int mostAnswering(Net a, Net b, boolean timed) {
            prepare(a, b, 0, timed, BY_COUNT);
            place(this, 0, 0);
            return bestWorth;
        }

        /** Whether all things, with their sorts, and all ties answer, with their moments. */
        boolean isSame(Net a, Net b) {
            prepare(a, b, 0, false, BY_SAMENESS);
            int all = a.things + a.ties;
            bestWorth = all - 1;
            bestPairs = a.things;
            place(this, 0, 0);
            return bestWorth == all;
        }

        private void prepare(Net a, Net b, int level, boolean timed, int weighing) {
            from = a;
            to = b;
            answering.take(a, b, level, timed, weighing);
            countsSorts = weighing != BY_COUNT;
            // Without moments a further pair never takes an answer away, so the best have all pairs they can.
            spare = answering.timing.matters ? from.things : Math.max(0, from.things - to.things);
            bestWorth = NOTHING;
            bestPairs = NOTHING;
            for (int x = 0; x < from.things; x++) {
                sameSort[x] = 0;
                for (int y = 0; y < to.things; y++) {
                    sameSort[x] |= from.sorts[x] == to.sorts[y] ? 1 << y : 0;
                }
            }
            open();
        }

        private void open() {
            taken = 0;
            for (int x = 0; x < THINGS; x++) {
                partners[x] = OPEN;
            }
        }

        private static void place(Search s, int thing, int alone) {
            if (thing >= s.from.things || thing >= THINGS) {
                s.arrive();
                return;
            }
            for (int y = 0; y < s.to.things; y++) {
                if ((s.taken >> y & 1) == 0) {
                    s.partners[thing] = y;
                    s.taken |= 1 << y;
                    if (s.isHopeful(thing + 1)) {
                        place(s, thing + 1, alone);
                    }
                    s.taken &= ~(1 << y);
                }
            }
            s.partners[thing] = NOTHING;
            if (alone < s.spare && s.isHopeful(thing + 1)) {
                place(s, thing + 1, alone + 1);
            }
            s.partners[thing] = OPEN;
        }

        private boolean isHopeful(int decided) {
            int pairs = Integer.bitCount(taken);
            pairs += Math.min(from.things - decided, to.things - pairs);
            int worth = answering.hope(taken) + sortHope(decided);
            if (isListing) {
                return (wanted == NOTHING || listed <= wanted) && worth >= bestWorth && pairs >= bestPairs;
            }
            return worth > bestWorth || worth == bestWorth && pairs > bestPairs;
        }

        /** The most pairs of one sort there can be, whatever becomes of the open partners. */
        private int sortHope(int decided) {
            if (!countsSorts) {
                return 0;
            }
            int count = 0;
            int free = ~taken;
            for (int x = 0; x < from.things; x++) {
                if (x < decided) {
                    count += partners[x] >= 0 ? sameSort[x] >> partners[x] & 1 : 0;
                } else {
                    int fit = sameSort[x] & free;
                    count += fit != 0 ? 1 : 0;
                    free &= ~(fit & -fit);
                }
            }
            return count;
        }

        private void arrive() {
            int worth = answering.settle() + sortHope(from.things);
            int pairs = Integer.bitCount(taken);
            if (isListing) {
                if (worth == bestWorth && pairs == bestPairs && (wanted == NOTHING || listed <= wanted)) {
                    listed++;
                    keepPartners();
                }
            } else if (worth > bestWorth || worth == bestWorth && pairs > bestPairs) {
                bestWorth = worth;
                bestPairs = pairs;
                keepPartners();
            }
        }

        private void keepPartners() {
            System.arraycopy(partners, 0, bestPartners, 0, THINGS);
        }
    }

    /** The likeness that like() found, with both tales as they were then. */
    private static final class Kept {
        boolean isThere = false;
        int level = 0;
        boolean timed = false;
        final Net from;
        final Net to = new Net();
        final int[] partners;
        final int[] answers;
        final Guesses guesses;

        Kept() {
            Net net = new Net();
            int[] pairing = new int[THINGS];
            int[] answering = new int[TIES];
            from = net;
            partners = pairing;
            answers = answering;
            guesses = new Guesses(net, pairing, answering);
        }

        void take(Net a, Net b, int newLevel, boolean isTimed) {
            isThere = true;
            level = newLevel;
            timed = isTimed;
            from.become(a);
            to.become(b);
        }

        void takePairing(int[] newPartners, int[] newAnswers) {
            if (newPartners.length < THINGS || newAnswers.length < TIES) {
                return;
            }
            System.arraycopy(newPartners, 0, partners, 0, THINGS);
            System.arraycopy(newAnswers, 0, answers, 0, TIES);
            guesses.gather();
        }

        int pairedThings() {
            int set = 0;
            for (int x = 0; x < from.things; x++) {
                set |= partners[x] >= 0 ? 1 << x : 0;
            }
            return set;
        }
    }

    /** What the other tale would have by a pairing and its answers. */
    private static final class Guesses {
        private final Net from;
        private final int[] partners;
        private final int[] answers;
        int count = 0;
        final int[] ties = new int[TIES];
        // For each tie its number among the guesses, or NOTHING.
        private final int[] numbers = new int[TIES];

        Guesses(Net from, int[] partners, int[] answers) {
            this.from = from;
            this.partners = partners;
            this.answers = answers;
        }

        void gather() {
            count = 0;
            for (int i = 0; i < from.ties; i++) {
                numbers[i] = NOTHING;
                if (answers[i] == NOTHING && isGuess(i)) {
                    numbers[i] = count;
                    ties[count] = i;
                    count++;
                }
            }
        }

        private boolean isGuess(int tie) {
            for (int place = 0; place < ENDS; place++) {
                int end = from.ends[tie * ENDS + place];
                if (end != NOTHING && over(end) == NOTHING) {
                    return false;
                }
            }
            return true;
        }

        private int over(int end) {
            if (end < THINGS) {
                return end < 0 || partners[end] < 0 ? NOTHING : partners[end];
            }
            int tie = end - FIRST_TIE;
            if (tie < 0 || tie >= from.ties) {
                return NOTHING;
            }
            if (answers[tie] != NOTHING) {
                return FIRST_TIE + answers[tie];
            }
            return numbers[tie] == NOTHING ? NOTHING : FIRST_GUESS + numbers[tie];
        }

        /** The end of a guess put over, or NOTHING beyond those of its kind. */
        int endOver(int guess, int place) {
            return over(from.ends[ties[guess] * ENDS + place]);
        }

        boolean isHeld(int guess, Net to, Language language) {
            return isTold(guess, from.kinds[ties[guess]], to, language);
        }

        boolean isAgainst(int guess, Net to, Language language) {
            int contrary = language.opposite[from.kinds[ties[guess]]];
            return contrary != NOTHING && isTold(guess, contrary, to, language);
        }

        private boolean isTold(int guess, int kind, Net to, Language language) {
            // No tie has a guess as an end, so none is found for a guess with one.
            return to.find(language, kind, endOver(guess, 0), endOver(guess, 1), endOver(guess, 2)) != NOTHING;
        }
    }

    /** Seeks the likest tale, those with the greatest bound first. */
    private static final class Seeker {
        private final Net[] tales;
        private final Search search;
        // For each tale its bound, or NOTHING if it is not to be held (any more).
        private final int[] bounds = new int[TALES];
        int held = 0;
        int bestWorth = NOTHING;

        Seeker(Net[] tales, Search search) {
            this.tales = tales;
            this.search = search;
        }

        int likest(int asked, boolean timed) {
            for (int t = 0; t < TALES; t++) {
                boolean isInStore = t != asked && tales[t].ties > 0;
                bounds[t] = isInStore ? boundOf(tales[asked], tales[t]) : NOTHING;
            }
            held = 0;
            bestWorth = NOTHING;
            int best = NOTHING;
            for (int round = 0; round < TALES; round++) {
                int next = greatestBound();
                if (next == NOTHING || bounds[next] < bestWorth || bounds[next] == bestWorth && next > best) {
                    break;
                }
                bounds[next] = NOTHING;
                held++;
                int worth = search.likeness(tales[asked], tales[next], 0, timed);
                if (worth > bestWorth || worth == bestWorth && next < best) {
                    bestWorth = worth;
                    best = next;
                }
            }
            return best;
        }

        private int greatestBound() {
            int greatest = NOTHING;
            for (int t = 0; t < TALES; t++) {
                if (bounds[t] != NOTHING && (greatest == NOTHING || bounds[t] > bounds[greatest])) {
                    greatest = t;
                }
            }
            return greatest;
        }

        static int boundOf(Net a, Net b) {
            int bound = 0;
            for (int k = 0; k < KINDS; k++) {
                int height = 0;
                for (int i = 0; i < a.ties; i++) {
                    height = a.kinds[i] == k ? Math.max(height, a.heights[i]) : height;
                }
                if (height > 0) {
                    bound += Math.min(a.countOfKind(k), b.countOfKind(k)) * 6 * height;
                }
            }
            for (int s = 0; s < DIGITS; s++) {
                bound += Math.min(countOfSort(a, s), countOfSort(b, s));
            }
            return bound;
        }

        private static int countOfSort(Net net, int sort) {
            int count = 0;
            for (int x = 0; x < net.things; x++) {
                count += net.sorts[x] == sort ? 1 : 0;
            }
            return count;
        }
    }

    /** Makes tales out of likenesses. */
    private static final class Weaver {
        private final Language language;
        private final Answering answering;
        final Net made = new Net();
        // The first likeness of a series, of a to b.
        private final int[] firstPartners = new int[THINGS];
        private final int[] firstAnswers = new int[TIES];
        // What ends become in the tale that is made: NOTHING, if they are not there.
        private final int[] newThings = new int[THINGS];
        private final int[] newTies = new int[TIES];
        // For each tie of the third tale its number in the one that is made.
        private final int[] leftTies = new int[TIES];
        // The ends of a tie in the tale that is made.
        private final int[] newEnds = new int[ENDS];

        Weaver(Language language, Answering answering) {
            this.language = language;
            this.answering = answering;
        }

        /** By the likeness in the answering. */
        void weaveCommon(Net a, Net b) {
            clear();
            made.empty(0);
            for (int x = 0; x < a.things; x++) {
                int y = answering.partners[x];
                if (y >= 0) {
                    newThings[x] = made.things;
                    made.sorts[made.things] = a.sorts[x] == b.sorts[y] ? a.sorts[x] : 0;
                    made.things++;
                }
            }
            for (int i = 0; i < a.ties; i++) {
                int j = answering.answers[i];
                if (j >= 0 && bringEnds(a, i)) {
                    int level = language.meetingLevel(a.kinds[i], b.kinds[j]);
                    newTies[i] = findOrPut(language.above(a.kinds[i], Math.max(level, 0)), NOTHING);
                }
            }
        }

        /** Keeps the likeness in the answering as the first one of a series. */
        void noteFirst(Net a) {
            for (int x = 0; x < a.things; x++) {
                firstPartners[x] = answering.partners[x];
            }
            for (int i = 0; i < a.ties; i++) {
                firstAnswers[i] = answering.answers[i];
            }
        }

        /** The third tale, of which the likeness in the answering is, without what is lost. */
        void weaveLeft(Net a, Net c) {
            clear();
            int lost = 0;
            for (int i = 0; i < a.ties; i++) {
                boolean isLost = firstAnswers[i] == NOTHING && answering.answers[i] != NOTHING;
                lost |= isLost ? 1 << answering.answers[i] : 0;
            }
            made.empty(c.things);
            made.label = c.label;
            for (int z = 0; z < c.things; z++) {
                made.sorts[z] = c.sorts[z];
                newThings[z] = z;
            }
            for (int k = 0; k < c.ties; k++) {
                if ((lost >> k & 1) == 0 && bringEnds(c, k)) {
                    newTies[k] = findOrPut(c.kinds[k], c.moments[k]);
                }
            }
            System.arraycopy(newTies, 0, leftTies, 0, TIES);
        }

        /** What the things and ties of the second tale are in the one that is made, by way of the first. */
        void bridge(Net a) {
            clear();
            for (int x = 0; x < a.things; x++) {
                if (firstPartners[x] >= 0) {
                    newThings[firstPartners[x]] = answering.partners[x];
                }
            }
            for (int i = 0; i < a.ties; i++) {
                if (firstAnswers[i] >= 0 && answering.answers[i] >= 0) {
                    newTies[firstAnswers[i]] = leftTies[answering.answers[i]];
                }
            }
        }

        /** Puts what the second tale has won; false, if there is no room for it. */
        boolean putWon(Net a, Net b) {
            int cameTo = 0;
            for (int i = 0; i < a.ties; i++) {
                cameTo |= firstAnswers[i] >= 0 ? 1 << firstAnswers[i] : 0;
            }
            for (int j = 0; j < b.ties; j++) {
                if ((cameTo >> j & 1) == 0 && bringEnds(b, j)) {
                    newTies[j] = findOrPut(b.kinds[j], b.moments[j]);
                    if (newTies[j] == NOTHING) {
                        return false;
                    }
                }
            }
            return true;
        }

        private void clear() {
            for (int x = 0; x < THINGS; x++) {
                newThings[x] = NOTHING;
            }
            for (int i = 0; i < TIES; i++) {
                newTies[i] = NOTHING;
            }
        }

        /** Brings the ends of a tie over; false, if one of them is not there. */
        private boolean bringEnds(Net net, int tie) {
            for (int place = 0; place < ENDS; place++) {
                int end = net.ends[tie * ENDS + place];
                newEnds[place] = newEnd(end);
                if (end != NOTHING && newEnds[place] == NOTHING) {
                    return false;
                }
            }
            return true;
        }

        private int newEnd(int end) {
            if (end < THINGS) {
                return end < 0 ? NOTHING : newThings[end];
            }
            int tie = end - FIRST_TIE;
            boolean isThere = tie >= 0 && tie < TIES && newTies[tie] != NOTHING;
            return isThere ? FIRST_TIE + newTies[tie] : NOTHING;
        }

        /** The number of the tie with the ends brought over, or NOTHING, if there is no room for it. */
        private int findOrPut(int kind, int moment) {
            int there = made.find(language, kind, newEnds[0], newEnds[1], newEnds[2]);
            return there != NOTHING ? there : made.put(kind, newEnds[0], newEnds[1], newEnds[2], moment);
        }
    }
}
