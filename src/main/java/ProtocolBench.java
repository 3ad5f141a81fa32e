import java.util.Arrays;

/**
 * A bench for small protocols: what is told of roles, steps, variables and channels is gone through
 * state by state, and promises and classes are looked for among the states that were found.
 */
public final class ProtocolBench {
    public static final int NONE = -1, UNKNOWN = -2, OUTSIDE = -3, OWNED = -4, NOT = -5, FULL = -6, SPENT = -7;

    private static final int MOST_SHARED = 6, MOST_ROLES = 3, MOST_MEMBERS = 3, MOST_OWN = 3;
    private static final int MOST_CHANNELS = 3, MOST_LETTERS = 3, MOST_EXPRS = 80, MOST_STEPS = 24;
    private static final int MOST_ACTS = 4, MOST_OBSERVED = 8, MOST_STATES = 400, MOST_MOVES = 6000;

    /** The greatest value, place and letter. */
    private static final int HIGHEST = 9;

    private static final int NUMBER = 0, SHARED_VALUE = 1, OWN_VALUE = 2, OWN_NUMBER = 3, AT_PLACE = 4;
    private static final int HELD = 5, VALUE_OF = 6, SUM = 7, DIFFERENCE = 8, PRODUCT = 9, SAME = 10;
    private static final int BELOW = 11, BOTH = 12, EITHER = 13, NEGATION = 14;

    private static final int SET_SHARED = 0, SET_OWN = 1, SEND = 2, RECEIVE = 3;

    private static final int LEAST_INT = 1 << 31;

    /** A use of EXPRS beside those by the STEPS of a ROLE, whose uses are the bits 1 << role. */
    private static final int ASKED = 1 << MOST_ROLES;

    private final Protocol protocol = new Protocol();
    private final Graph graph = new Graph();
    private final Searcher searcher = new Searcher(protocol, graph);
    private final Reckoner reckoner = new Reckoner(protocol, graph);
    private final Knots knots = new Knots(protocol, graph, reckoner);
    private final Division division = new Division(graph, reckoner);

    public ProtocolBench() {
    }

    // ---- what is told (each ends the SEARCH)

    public int shared(int low, int high, int first) {
        if (!Variables.fits(low, high, first)) {
            return OUTSIDE;
        }
        if (protocol.shared.isFull(0)) {
            return FULL;
        }
        endSearch();
        return protocol.shared.add(0, low, high, first);
    }

    public int role(int members) {
        if (members < 1 || members > MOST_MEMBERS) {
            return OUTSIDE;
        }
        if (protocol.roles.told == MOST_ROLES) {
            return FULL;
        }
        endSearch();
        return protocol.roles.add(members);
    }

    public int own(int role, int low, int high, int first) {
        if (!protocol.roles.has(role)) {
            return UNKNOWN;
        }
        if (!Variables.fits(low, high, first)) {
            return OUTSIDE;
        }
        if (protocol.owns.isFull(role)) {
            return FULL;
        }
        endSearch();
        return protocol.owns.add(role, low, high, first);
    }

    public int end(int role, int place) {
        if (!protocol.roles.has(role)) {
            return UNKNOWN;
        }
        if (!isDigit(place)) {
            return OUTSIDE;
        }
        endSearch();
        int was = asNumber(protocol.roles.isEnd(role, place));
        protocol.roles.setEnd(role, place);
        return was;
    }

    public int channel(int room, boolean loose, boolean loses) {
        if (room < 1 || room > MOST_LETTERS) {
            return OUTSIDE;
        }
        if (protocol.channels == MOST_CHANNELS) {
            return FULL;
        }
        endSearch();
        return protocol.addChannel(room, loose, loses);
    }

    public int expr(int kind, int a, int b, int c) {
        if (kind < NUMBER || kind > NEGATION) {
            return OUTSIDE;
        }
        if (!protocol.knowsParts(kind, a, b, c)) {
            return UNKNOWN;
        }
        if (kind == OWN_VALUE && (a < 0 || a >= MOST_OWN)) {
            return OUTSIDE;
        }
        if (kind == AT_PLACE && !isDigit(b)) {
            return OUTSIDE;
        }
        if (protocol.exprs.told == MOST_EXPRS) {
            return FULL;
        }
        endSearch();
        return protocol.exprs.add(kind, a, b, c);
    }

    public int step(int role, int from, int to, int guard) {
        if (!protocol.roles.has(role) || (guard != NONE && !protocol.exprs.has(guard))) {
            return UNKNOWN;
        }
        if (!isDigit(from) || !isDigit(to)) {
            return OUTSIDE;
        }
        if (protocol.steps.told == MOST_STEPS) {
            return FULL;
        }
        endSearch();
        return protocol.steps.add(role, from, to, guard);
    }

    public int act(int step, int kind, int a, int b) {
        if (kind < SET_SHARED || kind > RECEIVE) {
            return OUTSIDE;
        }
        if (!protocol.steps.has(step) || !protocol.knowsAct(step, kind, a, b)) {
            return UNKNOWN;
        }
        if (protocol.steps.hasLetterAct(step, kind, a)) {
            return OUTSIDE;
        }
        if (protocol.steps.acts[step] == MOST_ACTS) {
            return FULL;
        }
        endSearch();
        return protocol.steps.addAct(step, kind, a, b);
    }

    public int alike(boolean on) {
        endSearch();
        int was = asNumber(protocol.takesAlike);
        protocol.takesAlike = on;
        return was;
    }

    // ---- the search

    public int search() {
        if (!protocol.isSearchable()) {
            return NOT;
        }
        // What is told has not changed while a SEARCH is there, so a second one would find the same.
        if (!graph.isThere) {
            searcher.start();
            for (int state = 0; state < MOST_STATES && state < graph.states && !graph.isSpent; state++) {
                searcher.goThrough(state);
            }
        }
        return graph.isSpent ? SPENT : graph.states;
    }

    public int tells(int state, int expr) {
        if (!graph.has(state) || !protocol.exprs.has(expr) || protocol.exprs.isOwned(expr)) {
            return LEAST_INT;
        }
        reckoner.ask(expr);
        reckoner.lookAt(state);
        return reckoner.answer(expr);
    }

    public int place(int state, int role, int member) {
        if (!graph.isUsable()) {
            return NOT;
        }
        if (!graph.has(state) || !protocol.roles.hasMember(role, member)) {
            return UNKNOWN;
        }
        return reckoner.rowOf(state).placeOf(role, member);
    }

    public int owned(int state, int role, int member, int variable) {
        if (!graph.isUsable()) {
            return NOT;
        }
        if (!graph.has(state) || !protocol.roles.hasMember(role, member) || !protocol.owns.has(role, variable)) {
            return UNKNOWN;
        }
        return reckoner.rowOf(state).ownValue(role, member, variable);
    }

    public int letter(int state, int channel, int i) {
        if (!graph.isUsable()) {
            return NOT;
        }
        if (!graph.has(state) || !protocol.hasChannel(channel)) {
            return UNKNOWN;
        }
        Row row = reckoner.rowOf(state);
        return i >= 0 && i < row.held(channel) ? row.letterAt(channel, i) : NONE;
    }

    public int moves(int state) {
        if (!graph.isUsable()) {
            return NOT;
        }
        return graph.has(state) ? graph.movesFrom(state) : UNKNOWN;
    }

    public int move(int state, int i, int what) {
        if (!graph.isUsable()) {
            return NOT;
        }
        if (!graph.has(state) || i < 0 || i >= graph.movesFrom(state)) {
            return UNKNOWN;
        }
        int number = graph.firstMove[state] + i;
        switch (what) {
            case 0: return graph.moveTo[number];
            case 1: return graph.roleOfMove(number);
            case 2: return graph.memberOfMove(number);
            case 3: return graph.stepOfMove(number);
            default: return OUTSIDE;
        }
    }

    public int depth(int state) {
        if (!graph.isUsable()) {
            return NOT;
        }
        return graph.has(state) ? graph.wayLength[state] : UNKNOWN;
    }

    public int came(int state, int what) {
        if (!graph.isUsable()) {
            return NOT;
        }
        if (!graph.has(state)) {
            return UNKNOWN;
        }
        switch (what) {
            case 0: return graph.cameFrom[state];
            case 1: return graph.cameBy[state];
            default: return OUTSIDE;
        }
    }

    public int stuck() {
        if (!graph.isUsable()) {
            return NOT;
        }
        for (int state = 0; state < graph.states; state++) {
            if (!graph.hasMemberMove(state) && protocol.someAtNoEnd(reckoner.rowOf(state))) {
                return state;
            }
        }
        return NONE;
    }

    public int fault(int what) {
        if (what < 0 || what > 3) {
            return OUTSIDE;
        }
        if (!graph.isUsable()) {
            return NOT;
        }
        switch (what) {
            case 0: return graph.faultState;
            case 1: return graph.faultRole;
            case 2: return graph.faultMember;
            default: return graph.faultStep;
        }
    }

    // ---- promises

    public int always(int e) {
        int refusal = refusalOfPlain(e);
        if (refusal != 0) {
            return refusal;
        }
        if (!graph.isUsable()) {
            return NOT;
        }
        reckoner.ask(e);
        for (int state = 0; state < graph.states; state++) {
            reckoner.lookAt(state);
            if (reckoner.answer(e) == 0) {
                return state;
            }
        }
        return NONE;
    }

    public int again(int e, boolean fair) {
        int refusal = refusalOfPlain(e);
        if (refusal != 0) {
            return refusal;
        }
        if (!graph.isUsable() || (fair && protocol.takesAlike)) {
            return NOT;
        }
        return knots.breakerOfAgain(e, fair);
    }

    public int fromTo(int p, int q, boolean fair) {
        if (!protocol.exprs.has(p) || !protocol.exprs.has(q)) {
            return UNKNOWN;
        }
        if (protocol.exprs.isOwned(p) || protocol.exprs.isOwned(q)) {
            return OWNED;
        }
        if (!graph.isUsable() || (fair && protocol.takesAlike)) {
            return NOT;
        }
        return knots.breakerOfFromTo(p, q, fair);
    }

    // ---- classes

    public int observe(int e) {
        int refusal = refusalOfPlain(e);
        if (refusal != 0) {
            return refusal;
        }
        if (division.observes(e)) {
            return OUTSIDE;
        }
        if (division.observed == MOST_OBSERVED) {
            return FULL;
        }
        return division.addObserved(e);
    }

    public int classes() {
        if (!graph.isUsable()) {
            return NOT;
        }
        division.makeSure();
        return division.parts;
    }

    public int classOf(int state) {
        if (!graph.isUsable()) {
            return NOT;
        }
        if (!graph.has(state)) {
            return UNKNOWN;
        }
        division.makeSure();
        return division.partOf[state];
    }

    public int count(int what) {
        switch (what) {
            case 0: return protocol.shared.told[0];
            case 1: return protocol.roles.told;
            case 2: return protocol.channels;
            case 3: return protocol.exprs.told;
            case 4: return protocol.steps.told;
            case 5: return division.observed;
            case 6: return graph.states;
            case 7: return asNumber(graph.isSpent);
            default: return OUTSIDE;
        }
    }

    private void endSearch() {
        graph.clear();
        division.forget();
    }

    /** Why an EXPR may not stand in a promise or be OBSERVED; 0 if it may. */
    private int refusalOfPlain(int e) {
        if (!protocol.exprs.has(e)) {
            return UNKNOWN;
        }
        return protocol.exprs.isOwned(e) ? OWNED : 0;
    }

    private static boolean isDigit(int value) {
        return value >= 0 && value <= HIGHEST;
    }

    private static int asNumber(boolean truth) {
        return truth ? 1 : 0;
    }

    /** VARIABLES of one or more owners: the SHARED ones have one owner, OWN ones are by ROLES. */
    private static final class Variables {
        final int[] told;
        private final int most;
        private final int[] low;
        private final int[] high;
        private final int[] first;

        Variables(int owners, int most) {
            this.most = most;
            told = new int[owners];
            low = new int[owners * most];
            high = new int[owners * most];
            first = new int[owners * most];
        }

        static boolean fits(int low, int high, int first) {
            return low >= 0 && high <= HIGHEST && low <= first && first <= high;
        }

        boolean isFull(int owner) {
            return told[owner] == most;
        }

        boolean has(int owner, int variable) {
            return variable >= 0 && variable < told[owner];
        }

        int add(int owner, int lowest, int highest, int atFirst) {
            int variable = told[owner]++;
            low[owner * most + variable] = lowest;
            high[owner * most + variable] = highest;
            first[owner * most + variable] = atFirst;
            return variable;
        }

        boolean allows(int owner, int variable, int value) {
            return value >= low[owner * most + variable] && value <= high[owner * most + variable];
        }

        int firstOf(int owner, int variable) {
            return first[owner * most + variable];
        }
    }

    private static final class Roles {
        final int[] members = new int[MOST_ROLES];
        int told;
        private final int[] endBits = new int[MOST_ROLES];

        boolean has(int role) {
            return role >= 0 && role < told;
        }

        boolean hasMember(int role, int member) {
            return has(role) && member >= 0 && member < members[role];
        }

        int add(int howMany) {
            members[told] = howMany;
            return told++;
        }

        boolean isEnd(int role, int place) {
            return ((endBits[role] >>> place) & 1) == 1;
        }

        void setEnd(int role, int place) {
            endBits[role] |= 1 << place;
        }

        /** A bit for each MEMBER, as Graph.moverBit has it. */
        int everyoneBits() {
            int bits = 0;
            for (int role = 0; role < told; role++) {
                bits |= ((1 << members[role]) - 1) << (role * MOST_MEMBERS);
            }
            return bits;
        }
    }

    /**
     * EXPRS, and what they tell. Each is made of elder ones alone, so going through them by their
     * numbers reckons all without recursion, each once, however often it is used.
     */
    private static final class Exprs {
        final int[] value = new int[MOST_EXPRS];
        int told;
        private final Roles roles;
        private final int[] kinds = new int[MOST_EXPRS];
        private final int[] a = new int[MOST_EXPRS];
        private final int[] b = new int[MOST_EXPRS];
        private final int[] c = new int[MOST_EXPRS];
        private final int[] uses = new int[MOST_EXPRS];
        private final boolean[] ofMember = new boolean[MOST_EXPRS];
        private boolean namesMembers;

        Exprs(Roles roles) {
            this.roles = roles;
        }

        boolean has(int e) {
            return e >= 0 && e < told;
        }

        boolean isOwned(int e) {
            return ofMember[e];
        }

        /** Whether an EXPR is there by which like MEMBERS could be told apart. */
        boolean tellsMembersApart() {
            return namesMembers;
        }

        int add(int kind, int first, int second, int third) {
            kinds[told] = kind;
            a[told] = first;
            b[told] = second;
            c[told] = third;
            ofMember[told] = kind == OWN_VALUE || kind == OWN_NUMBER
                || (isMade(kind) && ofMember[first]) || (isMadeOfTwo(kind) && ofMember[second]);
            if (kind == OWN_NUMBER || kind == VALUE_OF) {
                namesMembers = true;
            }
            return told++;
        }

        static boolean isMade(int kind) {
            return kind >= SUM;
        }

        static boolean isMadeOfTwo(int kind) {
            return kind >= SUM && kind < NEGATION;
        }

        void dropUse(int use) {
            for (int e = 0; e < told; e++) {
                uses[e] &= ~use;
            }
        }

        void addUse(int e, int use) {
            uses[e] |= use;
        }

        /** What an EXPR is used for, all of which it is made is used for, too. */
        void spreadUses() {
            for (int e = told - 1; e >= 0; e--) {
                if (isMade(kinds[e])) {
                    uses[a[e]] |= uses[e];
                }
                if (isMadeOfTwo(kinds[e])) {
                    uses[b[e]] |= uses[e];
                }
            }
        }

        /** Whether some EXPR with that use names an OWN VARIABLE beyond those that there are. */
        boolean namesBeyond(int use, int variables) {
            for (int e = 0; e < told; e++) {
                if ((uses[e] & use) != 0 && kinds[e] == OWN_VALUE && a[e] >= variables) {
                    return true;
                }
            }
            return false;
        }

        void reckon(Row row, int role, int member, int use) {
            for (int e = 0; e < told; e++) {
                if ((uses[e] & use) == 0) {
                    continue;
                }
                if (isMade(kinds[e])) {
                    value[e] = ofParts(kinds[e], value[a[e]], isMadeOfTwo(kinds[e]) ? value[b[e]] : 0);
                } else {
                    value[e] = ofRow(e, row, role, member);
                }
            }
        }

        private static int ofParts(int kind, int left, int right) {
            switch (kind) {
                case SUM: return left + right;
                case DIFFERENCE: return left - right;
                case PRODUCT: return left * right;
                case SAME: return left == right ? 1 : 0;
                case BELOW: return left < right ? 1 : 0;
                case BOTH: return left != 0 && right != 0 ? 1 : 0;
                case EITHER: return left != 0 || right != 0 ? 1 : 0;
                default: return left == 0 ? 1 : 0;
            }
        }

        private int ofRow(int e, Row row, int role, int member) {
            switch (kinds[e]) {
                case NUMBER: return a[e];
                case SHARED_VALUE: return row.sharedValue(a[e]);
                case OWN_VALUE: return row.ownValue(role, member, a[e]);
                case OWN_NUMBER: return member;
                case AT_PLACE: return row.howManyAt(a[e], roles.members[a[e]], b[e]);
                case HELD: return row.held(a[e]);
                default: return row.ownValue(a[e], b[e], c[e]);
            }
        }
    }

    private static final class Steps {
        final int[] roleOf = new int[MOST_STEPS];
        final int[] from = new int[MOST_STEPS];
        final int[] to = new int[MOST_STEPS];
        final int[] guard = new int[MOST_STEPS];
        final int[] acts = new int[MOST_STEPS];
        final int[] actKind = new int[MOST_STEPS * MOST_ACTS];
        final int[] actA = new int[MOST_STEPS * MOST_ACTS];
        final int[] actB = new int[MOST_STEPS * MOST_ACTS];
        int told;

        boolean has(int step) {
            return step >= 0 && step < told;
        }

        int add(int role, int fromPlace, int toPlace, int guardExpr) {
            roleOf[told] = role;
            from[told] = fromPlace;
            to[told] = toPlace;
            guard[told] = guardExpr;
            return told++;
        }

        /** Whether a STEP SENDS to a CHANNEL, or RECEIVES from it, already. */
        boolean hasLetterAct(int step, int kind, int channel) {
            if (kind != SEND && kind != RECEIVE) {
                return false;
            }
            for (int at = step * MOST_ACTS; at < step * MOST_ACTS + acts[step]; at++) {
                if (actKind[at] == kind && actA[at] == channel) {
                    return true;
                }
            }
            return false;
        }

        int addAct(int step, int kind, int a, int b) {
            int at = step * MOST_ACTS + acts[step];
            actKind[at] = kind;
            actA[at] = a;
            actB[at] = b;
            acts[step]++;
            return acts[step];
        }
    }

    /** All that is told. */
    private static final class Protocol {
        final Variables shared = new Variables(1, MOST_SHARED);
        final Variables owns = new Variables(MOST_ROLES, MOST_OWN);
        final Roles roles = new Roles();
        final Exprs exprs = new Exprs(roles);
        final Steps steps = new Steps();
        final int[] room = new int[MOST_CHANNELS];
        final boolean[] isLoose = new boolean[MOST_CHANNELS];
        final boolean[] losesLetters = new boolean[MOST_CHANNELS];
        int channels;
        boolean takesAlike;

        boolean hasChannel(int channel) {
            return channel >= 0 && channel < channels;
        }

        int addChannel(int letters, boolean loose, boolean loses) {
            room[channels] = letters;
            isLoose[channels] = loose;
            losesLetters[channels] = loses;
            return channels++;
        }

        boolean knowsParts(int kind, int a, int b, int c) {
            switch (kind) {
                case SHARED_VALUE: return shared.has(0, a);
                case AT_PLACE: return roles.has(a);
                case HELD: return hasChannel(a);
                case VALUE_OF: return roles.hasMember(a, b) && owns.has(a, c);
                default:
                    return (!Exprs.isMade(kind) || exprs.has(a)) && (!Exprs.isMadeOfTwo(kind) || exprs.has(b));
            }
        }

        boolean knowsAct(int step, int kind, int a, int b) {
            int role = steps.roleOf[step];
            switch (kind) {
                case SET_SHARED: return shared.has(0, a) && exprs.has(b);
                case SET_OWN: return owns.has(role, a) && exprs.has(b);
                case SEND: return hasChannel(a) && exprs.has(b);
                default: return hasChannel(a) && owns.has(role, b);
            }
        }

        boolean isSearchable() {
            if (takesAlike && exprs.tellsMembersApart()) {
                return false;
            }
            markUses();
            for (int role = 0; role < roles.told; role++) {
                if (exprs.namesBeyond(1 << role, owns.told[role])) {
                    return false;
                }
            }
            return true;
        }

        private void markUses() {
            exprs.dropUse(ASKED - 1);
            for (int step = 0; step < steps.told; step++) {
                int use = 1 << steps.roleOf[step];
                if (steps.guard[step] != NONE) {
                    exprs.addUse(steps.guard[step], use);
                }
                for (int at = step * MOST_ACTS; at < step * MOST_ACTS + steps.acts[step]; at++) {
                    if (steps.actKind[at] != RECEIVE) {
                        exprs.addUse(steps.actB[at], use);
                    }
                }
            }
            exprs.spreadUses();
        }

        void setFirst(Row row) {
            row.clear();
            for (int variable = 0; variable < shared.told[0]; variable++) {
                row.setShared(variable, shared.firstOf(0, variable));
            }
            for (int role = 0; role < roles.told; role++) {
                for (int member = 0; member < roles.members[role]; member++) {
                    for (int variable = 0; variable < owns.told[role]; variable++) {
                        row.setOwn(role, member, variable, owns.firstOf(role, variable));
                    }
                }
            }
        }

        boolean someAtNoEnd(Row row) {
            for (int role = 0; role < roles.told; role++) {
                for (int member = 0; member < roles.members[role]; member++) {
                    if (!roles.isEnd(role, row.placeOf(role, member))) {
                        return true;
                    }
                }
            }
            return false;
        }
    }

    /**
     * One STATE, four bits a value: a word for the SHARED VARIABLES, one for each MEMBER, one for
     * each CHANNEL. A MEMBER's PLACE stands above its OWN VARIABLES and these stand first to last
     * downward, so that the order which ALIKE asks for is that of the words as numbers.
     */
    private static final class Row {
        static final int WORDS = 1 + MOST_ROLES * MOST_MEMBERS + MOST_CHANNELS;
        private static final int FIRST_MEMBER = 1, FIRST_CHANNEL = 1 + MOST_ROLES * MOST_MEMBERS;
        private static final int TOP = 12, DIGIT = 15, LETTERS = (1 << TOP) - 1;
        final int[] words = new int[WORDS];

        void clear() {
            Arrays.fill(words, 0);
        }

        void copy(Row other) {
            System.arraycopy(other.words, 0, words, 0, WORDS);
        }

        int sharedValue(int variable) {
            return (words[0] >>> (4 * variable)) & DIGIT;
        }

        void setShared(int variable, int value) {
            words[0] = (words[0] & ~(DIGIT << (4 * variable))) | (value << (4 * variable));
        }

        int placeOf(int role, int member) {
            return words[FIRST_MEMBER + role * MOST_MEMBERS + member] >>> TOP;
        }

        void setPlace(int role, int member, int place) {
            int at = FIRST_MEMBER + role * MOST_MEMBERS + member;
            words[at] = (words[at] & ~(DIGIT << TOP)) | (place << TOP);
        }

        int ownValue(int role, int member, int variable) {
            int shift = TOP - 4 - 4 * variable;
            return (words[FIRST_MEMBER + role * MOST_MEMBERS + member] >>> shift) & DIGIT;
        }

        void setOwn(int role, int member, int variable, int value) {
            int at = FIRST_MEMBER + role * MOST_MEMBERS + member;
            int shift = TOP - 4 - 4 * variable;
            words[at] = (words[at] & ~(DIGIT << shift)) | (value << shift);
        }

        int howManyAt(int role, int members, int place) {
            int many = 0;
            int start = FIRST_MEMBER + role * MOST_MEMBERS;
            for (int at = start; at < start + members; at++) {
                if ((words[at] >>> TOP) == place) {
                    many++;
                }
            }
            return many;
        }

        int held(int channel) {
            return words[FIRST_CHANNEL + channel] >>> TOP;
        }

        int letterAt(int channel, int i) {
            return (words[FIRST_CHANNEL + channel] >>> (4 * i)) & DIGIT;
        }

        void put(int channel, int letter) {
            int word = words[FIRST_CHANNEL + channel];
            int many = word >>> TOP;
            words[FIRST_CHANNEL + channel] = (word & LETTERS) | (letter << (4 * many)) | ((many + 1) << TOP);
        }

        void take(int channel, int i) {
            int word = words[FIRST_CHANNEL + channel];
            int letters = word & LETTERS;
            int ahead = letters & ((1 << (4 * i)) - 1);
            int behind = (letters >>> (4 * (i + 1))) << (4 * i);
            words[FIRST_CHANNEL + channel] = ahead | behind | (((word >>> TOP) - 1) << TOP);
        }

        /** The next LETTER behind one (or behind NONE) that no earlier one is like; NONE if there is none. */
        int nextUnlike(int channel, int behind) {
            for (int i = behind + 1; i < held(channel); i++) {
                if (isFirstOfLike(channel, i)) {
                    return i;
                }
            }
            return NONE;
        }

        private boolean isFirstOfLike(int channel, int i) {
            int word = words[FIRST_CHANNEL + channel];
            for (int earlier = 0; earlier < i; earlier++) {
                if (((word >>> (4 * earlier)) & DIGIT) == ((word >>> (4 * i)) & DIGIT)) {
                    return false;
                }
            }
            return true;
        }

        /** Lets the MEMBERS of a ROLE stand rising. */
        void arrange(int role, int members) {
            int start = FIRST_MEMBER + role * MOST_MEMBERS;
            for (int end = start + members - 1; end > start; end--) {
                for (int at = start; at < end; at++) {
                    if (words[at] > words[at + 1]) {
                        int greater = words[at];
                        words[at] = words[at + 1];
                        words[at + 1] = greater;
                    }
                }
            }
        }
    }

    /** The STATES and MOVES that the latest SEARCH found. */
    private static final class Graph {
        private static final int SLOTS = 1024;
        boolean isThere;
        boolean isSpent;
        int states;
        int moveCount;
        int faultState = NONE, faultRole = NONE, faultMember = NONE, faultStep = NONE;
        final int[] firstMove = new int[MOST_STATES + 1];
        final int[] moveTo = new int[MOST_MOVES];
        final int[] wayLength = new int[MOST_STATES];
        final int[] cameFrom = new int[MOST_STATES];
        final int[] cameBy = new int[MOST_STATES];
        /** Who moved, as one number of ROLE, MEMBER and STEP; NONE of what is lost. */
        private final int[] moveBy = new int[MOST_MOVES];
        private final int[] words = new int[MOST_STATES * Row.WORDS];
        /** STATES by their words: a STATE's number and 1; 0 where a slot is free. */
        private final int[] slots = new int[SLOTS];

        void clear() {
            isThere = false;
            isSpent = false;
            states = 0;
            moveCount = 0;
            faultState = NONE;
            faultRole = NONE;
            faultMember = NONE;
            faultStep = NONE;
        }

        void begin(Row first) {
            clear();
            Arrays.fill(slots, 0);
            isThere = true;
            addState(first, slotOf(first), NONE, NONE);
        }

        boolean isUsable() {
            return isThere && !isSpent;
        }

        boolean has(int state) {
            return isUsable() && state >= 0 && state < states;
        }

        void load(int state, Row row) {
            System.arraycopy(words, state * Row.WORDS, row.words, 0, Row.WORDS);
        }

        int movesFrom(int state) {
            return firstMove[state + 1] - firstMove[state];
        }

        int roleOfMove(int move) {
            return moveBy[move] == NONE ? NONE : moveBy[move] / (MOST_STEPS * MOST_MEMBERS);
        }

        int memberOfMove(int move) {
            return moveBy[move] == NONE ? NONE : moveBy[move] / MOST_STEPS % MOST_MEMBERS;
        }

        int stepOfMove(int move) {
            return moveBy[move] == NONE ? NONE : moveBy[move] % MOST_STEPS;
        }

        /** A bit of its own for each MEMBER; 0 of what is lost. */
        int moverBit(int move) {
            return moveBy[move] == NONE ? 0 : 1 << (moveBy[move] / MOST_STEPS);
        }

        /** MOVES of MEMBERS stand ahead of what is lost, so the first one tells. */
        boolean hasMemberMove(int state) {
            return movesFrom(state) > 0 && moverBit(firstMove[state]) != 0;
        }

        static int mover(int role, int member, int step) {
            return (role * MOST_MEMBERS + member) * MOST_STEPS + step;
        }

        void noteFault(int state, int role, int member, int step) {
            if (faultState == NONE) {
                faultState = state;
                faultRole = role;
                faultMember = member;
                faultStep = step;
            }
        }

        void addMove(int from, Row to, int by) {
            int slot = slotOf(to);
            boolean isNew = slots[slot] == 0;
            if (moveCount == MOST_MOVES || (isNew && states == MOST_STATES)) {
                isSpent = true;
                return;
            }
            if (isNew) {
                addState(to, slot, from, moveCount - firstMove[from]);
            }
            moveTo[moveCount] = slots[slot] - 1;
            moveBy[moveCount] = by;
            moveCount++;
        }

        private void addState(Row row, int slot, int from, int by) {
            System.arraycopy(row.words, 0, words, states * Row.WORDS, Row.WORDS);
            cameFrom[states] = from;
            cameBy[states] = by;
            wayLength[states] = from == NONE ? 0 : wayLength[from] + 1;
            states++;
            slots[slot] = states;
        }

        /** The slot of the STATE with these words, or the free one where it would stand. */
        private int slotOf(Row row) {
            int mix = 0;
            for (int at = 0; at < Row.WORDS; at++) {
                mix = mix * 31 + row.words[at];
            }
            mix ^= (mix >>> 20) ^ (mix >>> 10);
            int slot = mix & (SLOTS - 1);
            // There are more slots than STATES, so a free one comes at the latest.
            for (int tried = 0; tried < SLOTS; tried++) {
                if (slots[slot] == 0 || isSame(slots[slot] - 1, row)) {
                    return slot;
                }
                slot = (slot + 1) & (SLOTS - 1);
            }
            return slot;
        }

        private boolean isSame(int state, Row row) {
            int start = state * Row.WORDS;
            for (int at = 0; at < Row.WORDS; at++) {
                if (words[start + at] != row.words[at]) {
                    return false;
                }
            }
            return true;
        }
    }

    /** Goes through the STATES, one by one, as they are found. */
    private static final class Searcher {
        private final Protocol protocol;
        private final Graph graph;
        private final Row now = new Row();
        private final Row then = new Row();
        /** For each ACT of the STEP which LETTER it RECEIVES on the WAY at hand. */
        private final int[] picked = new int[MOST_ACTS];

        Searcher(Protocol protocol, Graph graph) {
            this.protocol = protocol;
            this.graph = graph;
        }

        void start() {
            protocol.setFirst(then);
            graph.begin(then);
        }

        void goThrough(int state) {
            graph.load(state, now);
            graph.firstMove[state] = graph.moveCount;
            for (int role = 0; role < protocol.roles.told; role++) {
                for (int member = 0; member < protocol.roles.members[role] && !graph.isSpent; member++) {
                    goMember(state, role, member);
                }
            }
            for (int channel = 0; channel < protocol.channels && !graph.isSpent; channel++) {
                if (protocol.losesLetters[channel]) {
                    lose(state, channel);
                }
            }
            graph.firstMove[state + 1] = graph.moveCount;
        }

        private void goMember(int state, int role, int member) {
            Steps steps = protocol.steps;
            int place = now.placeOf(role, member);
            boolean isReckoned = false;
            for (int step = 0; step < steps.told && !graph.isSpent; step++) {
                if (steps.roleOf[step] != role || steps.from[step] != place) {
                    continue;
                }
                if (!isReckoned) {
                    protocol.exprs.reckon(now, role, member, 1 << role);
                    isReckoned = true;
                }
                if (canDo(step)) {
                    goWays(state, member, step);
                }
            }
        }

        private boolean canDo(int step) {
            Steps steps = protocol.steps;
            int guard = steps.guard[step];
            if (guard != NONE && protocol.exprs.value[guard] == 0) {
                return false;
            }
            for (int at = step * MOST_ACTS; at < step * MOST_ACTS + steps.acts[step]; at++) {
                int channel = steps.actA[at];
                if (steps.actKind[at] == SEND && now.held(channel) >= protocol.room[channel]) {
                    return false;
                }
                if (steps.actKind[at] == RECEIVE && now.held(channel) == 0) {
                    return false;
                }
            }
            return true;
        }

        private void goWays(int state, int member, int step) {
            int role = protocol.steps.roleOf[step];
            Arrays.fill(picked, 0);
            boolean isMore = true;
            // Each of the CHANNELS gives one LETTER at most in a STEP.
            int most = MOST_LETTERS * MOST_LETTERS * MOST_LETTERS;
            for (int way = 0; way < most && isMore && !graph.isSpent; way++) {
                then.copy(now);
                if (doActs(role, member, step)) {
                    then.setPlace(role, member, protocol.steps.to[step]);
                    takeAlike(role);
                    graph.addMove(state, then, Graph.mover(role, member, step));
                } else {
                    graph.noteFault(state, role, member, step);
                }
                isMore = pickNext(step);
            }
        }

        /** Does the ACTS of a STEP; false is a FAULT. */
        private boolean doActs(int role, int member, int step) {
            Steps steps = protocol.steps;
            for (int act = 0; act < steps.acts[step]; act++) {
                int at = step * MOST_ACTS + act;
                int target = steps.actA[at];
                boolean isDone;
                switch (steps.actKind[at]) {
                    case SET_SHARED:
                        isDone = giveShared(target, protocol.exprs.value[steps.actB[at]]);
                        break;
                    case SET_OWN:
                        isDone = giveOwn(role, member, target, protocol.exprs.value[steps.actB[at]]);
                        break;
                    case SEND:
                        isDone = send(target, protocol.exprs.value[steps.actB[at]]);
                        break;
                    default:
                        // A SEND puts its LETTER behind all others, so those ahead of the STEP keep their numbers.
                        then.take(target, picked[act]);
                        isDone = giveOwn(role, member, steps.actB[at], now.letterAt(target, picked[act]));
                        break;
                }
                if (!isDone) {
                    return false;
                }
            }
            return true;
        }

        private boolean giveShared(int variable, int value) {
            if (!protocol.shared.allows(0, variable, value)) {
                return false;
            }
            then.setShared(variable, value);
            return true;
        }

        private boolean giveOwn(int role, int member, int variable, int value) {
            if (!protocol.owns.allows(role, variable, value)) {
                return false;
            }
            then.setOwn(role, member, variable, value);
            return true;
        }

        private boolean send(int channel, int letter) {
            if (!isDigit(letter)) {
                return false;
            }
            then.put(channel, letter);
            return true;
        }

        /** Picks the LETTERS of the next WAY, those of the last ACT first; false when all WAYS were gone. */
        private boolean pickNext(int step) {
            Steps steps = protocol.steps;
            for (int act = steps.acts[step] - 1; act >= 0; act--) {
                int at = step * MOST_ACTS + act;
                int channel = steps.actA[at];
                if (steps.actKind[at] != RECEIVE || !protocol.isLoose[channel]) {
                    continue;
                }
                int next = now.nextUnlike(channel, picked[act]);
                if (next != NONE) {
                    picked[act] = next;
                    return true;
                }
                picked[act] = 0;
            }
            return false;
        }

        /** Only the ROLE that moved can stand out of order: the STATE ahead was arranged. */
        private void takeAlike(int role) {
            if (protocol.takesAlike) {
                then.arrange(role, protocol.roles.members[role]);
            }
        }

        private void lose(int state, int channel) {
            int letter = now.nextUnlike(channel, NONE);
            for (int lost = 0; lost < MOST_LETTERS && letter != NONE && !graph.isSpent; lost++) {
                then.copy(now);
                then.take(channel, letter);
                graph.addMove(state, then, NONE);
                letter = now.nextUnlike(channel, letter);
            }
        }
    }

    /** Tells EXPRS that are not OWNED in STATES that were found. */
    private static final class Reckoner {
        private final Protocol protocol;
        private final Graph graph;
        private final Row row = new Row();

        Reckoner(Protocol protocol, Graph graph) {
            this.protocol = protocol;
            this.graph = graph;
        }

        Row rowOf(int state) {
            graph.load(state, row);
            return row;
        }

        void askNothing() {
            protocol.exprs.dropUse(ASKED);
        }

        void askToo(int e) {
            protocol.exprs.addUse(e, ASKED);
            protocol.exprs.spreadUses();
        }

        void ask(int e) {
            askNothing();
            askToo(e);
        }

        void lookAt(int state) {
            protocol.exprs.reckon(rowOf(state), 0, 0, ASKED);
        }

        int answer(int e) {
            return protocol.exprs.value[e];
        }
    }

    /**
     * The greatest KNOTS among some of the STATES, by Tarjan's walk with a path of its own instead of
     * recursion. It closes a set only behind all to which it leads, so that whether a KNOT can be
     * come to is known at once.
     */
    private static final class Knots {
        private static final int MOST_TURNS = MOST_STATES + MOST_MOVES;
        private final Protocol protocol;
        private final Graph graph;
        private final Reckoner reckoner;
        private final boolean[] isWithin = new boolean[MOST_STATES];
        private final boolean[] isStart = new boolean[MOST_STATES];
        private final boolean[] isTied = new boolean[MOST_STATES];
        private final boolean[] leadsToKnot = new boolean[MOST_STATES];
        /** When a STATE was entered, from 1; 0 if it was not. */
        private final int[] entered = new int[MOST_STATES];
        private final int[] lowest = new int[MOST_STATES];
        private final int[] nextMove = new int[MOST_STATES];
        /** By which STATE the set of a STATE was closed; NONE while it is open. */
        private final int[] closedBy = new int[MOST_STATES];
        private final int[] path = new int[MOST_STATES];
        private final int[] open = new int[MOST_STATES];
        private int pathLength, openCount, enteredCount;
        private int everyone, movedWithin, idleSomewhere;
        private boolean isFairAsked;

        Knots(Protocol protocol, Graph graph, Reckoner reckoner) {
            this.protocol = protocol;
            this.graph = graph;
            this.reckoner = reckoner;
        }

        int breakerOfAgain(int e, boolean fair) {
            reckoner.ask(e);
            for (int state = 0; state < graph.states; state++) {
                reckoner.lookAt(state);
                isWithin[state] = reckoner.answer(e) == 0;
            }
            tie(fair);
            return firstOfBoth(isWithin, isTied);
        }

        int breakerOfFromTo(int p, int q, boolean fair) {
            reckoner.ask(p);
            reckoner.askToo(q);
            for (int state = 0; state < graph.states; state++) {
                reckoner.lookAt(state);
                isWithin[state] = reckoner.answer(q) == 0;
                isStart[state] = isWithin[state] && reckoner.answer(p) != 0;
            }
            tie(fair);
            return firstOfBoth(isStart, leadsToKnot);
        }

        private int firstOfBoth(boolean[] one, boolean[] other) {
            for (int state = 0; state < graph.states; state++) {
                if (one[state] && other[state]) {
                    return state;
                }
            }
            return NONE;
        }

        private void tie(boolean fair) {
            isFairAsked = fair;
            everyone = protocol.roles.everyoneBits();
            pathLength = 0;
            openCount = 0;
            enteredCount = 0;
            for (int state = 0; state < graph.states; state++) {
                entered[state] = 0;
                closedBy[state] = NONE;
                isTied[state] = false;
                leadsToKnot[state] = false;
            }
            for (int state = 0; state < graph.states; state++) {
                if (isWithin[state] && entered[state] == 0) {
                    walk(state);
                }
            }
        }

        private void walk(int root) {
            enter(root);
            for (int turn = 0; turn < MOST_TURNS && pathLength > 0; turn++) {
                int state = path[pathLength - 1];
                if (nextMove[state] < graph.firstMove[state + 1]) {
                    follow(state, graph.moveTo[nextMove[state]]);
                } else {
                    pathLength--;
                    handBack(state);
                    if (lowest[state] == entered[state]) {
                        close(state);
                    }
                }
            }
        }

        private void enter(int state) {
            enteredCount++;
            entered[state] = enteredCount;
            lowest[state] = enteredCount;
            nextMove[state] = graph.firstMove[state];
            path[pathLength++] = state;
            open[openCount++] = state;
        }

        private void follow(int state, int to) {
            nextMove[state]++;
            if (!isWithin[to]) {
                return;
            }
            if (entered[to] == 0) {
                enter(to);
            } else if (closedBy[to] == NONE) {
                lowest[state] = Math.min(lowest[state], entered[to]);
            }
        }

        /** What a STATE can come back to, the one ahead of it on the path can, too. */
        private void handBack(int state) {
            if (pathLength > 0) {
                int before = path[pathLength - 1];
                lowest[before] = Math.min(lowest[before], lowest[state]);
            }
        }

        private void close(int root) {
            int bottom = openCount;
            boolean isMore = true;
            while (isMore && bottom > 0) {
                bottom--;
                closedBy[open[bottom]] = root;
                isMore = open[bottom] != root;
            }
            movedWithin = 0;
            idleSomewhere = 0;
            boolean isLeading = false;
            for (int i = bottom; i < openCount; i++) {
                if (weigh(open[i], root)) {
                    isLeading = true;
                }
            }
            boolean isKnot = movedWithin != 0 && (!isFairAsked || (movedWithin | idleSomewhere) == everyone);
            for (int i = bottom; i < openCount; i++) {
                isTied[open[i]] = isKnot;
                leadsToKnot[open[i]] = isKnot || isLeading;
            }
            openCount = bottom;
        }

        /** Gathers who moves within the set and who has no MOVE; whether a MOVE leads on to a KNOT. */
        private boolean weigh(int state, int root) {
            int able = 0;
            boolean isLeading = false;
            for (int move = graph.firstMove[state]; move < graph.firstMove[state + 1]; move++) {
                int mover = graph.moverBit(move);
                int to = graph.moveTo[move];
                able |= mover;
                if (closedBy[to] == root) {
                    movedWithin |= mover;
                } else if (leadsToKnot[to]) {
                    isLeading = true;
                }
            }
            idleSomewhere |= everyone & ~able;
            return isLeading;
        }
    }

    /** What is OBSERVED, and the CLASSES: parts are split until none has STATES that differ. */
    private static final class Division {
        private static final int WORD_BITS = 32, KEY_WORDS = (MOST_STATES + WORD_BITS - 1) / WORD_BITS;
        int observed;
        int parts;
        int[] partOf = new int[MOST_STATES];
        private final Graph graph;
        private final Reckoner reckoner;
        private final int[] observedExpr = new int[MOST_OBSERVED];
        /** By what the STATES of a part are split: what is OBSERVED, then to which parts they lead. */
        private final int[] keys = new int[MOST_STATES * KEY_WORDS];
        private int[] newPartOf = new int[MOST_STATES];
        /** The first new part out of each part, and the next one out of the same. */
        private final int[] firstNew = new int[MOST_STATES];
        private final int[] nextNew = new int[MOST_STATES];
        private final int[] leastState = new int[MOST_STATES];
        private boolean isMade;

        Division(Graph graph, Reckoner reckoner) {
            this.graph = graph;
            this.reckoner = reckoner;
        }

        boolean observes(int e) {
            for (int i = 0; i < observed; i++) {
                if (observedExpr[i] == e) {
                    return true;
                }
            }
            return false;
        }

        int addObserved(int e) {
            observedExpr[observed++] = e;
            isMade = false;
            return observed;
        }

        void forget() {
            isMade = false;
        }

        void makeSure() {
            if (isMade) {
                return;
            }
            Arrays.fill(partOf, 0);
            parts = 1;
            keyByObserved();
            split(observed);
            boolean isSplit = true;
            // Each round but the last one makes a part more.
            for (int round = 0; round <= MOST_STATES && isSplit; round++) {
                int before = parts;
                int keyWords = (parts + WORD_BITS - 1) / WORD_BITS;
                keyByMoves(keyWords);
                split(keyWords);
                isSplit = parts > before;
            }
            isMade = true;
        }

        private void keyByObserved() {
            reckoner.askNothing();
            for (int i = 0; i < observed; i++) {
                reckoner.askToo(observedExpr[i]);
            }
            for (int state = 0; state < graph.states; state++) {
                reckoner.lookAt(state);
                for (int i = 0; i < observed; i++) {
                    keys[state * KEY_WORDS + i] = reckoner.answer(observedExpr[i]);
                }
            }
        }

        private void keyByMoves(int keyWords) {
            for (int state = 0; state < graph.states; state++) {
                int start = state * KEY_WORDS;
                Arrays.fill(keys, start, start + keyWords, 0);
                for (int move = graph.firstMove[state]; move < graph.firstMove[state + 1]; move++) {
                    int part = partOf[graph.moveTo[move]];
                    keys[start + part / WORD_BITS] |= 1 << (part % WORD_BITS);
                }
            }
        }

        /** STATES stay in one part if their keys are the same. New parts come by their least STATES. */
        private void split(int keyWords) {
            Arrays.fill(firstNew, NONE);
            parts = 0;
            for (int state = 0; state < graph.states; state++) {
                int part = newPartLike(state, keyWords);
                newPartOf[state] = part == NONE ? openPart(state) : part;
            }
            int[] old = partOf;
            partOf = newPartOf;
            newPartOf = old;
        }

        private int newPartLike(int state, int keyWords) {
            int part = firstNew[partOf[state]];
            for (int tried = 0; tried < MOST_STATES && part != NONE; tried++) {
                if (haveSameKeys(state, leastState[part], keyWords)) {
                    return part;
                }
                part = nextNew[part];
            }
            return NONE;
        }

        private boolean haveSameKeys(int one, int other, int keyWords) {
            for (int i = 0; i < keyWords; i++) {
                if (keys[one * KEY_WORDS + i] != keys[other * KEY_WORDS + i]) {
                    return false;
                }
            }
            return true;
        }

        private int openPart(int state) {
            int part = parts++;
            leastState[part] = state;
            nextNew[part] = firstNew[partOf[state]];
            firstNew[partOf[state]] = part;
            return part;
        }
    }
}
