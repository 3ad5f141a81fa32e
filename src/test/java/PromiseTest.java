/** For each promise of the document: ordinary inputs, the edges that it names, and wrong inputs. */
public final class PromiseTest {
    private static final int NONE = -1, UNKNOWN = -2, OUTSIDE = -3, OWNED = -4, NOT = -5, FULL = -6, SPENT = -7;
    private static final int LEAST = Integer.MIN_VALUE, GREATEST = Integer.MAX_VALUE;
    private static final Check check = new Check("PromiseTest");
    private static int promise;

    private PromiseTest() {
    }

    private static void due(String call, int got, int want) {
        check.due("promise " + promise + ": " + call, got, want);
    }

    private static int number(ProtocolBench x, int n) {
        return x.expr(0, n, 0, 0);
    }

    /** A SEARCH is there; behind a refused call it still is. */
    private static void keepsSearch(ProtocolBench x, String call, int got, int want) {
        int before = x.count(6);
        due(call, got, want);
        due("count(6) behind refused " + call, x.count(6), before);
        due("a SEARCH is there behind refused " + call, x.depth(0), 0);
    }

    private static void endsSearch(ProtocolBench x, String call, int got, int want) {
        due(call, got, want);
        due("moves(0) behind " + call, x.moves(0), NOT);
        due("count(6) behind " + call, x.count(6), 0);
        x.search();
    }

    /** ROLE 0 of one MEMBER that goes round PLACES 0 .. n - 1. */
    private static ProtocolBench ring(int n) {
        ProtocolBench x = new ProtocolBench();
        x.role(1);
        for (int i = 0; i < n; i++) {
            x.step(0, i, (i + 1) % n, NONE);
        }
        return x;
    }

    private static void newObject() {
        promise = 1;
        ProtocolBench x = new ProtocolBench();
        for (int what = 0; what <= 7; what++) {
            due("count(" + what + ")", x.count(what), 0);
        }
        due("moves(0)", x.moves(0), NOT);
        due("stuck()", x.stuck(), NOT);
        due("fault(0)", x.fault(0), NOT);
        due("classes()", x.classes(), NOT);
        due("alike(false)", x.alike(false), 0);
        due("search()", x.search(), 1);
        due("moves(0)", x.moves(0), 0);
        due("stuck()", x.stuck(), NONE);
        due("classes()", x.classes(), 1);
        ProtocolBench y = new ProtocolBench();
        y.shared(0, 1, 0);
        due("objects have nothing in common", x.count(0), 0);
    }

    private static void sharedVariables() {
        promise = 2;
        ProtocolBench x = new ProtocolBench();
        x.search();
        keepsSearch(x, "shared(-1, 1, 0)", x.shared(-1, 1, 0), OUTSIDE);
        keepsSearch(x, "shared(0, 10, 0)", x.shared(0, 10, 0), OUTSIDE);
        keepsSearch(x, "shared(3, 2, 3)", x.shared(3, 2, 3), OUTSIDE);
        keepsSearch(x, "shared(3, 2, 2)", x.shared(3, 2, 2), OUTSIDE);
        keepsSearch(x, "shared(1, 3, 0)", x.shared(1, 3, 0), OUTSIDE);
        keepsSearch(x, "shared(1, 3, 4)", x.shared(1, 3, 4), OUTSIDE);
        keepsSearch(x, "shared(least, greatest, 0)", x.shared(LEAST, GREATEST, 0), OUTSIDE);
        endsSearch(x, "shared(0, 9, 9)", x.shared(0, 9, 9), 0);
        endsSearch(x, "shared(9, 9, 9)", x.shared(9, 9, 9), 1);
        endsSearch(x, "shared(0, 0, 0)", x.shared(0, 0, 0), 2);
        endsSearch(x, "shared(2, 5, 3)", x.shared(2, 5, 3), 3);
        endsSearch(x, "shared(1, 4, 1)", x.shared(1, 4, 1), 4);
        endsSearch(x, "shared(0, 9, 5)", x.shared(0, 9, 5), 5);
        keepsSearch(x, "a seventh", x.shared(0, 1, 0), FULL);
        keepsSearch(x, "a seventh that is OUTSIDE", x.shared(0, 10, 0), OUTSIDE);
        due("count(0)", x.count(0), 6);
        int[] first = {9, 9, 0, 3, 1, 5};
        for (int v = 0; v < 6; v++) {
            x.expr(1, v, 0, 0);
        }
        x.search();
        for (int v = 0; v < 6; v++) {
            due("first value of " + v, x.tells(0, v), first[v]);
        }
    }

    private static void roles() {
        promise = 3;
        ProtocolBench x = new ProtocolBench();
        x.search();
        keepsSearch(x, "role(0)", x.role(0), OUTSIDE);
        keepsSearch(x, "role(4)", x.role(4), OUTSIDE);
        keepsSearch(x, "role(-1)", x.role(-1), OUTSIDE);
        endsSearch(x, "role(1)", x.role(1), 0);
        endsSearch(x, "role(3)", x.role(3), 1);
        endsSearch(x, "role(2)", x.role(2), 2);
        keepsSearch(x, "a fourth", x.role(1), FULL);
        keepsSearch(x, "a fourth that is OUTSIDE", x.role(9), OUTSIDE);
        due("count(1)", x.count(1), 3);
        due("place(0, 0, 0)", x.place(0, 0, 0), 0);
        due("place(0, 0, 1)", x.place(0, 0, 1), UNKNOWN);
        due("place(0, 1, 2)", x.place(0, 1, 2), 0);
        due("place(0, 1, 3)", x.place(0, 1, 3), UNKNOWN);
        due("place(0, 2, 1)", x.place(0, 2, 1), 0);
        due("place(0, 2, 2)", x.place(0, 2, 2), UNKNOWN);
    }

    private static void ownVariables() {
        promise = 4;
        ProtocolBench x = new ProtocolBench();
        due("own(0, ..) without a ROLE", x.own(0, 0, 1, 0), UNKNOWN);
        x.role(1);
        x.role(2);
        x.search();
        keepsSearch(x, "own(2, 0, 1, 0)", x.own(2, 0, 1, 0), UNKNOWN);
        keepsSearch(x, "own(-1, 0, 10, 0)", x.own(-1, 0, 10, 0), UNKNOWN);
        keepsSearch(x, "own(0, 0, 10, 0)", x.own(0, 0, 10, 0), OUTSIDE);
        keepsSearch(x, "own(0, -1, 1, 0)", x.own(0, -1, 1, 0), OUTSIDE);
        keepsSearch(x, "own(0, 2, 4, 5)", x.own(0, 2, 4, 5), OUTSIDE);
        keepsSearch(x, "own(0, 4, 2, 3)", x.own(0, 4, 2, 3), OUTSIDE);
        endsSearch(x, "own(1, 0, 9, 7)", x.own(1, 0, 9, 7), 0);
        endsSearch(x, "own(0, 2, 4, 3)", x.own(0, 2, 4, 3), 0);
        endsSearch(x, "own(1, 1, 1, 1)", x.own(1, 1, 1, 1), 1);
        endsSearch(x, "own(1, 0, 2, 2)", x.own(1, 0, 2, 2), 2);
        keepsSearch(x, "a fourth", x.own(1, 0, 1, 0), FULL);
        keepsSearch(x, "a fourth that is OUTSIDE", x.own(1, 0, 1, 2), OUTSIDE);
        endsSearch(x, "another ROLE's second", x.own(0, 0, 1, 0), 1);
        due("owned(0, 1, 0, 0)", x.owned(0, 1, 0, 0), 7);
        due("owned(0, 1, 1, 0)", x.owned(0, 1, 1, 0), 7);
        due("owned(0, 1, 1, 2)", x.owned(0, 1, 1, 2), 2);
        due("owned(0, 0, 0, 0)", x.owned(0, 0, 0, 0), 3);
    }

    private static void ends() {
        promise = 5;
        ProtocolBench x = new ProtocolBench();
        due("end(0, 0) without a ROLE", x.end(0, 0), UNKNOWN);
        x.role(1);
        x.role(1);
        x.search();
        keepsSearch(x, "end(2, 0)", x.end(2, 0), UNKNOWN);
        keepsSearch(x, "end(-1, 10)", x.end(-1, 10), UNKNOWN);
        keepsSearch(x, "end(0, -1)", x.end(0, -1), OUTSIDE);
        keepsSearch(x, "end(0, 10)", x.end(0, 10), OUTSIDE);
        keepsSearch(x, "end(0, 32)", x.end(0, 32), OUTSIDE);
        due("stuck()", x.stuck(), 0);
        endsSearch(x, "end(0, 0)", x.end(0, 0), 0);
        endsSearch(x, "end(0, 0) again", x.end(0, 0), 1);
        due("stuck() by ROLE 1", x.stuck(), 0);
        endsSearch(x, "end(1, 9)", x.end(1, 9), 0);
        due("stuck() by ROLE 1 still", x.stuck(), 0);
        endsSearch(x, "end(1, 0)", x.end(1, 0), 0);
        due("stuck()", x.stuck(), NONE);
        endsSearch(x, "end(1, 9) again", x.end(1, 9), 1);
    }

    private static void channels() {
        promise = 6;
        ProtocolBench x = new ProtocolBench();
        x.search();
        keepsSearch(x, "channel(0, ..)", x.channel(0, true, true), OUTSIDE);
        keepsSearch(x, "channel(4, ..)", x.channel(4, false, false), OUTSIDE);
        endsSearch(x, "channel(1, ..)", x.channel(1, false, false), 0);
        endsSearch(x, "channel(3, ..)", x.channel(3, true, false), 1);
        endsSearch(x, "channel(2, ..)", x.channel(2, false, true), 2);
        keepsSearch(x, "a fourth", x.channel(1, false, false), FULL);
        keepsSearch(x, "a fourth that is OUTSIDE", x.channel(0, false, false), OUTSIDE);
        due("count(2)", x.count(2), 3);
        // A MEMBER sends without end: the room is all that stops it.
        x.role(1);
        int five = number(x, 5);
        for (int c = 0; c < 3; c++) {
            int s = x.step(0, 0, 0, NONE);
            x.act(s, 2, c, five);
        }
        due("search() by rooms 1, 3, 2", x.search(), 2 * 4 * 3);
        int last = x.count(6) - 1;
        due("room 1 is full", x.letter(last, 0, 0), 5);
        due("room 3 is full", x.letter(last, 1, 2), 5);
        due("room 2 is full", x.letter(last, 2, 1), 5);
        due("only what is lost leads on", x.moves(last), 1);
        due("stuck()", x.stuck(), last);
    }

    private static void exprRefusals() {
        promise = 7;
        ProtocolBench x = new ProtocolBench();
        x.search();
        keepsSearch(x, "expr(-1, ..)", x.expr(-1, 0, 0, 0), OUTSIDE);
        keepsSearch(x, "expr(15, -9, ..)", x.expr(15, -9, -9, -9), OUTSIDE);
        int[] needy = {1, 4, 5, 6, 7, 8, 9, 10, 11, 12, 13, 14};
        for (int kind : needy) {
            keepsSearch(x, "expr(" + kind + ", 0, 0, 0) of nothing", x.expr(kind, 0, 0, 0), UNKNOWN);
        }
        x.shared(0, 9, 4);
        x.role(2);
        x.own(0, 0, 9, 3);
        x.channel(1, false, false);
        x.search();
        keepsSearch(x, "expr(1, 1, ..)", x.expr(1, 1, 0, 0), UNKNOWN);
        keepsSearch(x, "expr(1, -1, ..)", x.expr(1, -1, 0, 0), UNKNOWN);
        keepsSearch(x, "expr(2, 3, ..)", x.expr(2, 3, 0, 0), OUTSIDE);
        keepsSearch(x, "expr(2, -1, ..)", x.expr(2, -1, 0, 0), OUTSIDE);
        keepsSearch(x, "expr(4, 1, 10, ..)", x.expr(4, 1, 10, 0), UNKNOWN);
        keepsSearch(x, "expr(4, 0, 10, ..)", x.expr(4, 0, 10, 0), OUTSIDE);
        keepsSearch(x, "expr(4, 0, -1, ..)", x.expr(4, 0, -1, 0), OUTSIDE);
        keepsSearch(x, "expr(5, 1, ..)", x.expr(5, 1, 0, 0), UNKNOWN);
        keepsSearch(x, "expr(6, 1, 0, 0)", x.expr(6, 1, 0, 0), UNKNOWN);
        keepsSearch(x, "expr(6, 0, 2, 0)", x.expr(6, 0, 2, 0), UNKNOWN);
        keepsSearch(x, "expr(6, 0, -1, 0)", x.expr(6, 0, -1, 0), UNKNOWN);
        keepsSearch(x, "expr(6, 0, 1, 1)", x.expr(6, 0, 1, 1), UNKNOWN);
        keepsSearch(x, "expr(6, 0, 1, -1)", x.expr(6, 0, 1, -1), UNKNOWN);
        endsSearch(x, "expr(0, least, ..)", x.expr(0, LEAST, -7, 99), 0);
        endsSearch(x, "expr(3, -1, ..)", x.expr(3, -1, -1, -1), 1);
        endsSearch(x, "expr(14, 0, -5, ..)", x.expr(14, 0, -5, 5), 2);
        endsSearch(x, "expr(2, 2, ..)", x.expr(2, 2, -5, 5), 3);
        keepsSearch(x, "expr(7, 0, 4, ..), itself", x.expr(7, 0, 4, 0), UNKNOWN);
        keepsSearch(x, "expr(7, 4, 0, ..), itself", x.expr(7, 4, 0, 0), UNKNOWN);
        keepsSearch(x, "expr(14, 4, ..), itself", x.expr(14, 4, 0, 0), UNKNOWN);
        for (int e = 4; e < 80; e++) {
            due("expr " + e, x.expr(0, e, 0, 0), e);
        }
        x.search();
        keepsSearch(x, "the 81st", x.expr(0, 1, 0, 0), FULL);
        keepsSearch(x, "the 81st, UNKNOWN", x.expr(1, 7, 0, 0), UNKNOWN);
        keepsSearch(x, "the 81st, OUTSIDE", x.expr(2, 7, 0, 0), OUTSIDE);
        due("count(3)", x.count(3), 80);
    }

    private static void exprValues() {
        promise = 7;
        ProtocolBench x = new ProtocolBench();
        x.shared(0, 9, 4);
        x.role(3);
        x.own(0, 0, 9, 3);
        x.own(0, 0, 9, 0);
        x.channel(2, false, false);
        int four = x.expr(1, 0, 0, 0), seven = number(x, 7), minus = number(x, -2), zero = number(x, 0);
        int great = number(x, GREATEST), least = number(x, LEAST);
        int at0 = x.expr(4, 0, 0, 0), at1 = x.expr(4, 0, 1, 0), held = x.expr(5, 0, 0, 0);
        int third = x.expr(6, 0, 2, 1), mine = x.expr(2, 0, 0, 0), me = x.expr(3, 0, 0, 0);
        int[][] made = {
            {7, four, seven, 11}, {8, four, seven, -3}, {9, four, minus, -8}, {7, great, great, -2},
            {8, least, great, 1}, {9, great, great, 1}, {9, least, minus, 0},
            {10, four, four, 1}, {10, four, seven, 0}, {11, four, seven, 1}, {11, seven, four, 0}, {11, four, four, 0},
            {11, least, great, 1}, {11, minus, zero, 1},
            {12, four, minus, 1}, {12, four, zero, 0}, {12, zero, four, 0}, {12, zero, zero, 0},
            {13, zero, minus, 1}, {13, four, zero, 1}, {13, zero, zero, 0}, {13, four, four, 1},
            {14, zero, 0, 1}, {14, minus, 0, 0}, {14, four, -9, 0}};
        int[] numbers = new int[made.length];
        for (int i = 0; i < made.length; i++) {
            numbers[i] = x.expr(made[i][0], made[i][1], made[i][2], 0);
        }
        int sumOfMine = x.expr(7, four, mine, 0), notMe = x.expr(14, me, 0, 0), onMine = x.expr(14, sumOfMine, 0, 0);
        // The MEMBER with number 2 alone: to PLACE 1, by own value + number, sending the shared value.
        int two = number(x, 2), isTwo = x.expr(10, me, two, 0), more = x.expr(7, mine, me, 0);
        int s = x.step(0, 0, 1, isTwo);
        x.act(s, 1, 1, more);
        x.act(s, 2, 0, four);
        due("search()", x.search(), 2);
        for (int i = 0; i < made.length; i++) {
            due("kind " + made[i][0] + " of row " + i, x.tells(0, numbers[i]), made[i][3]);
        }
        due("at 0 in 0", x.tells(0, at0), 3);
        due("at 0 in 1", x.tells(1, at0), 2);
        due("at 1 in 1", x.tells(1, at1), 1);
        due("held in 0", x.tells(0, held), 0);
        due("held in 1", x.tells(1, held), 1);
        due("third in 0", x.tells(0, third), 0);
        due("third in 1", x.tells(1, third), 5);
        due("its letter", x.letter(1, 0, 0), 4);
        for (int e : new int[] {mine, me, sumOfMine, notMe, onMine, isTwo, more}) {
            due("OWNED is " + e, x.tells(0, e), LEAST);
            due("OWNED is " + e, x.always(e), OWNED);
        }
        // A doubling tower of all 80: what would take 2^70 steps by plain recursion.
        ProtocolBench y = new ProtocolBench();
        number(y, 1);
        for (int e = 1; e < 80; e++) {
            y.expr(7, e - 1, e - 1, 0);
        }
        y.search();
        due("2^30", y.tells(0, 30), 1 << 30);
        due("2^31 wraps", y.tells(0, 31), LEAST);
        due("2^79 wraps", y.tells(0, 79), 0);
    }

    private static void steps() {
        promise = 8;
        ProtocolBench x = new ProtocolBench();
        due("step without a ROLE", x.step(0, 0, 1, NONE), UNKNOWN);
        x.role(1);
        int yes = number(x, -3), no = number(x, 0);
        x.search();
        keepsSearch(x, "step(1, ..)", x.step(1, 0, 1, NONE), UNKNOWN);
        keepsSearch(x, "step(-1, 10, ..)", x.step(-1, 10, 1, NONE), UNKNOWN);
        keepsSearch(x, "guard 2", x.step(0, 0, 10, 2), UNKNOWN);
        keepsSearch(x, "guard -2", x.step(0, 0, 1, -2), UNKNOWN);
        keepsSearch(x, "from 10", x.step(0, 10, 1, NONE), OUTSIDE);
        keepsSearch(x, "from -1", x.step(0, -1, 1, NONE), OUTSIDE);
        keepsSearch(x, "to 10", x.step(0, 0, 10, NONE), OUTSIDE);
        keepsSearch(x, "to -1", x.step(0, 0, -1, yes), OUTSIDE);
        endsSearch(x, "step(0, 0, 9, yes)", x.step(0, 0, 9, yes), 0);
        due("a STEP was done", x.count(6), 2);
        due("place(1, 0, 0)", x.place(1, 0, 0), 9);
        endsSearch(x, "step(0, 9, 5, no)", x.step(0, 9, 5, no), 1);
        due("its GUARD is 0", x.count(6), 2);
        endsSearch(x, "step(0, 9, 9, NONE)", x.step(0, 9, 9, NONE), 2);
        due("it leads to itself", x.move(1, 0, 0), 1);
        for (int s = 3; s < 24; s++) {
            due("step " + s, x.step(0, 3, 3, NONE), s);
        }
        x.search();
        keepsSearch(x, "the 25th", x.step(0, 0, 0, NONE), FULL);
        keepsSearch(x, "the 25th, OUTSIDE", x.step(0, 0, 11, NONE), OUTSIDE);
        due("count(4)", x.count(4), 24);
    }

    private static void actRefusals() {
        promise = 9;
        ProtocolBench x = new ProtocolBench();
        due("act(0, 4, ..) ahead of all", x.act(0, 4, 0, 0), OUTSIDE);
        due("act(0, -1, ..) ahead of all", x.act(0, -1, 0, 0), OUTSIDE);
        due("act without a STEP", x.act(0, 0, 0, 0), UNKNOWN);
        x.role(1);
        x.role(1);
        x.shared(0, 9, 0);
        x.own(1, 0, 9, 0);
        x.own(1, 0, 9, 0);
        x.own(0, 0, 9, 0);
        x.channel(1, false, false);
        x.channel(1, false, false);
        number(x, 1);
        x.step(0, 0, 1, NONE);
        x.step(1, 0, 1, NONE);
        x.search();
        keepsSearch(x, "act(2, ..)", x.act(2, 0, 0, 0), UNKNOWN);
        keepsSearch(x, "act(-1, ..)", x.act(-1, 0, 0, 0), UNKNOWN);
        keepsSearch(x, "SHARED 1", x.act(0, 0, 1, 0), UNKNOWN);
        keepsSearch(x, "SHARED -1", x.act(0, 0, -1, 0), UNKNOWN);
        keepsSearch(x, "EXPR 1", x.act(0, 0, 0, 1), UNKNOWN);
        keepsSearch(x, "EXPR NONE", x.act(0, 0, 0, NONE), UNKNOWN);
        keepsSearch(x, "OWN 1 of the other ROLE", x.act(0, 1, 1, 0), UNKNOWN);
        keepsSearch(x, "OWN, EXPR 1", x.act(0, 1, 0, 1), UNKNOWN);
        keepsSearch(x, "CHANNEL 2", x.act(0, 2, 2, 0), UNKNOWN);
        keepsSearch(x, "SEND EXPR 1", x.act(0, 2, 0, 1), UNKNOWN);
        keepsSearch(x, "RECEIVE CHANNEL 2", x.act(0, 3, 2, 0), UNKNOWN);
        keepsSearch(x, "RECEIVE into OWN 1 of the other ROLE", x.act(0, 3, 0, 1), UNKNOWN);
        endsSearch(x, "OWN 1 of its ROLE", x.act(1, 1, 1, 0), 1);
        endsSearch(x, "RECEIVE into OWN 1", x.act(1, 3, 0, 1), 2);
        keepsSearch(x, "RECEIVE once more", x.act(1, 3, 0, 0), OUTSIDE);
        keepsSearch(x, "RECEIVE once more into OWN 9", x.act(1, 3, 0, 9), UNKNOWN);
        endsSearch(x, "SEND to the same", x.act(1, 2, 0, 0), 3);
        keepsSearch(x, "SEND once more", x.act(1, 2, 0, 0), OUTSIDE);
        endsSearch(x, "SEND to another", x.act(1, 2, 1, 0), 4);
        keepsSearch(x, "a fifth, SEND once more", x.act(1, 2, 1, 0), OUTSIDE);
        keepsSearch(x, "a fifth", x.act(1, 0, 0, 0), FULL);
        keepsSearch(x, "a fifth, UNKNOWN", x.act(1, 0, 7, 0), UNKNOWN);
        for (int i = 1; i <= 4; i++) {
            due("the same ACT " + i, x.act(0, 0, 0, 0), i);
        }
    }

    private static void actsAreDone() {
        promise = 9;
        // Swapping two variables: all EXPRS are reckoned ahead of the STEP; a later ACT has the last word.
        ProtocolBench x = new ProtocolBench();
        x.role(1);
        x.shared(0, 9, 2);
        x.shared(0, 9, 5);
        x.own(0, 0, 9, 8);
        int a = x.expr(1, 0, 0, 0), b = x.expr(1, 1, 0, 0), mine = x.expr(2, 0, 0, 0), one = number(x, 1);
        int s = x.step(0, 0, 1, NONE);
        x.act(s, 0, 0, b);
        x.act(s, 0, 1, a);
        x.act(s, 1, 0, one);
        x.act(s, 1, 0, a);
        int t = x.step(0, 1, 2, NONE);
        x.act(t, 0, 0, mine);
        x.search();
        due("a", x.tells(1, a), 5);
        due("b", x.tells(1, b), 2);
        due("own", x.owned(1, 0, 0, 0), 2);
        due("a by own", x.tells(2, a), 2);
        due("b stays", x.tells(2, b), 2);
        due("own stays", x.owned(2, 0, 0, 0), 2);
        // SEND and RECEIVE by one CHANNEL in one STEP: it must hold some, and have room, ahead of it.
        ProtocolBench y = new ProtocolBench();
        y.role(1);
        y.own(0, 0, 9, 0);
        y.channel(2, false, false);
        int seven = number(y, 7), four = number(y, 4);
        int fill = y.step(0, 0, 1, NONE);
        y.act(fill, 2, 0, seven);
        int turn = y.step(0, 1, 2, NONE);
        y.act(turn, 2, 0, four);
        y.act(turn, 3, 0, 0);
        int early = y.step(0, 0, 3, NONE);
        y.act(early, 2, 0, four);
        y.act(early, 3, 0, 0);
        due("search()", y.search(), 3);
        due("RECEIVED", y.owned(2, 0, 0, 0), 7);
        due("SENT", y.letter(2, 0, 0), 4);
        due("held", y.letter(2, 0, 1), NONE);
    }

    /** A STEP with four ACTS, and ACTS of the next one that would be told right behind them. */
    private static void fourActs() {
        promise = 9;
        ProtocolBench x = new ProtocolBench();
        x.role(1);
        x.own(0, 0, 9, 0);
        x.shared(0, 9, 0);
        x.channel(3, true, false);
        x.channel(1, true, false);
        int one = number(x, 1), two = number(x, 2);
        int first = x.step(0, 0, 1, NONE), second = x.step(0, 1, 2, NONE), third = x.step(0, 2, 3, NONE);
        for (int i = 0; i < 3; i++) {
            x.act(first, 0, 0, two);
            x.act(second, 0, 0, two);
        }
        x.act(first, 2, 0, one);
        x.act(third, 3, 0, 0);
        x.act(second, 2, 0, two);
        due("a fifth that the next STEP has", x.act(second, 3, 0, 0), FULL);
        due("search()", x.search(), 5);
        due("moves(0)", x.moves(0), 1);
        due("moves(1)", x.moves(1), 1);
        due("moves(2)", x.moves(2), 2);
        int fourth = x.step(0, 0, 4, NONE), fifth = x.step(0, 9, 9, NONE);
        for (int i = 0; i < 4; i++) {
            x.act(fourth, 0, 0, one);
        }
        x.act(fifth, 3, 1, 0);
        x.search();
        due("the next STEP could not be done", x.moves(0), 2);
    }

    /** Three ROLES of three MEMBERS with three OWN VARIABLES each, six SHARED ones, three CHANNELS. */
    private static void fullSize() {
        promise = 11;
        ProtocolBench x = new ProtocolBench();
        for (int i = 0; i < 6; i++) {
            x.shared(0, 9, 9 - i);
        }
        for (int r = 0; r < 3; r++) {
            x.role(3);
            x.end(r, 9);
            for (int v = 0; v < 3; v++) {
                x.own(r, 0, 9, 3 * r + v);
            }
            x.channel(3, true, true);
        }
        int me = x.expr(3, 0, 0, 0), isTwo = x.expr(10, me, number(x, 2), 0), nine = number(x, 9);
        int mine = x.expr(2, 2, 0, 0), never = number(x, 0);
        int last = x.step(2, 0, 9, isTwo);
        x.act(last, 0, 5, nine);
        x.act(last, 1, 0, nine);
        x.act(last, 2, 2, mine);
        int other = x.step(2, 9, 9, NONE);
        x.act(other, 3, 2, 1);
        due("search()", x.search(), 4);
        for (int r = 0; r < 3; r++) {
            for (int m = 0; m < 3; m++) {
                boolean moved = r == 2 && m == 2;
                due("place", x.place(1, r, m), moved ? 9 : 0);
                due("own 0", x.owned(1, r, m, 0), moved ? 9 : 3 * r);
                due("own 1", x.owned(1, r, m, 1), 3 * r + 1);
                due("own 2", x.owned(1, r, m, 2), 3 * r + 2);
            }
        }
        due("letter", x.letter(1, 2, 0), 8);
        due("RECEIVED", x.owned(2, 2, 2, 1), 8);
        due("lost", x.move(1, 1, 1), NONE);
        due("not RECEIVED", x.owned(3, 2, 2, 1), 7);
        due("stuck()", x.stuck(), 2);
        for (int r = 0; r < 3; r++) {
            x.end(r, 0);
        }
        due("search()", x.search(), 4);
        due("all at ENDS", x.stuck(), NONE);
        due("no KNOT", x.again(never, true), NONE);
        ProtocolBench y = new ProtocolBench();
        for (int r = 0; r < 3; r++) {
            y.role(3);
        }
        y.step(2, 0, 1, NONE);
        y.step(2, 1, 0, NONE);
        int no = number(y, 0), at = y.expr(4, 2, 1, 0), three = number(y, 3), all = y.expr(10, at, three, 0);
        due("search()", y.search(), 8);
        due("a KNOT, fair for nine", y.again(no, true), 0);
        due("without the STATE of all", y.again(all, true), 0);
        y.step(0, 0, 1, at);
        due("search()", y.search(), 8 * 8);
        due("ROLE 0 has no MOVE where none is at 1", y.again(no, true), 0);
        int gone = y.expr(4, 0, 1, 0);
        y.search();
        due("it may wait for ever", y.again(gone, true), 0);
    }

    private static void order() {
        promise = 9;
        // Not LOOSE: the first LETTER comes first.
        ProtocolBench x = new ProtocolBench();
        x.role(1);
        x.own(0, 0, 9, 0);
        x.channel(3, false, false);
        int three = number(x, 3), one = number(x, 1), two = number(x, 2);
        int[] sent = {three, one, two};
        for (int i = 0; i < 3; i++) {
            x.act(x.step(0, i, i + 1, NONE), 2, 0, sent[i]);
        }
        for (int i = 3; i < 6; i++) {
            x.act(x.step(0, i, i + 1, NONE), 3, 0, 0);
        }
        due("search()", x.search(), 7);
        due("letters", x.letter(3, 0, 0) * 100 + x.letter(3, 0, 1) * 10 + x.letter(3, 0, 2), 312);
        due("first", x.owned(4, 0, 0, 0), 3);
        due("letters", x.letter(4, 0, 0) * 10 + x.letter(4, 0, 1), 12);
        due("second", x.owned(5, 0, 0, 0), 1);
        due("third", x.owned(6, 0, 0, 0), 2);
        due("empty", x.letter(6, 0, 0), NONE);
    }

    /** Two LOOSE CHANNELS with the LETTERS 3, 1, 3 and 5, 4; then one STEP that RECEIVES from both. */
    private static ProtocolBench twoLoose(boolean loses) {
        ProtocolBench x = new ProtocolBench();
        x.role(1);
        x.own(0, 0, 9, 0);
        x.own(0, 0, 9, 0);
        x.channel(3, true, loses);
        x.channel(3, true, loses);
        int[] letters = {3, 1, 3, 5, 4};
        for (int i = 0; i < 5; i++) {
            x.act(x.step(0, i, i + 1, NONE), 2, i < 3 ? 0 : 1, number(x, letters[i]));
        }
        int both = x.step(0, 5, 6, NONE);
        x.act(both, 3, 1, 1);
        x.act(both, 3, 0, 0);
        return x;
    }

    private static void waysOfLoose() {
        promise = 9;
        ProtocolBench x = twoLoose(false);
        due("search()", x.search(), 6 + 4);
        due("moves(5)", x.moves(5), 4);
        int[][] want = {{3, 5}, {1, 5}, {3, 4}, {1, 4}};
        int[][] left = {{13, 4}, {33, 4}, {13, 5}, {33, 5}};
        for (int i = 0; i < 4; i++) {
            int to = x.move(5, i, 0);
            due("WAY " + i + " leads to", to, 6 + i);
            due("WAY " + i + " step", x.move(5, i, 3), 5);
            due("WAY " + i + " own 0", x.owned(to, 0, 0, 0), want[i][0]);
            due("WAY " + i + " own 1", x.owned(to, 0, 0, 1), want[i][1]);
            due("WAY " + i + " left in 0", x.letter(to, 0, 0) * 10 + x.letter(to, 0, 1), left[i][0]);
            due("WAY " + i + " left in 1", x.letter(to, 1, 0), left[i][1]);
        }
    }

    private static void alike() {
        promise = 10;
        ProtocolBench x = new ProtocolBench();
        x.role(3);
        x.own(0, 0, 1, 0);
        x.step(0, 0, 1, NONE);
        x.search();
        endsSearch(x, "alike(false)", x.alike(false), 0);
        due("search()", x.search(), 8);
        endsSearch(x, "alike(true)", x.alike(true), 0);
        due("search() alike", x.search(), 4);
        endsSearch(x, "alike(true) again", x.alike(true), 1);
        due("they stand rising", x.place(1, 0, 0) * 100 + x.place(1, 0, 1) * 10 + x.place(1, 0, 2), 1);
        due("they stand rising", x.place(2, 0, 0) * 100 + x.place(2, 0, 1) * 10 + x.place(2, 0, 2), 11);
        due("moves(1)", x.moves(1), 2);
        due("moves as they stand", x.move(1, 1, 2), 1);
        endsSearch(x, "alike(false)", x.alike(false), 1);
        due("search()", x.search(), 8);
        // By PLACES ahead of OWN VARIABLES, these in their order; what is theirs goes along.
        ProtocolBench y = new ProtocolBench();
        y.role(2);
        y.own(0, 0, 9, 5);
        y.own(0, 0, 9, 5);
        int nine = number(y, 9), one = number(y, 1), mine = y.expr(2, 0, 0, 0), five = number(y, 5);
        int fresh = y.expr(10, mine, five, 0);
        int s = y.step(0, 0, 0, fresh);
        y.act(s, 1, 0, one);
        y.act(s, 1, 1, nine);
        int t = y.step(0, 0, 1, fresh);
        y.act(t, 1, 0, one);
        y.act(t, 1, 1, one);
        y.alike(true);
        y.search();
        due("own 0 of the first", y.owned(1, 0, 0, 0), 1);
        due("own 1 of the first", y.owned(1, 0, 0, 1), 9);
        due("own 0 of the second", y.owned(1, 0, 1, 0), 5);
        due("place of the second behind t", y.place(2, 0, 1), 1);
        due("own 0 of the first behind t", y.owned(2, 0, 0, 0), 5);
        due("own 1 of the second behind t", y.owned(2, 0, 1, 1), 1);
    }

    private static void searchRefusals() {
        promise = 11;
        ProtocolBench x = new ProtocolBench();
        x.role(1);
        x.role(1);
        x.own(1, 0, 1, 0);
        x.alike(true);
        due("search() alike", x.search(), 1);
        x.expr(3, 0, 0, 0);
        due("an EXPR of 3 that none uses", x.search(), NOT);
        due("count(6)", x.count(6), 0);
        due("count(7)", x.count(7), 0);
        due("moves(0)", x.moves(0), NOT);
        x.alike(false);
        due("search() not alike", x.search(), 1);
        ProtocolBench y = new ProtocolBench();
        y.role(1);
        y.own(0, 0, 1, 0);
        y.alike(true);
        y.expr(6, 0, 0, 0);
        due("an EXPR of 6", y.search(), NOT);
        y.alike(false);
        due("an EXPR of 6, not alike", y.search(), 1);
        // An EXPR of 2, used by GUARD, by ACT, deep below; by the ROLE that has it or not.
        for (int way = 0; way < 4; way++) {
            ProtocolBench z = new ProtocolBench();
            z.role(1);
            z.role(1);
            z.own(1, 0, 1, 0);
            z.shared(0, 9, 0);
            z.channel(1, false, false);
            int mine = z.expr(2, 0, 0, 0), deep = z.expr(14, mine, 0, 0), deeper = z.expr(7, deep, deep, 0);
            due("used by none", z.search(), 1);
            z.step(1, 0, 0, deeper);
            due("used by the ROLE that has it", z.search(), 1);
            int s = z.step(0, 8, 9, way == 0 ? mine : way == 1 ? deeper : NONE);
            if (way == 2) {
                z.act(s, 0, 0, deeper);
            } else if (way == 3) {
                z.act(s, 2, 0, mine);
            }
            due("used by the ROLE that has it not, way " + way, z.search(), NOT);
            z.own(0, 0, 1, 0);
            due("now it has", z.search(), 1);
        }
        // RECEIVE's b is a VARIABLE, not an EXPR.
        ProtocolBench w = new ProtocolBench();
        w.role(1);
        w.expr(2, 1, 0, 0);
        w.own(0, 0, 1, 0);
        w.channel(1, false, false);
        w.act(w.step(0, 0, 0, NONE), 3, 0, 0);
        due("RECEIVE into VARIABLE 0 uses no EXPR 0", w.search(), 1);
    }

    private static void searchOrder() {
        promise = 11;
        // ROLES, MEMBERS, STEPS as told.
        ProtocolBench x = new ProtocolBench();
        x.role(2);
        x.role(1);
        x.step(1, 0, 4, NONE);
        x.step(0, 0, 2, NONE);
        x.step(0, 0, 1, NONE);
        due("search()", x.search(), 9 * 2);
        int[][] want = {{0, 0, 1}, {0, 0, 2}, {0, 1, 1}, {0, 1, 2}, {1, 0, 0}};
        due("moves(0)", x.moves(0), 5);
        for (int i = 0; i < 5; i++) {
            due("to", x.move(0, i, 0), 1 + i);
            for (int what = 1; what <= 3; what++) {
                due("move(0, " + i + ", " + what + ")", x.move(0, i, what), want[i][what - 1]);
            }
        }
        due("place(1, 0, 0)", x.place(1, 0, 0), 2);
        due("place(2, 0, 0)", x.place(2, 0, 0), 1);
        due("place(5, 1, 0)", x.place(5, 1, 0), 4);
        due("the same once more", x.search(), 18);
        // What is lost comes last, by CHANNELS, LETTERS; of like ones the first.
        ProtocolBench y = twoLoose(true);
        y.search();
        int full = 0;
        for (int s = 0; s < y.count(6); s++) {
            if (y.letter(s, 0, 2) != NONE && y.letter(s, 1, 1) != NONE) {
                full = s;
            }
        }
        due("4 WAYS and 2 + 2 lost", y.moves(full), 8);
        int[] left0 = {13, 33};
        for (int i = 4; i < 8; i++) {
            for (int what = 1; what <= 3; what++) {
                due("of what is lost", y.move(full, i, what), NONE);
            }
        }
        for (int i = 0; i < 2; i++) {
            int to = y.move(full, 4 + i, 0);
            due("left in 0", y.letter(to, 0, 0) * 10 + y.letter(to, 0, 1), left0[i]);
            due("left in 1", y.letter(y.move(full, 6 + i, 0), 1, 0), i == 0 ? 4 : 5);
            due("one is left in 1", y.letter(y.move(full, 6 + i, 0), 1, 1), NONE);
        }
    }

    /** Variables that MEMBERS count up, round and round: so many STATES as the rooms' product. */
    private static ProtocolBench counters(int... rooms) {
        ProtocolBench x = new ProtocolBench();
        x.role(1);
        int zero = number(x, 0), one = number(x, 1);
        for (int v = 0; v < rooms.length; v++) {
            x.shared(0, rooms[v] - 1, 0);
            int it = x.expr(1, v, 0, 0), next = x.expr(7, it, one, 0), top = number(x, rooms[v] - 1);
            int below = x.expr(11, it, top, 0), full = x.expr(10, it, top, 0);
            x.act(x.step(0, 0, 0, below), 0, v, next);
            x.act(x.step(0, 0, 0, full), 0, v, zero);
        }
        return x;
    }

    private static void searchLimits() {
        promise = 11;
        ProtocolBench x = counters(10, 10, 4);
        due("400 STATES", x.search(), 400);
        due("count(6)", x.count(6), 400);
        due("count(7)", x.count(7), 0);
        due("moves(399)", x.moves(399), 3);
        due("depth(399)", x.depth(399), 9 + 9 + 3);
        due("classes()", x.classes(), 1);
        due("stuck() among 400", x.stuck(), NONE);
        due("always(1) among 400", x.always(1), NONE);
        due("again(1) among 400", x.again(1, true), NONE);
        due("again(0) among 400", x.again(0, true), 0);
        due("fromTo(1, 1) among 400", x.fromTo(1, 1, true), NONE);
        due("fromTo(0, 0) among 400", x.fromTo(0, 0, true), NONE);
        due("moves(400)", x.moves(400), UNKNOWN);
        ProtocolBench y = counters(10, 10, 5);
        due("500 STATES", y.search(), SPENT);
        due("count(6)", y.count(6), 400);
        due("count(7)", y.count(7), 1);
        due("moves(0)", y.moves(0), NOT);
        due("place(0, 0, 0)", y.place(0, 0, 0), NOT);
        due("stuck()", y.stuck(), NOT);
        due("fault(0)", y.fault(0), NOT);
        due("always(0)", y.always(0), NOT);
        due("again(0, false)", y.again(0, false), NOT);
        due("fromTo(0, 0, false)", y.fromTo(0, 0, false), NOT);
        due("classes()", y.classes(), NOT);
        due("tells(0, 0)", y.tells(0, 0), LEAST);
        due("SPENT again", y.search(), SPENT);
        y.end(0, 5);
        due("count(6) when it has ended", y.count(6), 0);
        due("count(7) when it has ended", y.count(7), 0);
        // 375 STATES with 16 MOVES each are 6000; one MOVE more is too much.
        ProtocolBench z = counters(5, 5, 5, 3);
        for (int i = 0; i < 12; i++) {
            z.step(0, 0, 0, NONE);
        }
        due("6000 MOVES", z.search(), 375);
        int all = 0;
        for (int s = 0; s < 375; s++) {
            all += z.moves(s);
        }
        due("MOVES in all", all, 6000);
        int[] last = new int[4];
        for (int v = 0; v < 4; v++) {
            last[v] = z.tells(374, 2 + 5 * v);
        }
        int guard = NONE;
        for (int v = 0; v < 4; v++) {
            int same = z.expr(10, 2 + 5 * v, number(z, last[v]), 0);
            guard = guard == NONE ? same : z.expr(12, guard, same, 0);
        }
        z.role(1);
        z.step(1, 0, 0, guard);
        due("6001 MOVES", z.search(), SPENT);
        due("count(6)", z.count(6), 375);
        due("count(7)", z.count(7), 1);
    }

    private static void tells() {
        promise = 12;
        ProtocolBench x = ring(3);
        int at2 = x.expr(4, 0, 2, 0), me = x.expr(3, 0, 0, 0);
        due("without a SEARCH", x.tells(0, at2), LEAST);
        x.search();
        due("tells(0, at2)", x.tells(0, at2), 0);
        due("tells(2, at2)", x.tells(2, at2), 1);
        due("tells(3, at2)", x.tells(3, at2), LEAST);
        due("tells(-1, at2)", x.tells(-1, at2), LEAST);
        due("tells(0, 2)", x.tells(0, 2), LEAST);
        due("tells(0, -1)", x.tells(0, -1), LEAST);
        due("tells(0, me)", x.tells(0, me), LEAST);
        due("tells(greatest, greatest)", x.tells(GREATEST, GREATEST), LEAST);
    }

    private static void places() {
        promise = 13;
        ProtocolBench x = ring(3);
        due("without a SEARCH NOT is ahead", x.place(9, 9, 9), NOT);
        x.search();
        due("place(2, 0, 0)", x.place(2, 0, 0), 2);
        due("place(3, 0, 0)", x.place(3, 0, 0), UNKNOWN);
        due("place(-1, 0, 0)", x.place(-1, 0, 0), UNKNOWN);
        due("place(0, 1, 0)", x.place(0, 1, 0), UNKNOWN);
        due("place(0, -1, 0)", x.place(0, -1, 0), UNKNOWN);
        due("place(0, 0, 1)", x.place(0, 0, 1), UNKNOWN);
        due("place(0, 0, -1)", x.place(0, 0, -1), UNKNOWN);
    }

    private static void ownedValues() {
        promise = 14;
        ProtocolBench x = new ProtocolBench();
        x.role(2);
        x.own(0, 0, 9, 6);
        x.own(0, 0, 9, 7);
        due("without a SEARCH NOT is ahead", x.owned(0, 5, 0, 0), NOT);
        int me = x.expr(3, 0, 0, 0);
        x.act(x.step(0, 0, 1, NONE), 1, 1, me);
        x.search();
        due("owned(0, 0, 1, 0)", x.owned(0, 0, 1, 0), 6);
        due("owned(0, 0, 1, 1)", x.owned(0, 0, 1, 1), 7);
        due("owned(1, 0, 0, 1)", x.owned(1, 0, 0, 1), 0);
        due("owned(1, 0, 1, 1)", x.owned(1, 0, 1, 1), 7);
        due("owned(2, 0, 1, 1)", x.owned(2, 0, 1, 1), 1);
        due("STATE", x.owned(4, 0, 0, 0), UNKNOWN);
        due("ROLE", x.owned(0, 1, 0, 0), UNKNOWN);
        due("MEMBER", x.owned(0, 0, 2, 0), UNKNOWN);
        due("VARIABLE", x.owned(0, 0, 0, 2), UNKNOWN);
        due("VARIABLE -1", x.owned(0, 0, 0, -1), UNKNOWN);
    }

    private static void letters() {
        promise = 15;
        ProtocolBench x = new ProtocolBench();
        x.role(1);
        x.channel(3, false, false);
        x.act(x.step(0, 0, 1, NONE), 2, 0, number(x, 0));
        x.act(x.step(0, 1, 2, NONE), 2, 0, number(x, 9));
        due("without a SEARCH NOT is ahead", x.letter(0, 7, 0), NOT);
        x.search();
        due("letter(0, 0, 0)", x.letter(0, 0, 0), NONE);
        due("letter(1, 0, 0)", x.letter(1, 0, 0), 0);
        due("letter(1, 0, 1)", x.letter(1, 0, 1), NONE);
        due("letter(2, 0, 0)", x.letter(2, 0, 0), 0);
        due("letter(2, 0, 1)", x.letter(2, 0, 1), 9);
        due("letter(2, 0, 2)", x.letter(2, 0, 2), NONE);
        due("letter(2, 0, -1)", x.letter(2, 0, -1), NONE);
        due("letter(2, 0, greatest)", x.letter(2, 0, GREATEST), NONE);
        due("letter(2, 1, 0)", x.letter(2, 1, 0), UNKNOWN);
        due("letter(2, -1, 0)", x.letter(2, -1, 0), UNKNOWN);
        due("letter(3, 0, 0)", x.letter(3, 0, 0), UNKNOWN);
    }

    private static void moves() {
        promise = 16;
        ProtocolBench x = ring(2);
        due("without a SEARCH NOT is ahead", x.moves(-1), NOT);
        x.step(0, 1, 2, NONE);
        x.search();
        due("moves(0)", x.moves(0), 1);
        due("moves(1)", x.moves(1), 2);
        due("moves(2)", x.moves(2), 0);
        due("moves(3)", x.moves(3), UNKNOWN);
        due("moves(-1)", x.moves(-1), UNKNOWN);
        due("moves(400)", x.moves(400), UNKNOWN);
        x.shared(0, 1, 0);
        x.act(2, 0, 0, number(x, 2));
        x.search();
        due("FAULTS are none", x.moves(1), 1);
    }

    private static void move() {
        promise = 17;
        ProtocolBench x = ring(2);
        due("without a SEARCH NOT is ahead", x.move(-1, -1, 9), NOT);
        x.search();
        due("move(1, 0, 0)", x.move(1, 0, 0), 0);
        due("move(1, 0, 1)", x.move(1, 0, 1), 0);
        due("move(1, 0, 2)", x.move(1, 0, 2), 0);
        due("move(1, 0, 3)", x.move(1, 0, 3), 1);
        due("move(1, 0, 4)", x.move(1, 0, 4), OUTSIDE);
        due("move(1, 0, -1)", x.move(1, 0, -1), OUTSIDE);
        due("move(1, 1, 4)", x.move(1, 1, 4), UNKNOWN);
        due("move(1, -1, 0)", x.move(1, -1, 0), UNKNOWN);
        due("move(0, 1, 0), which would be the next STATE's", x.move(0, 1, 0), UNKNOWN);
        due("move(2, 0, 0)", x.move(2, 0, 0), UNKNOWN);
        due("move(-1, 0, 4)", x.move(-1, 0, 4), UNKNOWN);
        // The highest ROLE, MEMBER and STEP.
        ProtocolBench y = new ProtocolBench();
        y.role(3);
        y.role(3);
        y.role(3);
        int me = y.expr(3, 0, 0, 0), isTwo = y.expr(10, me, number(y, 2), 0);
        for (int s = 0; s < 23; s++) {
            y.step(0, 9, 9, NONE);
        }
        y.step(2, 0, 1, isTwo);
        due("search()", y.search(), 2);
        due("ROLE", y.move(0, 0, 1), 2);
        due("MEMBER", y.move(0, 0, 2), 2);
        due("STEP", y.move(0, 0, 3), 23);
        due("its PLACE", y.place(1, 2, 2), 1);
    }

    private static void depth() {
        promise = 18;
        ProtocolBench x = ring(5);
        due("without a SEARCH NOT is ahead", x.depth(99), NOT);
        x.step(0, 0, 4, NONE);
        x.search();
        due("depth(0)", x.depth(0), 0);
        due("depth(1)", x.depth(1), 1);
        due("place(2)", x.place(2, 0, 0), 4);
        due("depth(2), the shorter one", x.depth(2), 1);
        due("depth(4)", x.depth(4), 3);
        due("depth(5)", x.depth(5), UNKNOWN);
        due("depth(-1)", x.depth(-1), UNKNOWN);
    }

    private static void came() {
        promise = 19;
        ProtocolBench x = ring(3);
        x.step(0, 1, 5, NONE);
        due("without a SEARCH NOT is ahead", x.came(99, 7), NOT);
        x.search();
        due("came(0, 0)", x.came(0, 0), NONE);
        due("came(0, 1)", x.came(0, 1), NONE);
        due("came(1, 0)", x.came(1, 0), 0);
        due("came(1, 1)", x.came(1, 1), 0);
        due("came(3, 0)", x.came(3, 0), 1);
        due("came(3, 1)", x.came(3, 1), 1);
        due("came(3, 2)", x.came(3, 2), OUTSIDE);
        due("came(0, -1)", x.came(0, -1), OUTSIDE);
        due("came(4, 2)", x.came(4, 2), UNKNOWN);
        due("came(-1, 0)", x.came(-1, 0), UNKNOWN);
    }

    private static void stuck() {
        promise = 20;
        ProtocolBench x = new ProtocolBench();
        due("without a SEARCH", x.stuck(), NOT);
        x.role(2);
        x.step(0, 0, 1, NONE);
        x.search();
        due("stuck()", x.stuck(), 3);
        x.step(0, 1, 1, NONE);
        x.search();
        due("a MOVE to itself is one", x.stuck(), NONE);
        // What is lost is no MOVE by a MEMBER.
        ProtocolBench y = new ProtocolBench();
        y.role(1);
        y.channel(1, false, true);
        y.act(y.step(0, 0, 1, NONE), 2, 0, number(y, 1));
        due("search()", y.search(), 3);
        due("moves(1)", y.moves(1), 1);
        due("stuck() where something can be lost", y.stuck(), 1);
        // A FAULT is no MOVE.
        ProtocolBench z = new ProtocolBench();
        z.role(1);
        z.shared(0, 1, 0);
        z.act(z.step(0, 0, 1, NONE), 0, 0, number(z, 2));
        z.search();
        due("stuck() where a FAULT is", z.stuck(), 0);
        z.end(0, 0);
        z.search();
        due("at an END", z.stuck(), NONE);
        // One at an END, another one not.
        ProtocolBench w = new ProtocolBench();
        w.role(1);
        w.role(1);
        w.end(0, 0);
        w.search();
        due("one at no END", w.stuck(), 0);
    }

    private static void faults() {
        promise = 21;
        ProtocolBench x = new ProtocolBench();
        due("OUTSIDE is ahead of NOT", x.fault(4), OUTSIDE);
        due("OUTSIDE is ahead of NOT", x.fault(-1), OUTSIDE);
        due("without a SEARCH", x.fault(0), NOT);
        x.role(1);
        x.role(2);
        x.shared(2, 7, 5);
        x.own(1, 2, 7, 5);
        x.own(0, 2, 7, 5);
        x.channel(2, true, false);
        x.search();
        for (int what = 0; what < 4; what++) {
            due("none yet", x.fault(what), NONE);
        }
        int[] good = {number(x, 2), number(x, 7)};
        int[] bad = {number(x, 1), number(x, 8)};
        for (int i = 0; i < 2; i++) {
            x.act(x.step(1, 0, 1, NONE), 0, 0, good[i]);
            x.act(x.step(1, 0, 1, NONE), 1, 0, good[i]);
        }
        x.search();
        due("LOW and HIGH are none", x.fault(0), NONE);
        int me = x.expr(3, 0, 0, 0), one = number(x, 1);
        int guard = x.expr(10, me, one, 0);
        int s = x.step(1, 1, 2, guard);
        x.act(s, 1, 0, bad[0]);
        x.act(s, 1, 0, good[0]);
        x.search();
        due("the STATE", x.fault(0), 5);
        due("the ROLE", x.fault(1), 1);
        due("the MEMBER", x.fault(2), 1);
        due("the STEP, though a later ACT mends it", x.fault(3), s);
        due("fault(4)", x.fault(4), OUTSIDE);
        x.role(1);
        due("when the SEARCH has ended", x.fault(0), NOT);
        for (int value : new int[] {-1, 0, 9, 10, LEAST, GREATEST}) {
            ProtocolBench y = new ProtocolBench();
            y.role(1);
            y.channel(1, false, false);
            y.act(y.step(0, 0, 1, NONE), 2, 0, number(y, value));
            boolean fine = value >= 0 && value <= 9;
            due("SEND " + value, y.search(), fine ? 2 : 1);
            due("SEND " + value, y.fault(0), fine ? NONE : 0);
        }
        for (int value : new int[] {1, 8, -1, 10, LEAST, GREATEST}) {
            ProtocolBench y = new ProtocolBench();
            y.role(1);
            y.shared(2, 7, 5);
            y.act(y.step(0, 0, 1, NONE), 0, 0, number(y, value));
            due("SHARED " + value, y.search(), 1);
            due("SHARED " + value, y.fault(3), 0);
        }
        // RECEIVE: a FAULT on one WAY alone.
        ProtocolBench z = new ProtocolBench();
        z.role(1);
        z.own(0, 0, 3, 0);
        z.channel(2, true, false);
        z.act(z.step(0, 0, 1, NONE), 2, 0, number(z, 9));
        z.act(z.step(0, 1, 2, NONE), 2, 0, number(z, 3));
        z.act(z.step(0, 2, 3, NONE), 3, 0, 0);
        due("search()", z.search(), 4);
        due("fault(0)", z.fault(0), 2);
        due("moves(2)", z.moves(2), 1);
        due("RECEIVED", z.owned(3, 0, 0, 0), 3);
        due("left", z.letter(3, 0, 0), 9);
    }

    private static void always() {
        promise = 22;
        ProtocolBench x = ring(4);
        int at2 = x.expr(4, 0, 2, 0), not2 = x.expr(14, at2, 0, 0), me = x.expr(3, 0, 0, 0), yes = number(x, -5);
        due("UNKNOWN is ahead of NOT", x.always(9), UNKNOWN);
        due("OWNED is ahead of NOT", x.always(me), OWNED);
        due("without a SEARCH", x.always(not2), NOT);
        x.search();
        due("always(not2)", x.always(not2), 2);
        due("always(at2)", x.always(at2), 0);
        due("always(yes)", x.always(yes), NONE);
        due("always(-1)", x.always(-1), UNKNOWN);
        due("always(4)", x.always(4), UNKNOWN);
        due("always(me)", x.always(me), OWNED);
    }

    private static void again() {
        promise = 23;
        // PLACES 0 -> 1 -> 2 -> 1, and 2 -> 3 that leads nowhere.
        ProtocolBench x = new ProtocolBench();
        x.role(1);
        x.step(0, 0, 1, NONE);
        x.step(0, 1, 2, NONE);
        x.step(0, 2, 1, NONE);
        x.step(0, 2, 3, NONE);
        int at0 = x.expr(4, 0, 0, 0), at1 = x.expr(4, 0, 1, 0), at3 = x.expr(4, 0, 3, 0), me = x.expr(3, 0, 0, 0);
        due("UNKNOWN is ahead of NOT", x.again(9, false), UNKNOWN);
        due("OWNED is ahead of NOT", x.again(me, true), OWNED);
        due("without a SEARCH", x.again(at0, false), NOT);
        x.search();
        due("again(at0)", x.again(at0, false), 1);
        due("again(at1)", x.again(at1, false), NONE);
        due("again(at3)", x.again(at3, false), 1);
        due("again(at0, fair)", x.again(at0, true), 1);
        due("again(me)", x.again(me, false), OWNED);
        due("again(-1)", x.again(-1, false), UNKNOWN);
        // A long ring is one KNOT: its least STATE breaks it, and it is come to from each other one.
        ProtocolBench r = ring(7);
        int last = r.expr(4, 0, 6, 0), never0 = number(r, 0), first = r.expr(4, 0, 0, 0);
        r.search();
        due("a ring of seven", r.again(never0, false), 0);
        due("a ring of seven, fair", r.again(never0, true), 0);
        due("cut at its end", r.again(last, false), NONE);
        due("cut at its start", r.again(first, false), NONE);
        due("from its end", r.fromTo(last, never0, true), 6);
        // A KNOT that is first come to by another STATE than its least one: 0 -> 1 -> 3 <-> 2 <- 0.
        ProtocolBench k = new ProtocolBench();
        k.role(1);
        int[][] ways = {{0, 1}, {0, 2}, {1, 3}, {3, 2}, {2, 3}};
        for (int[] way : ways) {
            k.step(0, way[0], way[1], NONE);
        }
        int nothing = number(k, 0), at2 = k.expr(4, 0, 2, 0), is1 = k.expr(4, 0, 1, 0);
        k.search();
        due("place(3)", k.place(3, 0, 0), 3);
        due("its least STATE", k.again(nothing, false), 2);
        due("it is cut", k.again(at2, false), NONE);
        due("from 1", k.fromTo(is1, nothing, true), 1);
        // A ring of its own for one MEMBER while the other one could move all the time.
        ProtocolBench y = new ProtocolBench();
        y.role(1);
        y.role(1);
        y.step(0, 0, 0, NONE);
        y.step(1, 0, 1, NONE);
        int gone = y.expr(4, 1, 1, 0);
        y.search();
        due("not fair: the other one never goes", y.again(gone, false), 0);
        due("fair: it goes", y.again(gone, true), NONE);
        due("behind it the ring is fair, for the other one has no MOVE", y.again(y.count(3) - 1, true), NONE);
        int stays = y.expr(14, gone, 0, 0);
        y.search();
        due("the other one has no MOVE at all", y.again(stays, true), 1);
        // Two MEMBERS of one ROLE, each with its turn within the KNOT.
        ProtocolBench z = new ProtocolBench();
        z.role(2);
        z.step(0, 0, 1, NONE);
        z.step(0, 1, 0, NONE);
        int never = number(z, 0), both = z.expr(4, 0, 1, 0), two = number(z, 2), all = z.expr(10, both, two, 0);
        z.search();
        due("again(never, fair)", z.again(never, true), 0);
        due("again(all)", z.again(all, false), 0);
        due("again(all, fair)", z.again(all, true), 0);
        z.alike(true);
        z.search();
        due("fair, ALIKE on", z.again(never, true), NOT);
        due("ALIKE on", z.again(never, false), 0);
        due("UNKNOWN is ahead", z.again(77, true), UNKNOWN);
    }

    private static void againByLoss() {
        promise = 23;
        // A ring only with what is lost: send, lose, send, lose: it has MOVES of a MEMBER.
        ProtocolBench x = new ProtocolBench();
        x.role(1);
        x.channel(1, false, true);
        x.act(x.step(0, 0, 0, NONE), 2, 0, number(x, 1));
        int never = number(x, 0);
        due("search()", x.search(), 2);
        due("a KNOT with what is lost", x.again(never, false), 0);
        due("it is fair", x.again(never, true), 0);
        // Losing alone never makes one.
        ProtocolBench y = new ProtocolBench();
        y.role(1);
        y.channel(1, false, true);
        y.act(y.step(0, 0, 1, NONE), 2, 0, number(y, 1));
        int none = number(y, 0);
        due("search()", y.search(), 3);
        due("no KNOT", y.again(none, false), NONE);
        due("no KNOT", y.fromTo(0, none, false), NONE);
    }

    private static void fromTo() {
        promise = 24;
        // 0 -> 1 -> 2 -> 2, 0 -> 3 -> 4 (the end): from 1 never to 4, from 3 always.
        ProtocolBench x = new ProtocolBench();
        x.role(1);
        x.step(0, 0, 1, NONE);
        x.step(0, 0, 3, NONE);
        x.step(0, 1, 2, NONE);
        x.step(0, 2, 2, NONE);
        x.step(0, 3, 4, NONE);
        int[] at = new int[5];
        for (int i = 0; i < 5; i++) {
            at[i] = x.expr(4, 0, i, 0);
        }
        int me = x.expr(3, 0, 0, 0), yes = number(x, 1), no = number(x, 0);
        due("UNKNOWN p", x.fromTo(9, at[0], false), UNKNOWN);
        due("UNKNOWN q is ahead of OWNED p", x.fromTo(me, 9, false), UNKNOWN);
        due("OWNED p", x.fromTo(me, at[0], false), OWNED);
        due("OWNED q", x.fromTo(at[0], me, true), OWNED);
        due("without a SEARCH", x.fromTo(at[0], at[1], false), NOT);
        x.search();
        due("place(2)", x.place(2, 0, 0), 3);
        due("from 0 to 4", x.fromTo(at[0], at[4], false), 0);
        due("from 1 to 4", x.fromTo(at[1], at[4], false), 1);
        due("from 3 to 4", x.fromTo(at[3], at[4], false), NONE);
        due("from 2 to 2", x.fromTo(at[2], at[2], false), NONE);
        due("from 1 to 2", x.fromTo(at[1], at[2], false), NONE);
        due("from 0 to 1, past which it cannot go", x.fromTo(at[0], at[1], false), NONE);
        due("from 2 to 1, a KNOT itself", x.fromTo(at[2], at[1], false), 3);
        due("from no to no", x.fromTo(no, no, false), NONE);
        due("from yes to yes", x.fromTo(yes, yes, false), NONE);
        due("from yes to no", x.fromTo(yes, no, false), 0);
        due("fair too", x.fromTo(yes, no, true), 0);
        // As with AGAIN: a fair turn for the other MEMBER.
        ProtocolBench y = new ProtocolBench();
        y.role(1);
        y.role(1);
        y.step(0, 0, 1, NONE);
        y.step(0, 1, 0, NONE);
        y.step(1, 0, 1, NONE);
        int p = y.expr(4, 0, 1, 0), q = y.expr(4, 1, 1, 0);
        y.search();
        due("not fair", y.fromTo(p, q, false), 1);
        due("fair", y.fromTo(p, q, true), NONE);
        y.alike(true);
        y.search();
        due("fair, ALIKE on", y.fromTo(p, q, true), NOT);
        due("ALIKE on", y.fromTo(p, q, false), 1);
        // What is lost leads on to a KNOT.
        ProtocolBench z = new ProtocolBench();
        z.role(1);
        z.channel(1, false, true);
        int one = number(z, 1), held = z.expr(5, 0, 0, 0), empty = z.expr(14, held, 0, 0), none = number(z, 0);
        z.act(z.step(0, 0, 1, NONE), 2, 0, one);
        z.step(0, 1, 2, empty);
        z.step(0, 2, 2, NONE);
        z.search();
        due("by what is lost", z.fromTo(held, none, false), 1);
    }

    private static void observe() {
        promise = 25;
        ProtocolBench x = ring(2);
        int me = x.expr(3, 0, 0, 0);
        for (int i = 0; i < 9; i++) {
            number(x, i);
        }
        x.search();
        keepsSearch(x, "observe(-1)", x.observe(-1), UNKNOWN);
        keepsSearch(x, "observe(10)", x.observe(10), UNKNOWN);
        keepsSearch(x, "observe(me)", x.observe(me), OWNED);
        for (int i = 1; i <= 8; i++) {
            keepsSearch(x, "observe(" + i + ") ends no SEARCH", x.observe(i), i);
            keepsSearch(x, "observe(" + i + ") again", x.observe(i), OUTSIDE);
        }
        keepsSearch(x, "a ninth", x.observe(9), FULL);
        keepsSearch(x, "the first again", x.observe(1), OUTSIDE);
        keepsSearch(x, "a ninth, OWNED", x.observe(me), OWNED);
        due("count(5)", x.count(5), 8);
        due("classes() by eight", x.classes(), 1);
        x.alike(true);
        due("count(5) stays", x.count(5), 8);
    }

    private static void classes() {
        promise = 26;
        ProtocolBench x = ring(6);
        int at0 = x.expr(4, 0, 0, 0), at3 = x.expr(4, 0, 3, 0);
        due("without a SEARCH", x.classes(), NOT);
        x.search();
        due("none OBSERVED", x.classes(), 1);
        int either = x.expr(13, at0, at3, 0);
        x.search();
        x.observe(either);
        due("six in threes", x.classes(), 3);
        x.observe(at0);
        due("all six", x.classes(), 6);
        // By MOVES alone: how long to the end; what is lost is a MOVE, too.
        ProtocolBench y = new ProtocolBench();
        y.role(1);
        y.step(0, 0, 1, NONE);
        y.step(0, 1, 2, NONE);
        y.step(0, 0, 3, NONE);
        y.step(0, 3, 4, NONE);
        y.search();
        due("by how long", y.classes(), 3);
        ProtocolBench z = new ProtocolBench();
        z.role(1);
        z.channel(1, false, true);
        z.act(z.step(0, 0, 1, NONE), 2, 0, number(z, 1));
        z.search();
        due("what is lost", z.classes(), 3);
        // The longest way of splitting: a line of 400 would take as many rounds.
        ProtocolBench w = new ProtocolBench();
        w.role(1);
        w.shared(0, 9, 0);
        w.shared(0, 9, 0);
        w.shared(0, 3, 0);
        int[] v = {w.expr(1, 0, 0, 0), w.expr(1, 1, 0, 0), w.expr(1, 2, 0, 0)};
        int one = number(w, 1), zero = number(w, 0), nine = number(w, 9);
        int[] more = {w.expr(7, v[0], one, 0), w.expr(7, v[1], one, 0), w.expr(7, v[2], one, 0)};
        int full0 = w.expr(10, v[0], nine, 0), full1 = w.expr(10, v[1], nine, 0), full = w.expr(12, full0, full1, 0);
        int below0 = w.expr(14, full0, 0, 0), below1 = w.expr(14, full1, 0, 0), carry = w.expr(12, full0, below1, 0);
        w.act(w.step(0, 0, 0, below0), 0, 0, more[0]);
        int s = w.step(0, 0, 0, carry);
        w.act(s, 0, 0, zero);
        w.act(s, 0, 1, more[1]);
        int t = w.step(0, 0, 0, full);
        w.act(t, 0, 0, zero);
        w.act(t, 0, 1, zero);
        w.act(t, 0, 2, more[2]);
        due("a line of 400", w.search(), 400);
        due("its CLASSES", w.classes(), 400);
        due("the last one", w.classOf(399), 399);
        due("its FAULT", w.fault(0), 399);
        due("depth(399)", w.depth(399), 399);
        due("no KNOT", w.again(zero, false), NONE);
    }

    private static void classOf() {
        promise = 27;
        ProtocolBench x = ring(6);
        int at0 = x.expr(4, 0, 0, 0), at3 = x.expr(4, 0, 3, 0), either = x.expr(13, at0, at3, 0);
        x.observe(either);
        due("without a SEARCH NOT is ahead", x.classOf(-1), NOT);
        x.search();
        int[] want = {0, 1, 2, 0, 1, 2};
        for (int s = 0; s < 6; s++) {
            due("classOf(" + s + ")", x.classOf(s), want[s]);
        }
        due("classOf(6)", x.classOf(6), UNKNOWN);
        due("classOf(-1)", x.classOf(-1), UNKNOWN);
        x.observe(at3);
        for (int s = 0; s < 6; s++) {
            due("classOf(" + s + ") by more", x.classOf(s), s);
        }
        // As many MOVES do not matter, only to which CLASSES they lead.
        ProtocolBench y = new ProtocolBench();
        y.role(1);
        y.step(0, 0, 1, NONE);
        y.step(0, 0, 2, NONE);
        y.step(0, 1, 3, NONE);
        y.step(0, 1, 3, NONE);
        y.step(0, 1, 4, NONE);
        y.step(0, 2, 4, NONE);
        y.search();
        due("classOf(1)", y.classOf(1), 1);
        due("classOf(2)", y.classOf(2), 1);
        due("classOf(3)", y.classOf(3), 2);
        due("classOf(4)", y.classOf(4), 2);
        y.step(0, 4, 4, NONE);
        due("NOT when told more", y.classOf(0), NOT);
        y.search();
        due("classes() anew", y.classes(), 4);
        due("one that leads to a ring is as the ring", y.classOf(4), y.classOf(2));
    }

    private static void count() {
        promise = 28;
        ProtocolBench x = new ProtocolBench();
        due("count(-1)", x.count(-1), OUTSIDE);
        due("count(8)", x.count(8), OUTSIDE);
        due("count(least)", x.count(LEAST), OUTSIDE);
        x.shared(0, 1, 0);
        x.shared(0, 1, 0);
        x.shared(0, 1, 0);
        x.role(1);
        x.role(1);
        x.channel(1, false, false);
        for (int i = 0; i < 5; i++) {
            number(x, i);
        }
        for (int i = 0; i < 4; i++) {
            x.step(0, i, i + 1, NONE);
        }
        x.observe(0);
        x.observe(3);
        int[] want = {3, 2, 1, 5, 4, 2, 0, 0};
        for (int what = 0; what < 8; what++) {
            due("count(" + what + ")", x.count(what), want[what]);
        }
        x.search();
        due("count(6)", x.count(6), 5);
        due("count(7)", x.count(7), 0);
        x.alike(false);
        due("count(6) when it has ended", x.count(6), 0);
    }

    public static void main(String[] args) {
        newObject();
        sharedVariables();
        roles();
        ownVariables();
        ends();
        channels();
        exprRefusals();
        exprValues();
        steps();
        actRefusals();
        actsAreDone();
        fourActs();
        fullSize();
        order();
        waysOfLoose();
        alike();
        searchRefusals();
        searchOrder();
        searchLimits();
        tells();
        places();
        ownedValues();
        letters();
        moves();
        move();
        depth();
        came();
        stuck();
        faults();
        always();
        again();
        againByLoss();
        fromTo();
        observe();
        classes();
        classOf();
        count();
        check.finish();
    }
}
