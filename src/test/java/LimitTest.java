import java.util.function.IntUnaryOperator;

/** The greatest numbers of each kind of thing: each at the number itself and at one beyond it. */
public final class LimitTest {
    private static final int NONE = -1, UNKNOWN = -2, OUTSIDE = -3, NOT = -5, FULL = -6, SPENT = -7;
    private static final int LEAST = Integer.MIN_VALUE, GREATEST = Integer.MAX_VALUE;
    private static final int[] AROUND = {LEAST, -10, -2, -1, 0, 1, 2, 3, 4, 5, 6, 7, 8, 9, 10, 11, 12, 13, 14, 15, 16,
        31, 32, 33, 64, 79, 80, 256, 400, 6000, 65536, GREATEST};
    private static final Check check = new Check("LimitTest");

    private LimitTest() {
    }

    private static void due(String call, int got, int want) {
        check.due(call, got, want);
    }

    /** The numbers from low to high are taken (answered by 0 or more), all others answer otherwise. */
    private static void range(String call, int low, int high, int beyond, IntUnaryOperator ask) {
        for (int n : AROUND) {
            int got = ask.applyAsInt(n);
            if (n >= low && n <= high) {
                check.holds(call + " of " + n + " answered " + got + ", it is within", got >= 0);
            } else {
                due(call + " of " + n, got, beyond);
            }
        }
    }

    /** For calls that may well answer NONE within their range. */
    private static int noneIsFine(int answer) {
        return answer == NONE ? 0 : answer;
    }

    /** ROLE 0 of two MEMBERS with one OWN VARIABLE, a SHARED one, a CHANNEL, an EXPR, a STEP. */
    private static ProtocolBench told() {
        ProtocolBench x = new ProtocolBench();
        x.role(2);
        x.own(0, 0, 9, 4);
        x.shared(0, 9, 5);
        x.channel(3, false, false);
        Tell.number(x, 1);
        x.step(0, 0, 1, NONE);
        return x;
    }

    private static ProtocolBench searched() {
        ProtocolBench x = told();
        x.search();
        return x;
    }

    private static void lowAndHigh() {
        for (int low = -1; low <= 10; low++) {
            for (int high = -1; high <= 10; high++) {
                ProtocolBench x = new ProtocolBench();
                x.role(1);
                for (int first = -1; first <= 10; first++) {
                    boolean fits = low >= 0 && high <= 9 && low <= first && first <= high;
                    String of = "(" + low + ", " + high + ", " + first + ")";
                    if (fits) {
                        x = new ProtocolBench();
                        x.role(1);
                    }
                    due("shared" + of, x.shared(low, high, first), fits ? 0 : OUTSIDE);
                    due("own" + of, x.own(0, low, high, first), fits ? 0 : OUTSIDE);
                    if (fits) {
                        x.expr(1, 0, 0, 0);
                        x.search();
                        due("first value of shared" + of, x.tells(0, 0), first);
                        due("first value of own" + of, x.owned(0, 0, 0, 0), first);
                    }
                }
            }
        }
        ProtocolBench x = told();
        int[][] far = {{LEAST, 9, 0}, {0, GREATEST, 0}, {0, 9, LEAST}, {0, 9, GREATEST}, {LEAST, GREATEST, 5},
            {GREATEST, LEAST, 5}, {-1, -1, -1}, {10, 10, 10}, {16, 16, 16}};
        for (int[] f : far) {
            due("shared, far", x.shared(f[0], f[1], f[2]), OUTSIDE);
            due("own, far", x.own(0, f[0], f[1], f[2]), OUTSIDE);
        }
    }

    /** Values go as far as LOW and HIGH, and no further: one beyond is a FAULT. */
    private static void valuesWithin() {
        for (int low = 0; low <= 9; low += 3) {
            for (int high = low; high <= 9; high += 3) {
                for (int value = -1; value <= 10; value++) {
                    boolean fits = value >= low && value <= high;
                    ProtocolBench x = new ProtocolBench();
                    x.role(1);
                    x.shared(low, high, low);
                    x.act(x.step(0, 0, 1, NONE), 0, 0, Tell.number(x, value));
                    String of = value + " within " + low + " .. " + high;
                    due("SHARED becomes " + of, x.search(), fits ? 2 : 1);
                    due("fault by SHARED " + of, x.fault(0), fits ? NONE : 0);
                    ProtocolBench y = new ProtocolBench();
                    y.role(1);
                    y.own(0, low, high, low);
                    y.act(y.step(0, 0, 1, NONE), 1, 0, Tell.number(y, value));
                    due("OWN becomes " + of, y.search(), fits ? 2 : 1);
                    due("fault by OWN " + of, y.fault(0), fits ? NONE : 0);
                }
            }
        }
    }

    private static void sharedVariables() {
        ProtocolBench x = new ProtocolBench();
        for (int v = 0; v < 6; v++) {
            due("expr(1, " + v + ") one beyond", x.expr(1, v, 0, 0), UNKNOWN);
            due("shared " + v, x.shared(0, 9, v + 2), v);
            due("expr(1, " + v + ")", x.expr(1, v, 0, 0), v);
        }
        due("a seventh", x.shared(0, 9, 0), FULL);
        due("count(0)", x.count(0), 6);
        due("expr(1, 6)", x.expr(1, 6, 0, 0), UNKNOWN);
        x.role(1);
        x.step(0, 0, 1, NONE);
        due("act on SHARED 5", x.act(0, 0, 5, 0), 1);
        due("act on SHARED 6", x.act(0, 0, 6, 0), UNKNOWN);
        x.search();
        for (int v = 0; v < 6; v++) {
            due("it is there, " + v, x.tells(0, v), v + 2);
            due("behind the STEP, " + v, x.tells(1, v), v == 5 ? 2 : v + 2);
        }
    }

    private static void roles() {
        range("role", 1, 3, OUTSIDE, n -> new ProtocolBench().role(n));
        ProtocolBench x = new ProtocolBench();
        for (int r = 0; r < 3; r++) {
            due("step of ROLE " + r + " one beyond", x.step(r, 0, 0, NONE), UNKNOWN);
            due("end of ROLE " + r + " one beyond", x.end(r, 0), UNKNOWN);
            due("own of ROLE " + r + " one beyond", x.own(r, 0, 1, 0), UNKNOWN);
            due("expr(4) of ROLE " + r + " one beyond", x.expr(4, r, 0, 0), UNKNOWN);
            due("role " + r, x.role(3 - r), r);
        }
        due("a fourth", x.role(1), FULL);
        due("count(1)", x.count(1), 3);
        due("step of ROLE 3", x.step(3, 0, 0, NONE), UNKNOWN);
        for (int r = 0; r < 3; r++) {
            x.expr(4, r, 0, 0);
        }
        x.search();
        for (int r = 0; r < 3; r++) {
            due("its MEMBERS", x.tells(0, r), 3 - r);
            due("its last MEMBER", x.place(0, r, 2 - r), 0);
            due("one MEMBER beyond", x.place(0, r, 3 - r), UNKNOWN);
        }
        due("one ROLE beyond", x.place(0, 3, 0), UNKNOWN);
    }

    private static void ownVariables() {
        ProtocolBench x = new ProtocolBench();
        for (int r = 0; r < 3; r++) {
            x.role(3);
        }
        for (int v = 0; v < 3; v++) {
            for (int r = 0; r < 3; r++) {
                due("expr(6) one VARIABLE beyond", x.expr(6, r, 0, v), UNKNOWN);
                due("own " + v + " of ROLE " + r, x.own(r, 0, 9, 3 * r + v), v);
            }
        }
        for (int r = 0; r < 3; r++) {
            due("a fourth of ROLE " + r, x.own(r, 0, 9, 0), FULL);
            due("expr(6) of the third", x.expr(6, r, 2, 2), r);
            due("expr(6) of a fourth", x.expr(6, r, 2, 3), UNKNOWN);
            due("expr(6) of a fourth MEMBER", x.expr(6, r, 3, 2), UNKNOWN);
        }
        x.search();
        for (int r = 0; r < 3; r++) {
            for (int m = 0; m < 3; m++) {
                for (int v = 0; v < 3; v++) {
                    due("it is there", x.owned(0, r, m, v), 3 * r + v);
                }
                due("one beyond", x.owned(0, r, m, 3), UNKNOWN);
            }
        }
        // One ROLE's third leaves the others' numbers as they are.
        ProtocolBench y = new ProtocolBench();
        y.role(1);
        y.role(1);
        for (int v = 0; v < 3; v++) {
            y.own(1, 0, 9, 0);
        }
        due("a fourth of ROLE 1", y.own(1, 0, 9, 0), FULL);
        due("the first of ROLE 0", y.own(0, 0, 9, 0), 0);
    }

    private static void places() {
        range("end", 0, 9, OUTSIDE, n -> told().end(0, n));
        range("step from", 0, 9, OUTSIDE, n -> told().step(0, n, 0, NONE));
        range("step to", 0, 9, OUTSIDE, n -> told().step(0, 0, n, NONE));
        range("expr(4) at", 0, 9, OUTSIDE, n -> told().expr(4, 0, n, 0));
        ProtocolBench x = new ProtocolBench();
        x.role(1);
        for (int p = 0; p <= 9; p++) {
            x.step(0, p, (p + 1) % 10, NONE);
            x.expr(4, 0, p, 0);
        }
        due("all ten PLACES", x.search(), 10);
        for (int p = 0; p <= 9; p++) {
            due("PLACE " + p, x.place(p, 0, 0), p);
            for (int at = 0; at <= 9; at++) {
                due("at " + at + " in " + p, x.tells(p, at), at == p ? 1 : 0);
            }
        }
        due("the last leads to the first", x.move(9, 0, 0), 0);
    }

    private static void channels() {
        range("channel's room", 1, 3, OUTSIDE, n -> new ProtocolBench().channel(n, false, false));
        ProtocolBench x = new ProtocolBench();
        for (int c = 0; c < 3; c++) {
            due("expr(5) one beyond", x.expr(5, c, 0, 0), UNKNOWN);
            due("channel " + c, x.channel(c + 1, false, false), c);
        }
        due("a fourth", x.channel(1, false, false), FULL);
        due("count(2)", x.count(2), 3);
        due("expr(5, 2)", x.expr(5, 2, 0, 0), 0);
        due("expr(5, 3)", x.expr(5, 3, 0, 0), UNKNOWN);
        x.search();
        due("letter of CHANNEL 2", x.letter(0, 2, 0), NONE);
        due("letter of CHANNEL 3", x.letter(0, 3, 0), UNKNOWN);
        // So many LETTERS as the room, and not one more.
        for (int room = 1; room <= 3; room++) {
            ProtocolBench y = new ProtocolBench();
            y.role(1);
            y.channel(room, false, false);
            Tell.send(y, 0, 0, 0, 7);
            int held = y.expr(5, 0, 0, 0);
            due("room " + room, y.search(), room + 1);
            for (int s = 0; s <= room; s++) {
                due("held in " + s, y.tells(s, held), s);
                due("moves from " + s, y.moves(s), s < room ? 1 : 0);
                due("one LETTER beyond", y.letter(s, 0, s), NONE);
            }
            due("the last LETTER", y.letter(room, 0, room - 1), 7);
            due("a full CHANNEL is no FAULT", y.fault(0), NONE);
            due("it is stuck", y.stuck(), room);
        }
    }

    private static void letters() {
        for (int letter : AROUND) {
            boolean fits = letter >= 0 && letter <= 9;
            ProtocolBench x = new ProtocolBench();
            x.role(1);
            x.channel(1, false, false);
            Tell.send(x, 0, 1, 0, letter);
            due("SEND " + letter, x.search(), fits ? 2 : 1);
            due("fault by SEND " + letter, x.fault(0), fits ? NONE : 0);
            if (fits) {
                due("the LETTER", x.letter(1, 0, 0), letter);
            }
        }
    }

    private static void exprs() {
        ProtocolBench x = new ProtocolBench();
        for (int e = 0; e < 80; e++) {
            due("the eldest that are not there, " + e, x.expr(14, e, 0, 0), UNKNOWN);
            due("expr " + e, Tell.number(x, 100 + e), e);
        }
        due("the 81st", Tell.number(x, 1), FULL);
        due("the 81st, made of the last", x.expr(7, 79, 79, 0), FULL);
        due("the 81st, made of itself", x.expr(7, 79, 80, 0), UNKNOWN);
        due("count(3)", x.count(3), 80);
        due("search()", x.search(), 1);
        due("the 80th tells", x.tells(0, 79), 179);
        due("the 81st tells", x.tells(0, 80), LEAST);
        due("always(79)", x.always(79), NONE);
        due("always(80)", x.always(80), UNKNOWN);
        x.role(1);
        due("GUARD 79", x.step(0, 0, 1, 79), 0);
        due("GUARD 80", x.step(0, 0, 1, 80), UNKNOWN);
        range("expr's KIND", 0, 14, OUTSIDE, n -> told().expr(n, 0, 0, 0));
        range("expr(2) of", 0, 2, OUTSIDE, n -> told().expr(2, n, 0, 0));
    }

    private static void steps() {
        ProtocolBench x = told();
        for (int s = 1; s < 24; s++) {
            due("act of STEP " + s + " one beyond", x.act(s, 0, 0, 0), UNKNOWN);
            due("step " + s, x.step(0, 2, 3, NONE), s);
        }
        due("the 25th", x.step(0, 0, 1, NONE), FULL);
        due("count(4)", x.count(4), 24);
        due("act of STEP 23", x.act(23, 0, 0, 0), 1);
        due("act of STEP 24", x.act(24, 0, 0, 0), UNKNOWN);
        // The last one is done as the first one is.
        ProtocolBench y = new ProtocolBench();
        y.role(1);
        for (int s = 0; s < 24; s++) {
            y.step(0, 0, s % 10, NONE);
        }
        due("search()", y.search(), 10);
        due("moves(0)", y.moves(0), 24);
        due("the last STEP", y.move(0, 23, 3), 23);
        due("to its PLACE", y.place(y.move(0, 23, 0), 0, 0), 3);
        due("one beyond", y.move(0, 24, 3), UNKNOWN);
    }

    private static void acts() {
        range("act's KIND", 0, 3, OUTSIDE, n -> told().act(0, n, 0, 0));
        ProtocolBench x = new ProtocolBench();
        x.role(1);
        for (int v = 0; v < 6; v++) {
            x.shared(0, 9, 0);
            x.expr(1, v, 0, 0);
        }
        int nine = Tell.number(x, 9);
        for (int s = 0; s < 24; s++) {
            x.step(0, s == 23 ? 0 : 5, s == 23 ? 1 : 5, NONE);
        }
        for (int s = 0; s < 24; s++) {
            for (int i = 0; i < 4; i++) {
                due("act " + i + " of STEP " + s, x.act(s, 0, i, nine), i + 1);
            }
            due("a fifth of STEP " + s, x.act(s, 0, 4, nine), FULL);
        }
        due("search()", x.search(), 2);
        for (int v = 0; v < 6; v++) {
            due("by the last STEP's ACTS, " + v, x.tells(1, v), v < 4 ? 9 : 0);
        }
    }

    private static void observed() {
        ProtocolBench x = new ProtocolBench();
        for (int e = 0; e < 8; e++) {
            due("observe one beyond", x.observe(e), UNKNOWN);
            Tell.number(x, e);
            due("observe " + e, x.observe(e), e + 1);
        }
        Tell.number(x, 8);
        due("a ninth", x.observe(8), FULL);
        due("count(5)", x.count(5), 8);
        // The eighth one counts as the first one does.
        ProtocolBench y = new ProtocolBench();
        y.role(1);
        for (int p = 0; p < 9; p++) {
            y.step(0, p, p + 1, NONE);
        }
        y.step(0, 9, 0, NONE);
        for (int e = 0; e < 7; e++) {
            y.observe(Tell.number(y, e));
        }
        y.search();
        due("seven that tell nothing", y.classes(), 1);
        y.expr(4, 0, 3, 0);
        due("the eighth", y.observe(7), 8);
        y.search();
        due("the eighth tells all ten apart", y.classes(), 10);
    }

    private static void whats() {
        range("fault", 0, 3, OUTSIDE, n -> noneIsFine(searched().fault(n)));
        range("count", 0, 7, OUTSIDE, n -> searched().count(n));
        range("move", 0, 3, OUTSIDE, n -> searched().move(0, 0, n));
        range("came", 0, 1, OUTSIDE, n -> searched().came(1, n));
        range("move's number", 0, 1, UNKNOWN, n -> searched().move(0, n, 0));
        range("moves' STATE", 0, 3, UNKNOWN, n -> searched().moves(n));
        range("depth's STATE", 0, 3, UNKNOWN, n -> searched().depth(n));
        range("classOf's STATE", 0, 3, UNKNOWN, n -> searched().classOf(n));
        range("place's STATE", 0, 3, UNKNOWN, n -> searched().place(n, 0, 0));
        range("place's ROLE", 0, 0, UNKNOWN, n -> searched().place(0, n, 0));
        range("place's MEMBER", 0, 1, UNKNOWN, n -> searched().place(0, 0, n));
        range("owned's STATE", 0, 3, UNKNOWN, n -> searched().owned(n, 0, 0, 0));
        range("owned's ROLE", 0, 0, UNKNOWN, n -> searched().owned(0, n, 0, 0));
        range("owned's MEMBER", 0, 1, UNKNOWN, n -> searched().owned(0, 0, n, 0));
        range("owned's VARIABLE", 0, 0, UNKNOWN, n -> searched().owned(0, 0, 0, n));
        range("came's STATE", 1, 3, UNKNOWN, n -> n == 0 ? UNKNOWN : searched().came(n, 0));
        range("letter's STATE", 0, 3, UNKNOWN, n -> noneIsFine(searched().letter(n, 0, 0)));
        range("letter's CHANNEL", 0, 0, UNKNOWN, n -> noneIsFine(searched().letter(0, n, 0)));
        range("tells' STATE", 0, 3, LEAST, n -> searched().tells(n, 0));
        range("tells' EXPR", 0, 0, LEAST, n -> searched().tells(0, n));
        range("own's ROLE", 0, 0, UNKNOWN, n -> told().own(n, 0, 1, 0));
        range("end's ROLE", 0, 0, UNKNOWN, n -> told().end(n, 0));
        range("step's ROLE", 0, 0, UNKNOWN, n -> told().step(n, 0, 0, NONE));
        range("step's GUARD", -1, 0, UNKNOWN, n -> told().step(0, 0, 0, n));
        range("act's STEP", 0, 0, UNKNOWN, n -> told().act(n, 0, 0, 0));
        range("act's SHARED", 0, 0, UNKNOWN, n -> told().act(0, 0, n, 0));
        range("act's OWN", 0, 0, UNKNOWN, n -> told().act(0, 1, n, 0));
        range("act's CHANNEL to SEND", 0, 0, UNKNOWN, n -> told().act(0, 2, n, 0));
        range("act's CHANNEL to RECEIVE", 0, 0, UNKNOWN, n -> told().act(0, 3, n, 0));
        range("act's OWN to RECEIVE", 0, 0, UNKNOWN, n -> told().act(0, 3, 0, n));
        for (int kind = 0; kind < 3; kind++) {
            int k = kind;
            range("act's EXPR, KIND " + k, 0, 0, UNKNOWN, n -> told().act(0, k, 0, n));
        }
        range("expr(1)'s SHARED", 0, 0, UNKNOWN, n -> told().expr(1, n, 0, 0));
        range("expr(4)'s ROLE", 0, 0, UNKNOWN, n -> told().expr(4, n, 0, 0));
        range("expr(5)'s CHANNEL", 0, 0, UNKNOWN, n -> told().expr(5, n, 0, 0));
        range("expr(6)'s ROLE", 0, 0, UNKNOWN, n -> told().expr(6, n, 0, 0));
        range("expr(6)'s MEMBER", 0, 1, UNKNOWN, n -> told().expr(6, 0, n, 0));
        range("expr(6)'s VARIABLE", 0, 0, UNKNOWN, n -> told().expr(6, 0, 0, n));
        for (int kind = 7; kind <= 14; kind++) {
            int k = kind;
            range("the first EXPR of KIND " + k, 0, 0, UNKNOWN, n -> told().expr(k, n, 0, 0));
            range("the second EXPR of KIND " + k, k == 14 ? LEAST : 0, k == 14 ? GREATEST : 0, UNKNOWN, n -> told().expr(k, 0, n, 0));
        }
        range("always' EXPR", 0, 0, UNKNOWN, n -> noneIsFine(searched().always(n)));
        range("again's EXPR", 0, 0, UNKNOWN, n -> noneIsFine(searched().again(n, true)));
        range("fromTo's p", 0, 0, UNKNOWN, n -> noneIsFine(searched().fromTo(n, 0, true)));
        range("fromTo's q", 0, 0, UNKNOWN, n -> noneIsFine(searched().fromTo(0, n, true)));
        range("observe's EXPR", 0, 0, UNKNOWN, n -> searched().observe(n));
    }

    /** 400 STATES are found, at a 401st the SEARCH is SPENT at once. */
    private static void states() {
        for (int n : new int[] {1, 2, 10, 11, 100, 101, 399, 400}) {
            ProtocolBench x = new ProtocolBench();
            int last = Tell.line(x, n);
            due("a line of " + n, x.search(), n);
            due("count(6)", x.count(6), n);
            due("count(7)", x.count(7), 0);
            due("the last one is the last", x.tells(n - 1, last), 1);
            due("its depth", x.depth(n - 1), n - 1);
            due("one beyond", x.moves(n), UNKNOWN);
            due("all are of their own CLASS", x.classes(), n);
            due("the last one is stuck", x.stuck(), n - 1);
        }
        ProtocolBench x = new ProtocolBench();
        Tell.line(x, 401);
        due("a line of 401", x.search(), SPENT);
        due("count(6)", x.count(6), 400);
        due("count(7)", x.count(7), 1);
        // A MOVE to a STATE that is there is none too much, though 400 are.
        ProtocolBench y = new ProtocolBench();
        int last = Tell.line(y, 400);
        int back = y.step(0, 0, 0, last);
        int zero = Tell.number(y, 0);
        for (int v = 0; v < 3; v++) {
            y.act(back, 0, v, zero);
        }
        due("a ring of 400", y.search(), 400);
        due("the last MOVE leads to the first STATE", y.move(399, 0, 0), 0);
        due("it is one KNOT", y.again(zero, true), 0);
        due("and one CLASS", y.classes(), 1);
        y.step(0, 0, 1, last);
        due("a 401st by another STEP", y.search(), SPENT);
        // A FAULT finds nothing.
        ProtocolBench z = new ProtocolBench();
        int end = Tell.line(z, 400);
        z.act(z.step(0, 0, 1, end), 0, 0, Tell.number(z, 10));
        due("a FAULT is no 401st", z.search(), 400);
        due("its STATE", z.fault(0), 399);
        // A 401st by what is lost.
        ProtocolBench w = new ProtocolBench();
        w.channel(1, false, true);
        int there = Tell.line(w, 399);
        int s = w.step(0, 0, 1, there);
        w.act(s, 2, 0, Tell.number(w, 1));
        due("a 401st by what is lost", w.search(), SPENT);
        due("count(6)", w.count(6), 400);
    }

    /** 400 STATES with 15 MOVES each are 6000. */
    private static int wideLine(ProtocolBench x, int states) {
        int last = Tell.line(x, states);
        for (int i = 0; i < 14; i++) {
            x.step(0, 0, 0, NONE);
        }
        return last;
    }

    private static int movesOfAll(ProtocolBench x) {
        int all = 0, states = x.count(6);
        for (int s = 0; s < states; s++) {
            all += x.moves(s);
        }
        return all;
    }

    /** 6000 MOVES in all are fine, at a 6001st the SEARCH is SPENT at once. */
    private static void moves() {
        for (int more = 0; more <= 2; more++) {
            ProtocolBench x = new ProtocolBench();
            int last = wideLine(x, 400);
            x.role(1);
            for (int i = 0; i < more; i++) {
                x.step(1, 0, 0, last);
            }
            due((5999 + more) + " MOVES", x.search(), more <= 1 ? 400 : SPENT);
            due("count(6)", x.count(6), 400);
            due("count(7)", x.count(7), more <= 1 ? 0 : 1);
            due("the last MOVE is there", x.move(399, 14, 1), more == 0 ? UNKNOWN : more == 1 ? 1 : NOT);
            if (more <= 1) {
                due("in all", movesOfAll(x), 5999 + more);
            }
            // FAULTS are no MOVES.
            x.shared(0, 1, 0);
            x.act(x.step(0, 0, 0, NONE), 0, 3, Tell.number(x, 2));
            due("FAULTS are none", x.search(), more <= 1 ? 400 : SPENT);
        }
        // What is lost counts, too: the last STATE SENDS, and there the LETTER is lost.
        for (int more = 0; more <= 1; more++) {
            ProtocolBench x = new ProtocolBench();
            x.channel(1, false, true);
            int last = wideLine(x, 399), held = x.expr(5, 0, 0, 0);
            int s = x.step(0, 0, 0, last);
            x.act(s, 2, 0, Tell.number(x, 3));
            if (more == 1) {
                x.role(1);
                x.step(1, 0, 0, held);
            }
            due("the 600" + more + "th is what is lost", x.search(), more == 0 ? 400 : SPENT);
            due("it leads back", x.move(399, 14, 0), more == 0 ? 398 : NOT);
            due("count(7)", x.count(7), more);
        }
        // The 6001st would lead to a new STATE: it finds none.
        ProtocolBench y = new ProtocolBench();
        int last = wideLine(y, 399);
        y.role(3);
        y.role(1);
        for (int i = 0; i < 5; i++) {
            y.step(1, 0, 0, last);
        }
        y.step(2, 0, 0, last);
        due("6000 with 399 STATES", y.search(), 399);
        due("in all", movesOfAll(y), 6000);
        y.step(2, 0, 1, last);
        due("a 6001st to a new STATE", y.search(), SPENT);
        due("it was not found", y.count(6), 399);
    }

    public static void main(String[] args) {
        lowAndHigh();
        valuesWithin();
        sharedVariables();
        roles();
        ownVariables();
        places();
        channels();
        letters();
        exprs();
        steps();
        acts();
        observed();
        whats();
        states();
        moves();
        check.finish();
    }
}
