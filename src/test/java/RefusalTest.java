import java.util.function.Supplier;
import java.util.function.ToIntFunction;

/**
 * "Refused, and nothing changes": each refusal of each call, and which is answered where two reasons
 * hold at once. Behind each refused call all answers are those of an object that was never asked, both
 * in the SEARCH that is there and in a new one.
 */
public final class RefusalTest {
    private static final int NONE = -1, UNKNOWN = -2, OUTSIDE = -3, OWNED = -4, NOT = -5, FULL = -6, SPENT = -7;
    private static final int LEAST = Integer.MIN_VALUE, GREATEST = Integer.MAX_VALUE;
    /** EXPRS of small() and full(): two that are plain, one that is OWNED. */
    private static final int PLAIN = 0, OTHER = 1, MINE = 2;
    private static final Check check = new Check("RefusalTest");
    private static Supplier<ProtocolBench> maker;

    private RefusalTest() {
    }

    private static ProtocolBench smallUnsearched() {
        ProtocolBench x = new ProtocolBench();
        x.role(2);
        x.role(1);
        x.own(0, 0, 9, 3);
        x.own(1, 0, 9, 4);
        x.own(1, 0, 9, 5);
        x.shared(0, 9, 6);
        x.channel(2, false, true);
        x.channel(1, true, false);
        Tell.number(x, 1);
        x.expr(1, 0, 0, 0);
        x.expr(2, 0, 0, 0);
        x.expr(4, 0, 1, 0);
        Tell.not(x, 1);
        x.expr(5, 0, 0, 0);
        int s = x.step(0, 0, 1, PLAIN);
        x.act(s, 0, 0, PLAIN);
        x.act(s, 2, 0, MINE);
        int t = x.step(1, 0, 1, NONE);
        x.act(t, 3, 0, 1);
        x.act(t, 2, 1, PLAIN);
        x.end(0, 1);
        x.observe(3);
        return x;
    }

    private static ProtocolBench small() {
        ProtocolBench x = smallUnsearched();
        x.search();
        return x;
    }

    private static ProtocolBench smallAlike() {
        ProtocolBench x = smallUnsearched();
        x.alike(true);
        x.search();
        return x;
    }

    /** As many of each as may be; STEP 0 has four ACTS, among them a SEND and a RECEIVE. */
    private static ProtocolBench full() {
        ProtocolBench x = new ProtocolBench();
        for (int r = 0; r < 3; r++) {
            x.role(3);
            x.channel(1, false, false);
            for (int v = 0; v < 3; v++) {
                x.own(r, 0, 9, v);
            }
        }
        for (int v = 0; v < 6; v++) {
            x.shared(0, 9, v);
        }
        Tell.number(x, 1);
        x.expr(1, 0, 0, 0);
        x.expr(2, 0, 0, 0);
        for (int e = 3; e < 80; e++) {
            Tell.number(x, e);
        }
        for (int s = 0; s < 24; s++) {
            x.step(s % 3, s == 1 ? 0 : 7, 8, s == 1 ? MINE : NONE);
        }
        x.act(0, 0, 0, PLAIN);
        x.act(0, 2, 0, PLAIN);
        x.act(0, 3, 0, 0);
        x.act(0, 1, 2, PLAIN);
        x.observe(PLAIN);
        x.observe(OTHER);
        for (int e = 3; e < 9; e++) {
            x.observe(e);
        }
        x.search();
        return x;
    }

    /** Its SEARCH is SPENT; EXPRS as in small(). */
    private static ProtocolBench spent() {
        ProtocolBench x = smallUnsearched();
        int s = x.count(4);
        for (int v = 1; v < 4; v++) {
            x.shared(0, 9, 0);
            int next = x.expr(7, x.expr(1, v, 0, 0), PLAIN, 0);
            x.act(x.step(1, 0, 0, NONE), 0, v, next);
        }
        check.due("the STEPS that count", x.count(4), s + 3);
        check.due("search()", x.search(), SPENT);
        return x;
    }

    private static void refused(String call, int want, ToIntFunction<ProtocolBench> ask) {
        ProtocolBench x = maker.get();
        ProtocolBench never = maker.get();
        check.due(call, ask.applyAsInt(x), want);
        check.holds("nothing changes by " + call, Tell.answers(x).equals(Tell.answers(never)));
        int was = x.alike(false);
        check.due("ALIKE behind " + call, was, never.alike(false));
        check.due("search() behind " + call, x.search(), never.search());
        check.holds("nothing changes for a new SEARCH by " + call, Tell.answers(x).equals(Tell.answers(never)));
    }

    private static void told() {
        maker = RefusalTest::small;
        refused("shared, LOW too small", OUTSIDE, x -> x.shared(-1, 1, 0));
        refused("shared, HIGH too great", OUTSIDE, x -> x.shared(0, 10, 0));
        refused("shared, LOW above HIGH", OUTSIDE, x -> x.shared(2, 1, 2));
        refused("shared, first below LOW", OUTSIDE, x -> x.shared(2, 4, 1));
        refused("shared, first above HIGH", OUTSIDE, x -> x.shared(2, 4, 5));
        refused("role of none", OUTSIDE, x -> x.role(0));
        refused("role of four", OUTSIDE, x -> x.role(4));
        refused("role of fewer than none", OUTSIDE, x -> x.role(LEAST));
        refused("own of ROLE 2", UNKNOWN, x -> x.own(2, 0, 1, 0));
        refused("own of ROLE -1", UNKNOWN, x -> x.own(-1, 0, 1, 0));
        refused("own, LOW too small", OUTSIDE, x -> x.own(0, -1, 1, 0));
        refused("own, HIGH too great", OUTSIDE, x -> x.own(0, 0, 10, 0));
        refused("own, LOW above HIGH", OUTSIDE, x -> x.own(0, 2, 1, 2));
        refused("own, first below LOW", OUTSIDE, x -> x.own(0, 2, 4, 1));
        refused("own, first above HIGH", OUTSIDE, x -> x.own(0, 2, 4, 5));
        refused("own: UNKNOWN ahead of OUTSIDE", UNKNOWN, x -> x.own(2, 0, 10, 0));
        refused("end of ROLE 2", UNKNOWN, x -> x.end(2, 0));
        refused("end of ROLE -1", UNKNOWN, x -> x.end(-1, 0));
        refused("end, PLACE too small", OUTSIDE, x -> x.end(0, -1));
        refused("end, PLACE too great", OUTSIDE, x -> x.end(0, 10));
        refused("end: UNKNOWN ahead of OUTSIDE", UNKNOWN, x -> x.end(2, 10));
        refused("channel without room", OUTSIDE, x -> x.channel(0, true, true));
        refused("channel, room too great", OUTSIDE, x -> x.channel(4, true, true));
        refused("channel, room below none", OUTSIDE, x -> x.channel(LEAST, false, true));
    }

    private static void exprs() {
        maker = RefusalTest::small;
        refused("expr, KIND too small", OUTSIDE, x -> x.expr(-1, 0, 0, 0));
        refused("expr, KIND too great", OUTSIDE, x -> x.expr(15, 0, 0, 0));
        refused("expr: KIND ahead of UNKNOWN", OUTSIDE, x -> x.expr(15, 99, 99, 99));
        refused("expr of SHARED 1", UNKNOWN, x -> x.expr(1, 1, 0, 0));
        refused("expr of SHARED -1", UNKNOWN, x -> x.expr(1, -1, 0, 0));
        refused("expr of OWN 3", OUTSIDE, x -> x.expr(2, 3, 0, 0));
        refused("expr of OWN -1", OUTSIDE, x -> x.expr(2, -1, 0, 0));
        refused("expr at a PLACE of ROLE 2", UNKNOWN, x -> x.expr(4, 2, 0, 0));
        refused("expr at PLACE 10", OUTSIDE, x -> x.expr(4, 0, 10, 0));
        refused("expr at PLACE -1", OUTSIDE, x -> x.expr(4, 0, -1, 0));
        refused("expr: UNKNOWN ROLE ahead of OUTSIDE", UNKNOWN, x -> x.expr(4, 2, 10, 0));
        refused("expr of CHANNEL 2", UNKNOWN, x -> x.expr(5, 2, 0, 0));
        refused("expr of CHANNEL -1", UNKNOWN, x -> x.expr(5, -1, 0, 0));
        refused("expr of 6, ROLE 2", UNKNOWN, x -> x.expr(6, 2, 0, 0));
        refused("expr of 6, MEMBER 2", UNKNOWN, x -> x.expr(6, 0, 2, 0));
        refused("expr of 6, MEMBER -1", UNKNOWN, x -> x.expr(6, 0, -1, 0));
        refused("expr of 6, VARIABLE 1 of another ROLE", UNKNOWN, x -> x.expr(6, 0, 0, 1));
        refused("expr of 6, MEMBER 1 of another ROLE", UNKNOWN, x -> x.expr(6, 1, 1, 1));
        refused("expr of 6, VARIABLE -1", UNKNOWN, x -> x.expr(6, 0, 0, -1));
        refused("expr of 6, VARIABLE 3 is UNKNOWN, not OUTSIDE", UNKNOWN, x -> x.expr(6, 0, 0, 3));
        for (int kind = 7; kind <= 14; kind++) {
            int k = kind;
            refused("expr of " + k + ", the first too great", UNKNOWN, x -> x.expr(k, 6, 0, 0));
            refused("expr of " + k + ", the first too small", UNKNOWN, x -> x.expr(k, -1, 0, 0));
            if (k < 14) {
                refused("expr of " + k + ", the second too great", UNKNOWN, x -> x.expr(k, 0, 6, 0));
                refused("expr of " + k + ", the second too small", UNKNOWN, x -> x.expr(k, 0, -1, 0));
            }
        }
    }

    private static void stepsAndActs() {
        maker = RefusalTest::small;
        refused("step of ROLE 2", UNKNOWN, x -> x.step(2, 0, 1, NONE));
        refused("step of ROLE -1", UNKNOWN, x -> x.step(-1, 0, 1, NONE));
        refused("step, GUARD too great", UNKNOWN, x -> x.step(0, 0, 1, 6));
        refused("step, GUARD -2", UNKNOWN, x -> x.step(0, 0, 1, -2));
        refused("step from PLACE -1", OUTSIDE, x -> x.step(0, -1, 1, NONE));
        refused("step from PLACE 10", OUTSIDE, x -> x.step(0, 10, 1, NONE));
        refused("step to PLACE -1", OUTSIDE, x -> x.step(0, 0, -1, NONE));
        refused("step to PLACE 10", OUTSIDE, x -> x.step(0, 0, 10, NONE));
        refused("step: UNKNOWN ROLE ahead of OUTSIDE", UNKNOWN, x -> x.step(2, 10, 1, NONE));
        refused("step: UNKNOWN GUARD ahead of OUTSIDE", UNKNOWN, x -> x.step(0, 0, 10, 6));
        refused("act, KIND too small", OUTSIDE, x -> x.act(0, -1, 0, 0));
        refused("act, KIND too great", OUTSIDE, x -> x.act(0, 4, 0, 0));
        refused("act: KIND ahead of an UNKNOWN STEP", OUTSIDE, x -> x.act(9, 4, 0, 0));
        refused("act: KIND ahead of all that is UNKNOWN", OUTSIDE, x -> x.act(-1, -1, 99, 99));
        refused("act of STEP 2", UNKNOWN, x -> x.act(2, 0, 0, 0));
        refused("act of STEP -1", UNKNOWN, x -> x.act(-1, 0, 0, 0));
        refused("act on SHARED 1", UNKNOWN, x -> x.act(0, 0, 1, 0));
        refused("act on SHARED -1", UNKNOWN, x -> x.act(0, 0, -1, 0));
        refused("act on OWN 1, which another ROLE has", UNKNOWN, x -> x.act(0, 1, 1, 0));
        refused("act on OWN -1", UNKNOWN, x -> x.act(0, 1, -1, 0));
        refused("act, SEND to CHANNEL 2", UNKNOWN, x -> x.act(0, 2, 2, 0));
        refused("act, RECEIVE from CHANNEL 2", UNKNOWN, x -> x.act(0, 3, 2, 0));
        refused("act, RECEIVE from CHANNEL -1", UNKNOWN, x -> x.act(0, 3, -1, 0));
        refused("act, RECEIVE into OWN 1, which another ROLE has", UNKNOWN, x -> x.act(0, 3, 0, 1));
        refused("act, RECEIVE into OWN -1", UNKNOWN, x -> x.act(0, 3, 0, -1));
        for (int kind = 0; kind < 3; kind++) {
            int k = kind;
            int target = k == 2 ? 1 : 0;
            refused("act of KIND " + k + ", EXPR too great", UNKNOWN, x -> x.act(0, k, target, 6));
            refused("act of KIND " + k + ", EXPR NONE", UNKNOWN, x -> x.act(0, k, target, NONE));
        }
        refused("act, a second SEND", OUTSIDE, x -> x.act(0, 2, 0, OTHER));
        refused("act, a second SEND behind others", OUTSIDE, x -> x.act(1, 2, 1, OTHER));
        refused("act, a second RECEIVE", OUTSIDE, x -> x.act(1, 3, 0, 0));
        refused("act: UNKNOWN EXPR ahead of a second SEND", UNKNOWN, x -> x.act(0, 2, 0, 6));
        refused("act: UNKNOWN VARIABLE ahead of a second RECEIVE", UNKNOWN, x -> x.act(1, 3, 0, 2));
    }

    private static void whereFull() {
        maker = RefusalTest::full;
        refused("a seventh SHARED", FULL, x -> x.shared(0, 9, 0));
        refused("shared: OUTSIDE ahead of FULL", OUTSIDE, x -> x.shared(0, 10, 0));
        refused("a fourth ROLE", FULL, x -> x.role(1));
        refused("role: OUTSIDE ahead of FULL", OUTSIDE, x -> x.role(4));
        refused("a fourth OWN", FULL, x -> x.own(2, 0, 9, 0));
        refused("own: UNKNOWN though all are FULL", UNKNOWN, x -> x.own(3, 0, 9, 0));
        refused("own: OUTSIDE ahead of FULL", OUTSIDE, x -> x.own(2, 1, 0, 0));
        refused("a fourth CHANNEL", FULL, x -> x.channel(1, false, false));
        refused("channel: OUTSIDE ahead of FULL", OUTSIDE, x -> x.channel(0, false, false));
        refused("an 81st EXPR", FULL, x -> x.expr(0, 1, 0, 0));
        refused("an 81st EXPR of 3", FULL, x -> x.expr(3, 0, 0, 0));
        refused("an 81st EXPR of two", FULL, x -> x.expr(7, 79, 79, 0));
        refused("expr: KIND ahead of FULL", OUTSIDE, x -> x.expr(15, 0, 0, 0));
        refused("expr: UNKNOWN ahead of FULL", UNKNOWN, x -> x.expr(1, 6, 0, 0));
        refused("expr: UNKNOWN EXPR ahead of FULL", UNKNOWN, x -> x.expr(7, 0, 80, 0));
        refused("expr: OUTSIDE VARIABLE ahead of FULL", OUTSIDE, x -> x.expr(2, 3, 0, 0));
        refused("expr: OUTSIDE PLACE ahead of FULL", OUTSIDE, x -> x.expr(4, 0, 10, 0));
        refused("expr: UNKNOWN ROLE ahead of OUTSIDE and FULL", UNKNOWN, x -> x.expr(4, 3, 10, 0));
        refused("a 25th STEP", FULL, x -> x.step(0, 0, 1, NONE));
        refused("step: UNKNOWN ROLE ahead of FULL", UNKNOWN, x -> x.step(3, 0, 1, NONE));
        refused("step: UNKNOWN GUARD ahead of FULL", UNKNOWN, x -> x.step(0, 0, 1, 80));
        refused("step: OUTSIDE ahead of FULL", OUTSIDE, x -> x.step(0, 0, 10, NONE));
        refused("a fifth ACT", FULL, x -> x.act(0, 0, 0, PLAIN));
        refused("a fifth ACT, a SEND to another CHANNEL", FULL, x -> x.act(0, 2, 1, PLAIN));
        refused("act: KIND ahead of FULL", OUTSIDE, x -> x.act(0, 4, 0, PLAIN));
        refused("act: UNKNOWN ahead of FULL", UNKNOWN, x -> x.act(0, 0, 6, PLAIN));
        refused("act: UNKNOWN EXPR ahead of FULL", UNKNOWN, x -> x.act(0, 0, 0, 80));
        refused("act: a second SEND ahead of FULL", OUTSIDE, x -> x.act(0, 2, 0, PLAIN));
        refused("act: a second RECEIVE ahead of FULL", OUTSIDE, x -> x.act(0, 3, 0, 0));
        refused("a ninth OBSERVED", FULL, x -> x.observe(9));
        refused("observe: UNKNOWN ahead of FULL", UNKNOWN, x -> x.observe(80));
        refused("observe: OWNED ahead of FULL", OWNED, x -> x.observe(MINE));
        refused("observe: OUTSIDE ahead of FULL", OUTSIDE, x -> x.observe(8));
    }

    /** NOT is ahead of all where a STATE is asked for; else UNKNOWN, OUTSIDE and OWNED are ahead of it. */
    private static void whereThereIsNoSearch(Supplier<ProtocolBench> where, String how) {
        maker = where;
        for (int state : new int[] {0, -1, GREATEST}) {
            String of = "(" + state + ") " + how;
            refused("place" + of, NOT, x -> x.place(state, 0, 0));
            refused("place of ROLE 9" + of, NOT, x -> x.place(state, 9, 0));
            refused("place of MEMBER 9" + of, NOT, x -> x.place(state, 0, 9));
            refused("owned" + of, NOT, x -> x.owned(state, 0, 0, 0));
            refused("owned of VARIABLE 9" + of, NOT, x -> x.owned(state, 0, 0, 9));
            refused("letter" + of, NOT, x -> x.letter(state, 0, 0));
            refused("letter of CHANNEL 9" + of, NOT, x -> x.letter(state, 9, 0));
            refused("moves" + of, NOT, x -> x.moves(state));
            refused("move" + of, NOT, x -> x.move(state, 0, 0));
            refused("move 9" + of, NOT, x -> x.move(state, 9, 0));
            refused("move, what 4" + of, NOT, x -> x.move(state, 0, 4));
            refused("depth" + of, NOT, x -> x.depth(state));
            refused("came" + of, NOT, x -> x.came(state, 0));
            refused("came, what 2" + of, NOT, x -> x.came(state, 2));
            refused("classOf" + of, NOT, x -> x.classOf(state));
            refused("tells" + of, LEAST, x -> x.tells(state, PLAIN));
            refused("tells of EXPR 99" + of, LEAST, x -> x.tells(state, 99));
            refused("tells of an OWNED one" + of, LEAST, x -> x.tells(state, MINE));
        }
        refused("stuck " + how, NOT, x -> x.stuck());
        refused("classes " + how, NOT, x -> x.classes());
        for (int what = 0; what < 4; what++) {
            int w = what;
            refused("fault(" + w + ") " + how, NOT, x -> x.fault(w));
        }
        refused("fault: OUTSIDE ahead of NOT, " + how, OUTSIDE, x -> x.fault(4));
        refused("fault: OUTSIDE ahead of NOT, " + how, OUTSIDE, x -> x.fault(-1));
        refused("always " + how, NOT, x -> x.always(PLAIN));
        refused("always: UNKNOWN ahead of NOT, " + how, UNKNOWN, x -> x.always(99));
        refused("always: OWNED ahead of NOT, " + how, OWNED, x -> x.always(MINE));
        for (boolean fair : new boolean[] {false, true}) {
            refused("again " + how, NOT, x -> x.again(PLAIN, fair));
            refused("again: UNKNOWN ahead of NOT, " + how, UNKNOWN, x -> x.again(-1, fair));
            refused("again: OWNED ahead of NOT, " + how, OWNED, x -> x.again(MINE, fair));
            refused("fromTo " + how, NOT, x -> x.fromTo(PLAIN, OTHER, fair));
            refused("fromTo: UNKNOWN p ahead of NOT, " + how, UNKNOWN, x -> x.fromTo(99, OTHER, fair));
            refused("fromTo: UNKNOWN q ahead of NOT, " + how, UNKNOWN, x -> x.fromTo(PLAIN, 99, fair));
            refused("fromTo: OWNED p ahead of NOT, " + how, OWNED, x -> x.fromTo(MINE, OTHER, fair));
            refused("fromTo: OWNED q ahead of NOT, " + how, OWNED, x -> x.fromTo(PLAIN, MINE, fair));
        }
        refused("count(8) " + how, OUTSIDE, x -> x.count(8));
        refused("observe of EXPR 99 " + how, UNKNOWN, x -> x.observe(99));
        refused("observe of an OWNED one " + how, OWNED, x -> x.observe(MINE));
        refused("observe once more " + how, OUTSIDE, x -> x.observe(3));
    }

    private static void ofStates() {
        maker = RefusalTest::small;
        for (int state : new int[] {-1, LEAST, 400, GREATEST}) {
            String of = " of STATE " + state;
            refused("place" + of, UNKNOWN, x -> x.place(state, 0, 0));
            refused("owned" + of, UNKNOWN, x -> x.owned(state, 0, 0, 0));
            refused("letter" + of, UNKNOWN, x -> x.letter(state, 0, 0));
            refused("moves" + of, UNKNOWN, x -> x.moves(state));
            refused("move" + of, UNKNOWN, x -> x.move(state, 0, 0));
            refused("move: UNKNOWN STATE ahead of OUTSIDE" + of, UNKNOWN, x -> x.move(state, 0, 4));
            refused("depth" + of, UNKNOWN, x -> x.depth(state));
            refused("came" + of, UNKNOWN, x -> x.came(state, 0));
            refused("came: UNKNOWN ahead of OUTSIDE" + of, UNKNOWN, x -> x.came(state, 2));
            refused("classOf" + of, UNKNOWN, x -> x.classOf(state));
            refused("tells" + of, LEAST, x -> x.tells(state, PLAIN));
        }
        refused("place of ROLE 2", UNKNOWN, x -> x.place(0, 2, 0));
        refused("place of ROLE -1", UNKNOWN, x -> x.place(0, -1, 0));
        refused("place of MEMBER 1, which another ROLE has", UNKNOWN, x -> x.place(0, 1, 1));
        refused("place of MEMBER -1", UNKNOWN, x -> x.place(0, 0, -1));
        refused("owned of ROLE 2", UNKNOWN, x -> x.owned(0, 2, 0, 0));
        refused("owned of MEMBER 1, which another ROLE has", UNKNOWN, x -> x.owned(0, 1, 1, 0));
        refused("owned of VARIABLE 1, which another ROLE has", UNKNOWN, x -> x.owned(0, 0, 0, 1));
        refused("owned of VARIABLE -1", UNKNOWN, x -> x.owned(0, 0, 0, -1));
        refused("letter of CHANNEL 2", UNKNOWN, x -> x.letter(0, 2, 0));
        refused("letter of CHANNEL -1", UNKNOWN, x -> x.letter(0, -1, 0));
        refused("letter of CHANNEL 2, and LETTER 9", UNKNOWN, x -> x.letter(0, 2, 9));
        refused("move: MOVE -1", UNKNOWN, x -> x.move(0, -1, 0));
        refused("move: one MOVE beyond", UNKNOWN, x -> x.move(0, 2, 0));
        refused("move: UNKNOWN MOVE ahead of OUTSIDE", UNKNOWN, x -> x.move(0, 2, 4));
        refused("move: what -1", OUTSIDE, x -> x.move(0, 0, -1));
        refused("move: what 4", OUTSIDE, x -> x.move(0, 0, 4));
        refused("came: what -1", OUTSIDE, x -> x.came(1, -1));
        refused("came: what 2", OUTSIDE, x -> x.came(1, 2));
        refused("came: what 2 of STATE 0", OUTSIDE, x -> x.came(0, 2));
        refused("fault: what -1", OUTSIDE, x -> x.fault(-1));
        refused("fault: what 4", OUTSIDE, x -> x.fault(4));
        refused("count: what -1", OUTSIDE, x -> x.count(-1));
        refused("count: what 8", OUTSIDE, x -> x.count(8));
        refused("tells of EXPR 6", LEAST, x -> x.tells(0, 6));
        refused("tells of EXPR -1", LEAST, x -> x.tells(0, -1));
        refused("tells of an OWNED one", LEAST, x -> x.tells(0, MINE));
    }

    private static void promises() {
        maker = RefusalTest::small;
        refused("always of EXPR 6", UNKNOWN, x -> x.always(6));
        refused("always of EXPR -1", UNKNOWN, x -> x.always(-1));
        refused("always of an OWNED one", OWNED, x -> x.always(MINE));
        refused("again of EXPR 6", UNKNOWN, x -> x.again(6, true));
        refused("again of EXPR -1", UNKNOWN, x -> x.again(-1, false));
        refused("again of an OWNED one", OWNED, x -> x.again(MINE, false));
        refused("fromTo, p is 6", UNKNOWN, x -> x.fromTo(6, PLAIN, false));
        refused("fromTo, q is 6", UNKNOWN, x -> x.fromTo(PLAIN, 6, false));
        refused("fromTo, p is OWNED", OWNED, x -> x.fromTo(MINE, PLAIN, false));
        refused("fromTo, q is OWNED", OWNED, x -> x.fromTo(PLAIN, MINE, false));
        refused("fromTo: UNKNOWN q ahead of OWNED p", UNKNOWN, x -> x.fromTo(MINE, 6, false));
        refused("fromTo: UNKNOWN p ahead of OWNED q", UNKNOWN, x -> x.fromTo(6, MINE, false));
        refused("observe of EXPR 6", UNKNOWN, x -> x.observe(6));
        refused("observe of EXPR -1", UNKNOWN, x -> x.observe(-1));
        refused("observe of an OWNED one", OWNED, x -> x.observe(MINE));
        refused("observe once more", OUTSIDE, x -> x.observe(3));
        maker = RefusalTest::smallAlike;
        refused("again, fair, when ALIKE is on", NOT, x -> x.again(PLAIN, true));
        refused("again: UNKNOWN ahead of NOT when ALIKE is on", UNKNOWN, x -> x.again(6, true));
        refused("again: OWNED ahead of NOT when ALIKE is on", OWNED, x -> x.again(MINE, true));
        refused("fromTo, fair, when ALIKE is on", NOT, x -> x.fromTo(PLAIN, OTHER, true));
        refused("fromTo: UNKNOWN q ahead of NOT when ALIKE is on", UNKNOWN, x -> x.fromTo(PLAIN, 6, true));
        refused("fromTo: OWNED p ahead of NOT when ALIKE is on", OWNED, x -> x.fromTo(MINE, PLAIN, true));
        ProtocolBench x = smallAlike();
        check.holds("again, not fair, when ALIKE is on", x.again(PLAIN, false) >= NONE);
        check.holds("fromTo, not fair, when ALIKE is on", x.fromTo(PLAIN, OTHER, false) >= NONE);
    }

    private static ProtocolBench alikeWith(int kind) {
        ProtocolBench x = smallUnsearched();
        x.expr(kind, 0, 0, 0);
        x.alike(true);
        return x;
    }

    private static ProtocolBench lacking() {
        ProtocolBench x = smallUnsearched();
        x.step(0, 5, 5, x.expr(2, 1, 0, 0));
        return x;
    }

    private static void searches() {
        maker = () -> alikeWith(3);
        refused("search, ALIKE with an EXPR of 3", NOT, x -> x.search());
        maker = () -> alikeWith(6);
        refused("search, ALIKE with an EXPR of 6", NOT, x -> x.search());
        maker = RefusalTest::lacking;
        refused("search, a VARIABLE that a ROLE has not", NOT, x -> x.search());
    }

    public static void main(String[] args) {
        told();
        exprs();
        stepsAndActs();
        whereFull();
        whereThereIsNoSearch(RefusalTest::smallUnsearched, "without a SEARCH");
        whereThereIsNoSearch(RefusalTest::spent, "where it is SPENT");
        whereThereIsNoSearch(() -> {
            ProtocolBench x = small();
            x.end(0, 1);
            return x;
        }, "where it has ended");
        ofStates();
        promises();
        searches();
        check.finish();
    }
}
