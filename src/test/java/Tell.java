import java.util.ArrayList;
import java.util.List;

/** What several tests tell an object, and all that it answers. */
final class Tell {
    private Tell() {
    }

    static int number(ProtocolBench x, int n) {
        return x.expr(0, n, 0, 0);
    }

    static int both(ProtocolBench x, int a, int b) {
        return x.expr(12, a, b, 0);
    }

    static int not(ProtocolBench x, int a) {
        return x.expr(14, a, 0, 0);
    }

    static int same(ProtocolBench x, int a, int n) {
        return x.expr(10, a, number(x, n), 0);
    }

    static int send(ProtocolBench x, int from, int to, int channel, int letter) {
        int s = x.step(0, from, to, -1);
        x.act(s, 2, channel, number(x, letter));
        return s;
    }

    static int receive(ProtocolBench x, int from, int to, int channel, int own) {
        int s = x.step(0, from, to, -1);
        x.act(s, 3, channel, own);
        return s;
    }

    /**
     * ROLE 0 of one MEMBER, at PLACE 0, and three SHARED VARIABLES that count its way: so many STATES
     * in a line, three STEPS. Answers the EXPR that is 1 in the last one alone.
     */
    static int line(ProtocolBench x, int states) {
        x.role(1);
        int[] v = new int[3];
        for (int i = 0; i < 3; i++) {
            x.shared(0, 9, 0);
            v[i] = x.expr(1, i, 0, 0);
        }
        int end = states - 1;
        int last = both(x, both(x, same(x, v[0], end % 10), same(x, v[1], end / 10 % 10)), same(x, v[2], end / 100));
        int zero = number(x, 0), one = number(x, 1), on = not(x, last);
        int full0 = same(x, v[0], 9), full1 = same(x, v[1], 9);
        int carry = both(x, on, full0);
        x.act(x.step(0, 0, 0, both(x, on, not(x, full0))), 0, 0, x.expr(7, v[0], one, 0));
        int ten = x.step(0, 0, 0, both(x, carry, not(x, full1)));
        x.act(ten, 0, 0, zero);
        x.act(ten, 0, 1, x.expr(7, v[1], one, 0));
        int hundred = x.step(0, 0, 0, both(x, carry, full1));
        x.act(hundred, 0, 0, zero);
        x.act(hundred, 0, 1, zero);
        x.act(hundred, 0, 2, x.expr(7, v[2], one, 0));
        return last;
    }

    /** All answers of the calls that change nothing, of the first STATES and of the EXPRS 0 .. 5. */
    static List<Integer> answers(ProtocolBench x) {
        List<Integer> all = new ArrayList<>();
        for (int what = 0; what < 8; what++) {
            all.add(x.count(what));
        }
        for (int what = 0; what < 4; what++) {
            all.add(x.fault(what));
        }
        all.add(x.stuck());
        all.add(x.classes());
        for (int e = 0; e < 6; e++) {
            all.add(x.always(e));
            all.add(x.again(e, false));
            all.add(x.again(e, true));
            all.add(x.fromTo(e, 5 - e, e % 2 == 0));
        }
        for (int s = 0; s < 4; s++) {
            answersOfState(x, s, all);
        }
        return all;
    }

    private static void answersOfState(ProtocolBench x, int s, List<Integer> all) {
        all.add(x.depth(s));
        all.add(x.classOf(s));
        all.add(x.came(s, 0));
        all.add(x.came(s, 1));
        all.add(x.moves(s));
        for (int i = 0; i < 3; i++) {
            all.add(x.move(s, i, 0));
            all.add(x.move(s, i, 2));
            all.add(x.move(s, i, 3));
            all.add(x.place(s, i, 0));
            all.add(x.owned(s, i, 0, 0));
            all.add(x.letter(s, i, 0));
            all.add(x.tells(s, i));
        }
    }
}
