import java.util.ArrayList;
import java.util.Arrays;
import java.util.HashMap;
import java.util.HashSet;
import java.util.List;
import java.util.Map;
import java.util.Set;
import java.util.TreeSet;

/**
 * The document once more, in the slowest and plainest way, with other means than ProtocolBench:
 * states as lists, expressions by recursion, knots by who can come to whom, classes by pairs.
 */
final class NaiveBench {
    static final int NONE = -1, UNKNOWN = -2, OUTSIDE = -3, OWNED = -4, NOT = -5, FULL = -6, SPENT = -7;

    record Variable(int low, int high, int first) {
        boolean allows(int value) {
            return value >= low && value <= high;
        }
    }

    record Channel(int room, boolean loose, boolean loses) { }

    record Expr(int kind, int a, int b, int c) { }

    record Act(int kind, int a, int b) { }

    record Move(int to, int role, int member, int step) { }

    static final class Role {
        int members;
        List<Variable> own = new ArrayList<>();
        Set<Integer> ends = new HashSet<>();
    }

    static final class Step {
        int role, from, to, guard;
        List<Act> acts = new ArrayList<>();
    }

    /** Equal and unequal by its text. */
    static final class State {
        List<Integer> shared = new ArrayList<>();
        List<List<List<Integer>>> members = new ArrayList<>();
        List<List<Integer>> letters = new ArrayList<>();

        State copy() {
            State s = new State();
            s.shared.addAll(shared);
            for (List<List<Integer>> role : members) {
                List<List<Integer>> r = new ArrayList<>();
                for (List<Integer> m : role) {
                    r.add(new ArrayList<>(m));
                }
                s.members.add(r);
            }
            for (List<Integer> l : letters) {
                s.letters.add(new ArrayList<>(l));
            }
            return s;
        }

        String text() {
            return shared + "/" + members + "/" + letters;
        }
    }

    private final List<Variable> shared = new ArrayList<>();
    private final List<Role> roles = new ArrayList<>();
    private final List<Channel> channels = new ArrayList<>();
    private final List<Expr> exprs = new ArrayList<>();
    private final List<Step> steps = new ArrayList<>();
    private final List<Integer> observed = new ArrayList<>();
    private boolean alike = false;

    private boolean there = false, spent = false;
    private List<State> states = new ArrayList<>();
    private List<List<Move>> moves = new ArrayList<>();
    private Map<String, Integer> numbers = new HashMap<>();
    private List<int[]> came = new ArrayList<>();
    private int moveCount = 0;
    private int[] fault = null;
    private int[] divided = null;

    private void end() {
        there = false;
        spent = false;
        states = new ArrayList<>();
        moves = new ArrayList<>();
        numbers = new HashMap<>();
        came = new ArrayList<>();
        moveCount = 0;
        fault = null;
        divided = null;
    }

    private static boolean in(int i, List<?> list) {
        return 0 <= i && i < list.size();
    }

    private static boolean digit(int i) {
        return 0 <= i && i <= 9;
    }

    private static boolean outside(int low, int high, int first) {
        return !digit(low) || !digit(high) || low > high || first < low || first > high;
    }

    int shared(int low, int high, int first) {
        if (outside(low, high, first)) return OUTSIDE;
        if (shared.size() == 6) return FULL;
        end();
        shared.add(new Variable(low, high, first));
        return shared.size() - 1;
    }

    int role(int members) {
        if (members < 1 || members > 3) return OUTSIDE;
        if (roles.size() == 3) return FULL;
        end();
        Role r = new Role();
        r.members = members;
        roles.add(r);
        return roles.size() - 1;
    }

    int own(int role, int low, int high, int first) {
        if (!in(role, roles)) return UNKNOWN;
        if (outside(low, high, first)) return OUTSIDE;
        List<Variable> own = roles.get(role).own;
        if (own.size() == 3) return FULL;
        end();
        own.add(new Variable(low, high, first));
        return own.size() - 1;
    }

    int end(int role, int place) {
        if (!in(role, roles)) return UNKNOWN;
        if (!digit(place)) return OUTSIDE;
        end();
        return roles.get(role).ends.add(place) ? 0 : 1;
    }

    int channel(int room, boolean loose, boolean loses) {
        if (room < 1 || room > 3) return OUTSIDE;
        if (channels.size() == 3) return FULL;
        end();
        channels.add(new Channel(room, loose, loses));
        return channels.size() - 1;
    }

    int expr(int kind, int a, int b, int c) {
        if (kind < 0 || kind > 14) return OUTSIDE;
        if (kind == 1 && !in(a, shared)) return UNKNOWN;
        if ((kind == 4 || kind == 6) && !in(a, roles)) return UNKNOWN;
        if (kind == 5 && !in(a, channels)) return UNKNOWN;
        if (kind == 6 && (b < 0 || b >= roles.get(a).members || !in(c, roles.get(a).own))) return UNKNOWN;
        if (kind >= 7 && !in(a, exprs)) return UNKNOWN;
        if (kind >= 7 && kind <= 13 && !in(b, exprs)) return UNKNOWN;
        if (kind == 2 && (a < 0 || a > 2)) return OUTSIDE;
        if (kind == 4 && !digit(b)) return OUTSIDE;
        if (exprs.size() == 80) return FULL;
        end();
        exprs.add(new Expr(kind, a, b, c));
        return exprs.size() - 1;
    }

    int step(int role, int from, int to, int guard) {
        if (!in(role, roles)) return UNKNOWN;
        if (guard != NONE && !in(guard, exprs)) return UNKNOWN;
        if (!digit(from) || !digit(to)) return OUTSIDE;
        if (steps.size() == 24) return FULL;
        end();
        Step s = new Step();
        s.role = role;
        s.from = from;
        s.to = to;
        s.guard = guard;
        steps.add(s);
        return steps.size() - 1;
    }

    int act(int step, int kind, int a, int b) {
        if (kind < 0 || kind > 3) return OUTSIDE;
        if (!in(step, steps)) return UNKNOWN;
        Step s = steps.get(step);
        List<Variable> own = roles.get(s.role).own;
        if (kind == 0 && !in(a, shared)) return UNKNOWN;
        if (kind == 1 && !in(a, own)) return UNKNOWN;
        if (kind >= 2 && !in(a, channels)) return UNKNOWN;
        if (kind == 3 && !in(b, own)) return UNKNOWN;
        if (kind <= 2 && !in(b, exprs)) return UNKNOWN;
        for (Act x : s.acts) {
            if (kind >= 2 && x.kind() == kind && x.a() == a) return OUTSIDE;
        }
        if (s.acts.size() == 4) return FULL;
        end();
        s.acts.add(new Act(kind, a, b));
        return s.acts.size();
    }

    int alike(boolean on) {
        end();
        int was = alike ? 1 : 0;
        alike = on;
        return was;
    }

    private Set<Integer> partsOf(int e) {
        Set<Integer> all = new HashSet<>();
        List<Integer> todo = new ArrayList<>(List.of(e));
        while (!todo.isEmpty()) {
            int x = todo.remove(todo.size() - 1);
            if (!all.add(x)) continue;
            Expr it = exprs.get(x);
            if (it.kind() >= 7) todo.add(it.a());
            if (it.kind() >= 7 && it.kind() <= 13) todo.add(it.b());
        }
        return all;
    }

    private boolean ownedExpr(int e) {
        for (int x : partsOf(e)) {
            if (exprs.get(x).kind() == 2 || exprs.get(x).kind() == 3) return true;
        }
        return false;
    }

    private int value(int e, State s, int role, int member, Map<Integer, Integer> known) {
        Integer k = known.get(e);
        if (k != null) return k;
        Expr x = exprs.get(e);
        int a = x.kind() >= 7 ? value(x.a(), s, role, member, known) : 0;
        int b = x.kind() >= 7 && x.kind() <= 13 ? value(x.b(), s, role, member, known) : 0;
        int v = switch (x.kind()) {
            case 0 -> x.a();
            case 1 -> s.shared.get(x.a());
            case 2 -> s.members.get(role).get(member).get(1 + x.a());
            case 3 -> member;
            case 4 -> (int) s.members.get(x.a()).stream().filter(m -> m.get(0) == x.b()).count();
            case 5 -> s.letters.get(x.a()).size();
            case 6 -> s.members.get(x.a()).get(x.b()).get(1 + x.c());
            case 7 -> a + b;
            case 8 -> a - b;
            case 9 -> a * b;
            case 10 -> a == b ? 1 : 0;
            case 11 -> a < b ? 1 : 0;
            case 12 -> a != 0 && b != 0 ? 1 : 0;
            case 13 -> a != 0 || b != 0 ? 1 : 0;
            default -> a == 0 ? 1 : 0;
        };
        known.put(e, v);
        return v;
    }

    private int plain(int e, int state) {
        return value(e, states.get(state), -1, -1, new HashMap<>());
    }

    int search() {
        for (Expr x : exprs) {
            if (alike && (x.kind() == 3 || x.kind() == 6)) return NOT;
        }
        for (Step s : steps) {
            Set<Integer> used = new HashSet<>();
            if (s.guard != NONE) used.addAll(partsOf(s.guard));
            for (Act a : s.acts) {
                if (a.kind() != 3) used.addAll(partsOf(a.b()));
            }
            for (int e : used) {
                if (exprs.get(e).kind() == 2 && !in(exprs.get(e).a(), roles.get(s.role).own)) return NOT;
            }
        }
        end();
        there = true;
        State first = new State();
        for (Variable v : shared) first.shared.add(v.first());
        for (Role r : roles) {
            List<List<Integer>> all = new ArrayList<>();
            for (int m = 0; m < r.members; m++) {
                List<Integer> one = new ArrayList<>(List.of(0));
                for (Variable v : r.own) one.add(v.first());
                all.add(one);
            }
            first.members.add(all);
        }
        for (int c = 0; c < channels.size(); c++) first.letters.add(new ArrayList<>());
        numbers.put(first.text(), 0);
        states.add(first);
        came.add(new int[] {NONE, NONE});
        for (int s = 0; s < states.size() && !spent; s++) {
            moves.add(new ArrayList<>());
            goThrough(s);
        }
        return spent ? SPENT : states.size();
    }

    private void goThrough(int n) {
        State s = states.get(n);
        for (int r = 0; r < roles.size(); r++) {
            for (int m = 0; m < roles.get(r).members; m++) {
                for (int t = 0; t < steps.size(); t++) {
                    if (steps.get(t).role == r && can(s, r, m, steps.get(t))) {
                        ways(n, r, m, t, new ArrayList<>());
                        if (spent) return;
                    }
                }
            }
        }
        for (int c = 0; c < channels.size(); c++) {
            if (!channels.get(c).loses()) continue;
            List<Integer> held = s.letters.get(c);
            for (int i = 0; i < held.size(); i++) {
                if (held.indexOf(held.get(i)) < i) continue;
                State next = s.copy();
                next.letters.get(c).remove(i);
                arrive(n, next, NONE, NONE, NONE);
                if (spent) return;
            }
        }
    }

    private boolean can(State s, int r, int m, Step t) {
        if (s.members.get(r).get(m).get(0) != t.from) return false;
        if (t.guard != NONE && value(t.guard, s, r, m, new HashMap<>()) == 0) return false;
        for (Act a : t.acts) {
            if (a.kind() == 2 && s.letters.get(a.a()).size() >= channels.get(a.a()).room()) return false;
            if (a.kind() == 3 && s.letters.get(a.a()).isEmpty()) return false;
        }
        return true;
    }

    private void ways(int n, int r, int m, int t, List<Integer> picks) {
        if (spent) return;
        Step step = steps.get(t);
        if (picks.size() == step.acts.size()) {
            doWay(n, r, m, t, picks);
            return;
        }
        Act a = step.acts.get(picks.size());
        if (a.kind() != 3 || !channels.get(a.a()).loose()) {
            List<Integer> more = new ArrayList<>(picks);
            more.add(0);
            ways(n, r, m, t, more);
            return;
        }
        List<Integer> held = states.get(n).letters.get(a.a());
        for (int i = 0; i < held.size(); i++) {
            if (held.indexOf(held.get(i)) < i) continue;
            List<Integer> more = new ArrayList<>(picks);
            more.add(i);
            ways(n, r, m, t, more);
        }
    }

    private void doWay(int n, int r, int m, int t, List<Integer> picks) {
        State s = states.get(n);
        State next = s.copy();
        Step step = steps.get(t);
        List<Integer> me = next.members.get(r).get(m);
        boolean bad = false;
        for (int k = 0; k < step.acts.size(); k++) {
            Act a = step.acts.get(k);
            int v = a.kind() == 3 ? s.letters.get(a.a()).get(picks.get(k)) : value(a.b(), s, r, m, new HashMap<>());
            if (a.kind() == 0) {
                bad |= !shared.get(a.a()).allows(v);
                next.shared.set(a.a(), v);
            } else if (a.kind() == 1) {
                bad |= !roles.get(r).own.get(a.a()).allows(v);
                me.set(1 + a.a(), v);
            } else if (a.kind() == 2) {
                bad |= !digit(v);
                next.letters.get(a.a()).add(v);
            } else {
                bad |= !roles.get(r).own.get(a.b()).allows(v);
                next.letters.get(a.a()).remove((int) picks.get(k));
                me.set(1 + a.b(), v);
            }
        }
        me.set(0, step.to);
        if (bad) {
            if (fault == null) fault = new int[] {n, r, m, t};
            return;
        }
        arrive(n, next, r, m, t);
    }

    private void arrive(int n, State next, int r, int m, int t) {
        if (alike) {
            for (List<List<Integer>> role : next.members) {
                role.sort((x, y) -> {
                    for (int i = 0; i < x.size(); i++) {
                        if (!x.get(i).equals(y.get(i))) return Integer.compare(x.get(i), y.get(i));
                    }
                    return 0;
                });
            }
        }
        if (moveCount == 6000) {
            spent = true;
            return;
        }
        Integer to = numbers.get(next.text());
        if (to == null) {
            if (states.size() == 400) {
                spent = true;
                return;
            }
            to = states.size();
            numbers.put(next.text(), to);
            states.add(next);
            came.add(new int[] {n, moves.get(n).size()});
        }
        moves.get(n).add(new Move(to, r, m, t));
        moveCount++;
    }

    private boolean usable() {
        return there && !spent;
    }

    int tells(int state, int expr) {
        if (!usable() || !in(state, states) || !in(expr, exprs) || ownedExpr(expr)) return Integer.MIN_VALUE;
        return plain(expr, state);
    }

    private boolean member(int role, int member) {
        return in(role, roles) && member >= 0 && member < roles.get(role).members;
    }

    int place(int state, int role, int member) {
        if (!usable()) return NOT;
        if (!in(state, states) || !member(role, member)) return UNKNOWN;
        return states.get(state).members.get(role).get(member).get(0);
    }

    int owned(int state, int role, int member, int variable) {
        if (!usable()) return NOT;
        if (!in(state, states) || !member(role, member) || !in(variable, roles.get(role).own)) return UNKNOWN;
        return states.get(state).members.get(role).get(member).get(1 + variable);
    }

    int letter(int state, int channel, int i) {
        if (!usable()) return NOT;
        if (!in(state, states) || !in(channel, channels)) return UNKNOWN;
        List<Integer> held = states.get(state).letters.get(channel);
        return in(i, held) ? held.get(i) : NONE;
    }

    int moves(int state) {
        if (!usable()) return NOT;
        return in(state, states) ? moves.get(state).size() : UNKNOWN;
    }

    int move(int state, int i, int what) {
        if (!usable()) return NOT;
        if (!in(state, states) || !in(i, moves.get(state))) return UNKNOWN;
        if (what < 0 || what > 3) return OUTSIDE;
        Move m = moves.get(state).get(i);
        return new int[] {m.to(), m.role(), m.member(), m.step()}[what];
    }

    int depth(int state) {
        if (!usable()) return NOT;
        if (!in(state, states)) return UNKNOWN;
        int d = 0;
        for (int s = state; s != 0; s = came.get(s)[0]) d++;
        return d;
    }

    int came(int state, int what) {
        if (!usable()) return NOT;
        if (!in(state, states)) return UNKNOWN;
        if (what < 0 || what > 1) return OUTSIDE;
        return came.get(state)[what];
    }

    int stuck() {
        if (!usable()) return NOT;
        for (int s = 0; s < states.size(); s++) {
            boolean moving = false, waiting = false;
            for (Move m : moves.get(s)) moving |= m.role() != NONE;
            for (int r = 0; r < roles.size(); r++) {
                for (List<Integer> m : states.get(s).members.get(r)) waiting |= !roles.get(r).ends.contains(m.get(0));
            }
            if (!moving && waiting) return s;
        }
        return NONE;
    }

    int fault(int what) {
        if (what < 0 || what > 3) return OUTSIDE;
        if (!usable()) return NOT;
        return fault == null ? NONE : fault[what];
    }

    int always(int e) {
        if (!in(e, exprs)) return UNKNOWN;
        if (ownedExpr(e)) return OWNED;
        if (!usable()) return NOT;
        for (int s = 0; s < states.size(); s++) {
            if (plain(e, s) == 0) return s;
        }
        return NONE;
    }

    /** Which states can be come to by one or more moves through states within. */
    private boolean[][] reach(boolean[] within) {
        int n = states.size();
        boolean[][] all = new boolean[n][n];
        for (int s = 0; s < n; s++) {
            if (!within[s]) continue;
            List<Integer> todo = new ArrayList<>(List.of(s));
            while (!todo.isEmpty()) {
                for (Move m : moves.get(todo.remove(todo.size() - 1))) {
                    if (within[m.to()] && !all[s][m.to()]) {
                        all[s][m.to()] = true;
                        todo.add(m.to());
                    }
                }
            }
        }
        return all;
    }

    private boolean[] knots(boolean[] within, boolean[][] reach, boolean fair) {
        int n = states.size();
        boolean[] tied = new boolean[n];
        for (int s = 0; s < n; s++) {
            if (!within[s] || !reach[s][s]) continue;
            Set<Integer> knot = new TreeSet<>();
            for (int t = 0; t < n; t++) {
                if (reach[s][t] && reach[t][s]) knot.add(t);
            }
            int least = knot.iterator().next();
            if (least < s) {
                tied[s] = tied[least];
                continue;
            }
            boolean moving = false;
            for (int x : knot) {
                for (Move m : moves.get(x)) moving |= m.role() != NONE && knot.contains(m.to());
            }
            boolean good = moving;
            for (int r = 0; r < roles.size() && fair; r++) {
                for (int k = 0; k < roles.get(r).members; k++) good &= turn(knot, r, k);
            }
            tied[s] = good;
        }
        return tied;
    }

    private boolean turn(Set<Integer> knot, int role, int member) {
        for (int s : knot) {
            boolean able = false;
            for (Move m : moves.get(s)) {
                if (m.role() != role || m.member() != member) continue;
                if (knot.contains(m.to())) return true;
                able = true;
            }
            if (!able) return true;
        }
        return false;
    }

    int again(int e, boolean fair) {
        if (!in(e, exprs)) return UNKNOWN;
        if (ownedExpr(e)) return OWNED;
        if (!usable() || fair && alike) return NOT;
        boolean[] within = new boolean[states.size()];
        for (int s = 0; s < within.length; s++) within[s] = plain(e, s) == 0;
        boolean[] tied = knots(within, reach(within), fair);
        for (int s = 0; s < within.length; s++) {
            if (tied[s]) return s;
        }
        return NONE;
    }

    int fromTo(int p, int q, boolean fair) {
        if (!in(p, exprs) || !in(q, exprs)) return UNKNOWN;
        if (ownedExpr(p) || ownedExpr(q)) return OWNED;
        if (!usable() || fair && alike) return NOT;
        boolean[] within = new boolean[states.size()];
        for (int s = 0; s < within.length; s++) within[s] = plain(q, s) == 0;
        boolean[][] reach = reach(within);
        boolean[] tied = knots(within, reach, fair);
        for (int s = 0; s < within.length; s++) {
            if (!within[s] || plain(p, s) == 0) continue;
            for (int t = 0; t < within.length; t++) {
                if (tied[t] && (s == t || reach[s][t])) return s;
            }
        }
        return NONE;
    }

    int observe(int e) {
        if (!in(e, exprs)) return UNKNOWN;
        if (ownedExpr(e)) return OWNED;
        if (observed.contains(e)) return OUTSIDE;
        if (observed.size() == 8) return FULL;
        observed.add(e);
        divided = null;
        return observed.size();
    }

    /** The greatest relation that the document asks for: pairs go until none has to. */
    private int[] division() {
        if (divided == null) divided = divide();
        return divided;
    }

    private int[] divide() {
        int n = states.size();
        boolean[][] same = new boolean[n][n];
        for (int s = 0; s < n; s++) {
            for (int t = 0; t < n; t++) {
                same[s][t] = true;
                for (int e : observed) same[s][t] &= plain(e, s) == plain(e, t);
            }
        }
        boolean changed = true;
        while (changed) {
            changed = false;
            for (int s = 0; s < n; s++) {
                for (int t = 0; t < n; t++) {
                    if (same[s][t] && !(answers(s, t, same) && answers(t, s, same))) {
                        same[s][t] = false;
                        same[t][s] = false;
                        changed = true;
                    }
                }
            }
        }
        int[] number = new int[n];
        Arrays.fill(number, NONE);
        int many = 0;
        for (int s = 0; s < n; s++) {
            if (number[s] != NONE) continue;
            for (int t = s; t < n; t++) {
                if (same[s][t]) number[t] = many;
            }
            many++;
        }
        return number;
    }

    private boolean answers(int s, int t, boolean[][] same) {
        for (Move m : moves.get(s)) {
            boolean found = false;
            for (Move o : moves.get(t)) found |= same[m.to()][o.to()];
            if (!found) return false;
        }
        return true;
    }

    int classes() {
        if (!usable()) return NOT;
        return Arrays.stream(division()).max().getAsInt() + 1;
    }

    int classOf(int state) {
        if (!usable()) return NOT;
        return in(state, states) ? division()[state] : UNKNOWN;
    }

    int[] allClasses() {
        return division().clone();
    }

    int count(int what) {
        return switch (what) {
            case 0 -> shared.size();
            case 1 -> roles.size();
            case 2 -> channels.size();
            case 3 -> exprs.size();
            case 4 -> steps.size();
            case 5 -> observed.size();
            case 6 -> states.size();
            case 7 -> spent ? 1 : 0;
            default -> OUTSIDE;
        };
    }
}
