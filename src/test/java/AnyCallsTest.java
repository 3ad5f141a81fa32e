import java.util.Random;

/**
 * Calls of any sort in any order, with arguments around all the numbers that the document names, up to
 * the 512 calls that an object is for: ProtocolBench and NaiveBench must answer each alike.
 */
public final class AnyCallsTest {
    private static final int CALLS = 512;
    private static final int[] EDGES = {Integer.MIN_VALUE, -3, -2, -1, 0, 1, 2, 3, 4, 5, 6, 7, 8, 9, 10, 14, 15, 23, 24, 25, 79,
        80, 81, 399, 400, 401, 6000, Integer.MAX_VALUE};
    private static final Check check = new Check("AnyCallsTest");
    private static Random random;
    private static ProtocolBench x;
    private static NaiveBench y;
    private static int run;
    private static final int[] refusals = new int[8];
    /** How many of the calls tell something: such runs come to what is FULL, others ask more. */
    private static int tellingOf10;

    private AnyCallsTest() {
    }

    private static int any(int most) {
        int w = random.nextInt(30);
        if (w == 0) {
            return EDGES[random.nextInt(EDGES.length)];
        }
        if (w == 1) {
            return most;
        }
        return w == 2 ? -1 : random.nextInt(Math.max(1, most));
    }

    private static void due(String call, int got, int want) {
        check.due("run " + run + ": " + call, got, want);
        if (got < 0 && got >= -7) {
            refusals[-got]++;
        }
    }

    private static void tell() {
        int a = any(10), b = any(10), c = any(10);
        boolean p = random.nextBoolean(), q = random.nextBoolean();
        switch (random.nextInt(22)) {
            case 0 -> due("shared " + a + " " + b + " " + c, x.shared(a, b, c), y.shared(a, b, c));
            case 1 -> {
                int members = any(4);
                due("role " + members, x.role(members), y.role(members));
            }
            case 2 -> {
                int role = any(y.count(1));
                due("own " + role, x.own(role, a, b, c), y.own(role, a, b, c));
            }
            case 3 -> {
                int role = any(y.count(1));
                due("end " + role + " " + a, x.end(role, a), y.end(role, a));
            }
            case 4 -> {
                int room = any(4);
                due("channel " + room, x.channel(room, p, q), y.channel(room, p, q));
            }
            case 5 -> {
                boolean on = random.nextInt(4) == 0;
                due("alike " + on, x.alike(on), y.alike(on));
            }
            case 6, 7, 8 -> {
                int role = any(y.count(1)), guard = random.nextInt(3) > 0 ? -1 : any(y.count(3));
                int from = random.nextInt(8) == 0 ? a : random.nextInt(3), to = random.nextInt(8) == 0 ? b : random.nextInt(3);
                due("step " + role, x.step(role, from, to, guard), y.step(role, from, to, guard));
            }
            case 9, 10, 11, 12, 13 -> {
                int kind = any(4), step = any(y.count(4));
                int target = any(kind == 0 ? y.count(0) : kind == 1 ? 2 : y.count(2));
                int by = kind == 3 ? any(2) : any(y.count(3));
                due("act " + step + " " + kind + " " + target + " " + by, x.act(step, kind, target, by), y.act(step, kind, target, by));
            }
            default -> tellExpr();
        }
    }

    private static void tellExpr() {
        int kind = any(15), many = y.count(3);
        if ((kind == 2 || kind == 3 || kind == 6) && random.nextInt(12) > 0) {
            kind = 1;
        }
        int a = kind >= 7 ? any(many) : kind == 0 ? any(10) : kind == 1 ? any(y.count(0)) : any(3);
        int b = kind >= 7 ? any(many) : kind == 4 ? any(10) : any(3);
        int c = any(3);
        due("expr " + kind + " " + a + " " + b + " " + c, x.expr(kind, a, b, c), y.expr(kind, a, b, c));
    }

    private static void ask() {
        int s = any(y.count(6)), e = any(y.count(3)), f = any(y.count(3));
        int what = any(9), a = any(4), b = any(4), c = any(3);
        boolean fair = random.nextBoolean();
        switch (random.nextInt(19)) {
            case 0 -> due("tells " + s + " " + e, x.tells(s, e), y.tells(s, e));
            case 1 -> due("place " + s + " " + a + " " + b, x.place(s, a, b), y.place(s, a, b));
            case 2 -> due("owned " + s + " " + a + " " + b + " " + c, x.owned(s, a, b, c), y.owned(s, a, b, c));
            case 3 -> due("letter " + s + " " + a + " " + b, x.letter(s, a, b), y.letter(s, a, b));
            case 4 -> due("moves " + s, x.moves(s), y.moves(s));
            case 5, 6 -> due("move " + s + " " + a + " " + b, x.move(s, a, b), y.move(s, a, b));
            case 7 -> due("depth " + s, x.depth(s), y.depth(s));
            case 8 -> due("came " + s + " " + c, x.came(s, c), y.came(s, c));
            case 9 -> due("stuck", x.stuck(), y.stuck());
            case 10 -> due("fault " + a, x.fault(a), y.fault(a));
            case 11 -> due("always " + e, x.always(e), y.always(e));
            case 12, 13 -> due("again " + e + " " + fair, x.again(e, fair), y.again(e, fair));
            case 14 -> due("fromTo " + e + " " + f + " " + fair, x.fromTo(e, f, fair), y.fromTo(e, f, fair));
            case 15 -> due("observe " + e, x.observe(e), y.observe(e));
            case 16 -> due("classes", x.classes(), y.classes());
            case 17 -> due("classOf " + s, x.classOf(s), y.classOf(s));
            default -> due("count " + what, x.count(what), y.count(what));
        }
    }

    private static void calls() {
        for (int call = 0; call < CALLS && check.isClean(); call++) {
            if (random.nextInt(10) < tellingOf10 && (call < CALLS / 2 || random.nextInt(10) == 0)) {
                tell();
            } else if (y.count(6) == 0 && random.nextInt(3) > 0) {
                due("search", x.search(), y.search());
            } else {
                ask();
            }
        }
    }

    public static void main(String[] args) {
        int runs = args.length > 0 ? Integer.parseInt(args[0]) : 60;
        int firstRun = args.length > 1 ? Integer.parseInt(args[1]) : 1;
        for (run = firstRun; run < firstRun + runs && check.isClean(); run++) {
            random = new Random(run);
            x = new ProtocolBench();
            y = new NaiveBench();
            tellingOf10 = 2 + random.nextInt(8);
            calls();
        }
        StringBuilder seen = new StringBuilder("answers -1 .. -7:");
        for (int r = 1; r <= 7; r++) {
            seen.append(' ').append(refusals[r]);
            check.holds("the runs come to the answer " + -r, refusals[r] > 0);
        }
        System.out.println(seen);
        check.finish();
    }
}
