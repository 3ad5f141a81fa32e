import java.util.Random;

/** Random protocols, told to ProtocolBench and to NaiveBench alike: each answer must be the same. */
public final class RandomRunsTest {
    private static final Check check = new Check("RandomRunsTest");
    private static Random random;
    private static ProtocolBench x;
    private static NaiveBench y;
    private static int run;
    private static int searches, spent, stuck, faults, brokenAgain, brokenFair, brokenFrom, keptAgain, keptFrom, fairDiffers;

    private RandomRunsTest() {
    }

    private static void due(String call, int got, int want) {
        check.due("run " + run + ": " + call, got, want);
    }

    /** Mostly 0 .. most - 1, now and then beyond. */
    private static int near(int most) {
        return random.nextInt(25) == 0 ? random.nextInt(most + 4) - 2 : random.nextInt(Math.max(most, 1));
    }

    private static int wild(int most) {
        int w = random.nextInt(40);
        if (w == 0) return Integer.MIN_VALUE;
        if (w == 1) return Integer.MAX_VALUE;
        return w < 5 ? random.nextInt(12) - 3 : near(most);
    }

    private static void tellVariable(boolean own) {
        int low = random.nextInt(12) == 0 ? near(10) : 0;
        int high = Math.min(low + 1 + random.nextInt(random.nextInt(4) == 0 ? 8 : 3), random.nextInt(20) == 0 ? 12 : 9);
        int first = random.nextInt(20) == 0 ? wild(10) : low + random.nextInt(Math.max(1, high - low + 1));
        if (random.nextInt(40) == 0) {
            low = wild(10);
        }
        if (own) {
            int role = near(x.count(1));
            due("own(" + role + "," + low + "," + high + "," + first + ")", x.own(role, low, high, first), y.own(role, low, high, first));
        } else {
            due("shared(" + low + "," + high + "," + first + ")", x.shared(low, high, first), y.shared(low, high, first));
        }
    }

    private static void tellExpr(boolean plainOnly) {
        int kind = random.nextInt(60) == 0 ? wild(15) : random.nextInt(15);
        if (plainOnly && (kind == 3 || kind == 6)) {
            kind = 0;
        }
        if (kind == 2 && random.nextInt(2) == 0) {
            kind = 1;
        }
        int exprs = x.count(3);
        int a, b, c = near(3);
        if (kind == 0) {
            a = random.nextInt(30) == 0 ? random.nextInt() : random.nextInt(4);
            b = near(3);
        } else if (kind >= 7) {
            a = near(exprs);
            b = near(exprs);
        } else {
            a = kind == 1 ? near(x.count(0)) : kind == 2 ? near(random.nextInt(4) == 0 ? 2 : 1)
                : kind == 5 ? near(x.count(2)) : near(x.count(1));
            b = near(kind == 4 ? 4 : 3);
        }
        due("expr(" + kind + "," + a + "," + b + "," + c + ")", x.expr(kind, a, b, c), y.expr(kind, a, b, c));
    }

    private static void tellStep(int places) {
        int role = near(x.count(1));
        int from = random.nextInt(50) == 0 ? wild(10) : random.nextInt(places);
        int to = random.nextInt(50) == 0 ? wild(10) : random.nextInt(places);
        int guard = random.nextInt(3) == 0 ? near(x.count(3)) : -1;
        due("step(" + role + "," + from + "," + to + "," + guard + ")", x.step(role, from, to, guard), y.step(role, from, to, guard));
    }

    private static void tellAct() {
        int step = random.nextInt(3) == 0 ? near(x.count(4)) : x.count(4) - 1;
        int kind = random.nextInt(40) == 0 ? wild(4) : random.nextInt(4);
        int a = kind == 0 ? near(x.count(0)) : kind == 1 ? near(2) : near(x.count(2));
        int b = kind == 3 ? near(2) : near(x.count(3));
        due("act(" + step + "," + kind + "," + a + "," + b + ")", x.act(step, kind, a, b), y.act(step, kind, a, b));
    }

    private static void tellAll() {
        boolean plainOnly = random.nextInt(3) == 0;
        int places = 1 + random.nextInt(4);
        if (random.nextInt(2) == 0) {
            boolean on = plainOnly || random.nextInt(4) == 0;
            due("alike", x.alike(on), y.alike(on));
        }
        for (int i = random.nextInt(3); i >= 0; i--) {
            int members = random.nextInt(20) == 0 ? wild(5) : 1 + random.nextInt(3);
            due("role(" + members + ")", x.role(members), y.role(members));
        }
        for (int i = random.nextInt(3); i > 0; i--) {
            tellVariable(false);
        }
        for (int i = random.nextInt(4); i > 0; i--) {
            tellVariable(true);
        }
        for (int i = random.nextInt(3); i > 0; i--) {
            int room = random.nextInt(20) == 0 ? wild(5) : 1 + random.nextInt(3);
            boolean loose = random.nextBoolean(), loses = random.nextBoolean();
            due("channel(" + room + ")", x.channel(room, loose, loses), y.channel(room, loose, loses));
        }
        for (int i = 3 + random.nextInt(12); i > 0; i--) {
            tellExpr(plainOnly);
        }
        for (int i = 2 + random.nextInt(8); i > 0; i--) {
            tellStep(places);
            for (int k = random.nextInt(4); k > 0; k--) {
                tellAct();
            }
        }
        for (int i = random.nextInt(4); i > 0; i--) {
            int role = near(x.count(1)), place = near(places);
            due("end", x.end(role, place), y.end(role, place));
        }
    }

    private static void askState(int s) {
        due("moves " + s, x.moves(s), y.moves(s));
        due("depth " + s, x.depth(s), y.depth(s));
        for (int i = -1; i <= x.moves(s); i++) {
            for (int what = -1; what <= 4; what++) {
                due("move " + s + " " + i + " " + what, x.move(s, i, what), y.move(s, i, what));
            }
        }
        for (int what = -1; what <= 2; what++) {
            due("came " + s, x.came(s, what), y.came(s, what));
        }
        for (int r = -1; r <= 3; r++) {
            for (int m = -1; m <= 3; m++) {
                due("place " + s, x.place(s, r, m), y.place(s, r, m));
                for (int v = -1; v <= 3; v++) {
                    due("owned " + s, x.owned(s, r, m, v), y.owned(s, r, m, v));
                }
            }
        }
        for (int c = -1; c <= 3; c++) {
            for (int i = -1; i <= 3; i++) {
                due("letter " + s, x.letter(s, c, i), y.letter(s, c, i));
            }
        }
        for (int e = -1; e <= x.count(3); e++) {
            due("tells " + s + " " + e, x.tells(s, e), y.tells(s, e));
        }
    }

    private static void askPromises() {
        for (int e = -1; e <= x.count(3); e++) {
            due("always " + e, x.always(e), y.always(e));
            int free = x.again(e, false), fair = x.again(e, true);
            due("again " + e, free, y.again(e, false));
            due("again fair " + e, fair, y.again(e, true));
            brokenAgain += free >= 0 ? 1 : 0;
            brokenFair += fair >= 0 ? 1 : 0;
            keptAgain += free == -1 ? 1 : 0;
            fairDiffers += free != fair && fair > -5 ? 1 : 0;
            int q = near(x.count(3));
            boolean turn = random.nextBoolean();
            int from = x.fromTo(e, q, turn);
            due("fromTo " + e + " " + q, from, y.fromTo(e, q, turn));
            brokenFrom += from >= 0 ? 1 : 0;
            keptFrom += from == -1 ? 1 : 0;
        }
    }

    private static void askClasses() {
        due("classes", x.classes(), y.classes());
        if (x.classes() < 0) {
            due("classOf", x.classOf(0), y.classOf(0));
            return;
        }
        int[] want = y.allClasses();
        for (int s = 0; s < want.length; s++) {
            due("classOf " + s, x.classOf(s), want[s]);
        }
        due("classOf beyond", x.classOf(want.length), -2);
    }

    private static void askAll() {
        int got = x.search();
        due("search", got, y.search());
        searches++;
        spent += got == -7 ? 1 : 0;
        for (int what = -1; what <= 8; what++) {
            due("count " + what, x.count(what), y.count(what));
            due("fault " + what, x.fault(what), y.fault(what));
        }
        int all = x.count(6);
        faults += x.fault(0) >= 0 ? 1 : 0;
        int at = x.stuck();
        stuck += at >= 0 ? 1 : 0;
        due("stuck", at, y.stuck());
        for (int s = -1; s <= all; s++) {
            if (all < 40 || s < 20 || s > all - 5 || random.nextInt(20) == 0) {
                askState(s);
            }
        }
        askPromises();
        askClasses();
        for (int i = random.nextInt(3); i > 0; i--) {
            int e = near(x.count(3));
            due("observe " + e, x.observe(e), y.observe(e));
            askClasses();
        }
    }

    public static void main(String[] args) {
        int runs = args.length > 0 ? Integer.parseInt(args[0]) : 600;
        int firstRun = args.length > 1 ? Integer.parseInt(args[1]) : 1;
        for (run = firstRun; run < firstRun + runs && check.isClean(); run++) {
            random = new Random(run);
            x = new ProtocolBench();
            y = new NaiveBench();
            if (random.nextInt(10) == 0) {
                askAll();
            }
            tellAll();
            askAll();
            for (int more = random.nextInt(3); more > 0; more--) {
                for (int i = random.nextInt(5); i >= 0; i--) {
                    tellExpr(false);
                    tellStep(4);
                    tellAct();
                }
                for (int what = 0; what <= 7; what++) {
                    due("count " + what, x.count(what), y.count(what));
                }
                askAll();
            }
        }
        System.out.println("searches " + searches + ", spent " + spent + ", stuck " + stuck + ", faults " + faults
            + ", again broken " + brokenAgain + " fair " + brokenFair + " kept " + keptAgain + " differ " + fairDiffers
            + ", fromTo broken " + brokenFrom + " kept " + keptFrom);
        check.holds("the runs come to all that they are for",
            spent > 0 && stuck > 0 && faults > 0 && brokenFair > 0 && keptAgain > 0 && fairDiffers > 0 && brokenFrom > 0 && keptFrom > 0);
        check.finish();
    }
}
