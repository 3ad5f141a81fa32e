/** Each sentence of the document that says what happens at an edge, in the document's order. */
public final class EdgeTest {
    private static final int NONE = -1, UNKNOWN = -2, OUTSIDE = -3, OWNED = -4, NOT = -5, SPENT = -7;
    private static final int LEAST = Integer.MIN_VALUE, GREATEST = Integer.MAX_VALUE;
    private static final Check check = new Check("EdgeTest");
    private static String sentence = "";

    private EdgeTest() {
    }

    private static void due(String call, int got, int want) {
        check.due(sentence + ": " + call, got, want);
    }

    /** ROLE 0 with so many MEMBERS, and OWN VARIABLES 0 .. 9 with these first values. */
    private static ProtocolBench bench(int members, int... firsts) {
        ProtocolBench x = new ProtocolBench();
        x.role(members);
        for (int first : firsts) {
            x.own(0, 0, 9, first);
        }
        return x;
    }

    /** All LETTERS of a CHANNEL in a STATE as one number, first to last; -1 if there are none. */
    private static int letters(ProtocolBench x, int state, int channel) {
        int all = -1;
        for (int i = 0; i < 3 && x.letter(state, channel, i) != NONE; i++) {
            all = Math.max(all, 0) * 10 + x.letter(state, channel, i);
        }
        return all;
    }

    // ---- Terms: EXPRS

    private static void emptyAtFirst() {
        sentence = "each MEMBER is at a PLACE (0 at first), CHANNELS are empty at first";
        ProtocolBench x = bench(3, 7);
        x.channel(3, true, true);
        int at0 = x.expr(4, 0, 0, 0), held = x.expr(5, 0, 0, 0);
        x.search();
        for (int m = 0; m < 3; m++) {
            due("place of " + m, x.place(0, 0, m), 0);
            due("own of " + m, x.owned(0, 0, m, 0), 7);
        }
        due("all at 0", x.tells(0, at0), 3);
        due("held", x.tells(0, held), 0);
        due("letter(0, 0, 0)", x.letter(0, 0, 0), NONE);
        due("nothing can be lost", x.moves(0), 0);
    }

    private static void wrapping() {
        sentence = "7 a + b, 8 a - b, 9 a b (wrapping)";
        int[][] rows = {
            {7, GREATEST, 1, LEAST}, {7, LEAST, -1, GREATEST}, {7, LEAST, LEAST, 0}, {7, GREATEST, GREATEST, -2},
            {8, LEAST, 1, GREATEST}, {8, GREATEST, -1, LEAST}, {8, 0, LEAST, LEAST}, {8, LEAST, GREATEST, 1},
            {9, GREATEST, 2, -2}, {9, LEAST, 2, 0}, {9, LEAST, -1, LEAST}, {9, 65536, 65536, 0}, {9, 65536, 32768, LEAST},
            {9, 46341, 46341, -2147479015}, {9, GREATEST, GREATEST, 1}, {7, 2, -2, 0}, {8, 3, 3, 0}, {9, 5, 0, 0}};
        for (int[] row : rows) {
            ProtocolBench x = new ProtocolBench();
            Tell.number(x, row[1]);
            Tell.number(x, row[2]);
            x.expr(row[0], 0, 1, 0);
            x.search();
            due(row[0] + " of " + row[1] + ", " + row[2], x.tells(0, 2), row[3]);
        }
    }

    private static void comparing() {
        sentence = "10 the same, 11 below, 12 BOTH, 13 EITHER, 14 NOT";
        int[] numbers = {LEAST, -1, 0, 1, 2, GREATEST};
        for (int a : numbers) {
            for (int b : numbers) {
                ProtocolBench x = new ProtocolBench();
                Tell.number(x, a);
                Tell.number(x, b);
                for (int kind = 10; kind <= 14; kind++) {
                    x.expr(kind, 0, 1, 0);
                }
                x.search();
                String of = " of " + a + ", " + b;
                due("10" + of, x.tells(0, 2), a == b ? 1 : 0);
                due("11" + of, x.tells(0, 3), a < b ? 1 : 0);
                due("12" + of, x.tells(0, 4), a != 0 && b != 0 ? 1 : 0);
                due("13" + of, x.tells(0, 5), a != 0 || b != 0 ? 1 : 0);
                due("14" + of, x.tells(0, 6), a == 0 ? 1 : 0);
            }
        }
        // An EXPR may be made of one elder one twice.
        ProtocolBench y = new ProtocolBench();
        Tell.number(y, 3);
        for (int kind = 7; kind <= 13; kind++) {
            y.expr(kind, 0, 0, 0);
        }
        y.search();
        int[] want = {6, 0, 9, 1, 0, 1, 1};
        for (int i = 0; i < 7; i++) {
            due((7 + i) + " of one twice", y.tells(0, 1 + i), want[i]);
        }
    }

    private static void whatAKindHasNot() {
        sentence = "What a KIND has not is not looked at";
        ProtocolBench x = bench(1, 4);
        x.shared(0, 9, 6);
        x.channel(1, false, false);
        int mine = x.expr(2, 0, LEAST, GREATEST), me = x.expr(3, LEAST, GREATEST, -1);
        due("NUMBER", x.expr(0, mine, mine, me), 2);
        due("SHARED", x.expr(1, 0, mine, -9), 3);
        due("how many", x.expr(4, 0, 0, -9), 4);
        due("LETTERS", x.expr(5, 0, -9, me), 5);
        due("NOT", x.expr(14, 3, mine, me), 6);
        due("NOT of another that is not there", x.expr(14, 3, 99, 99), 7);
        due("sum", x.expr(7, 3, 3, me), 8);
        due("6", x.expr(6, 0, 0, 0), 9);
        due("search()", x.search(), 1);
        int[] want = {0, 6, 1, 0, 0, 0, 12, 4};
        for (int e = 2; e < 10; e++) {
            due("it is not OWNED, " + e, x.tells(0, e), want[e - 2]);
        }
        due("OWN VARIABLE", x.always(mine), OWNED);
        due("its number", x.always(me), OWNED);
    }

    private static void owned() {
        sentence = "OWNED are those of 2, 3 and all that are made of such";
        for (int kind = 2; kind <= 3; kind++) {
            ProtocolBench x = bench(1, 4);
            Tell.number(x, 1);
            x.expr(kind, 0, 0, 0);
            due("at first", x.observe(1), OWNED);
            for (int made = 7; made <= 14; made++) {
                int left = x.expr(made, 1, made == 14 ? 99 : 0, 0);
                due(made + " by the first", x.observe(left), OWNED);
                if (made < 14) {
                    due(made + " by the second", x.observe(x.expr(made, 0, 1, 0)), OWNED);
                    due(made + " by none", x.observe(x.expr(made, 0, 0, 0)), made - 6);
                }
                due(made + " of such once more", x.observe(x.expr(9, 0, left, 0)), OWNED);
            }
        }
        ProtocolBench y = bench(2, 4);
        y.channel(1, false, false);
        y.shared(0, 1, 0);
        due("1", y.observe(y.expr(1, 0, 0, 0)), 1);
        due("4", y.observe(y.expr(4, 0, 0, 0)), 2);
        due("5", y.observe(y.expr(5, 0, 0, 0)), 3);
        due("6", y.observe(y.expr(6, 0, 1, 0)), 4);
        due("0", y.observe(y.expr(0, 3, 0, 0)), 5);
    }

    private static void forAMember() {
        sentence = "2 OWN VARIABLE a of the MEMBER. 3 its number. 6 OWN VARIABLE c of MEMBER b of ROLE a";
        // Each MEMBER of ROLE 0 gives its third VARIABLE its second one and its number; ROLE 1 its number.
        ProtocolBench x = bench(3, 1, 2, 3);
        x.role(2);
        x.own(1, 0, 9, 5);
        int second = x.expr(2, 1, 0, 0), me = x.expr(3, 0, 0, 0), sum = x.expr(7, second, me, 0);
        int s = x.step(0, 0, 1, NONE);
        x.act(s, 1, 2, sum);
        int t = x.step(1, 0, 1, me);
        x.act(t, 1, 0, me);
        int of0 = x.expr(6, 0, 0, 2), of2 = x.expr(6, 0, 2, 2), other = x.expr(6, 1, 1, 0), first = x.expr(6, 1, 0, 0);
        due("search()", x.search(), 16);
        int last = 15;
        for (int m = 0; m < 3; m++) {
            due("own 2 of " + m, x.owned(last, 0, m, 2), 2 + m);
            due("own 1 of " + m, x.owned(last, 0, m, 1), 2);
        }
        due("of 0", x.tells(last, of0), 2);
        due("of 2", x.tells(last, of2), 4);
        due("ROLE 1's MEMBER 1", x.tells(last, other), 1);
        due("ROLE 1's MEMBER 0, whose number is 0", x.tells(last, first), 5);
    }

    // ---- Terms: STEPS

    private static void guards() {
        sentence = "if it is at that PLACE, the GUARD is not 0";
        int[] guards = {LEAST, -1, 0, 1, GREATEST};
        for (int g : guards) {
            ProtocolBench x = bench(1);
            x.step(0, 0, 1, Tell.number(x, g));
            due("GUARD " + g, x.search(), g == 0 ? 1 : 2);
            due("a GUARD of 0 is no FAULT", x.fault(0), NONE);
        }
        ProtocolBench y = bench(1);
        y.step(0, 0, 1, NONE);
        due("no GUARD", y.search(), 2);
        ProtocolBench z = bench(1);
        z.step(0, 1, 0, NONE);
        z.step(0, 9, 0, NONE);
        due("not at that PLACE", z.search(), 1);
        // 0 EXPRS and GUARD 0: UNKNOWN, for NONE alone is none.
        due("GUARD 0 without EXPRS", z.step(0, 0, 1, 0), UNKNOWN);
        // Of its ROLE alone.
        ProtocolBench w = bench(1);
        w.role(1);
        w.step(1, 0, 1, NONE);
        due("search()", w.search(), 2);
        due("the other ROLE's STEP", w.place(1, 0, 0), 0);
        due("its own", w.place(1, 1, 0), 1);
    }

    private static void sendsAsTheyWere() {
        sentence = "each CHANNEL to which it SENDS holds less LETTERS than it may (as they were)";
        // RECEIVE, then SEND by a full CHANNEL: it cannot, though there would be room.
        ProtocolBench x = bench(1, 0);
        x.channel(1, false, false);
        Tell.send(x, 0, 1, 0, 5);
        int s = Tell.receive(x, 1, 2, 0, 0);
        due("search() without the SEND", x.search(), 3);
        x.act(s, 2, 0, 0);
        due("search()", x.search(), 2);
        due("no FAULT", x.fault(0), NONE);
        due("stuck()", x.stuck(), 1);
        // With one more room it can, and the LETTERS stand in order.
        ProtocolBench y = bench(1, 0);
        y.channel(2, false, false);
        Tell.send(y, 0, 1, 0, 5);
        int t = Tell.receive(y, 1, 2, 0, 0);
        y.act(t, 2, 0, Tell.number(y, 6));
        due("search() with room", y.search(), 3);
        due("RECEIVED", y.owned(2, 0, 0, 0), 5);
        due("left", letters(y, 2, 0), 6);
        // Two CHANNELS: one that is full is enough.
        ProtocolBench z = bench(1, 0);
        z.channel(1, false, false);
        z.channel(3, false, false);
        int one = Tell.number(z, 1);
        int u = z.step(0, 0, 0, NONE);
        z.act(u, 2, 1, one);
        z.act(u, 2, 0, one);
        due("search() by two", z.search(), 2);
        due("CHANNEL 1 holds one alone", letters(z, 1, 1), 1);
    }

    private static void receivesOnlyWhereSomeAre() {
        sentence = "each from which it RECEIVES holds some";
        ProtocolBench x = bench(1, 3);
        x.channel(2, true, false);
        int s = x.step(0, 0, 1, NONE);
        x.act(s, 2, 0, Tell.number(x, 1));
        due("search() with the SEND alone", x.search(), 2);
        x.act(s, 3, 0, 0);
        due("SEND, then RECEIVE from an empty one", x.search(), 1);
        due("no FAULT", x.fault(0), NONE);
        ProtocolBench y = bench(1, 3, 3);
        y.channel(1, false, false);
        y.channel(1, false, false);
        Tell.send(y, 0, 1, 0, 5);
        int t = Tell.receive(y, 1, 2, 0, 0);
        due("search() from one", y.search(), 3);
        y.act(t, 3, 1, 1);
        due("from two, one of them empty", y.search(), 2);
    }

    private static void onceEach() {
        sentence = "a second RECEIVE from one CHANNEL in a STEP, a second SEND to one, are refused when told";
        ProtocolBench x = bench(1, 0, 0);
        x.channel(3, false, false);
        x.channel(3, false, false);
        Tell.number(x, 1);
        x.step(0, 0, 1, NONE);
        x.step(0, 1, 2, NONE);
        due("RECEIVE", x.act(0, 3, 0, 0), 1);
        due("SEND by the same CHANNEL", x.act(0, 2, 0, 0), 2);
        due("a second RECEIVE into the same", x.act(0, 3, 0, 0), OUTSIDE);
        due("a second RECEIVE into another", x.act(0, 3, 0, 1), OUTSIDE);
        due("a second SEND", x.act(0, 2, 0, 0), OUTSIDE);
        due("RECEIVE from another", x.act(0, 3, 1, 0), 3);
        due("SEND to another", x.act(0, 2, 1, 0), 4);
        due("in another STEP", x.act(1, 3, 0, 0), 1);
        due("in another STEP", x.act(1, 2, 0, 0), 2);
        // VARIABLES may be given as often as wished.
        x.shared(0, 1, 0);
        x.step(0, 2, 3, NONE);
        due("SHARED", x.act(2, 0, 0, 0), 1);
        due("SHARED once more", x.act(2, 0, 0, 0), 2);
        due("OWN", x.act(2, 1, 0, 0), 3);
        due("OWN once more", x.act(2, 1, 0, 0), 4);
        // KIND 0 and 1 with the number of a CHANNEL that is sent to are no second SEND.
        x.step(0, 3, 4, NONE);
        due("SEND to CHANNEL 0", x.act(3, 2, 0, 0), 1);
        due("SHARED VARIABLE 0", x.act(3, 0, 0, 0), 2);
        due("OWN VARIABLE 0", x.act(3, 1, 0, 0), 3);
        due("RECEIVE from CHANNEL 0", x.act(3, 3, 0, 0), 4);
    }

    private static void doneInOrder() {
        sentence = "DONE: ACTS, then the PLACE; all EXPRS are reckoned in the STATE ahead of the STEP";
        // How many are at PLACE 0 and 1, how many LETTERS there are: all as ahead of the STEP.
        ProtocolBench x = bench(1, 9, 9);
        x.channel(1, false, false);
        x.shared(0, 9, 9);
        int at0 = x.expr(4, 0, 0, 0), at1 = x.expr(4, 0, 1, 0), held = x.expr(5, 0, 0, 0);
        int s = x.step(0, 0, 1, NONE);
        x.act(s, 2, 0, at0);
        x.act(s, 1, 0, held);
        x.act(s, 1, 1, at1);
        x.act(s, 0, 0, at0);
        int value = x.expr(1, 0, 0, 0);
        x.search();
        due("own 0", x.owned(1, 0, 0, 0), 0);
        due("own 1", x.owned(1, 0, 0, 1), 0);
        due("SENT", x.letter(1, 0, 0), 1);
        due("SHARED", x.tells(1, value), 1);
        due("the PLACE", x.place(1, 0, 0), 1);
        // The last of two ACTS on one VARIABLE stays, by RECEIVE too.
        ProtocolBench y = bench(1, 0);
        y.channel(1, false, false);
        Tell.send(y, 0, 1, 0, 7);
        int two = Tell.number(y, 2);
        int t = Tell.receive(y, 1, 2, 0, 0);
        y.act(t, 1, 0, two);
        int u = y.step(0, 1, 3, NONE);
        y.act(u, 1, 0, two);
        y.act(u, 3, 0, 0);
        due("search()", y.search(), 4);
        due("RECEIVE, then given", y.owned(2, 0, 0, 0), 2);
        due("given, then RECEIVE", y.owned(3, 0, 0, 0), 7);
    }

    private static void looseWays() {
        sentence = "by a LOOSE CHANNEL each of its LETTERS, one by one, is a WAY (of like ones the first alone)";
        int[][] rows = {{4, 4, 4}, {4, 4, 5}, {4, 5, 4}, {5, 4, 4}, {4, 5, 6}, {0, 9, 0}};
        int[][] ways = {{444}, {445, 544}, {454, 544}, {544, 454}, {456, 546, 645}, {90, 900}};
        for (int row = 0; row < rows.length; row++) {
            ProtocolBench x = bench(1, 8);
            x.channel(3, true, false);
            for (int i = 0; i < 3; i++) {
                Tell.send(x, i, i + 1, 0, rows[row][i]);
            }
            Tell.receive(x, 3, 4, 0, 0);
            String of = " of " + rows[row][0] + rows[row][1] + rows[row][2];
            due("search()" + of, x.search(), 4 + ways[row].length);
            due("moves(3)" + of, x.moves(3), ways[row].length);
            for (int w = 0; w < ways[row].length; w++) {
                int to = x.move(3, w, 0);
                int left = x.owned(to, 0, 0, 0) * 100 + x.letter(to, 0, 0) * 10 + x.letter(to, 0, 1);
                // RECEIVED, then what is left, in order.
                due("WAY " + w + of, left, ways[row][w]);
                due("one LETTER less" + of, x.letter(to, 0, 2), NONE);
            }
        }
        ProtocolBench y = bench(1, 8);
        y.channel(3, false, false);
        for (int i = 0; i < 3; i++) {
            Tell.send(y, i, i + 1, 0, 6 - i);
        }
        Tell.receive(y, 3, 4, 0, 0);
        due("not LOOSE: the first LETTER alone", y.search(), 5);
        due("RECEIVED", y.owned(4, 0, 0, 0), 6);
        due("left", letters(y, 4, 0), 54);
    }

    private static void looseAheadOfTheStep() {
        sentence = "(of those ahead of the STEP)";
        for (boolean sendFirst : new boolean[] {false, true}) {
            ProtocolBench x = bench(1, 0);
            x.channel(3, true, false);
            Tell.send(x, 0, 1, 0, 4);
            Tell.send(x, 1, 2, 0, 5);
            int six = Tell.number(x, 6);
            int s = x.step(0, 2, 3, NONE);
            for (int i = 0; i < 2; i++) {
                if (sendFirst == (i == 0)) {
                    x.act(s, 2, 0, six);
                } else {
                    x.act(s, 3, 0, 0);
                }
            }
            due("search()", x.search(), 5);
            due("what it SENDS is no WAY", x.moves(2), 2);
            due("RECEIVED", x.owned(3, 0, 0, 0), 4);
            due("left", letters(x, 3, 0), 56);
            due("RECEIVED", x.owned(4, 0, 0, 0), 5);
            due("left", letters(x, 4, 0), 46);
        }
        // A SEND like the LETTER that is there: not the other way round.
        ProtocolBench y = bench(1, 0);
        y.channel(2, true, false);
        Tell.send(y, 0, 1, 0, 4);
        int s = y.step(0, 1, 1, NONE);
        y.act(s, 2, 0, Tell.number(y, 4));
        y.act(s, 3, 0, 0);
        due("search()", y.search(), 3);
        due("one WAY", y.moves(1), 1);
        due("a LETTER still", letters(y, 2, 0), 4);
    }

    private static void firstActSlowest() {
        sentence = "WAYS by CHANNELS' ACTS as told, the first ACT slowest, LETTERS first to last";
        ProtocolBench x = bench(1, 0, 0, 0);
        int place = 0;
        for (int c = 0; c < 3; c++) {
            x.channel(3, c != 1, false);
            for (int i = 0; i < 2; i++) {
                Tell.send(x, place, place + 1, c, 2 * c + i);
                place++;
            }
        }
        int s = x.step(0, 6, 7, NONE);
        x.act(s, 3, 2, 2);
        x.act(s, 3, 1, 1);
        x.act(s, 3, 0, 0);
        due("search()", x.search(), 11);
        due("moves(6)", x.moves(6), 4);
        int[] want = {24, 124, 25, 125};
        for (int i = 0; i < 4; i++) {
            int to = x.move(6, i, 0);
            due("WAY " + i, x.owned(to, 0, 0, 0) * 100 + x.owned(to, 0, 0, 1) * 10 + x.owned(to, 0, 0, 2), want[i]);
        }
        // Three LOOSE ones of three LETTERS each are 27 WAYS: the most that a STEP can have.
        ProtocolBench y = bench(1, 0, 0, 0);
        for (int c = 0; c < 3; c++) {
            y.channel(3, true, false);
        }
        for (int i = 0; i < 3; i++) {
            int t = y.step(0, i, i + 1, NONE);
            for (int c = 0; c < 3; c++) {
                y.act(t, 2, c, Tell.number(y, 3 * c + i));
            }
        }
        int all = y.step(0, 3, 4, NONE);
        for (int c = 0; c < 3; c++) {
            y.act(all, 3, c, c);
        }
        due("search()", y.search(), 4 + 27);
        due("moves(3)", y.moves(3), 27);
        for (int i = 0; i < 27; i++) {
            int to = y.move(3, i, 0);
            int got = y.owned(to, 0, 0, 0) * 100 + y.owned(to, 0, 0, 1) * 10 + y.owned(to, 0, 0, 2);
            due("WAY " + i, got, i / 9 * 100 + (3 + i / 3 % 3) * 10 + 6 + i % 3);
        }
    }

    private static void lost() {
        sentence = "By CHANNELS that LOSE each LETTER is a WAY, too, as a move of no MEMBER (of like ones the first alone)";
        int[][] rows = {{4, 4, 4}, {4, 4, 5}, {4, 5, 4}, {5, 4, 4}, {4, 5, 6}};
        int[][] left = {{44}, {45, 44}, {54, 44}, {44, 54}, {56, 46, 45}};
        for (boolean loose : new boolean[] {false, true}) {
            for (int row = 0; row < rows.length; row++) {
                ProtocolBench x = bench(1);
                x.channel(3, loose, true);
                for (int i = 0; i < 3; i++) {
                    Tell.send(x, i, i + 1, 0, rows[row][i]);
                }
                x.search();
                int full = NONE;
                for (int s = 0; s < x.count(6) && full == NONE; s++) {
                    full = x.letter(s, 0, 2) == NONE ? NONE : s;
                }
                String of = " of " + rows[row][0] + rows[row][1] + rows[row][2];
                due("what is lost" + of, x.moves(full), left[row].length);
                for (int i = 0; i < left[row].length; i++) {
                    int to = x.move(full, i, 0);
                    due("left" + of, letters(x, to, 0), left[row][i]);
                    due("the PLACE stays" + of, x.place(to, 0, 0), 3);
                    due("no ROLE" + of, x.move(full, i, 1), NONE);
                    due("no MEMBER" + of, x.move(full, i, 2), NONE);
                    due("no STEP" + of, x.move(full, i, 3), NONE);
                }
            }
        }
        ProtocolBench y = bench(1);
        y.channel(3, true, false);
        Tell.send(y, 0, 1, 0, 4);
        due("LOOSE ones that do not LOSE", y.search(), 2);
        due("nothing is lost", y.moves(1), 0);
    }

    private static void faultLeadsNowhere() {
        sentence = "is a FAULT: that WAY leads nowhere";
        // Of three WAYS of one STEP the middle one is a FAULT.
        ProtocolBench x = new ProtocolBench();
        x.role(1);
        x.own(0, 4, 6, 5);
        x.channel(3, true, false);
        for (int i = 0; i < 3; i++) {
            Tell.send(x, i, i + 1, 0, new int[] {4, 7, 6}[i]);
        }
        int s = Tell.receive(x, 3, 4, 0, 0);
        due("search()", x.search(), 6);
        due("moves(3)", x.moves(3), 2);
        due("the first", x.owned(x.move(3, 0, 0), 0, 0, 0), 4);
        due("the third", x.owned(x.move(3, 1, 0), 0, 0, 0), 6);
        due("fault(0)", x.fault(0), 3);
        due("fault(3)", x.fault(3), s);
        // Nothing of a FAULT stays: the SEND ahead of it is not done.
        ProtocolBench y = bench(1);
        y.shared(0, 1, 0);
        y.channel(2, false, false);
        int two = Tell.number(y, 2);
        int t = y.step(0, 0, 1, NONE);
        y.act(t, 2, 0, two);
        y.act(t, 0, 0, two);
        due("search()", y.search(), 1);
        due("moves(0)", y.moves(0), 0);
        due("letter", y.letter(0, 0, 0), NONE);
        // What a VARIABLE would get by wrapping.
        ProtocolBench z = bench(1);
        z.shared(0, 9, 0);
        int great = Tell.number(z, GREATEST), sum = z.expr(7, great, great, 0), three = Tell.number(z, 3);
        z.act(z.step(0, 0, 1, NONE), 0, 0, z.expr(7, sum, three, 0));
        z.act(z.step(0, 0, 2, NONE), 0, 0, sum);
        int value = z.expr(1, 0, 0, 0);
        due("search()", z.search(), 2);
        due("-2 + 3", z.tells(1, value), 1);
        due("-2", z.fault(3), 1);
    }

    // ---- STATES

    private static void spentAtOnce() {
        sentence = "Where a 401st would be, the SEARCH is SPENT at once";
        ProtocolBench x = new ProtocolBench();
        int last = Tell.line(x, 401);
        due("search()", x.search(), SPENT);
        due("once more", x.search(), SPENT);
        due("count(6)", x.count(6), 400);
        due("count(7)", x.count(7), 1);
        due("observe ends it not", x.observe(last), 1);
        due("count(7)", x.count(7), 1);
        due("classes()", x.classes(), NOT);
        due("end", x.end(0, 3), 0);
        due("count(6)", x.count(6), 0);
        due("count(7)", x.count(7), 0);
        due("search() anew", x.search(), SPENT);
        // MEMBERS taken together: what was SPENT is so no more.
        ProtocolBench y = new ProtocolBench();
        for (int r = 0; r < 3; r++) {
            y.role(3);
            y.step(r, 0, 1, NONE);
        }
        due("512", y.search(), SPENT);
        due("alike", y.alike(true), 0);
        due("4 * 4 * 4", y.search(), 64);
        due("count(7)", y.count(7), 0);
        due("stuck()", y.stuck(), 63);
        due("alike", y.alike(false), 1);
        due("512", y.search(), SPENT);
        due("count(7)", y.count(7), 1);
        due("moves(0)", y.moves(0), NOT);
    }

    /** The last STATE of a line SENDS 1, then 2; one of the two WAYS to RECEIVE them would find the 401st. */
    private static void spentAmidWays(int states) {
        sentence = "SPENT at once, and a SEARCH made anew starts from nothing, behind " + states;
        ProtocolBench x = new ProtocolBench();
        x.channel(2, true, false);
        x.channel(1, false, false);
        int last = Tell.line(x, states), one = Tell.number(x, 1);
        x.own(0, 0, 9, 0);
        x.act(x.step(0, 0, 1, last), 2, 0, one);
        Tell.send(x, 1, 2, 0, 2);
        Tell.receive(x, 2, 3, 0, 0);
        due("search()", x.search(), SPENT);
        due("count(6)", x.count(6), 400);
        // From the 100th STATE the line goes on no more, for CHANNEL 1 is empty; now that one SENDS.
        x.act(2, 3, 1, 0);
        int hundredth = Tell.both(x, Tell.same(x, 0, 9), Tell.same(x, x.expr(1, 1, 0, 0), 9));
        x.act(x.step(0, 0, 1, hundredth), 2, 0, one);
        due("search() anew", x.search(), 104);
        due("both WAYS", x.moves(101), 2);
        due("the first", x.owned(102, 0, 0, 0), 1);
        due("the second", x.owned(103, 0, 0, 0), 2);
        due("no FAULT", x.fault(0), NONE);
        due("count(7)", x.count(7), 0);
    }

    private static void madeAnew() {
        sentence = "A SEARCH must be made anew when something is told";
        for (int call = 0; call < 11; call++) {
            ProtocolBench x = bench(2, 3);
            x.channel(1, false, false);
            Tell.number(x, 1);
            x.step(0, 0, 1, NONE);
            x.end(0, 5);
            due("search()", x.search(), 4);
            int[] answers = {0, 1, 1, 0, 1, 1, 1, 1, 1, 0, 0};
            int got = switch (call) {
                case 0 -> x.shared(0, 1, 0);
                case 1 -> x.role(1);
                case 2 -> x.own(0, 0, 1, 0);
                case 3 -> x.end(0, 0);
                case 4 -> x.end(0, 5);
                case 5 -> x.channel(1, false, false);
                case 6 -> x.expr(0, 2, 0, 0);
                case 7 -> x.step(0, 8, 9, NONE);
                case 8 -> x.act(0, 1, 0, 0);
                case 9 -> x.alike(true);
                default -> x.alike(false);
            };
            due("call " + call, got, answers[call]);
            due("moves(0) behind call " + call, x.moves(0), NOT);
            due("stuck() behind call " + call, x.stuck(), NOT);
            due("count(6) behind call " + call, x.count(6), 0);
            due("search() behind call " + call, x.search(), call == 9 ? 3 : 4);
            due("moves(0) behind search() and call " + call, x.moves(0), 2);
        }
    }

    private static void foundBy() {
        sentence = "its WAY is from the STATE and MOVE by which it was found";
        // STATE 3 is come to from 1 and 2: the first one counts, by the first of two MOVES.
        ProtocolBench x = bench(1);
        int[][] ways = {{0, 1}, {0, 2}, {1, 0}, {1, 3}, {1, 3}, {2, 3}, {3, 0}};
        for (int[] way : ways) {
            x.step(0, way[0], way[1], NONE);
        }
        due("search()", x.search(), 4);
        due("came(3, 0)", x.came(3, 0), 1);
        due("came(3, 1)", x.came(3, 1), 1);
        due("depth(3)", x.depth(3), 2);
        due("STATE 0, though MOVES lead to it", x.came(0, 0), NONE);
        due("STATE 0, though MOVES lead to it", x.came(0, 1), NONE);
        due("depth(0)", x.depth(0), 0);
        // MOVES that lead nowhere are not counted among the numbers of MOVES.
        ProtocolBench y = bench(1);
        y.shared(0, 1, 0);
        y.act(y.step(0, 0, 5, NONE), 0, 0, Tell.number(y, 2));
        y.step(0, 0, 0, NONE);
        y.step(0, 0, 1, NONE);
        due("search()", y.search(), 2);
        due("came(1, 1)", y.came(1, 1), 1);
        due("move(0, 1, 3)", y.move(0, 1, 3), 2);
    }

    private static void firstStateAlone() {
        sentence = "STATES are numbered from 0, the first one";
        ProtocolBench x = new ProtocolBench();
        due("an empty bench", x.search(), 1);
        due("moves(0)", x.moves(0), 0);
        due("move(0, 0, 0)", x.move(0, 0, 0), UNKNOWN);
        due("depth(0)", x.depth(0), 0);
        due("came(0, 0)", x.came(0, 0), NONE);
        due("stuck(): there is no MEMBER", x.stuck(), NONE);
        due("fault(0)", x.fault(0), NONE);
        due("classes()", x.classes(), 1);
        due("classOf(0)", x.classOf(0), 0);
        due("place(0, 0, 0)", x.place(0, 0, 0), UNKNOWN);
        due("owned(0, 0, 0, 0)", x.owned(0, 0, 0, 0), UNKNOWN);
        due("letter(0, 0, 0)", x.letter(0, 0, 0), UNKNOWN);
        due("always(0)", x.always(0), UNKNOWN);
        Tell.number(x, 0);
        x.search();
        due("always(0)", x.always(0), 0);
        due("again(0)", x.again(0, false), NONE);
        due("again(0), fair", x.again(0, true), NONE);
        due("fromTo(0, 0)", x.fromTo(0, 0, true), NONE);
    }

    // ---- ALIKE

    private static void alikeByPlacesThenVariables() {
        sentence = "the MEMBERS of each ROLE stand by their PLACES, then OWN VARIABLES in order, rising";
        // A MEMBER that moves gets PLACE to and three values; the other one has 5, 5, 5 at PLACE 5.
        int[][] rows = {{6, 0, 0, 0, 1}, {4, 9, 9, 9, 0}, {5, 6, 0, 0, 1}, {5, 4, 9, 9, 0}, {5, 5, 6, 0, 1}, {5, 5, 4, 9, 0},
            {5, 5, 5, 6, 1}, {5, 5, 5, 4, 0}, {9, 9, 9, 9, 1}, {0, 0, 0, 0, 0}};
        for (int[] row : rows) {
            ProtocolBench x = bench(2, 5, 5, 5);
            x.alike(true);
            x.step(0, 0, 5, NONE);
            int both = x.expr(4, 0, 5, 0), two = x.expr(10, both, Tell.number(x, 2), 0);
            int s = x.step(0, 5, row[0], two);
            for (int v = 0; v < 3; v++) {
                x.act(s, 1, v, Tell.number(x, row[1 + v]));
            }
            x.search();
            due("both at 5", x.tells(2, two), 1);
            for (int m = 0; m < 2; m++) {
                int to = x.move(2, m, 0), moved = row[4], stayed = 1 - moved;
                due("its PLACE", x.place(to, 0, moved), row[0]);
                due("the other one's PLACE", x.place(to, 0, stayed), 5);
                for (int v = 0; v < 3; v++) {
                    due("its own " + v, x.owned(to, 0, moved, v), row[1 + v]);
                    due("the other one's " + v, x.owned(to, 0, stayed, v), 5);
                }
            }
            due("both lead to one STATE", x.move(2, 0, 0), x.move(2, 1, 0));
            due("MEMBERS as they stand", x.move(2, 0, 2) * 10 + x.move(2, 1, 2), 1);
        }
    }

    private static void alikeWithinRoles() {
        sentence = "the MEMBERS of each ROLE";
        ProtocolBench x = new ProtocolBench();
        for (int r = 0; r < 3; r++) {
            x.role(r + 1);
            x.step(r, 0, 3 - r, NONE);
        }
        due("not ALIKE", x.search(), 2 * 4 * 8);
        x.alike(true);
        due("ALIKE: 2, 3 and 4 ways to stand", x.search(), 2 * 3 * 4);
        for (int s = 0; s < 24; s++) {
            check.holds(sentence + ": they stand rising in " + s, x.place(s, 1, 0) <= x.place(s, 1, 1)
                && x.place(s, 2, 0) <= x.place(s, 2, 1) && x.place(s, 2, 1) <= x.place(s, 2, 2));
        }
        due("the MOVES of alike MEMBERS are counted each", x.moves(0), 6);
        due("to one STATE", x.move(0, 3, 0), x.move(0, 5, 0));
        due("by its MEMBER", x.move(0, 5, 2), 2);
        due("by its ROLE", x.move(0, 5, 1), 2);
    }

    private static void alikeRefuses() {
        sentence = "ALIKE: then no EXPR may be of 3 or 6";
        for (int kind = 0; kind <= 14; kind++) {
            ProtocolBench x = bench(1, 0);
            x.shared(0, 1, 0);
            x.channel(1, false, false);
            x.alike(true);
            Tell.number(x, 1);
            due("search() ahead", x.search(), 1);
            x.expr(kind, 0, 0, 0);
            boolean apart = kind == 3 || kind == 6;
            due("search() with KIND " + kind, x.search(), apart ? NOT : 1);
            due("count(6)", x.count(6), apart ? 0 : 1);
            due("count(7)", x.count(7), 0);
            x.alike(false);
            due("search() when it is off", x.search(), 1);
            due("on again", x.alike(true), 0);
            due("search() when it is on again", x.search(), apart ? NOT : 1);
        }
    }

    private static void alikeTells() {
        sentence = "ALIKE is on, or not: whether it was (1, 0)";
        ProtocolBench x = new ProtocolBench();
        boolean was = false;
        boolean[] turns = {false, true, true, false, false, true, false};
        for (boolean on : turns) {
            due("alike(" + on + ")", x.alike(on), was ? 1 : 0);
            was = on;
        }
    }

    // ---- search

    private static void usedByRoles() {
        sentence = "an EXPR of 2 names a VARIABLE that a ROLE whose STEP uses it has not";
        for (int variables = 0; variables <= 3; variables++) {
            for (int named = 0; named < 3; named++) {
                for (int how = 0; how < 6; how++) {
                    ProtocolBench x = bench(1);
                    x.role(1);
                    for (int v = 0; v < 3; v++) {
                        x.own(1, 0, 9, 0);
                    }
                    for (int v = 0; v < variables; v++) {
                        x.own(0, 0, 9, 0);
                    }
                    x.channel(1, false, false);
                    x.shared(0, 9, 0);
                    int mine = x.expr(2, named, 0, 0), plain = Tell.number(x, 0);
                    int deep = x.expr(7, plain, x.expr(12, mine, plain, 0), 0);
                    x.step(1, 0, 0, deep);
                    due("used by the ROLE that has it", x.search(), 1);
                    int s = x.step(0, 7, 8, how == 0 ? mine : how == 1 ? deep : NONE);
                    if (how == 2) {
                        x.act(s, 0, 0, mine);
                    } else if (how == 3) {
                        x.act(s, 2, 0, deep);
                    } else if (how == 4 && variables > 0) {
                        x.act(s, 1, 0, mine);
                    }
                    boolean uses = how < 4 || (how == 4 && variables > 0);
                    due(named + " of " + variables + ", use " + how, x.search(), uses && named >= variables ? NOT : 1);
                }
            }
        }
    }

    private static void usedByEachRole() {
        sentence = "a VARIABLE that a ROLE whose STEP uses it has not, whichever ROLE that is";
        for (int lacking = 0; lacking < 3; lacking++) {
            ProtocolBench x = new ProtocolBench();
            for (int r = 0; r < 3; r++) {
                x.role(1);
                x.own(r, 0, 9, 0);
            }
            for (int r = 0; r < 3; r++) {
                due("a second of " + r, r == lacking ? 1 : x.own(r, 0, 9, 0), 1);
            }
            int second = x.expr(2, 1, 0, 0);
            for (int r = 0; r < 3; r++) {
                x.step(r, 0, 1, r == lacking ? NONE : second);
            }
            due("used by the others alone", x.search(), 2);
            x.step(lacking, 5, 5, second);
            due("used by " + lacking, x.search(), NOT);
            x.own(lacking, 0, 9, 0);
            due("it has it now", x.search(), 2);
        }
    }

    // ---- STUCK, FAULT

    private static void stuckOrNot() {
        sentence = "STUCK is a STATE from which no MOVE by a MEMBER leads, where a MEMBER is at a PLACE that is no END of its ROLE";
        ProtocolBench x = bench(3);
        x.role(1);
        due("search()", x.search(), 1);
        due("all at no END", x.stuck(), 0);
        x.end(0, 0);
        x.search();
        due("one at no END of its ROLE, though of another", x.stuck(), 0);
        x.end(1, 0);
        x.search();
        due("all at ENDS", x.stuck(), NONE);
        // An END stops no MOVE, and a STATE where one still moves is not STUCK.
        ProtocolBench y = bench(1);
        y.role(1);
        y.end(0, 0);
        y.step(0, 0, 0, NONE);
        due("search()", y.search(), 1);
        due("one moves for ever, the other one waits", y.stuck(), NONE);
        // The first of two.
        ProtocolBench z = bench(1);
        z.step(0, 0, 1, NONE);
        z.step(0, 0, 2, NONE);
        z.step(0, 0, 3, NONE);
        z.end(0, 1);
        z.search();
        due("the first that is STUCK", z.stuck(), 2);
        z.end(0, 2);
        z.end(0, 3);
        z.search();
        due("none", z.stuck(), NONE);
        // PLACE 0 and 9 as ENDS.
        ProtocolBench w = bench(1);
        w.step(0, 0, 9, NONE);
        w.end(0, 0);
        w.search();
        due("at 9", w.stuck(), 1);
        w.end(0, 9);
        w.search();
        due("at the END 9", w.stuck(), NONE);
    }

    private static void firstFault() {
        sentence = "A FAULT is told by the first STATE and MEMBER, STEP";
        // In STATE 0 MEMBER 1 of ROLE 1 alone, by STEP 2 ahead of STEP 3; STATE 1 has others.
        ProtocolBench x = bench(1);
        x.role(2);
        x.shared(0, 1, 0);
        int me = x.expr(3, 0, 0, 0), two = Tell.number(x, 2), at1 = x.expr(4, 0, 1, 0);
        x.step(0, 0, 1, NONE);
        x.act(x.step(1, 0, 1, at1), 0, 0, two);
        x.act(x.step(1, 0, 1, me), 0, 0, two);
        x.act(x.step(1, 0, 2, me), 0, 0, two);
        x.act(x.step(0, 1, 2, NONE), 0, 0, two);
        due("search()", x.search(), 2);
        int[] want = {0, 1, 1, 2};
        for (int what = 0; what < 4; what++) {
            due("fault(" + what + ")", x.fault(what), want[what]);
        }
        due("MOVES of STATE 0", x.moves(0), 1);
        due("MOVES of STATE 1", x.moves(1), 0);
        due("FAULTS are no MOVES", x.stuck(), 1);
        // A new SEARCH forgets the FAULT of the one ahead: a RECEIVE more, and the STEP cannot be done.
        ProtocolBench y = bench(1, 0);
        y.channel(1, false, false);
        int s = y.step(0, 0, 1, NONE);
        y.act(s, 1, 0, Tell.number(y, 10));
        y.search();
        due("fault(0)", y.fault(0), 0);
        y.act(s, 3, 0, 0);
        y.search();
        for (int what = 0; what < 4; what++) {
            due("fault(" + what + ") anew", y.fault(what), NONE);
        }
    }

    // ---- promises

    private static void alwaysFirst() {
        sentence = "ALWAYS e: the first STATE where it is 0 breaks it";
        ProtocolBench x = bench(1);
        for (int p = 0; p < 9; p++) {
            x.step(0, p, p + 1, NONE);
            x.expr(4, 0, p, 0);
        }
        for (int p = 0; p < 9; p++) {
            Tell.not(x, p);
        }
        int minus = Tell.number(x, LEAST);
        x.search();
        for (int p = 0; p < 9; p++) {
            due("not at " + p, x.always(9 + p), p);
            due("at " + p, x.always(p), p == 0 ? 1 : 0);
        }
        due("less than 0 is not 0", x.always(minus), NONE);
    }

    private static void knots() {
        sentence = "A set of STATES is a KNOT, if from each of it each other one, and itself, can be come to";
        ProtocolBench x = bench(1);
        int never = Tell.number(x, 0), ever = Tell.number(x, -7);
        x.step(0, 0, 1, NONE);
        x.search();
        due("one STATE without a MOVE to itself is none", x.again(never, false), NONE);
        x.step(0, 1, 1, NONE);
        x.search();
        due("one STATE with a MOVE to itself is one", x.again(never, false), 1);
        due("none where e is not 0", x.again(ever, false), NONE);
        due("from 0 it can be come to", x.fromTo(ever, never, false), 0);
        // The least of several, whichever is gone through first: 0 -> 1 -> 3, 0 -> 2; 2 and 3 to themselves.
        ProtocolBench y = bench(1);
        int none = Tell.number(y, 0);
        int[][] ways = {{0, 1}, {0, 2}, {1, 3}, {3, 3}, {2, 2}};
        for (int[] way : ways) {
            y.step(0, way[0], way[1], NONE);
        }
        int at2 = y.expr(4, 0, 2, 0);
        y.search();
        due("the least", y.again(none, false), 2);
        due("the other one", y.again(at2, false), 3);
        due("from the least one itself", y.fromTo(at2, none, false), 2);
    }

    private static void fairTurns() {
        sentence = "It is FAIR, if for each MEMBER it has a MOVE of that within it, or a STATE in which that MEMBER has no MOVE";
        // MEMBER of ROLE 0 goes round; MEMBER of ROLE 1 may leave by a STEP with this GUARD.
        for (int guard = 0; guard < 3; guard++) {
            ProtocolBench x = bench(1);
            x.role(1);
            int at1 = x.expr(4, 0, 1, 0), gone = x.expr(4, 1, 1, 0);
            x.step(0, 0, 1, NONE);
            x.step(0, 1, 0, NONE);
            x.step(1, 0, 1, guard == 0 ? NONE : guard == 1 ? at1 : gone);
            x.search();
            due("not fair, GUARD " + guard, x.again(gone, false), 0);
            due("fair, GUARD " + guard, x.again(gone, true), guard == 0 ? NONE : 0);
            due("FROM, fair, GUARD " + guard, x.fromTo(at1, gone, true), guard == 0 ? NONE : 1);
        }
        // A FAULT is no MOVE: the MEMBER that could only do that has none.
        ProtocolBench y = bench(1);
        y.role(1);
        y.shared(0, 1, 0);
        int never = Tell.number(y, 0);
        y.step(0, 0, 0, NONE);
        y.act(y.step(1, 0, 1, NONE), 0, 0, Tell.number(y, 2));
        y.search();
        due("a FAULT is no MOVE", y.again(never, true), 0);
        // Each MEMBER of one ROLE by itself: one goes round while the other one could leave.
        ProtocolBench z = bench(2);
        int me = z.expr(3, 0, 0, 0), notMe = Tell.not(z, me), out = z.expr(4, 0, 2, 0);
        z.step(0, 0, 1, notMe);
        z.step(0, 1, 0, notMe);
        z.step(0, 0, 2, me);
        z.search();
        due("not fair", z.again(out, false), 0);
        due("fair to MEMBER 1", z.again(out, true), NONE);
        // A MOVE within it is enough, though another MOVE of that MEMBER leads out.
        ProtocolBench w = bench(1);
        w.role(1);
        int left = w.expr(4, 1, 1, 0);
        w.step(0, 0, 0, NONE);
        w.step(1, 0, 1, NONE);
        w.search();
        due("it must leave", w.again(left, true), NONE);
        w.step(1, 0, 0, NONE);
        w.search();
        due("it may stay", w.again(left, true), 0);
    }

    private static void fairByItself() {
        sentence = "It is FAIR (each KNOT by itself)";
        // ROLE 0 goes round at PLACE 1 or at 2 for ever; at 2 alone the other MEMBER has no MOVE.
        for (int first = 1; first <= 2; first++) {
            ProtocolBench x = bench(1);
            x.role(1);
            int at1 = x.expr(4, 0, 1, 0), at2 = x.expr(4, 0, 2, 0), gone = x.expr(4, 1, 1, 0);
            x.step(0, 0, first, NONE);
            x.step(0, 0, 3 - first, NONE);
            x.step(0, 1, 1, NONE);
            x.step(0, 2, 2, NONE);
            x.step(1, 0, 1, Tell.not(x, at2));
            x.search();
            due("from 1, not fair", x.fromTo(at1, gone, false), first == 1 ? 1 : 2);
            due("from 1, fair", x.fromTo(at1, gone, true), NONE);
            due("from 2, fair", x.fromTo(at2, gone, true), first == 2 ? 1 : 2);
            due("again, fair", x.again(gone, true), first == 2 ? 1 : 2);
            due("again, not fair", x.again(gone, false), 1);
        }
    }

    private static void lostIsNotForEver() {
        sentence = "what is lost; that a run may do too, but not for ever alone";
        // A MEMBER SENDS again and again what is lost; a second one waits for two LETTERS.
        ProtocolBench x = bench(1);
        x.channel(2, false, true);
        Tell.send(x, 0, 0, 0, 1);
        int held = x.expr(5, 0, 0, 0), two = Tell.same(x, held, 2), never = Tell.number(x, 0);
        due("search()", x.search(), 3);
        due("two are never held", x.again(two, false), 0);
        due("not even fair", x.again(two, true), 0);
        due("some are held again and again", x.again(held, false), NONE);
        due("a KNOT by what is lost", x.again(never, true), 0);
        // A way on by what is lost counts in FROM, and in the KNOT's being the greatest one.
        ProtocolBench y = bench(1);
        y.channel(1, false, true);
        Tell.send(y, 0, 1, 0, 1);
        int empty = Tell.not(y, y.expr(5, 0, 0, 0));
        int s = y.step(0, 1, 1, empty);
        int at0 = y.expr(4, 0, 0, 0), none = Tell.number(y, 0);
        due("search()", y.search(), 3);
        due("behind what is lost", y.again(none, false), 2);
        due("from the first STATE", y.fromTo(at0, none, false), 0);
        due("its STEP", y.move(2, 0, 3), s);
    }

    private static void fromToCounts() {
        sentence = "FROM p TO q: behind each STATE where p is not 0 (that one counts)";
        ProtocolBench x = bench(1);
        int[] at = new int[4];
        for (int p = 0; p < 4; p++) {
            x.step(0, p, p < 3 ? p + 1 : 3, NONE);
            at[p] = x.expr(4, 0, p, 0);
        }
        int ever = Tell.number(x, 1), never = Tell.number(x, 0), early = x.expr(13, at[0], at[1], 0);
        x.search();
        due("q in the STATE itself", x.fromTo(at[1], at[1], false), NONE);
        due("q behind it", x.fromTo(at[1], at[2], false), NONE);
        due("q ahead of it alone", x.fromTo(at[2], at[1], false), 2);
        due("q in the KNOT", x.fromTo(at[0], at[3], false), NONE);
        due("q nowhere", x.fromTo(at[3], never, false), 3);
        due("p nowhere", x.fromTo(never, never, false), NONE);
        due("the least of two", x.fromTo(early, never, false), 0);
        due("the least where q is 0", x.fromTo(ever, at[0], false), 1);
        due("through STATES where q is 0 alone", x.fromTo(at[0], at[2], false), NONE);
        due("p and q are one", x.fromTo(ever, ever, true), NONE);
        // A run that ends is no run without end.
        ProtocolBench y = bench(1);
        y.step(0, 0, 1, NONE);
        int yes = Tell.number(y, 1), no = Tell.number(y, 0);
        y.search();
        due("no run without end", y.fromTo(yes, no, false), NONE);
        due("no run without end", y.again(no, false), NONE);
    }

    // ---- CLASSES

    private static void classesOf() {
        sentence = "STATES are in one CLASS, if all OBSERVED tell the same there, and to each MOVE of one there is a MOVE of the other one";
        ProtocolBench x = bench(1);
        x.step(0, 0, 1, NONE);
        due("search()", x.search(), 2);
        due("one with a MOVE, one without", x.classes(), 2);
        x.step(0, 1, 1, NONE);
        x.search();
        due("both go on for ever", x.classes(), 1);
        int at1 = x.expr(4, 0, 1, 0);
        due("observe without a SEARCH", x.observe(at1), 1);
        due("classes() without one", x.classes(), NOT);
        x.search();
        due("told apart", x.classes(), 2);
        // "This ends no SEARCH", and CLASSES are those of all that is OBSERVED by now.
        ProtocolBench y = bench(1);
        int[] at = new int[4];
        for (int p = 0; p < 4; p++) {
            y.step(0, p, (p + 1) % 4, NONE);
            at[p] = y.expr(4, 0, p, 0);
        }
        int even = y.expr(13, at[0], at[2], 0), big = Tell.number(y, GREATEST), times = y.expr(9, big, at[3], 0);
        y.search();
        due("none OBSERVED", y.classes(), 1);
        due("observe", y.observe(even), 1);
        due("count(6)", y.count(6), 4);
        due("by twos", y.classes(), 2);
        due("classOf(3)", y.classOf(3), 1);
        due("observe", y.observe(times), 2);
        due("all four", y.classes(), 4);
        due("classOf(3)", y.classOf(3), 3);
        // EXPRS tell the same, not only whether they are 0.
        ProtocolBench z = bench(1);
        z.shared(0, 9, 1);
        z.act(z.step(0, 0, 1, NONE), 0, 0, Tell.number(z, 2));
        z.step(0, 1, 1, NONE);
        int value = z.expr(1, 0, 0, 0);
        z.observe(value);
        z.search();
        due("1 and 2 are not the same", z.classes(), 2);
    }

    private static void numberedByLeast() {
        sentence = "CLASSES are numbered from 0 by their least STATES";
        // PLACES 0 -> 1 -> 2 -> 3 -> 4 -> 5 and 0 -> 4: by MOVES alone the last ones are told apart first.
        ProtocolBench x = bench(1);
        for (int p = 0; p < 5; p++) {
            x.step(0, p, p + 1, NONE);
        }
        x.step(0, 0, 4, NONE);
        x.search();
        due("place(2)", x.place(2, 0, 0), 4);
        due("classes()", x.classes(), 6);
        for (int s = 0; s < 6; s++) {
            due("classOf(" + s + ")", x.classOf(s), s);
        }
        ProtocolBench y = bench(1);
        int[][] ways = {{0, 1}, {0, 2}, {0, 3}, {1, 9}, {2, 2}, {3, 8}, {9, 9}};
        for (int[] way : ways) {
            y.step(0, way[0], way[1], NONE);
        }
        y.search();
        // STATES: 0; 1 (ends in a ring), 2 (a ring), 3 (leads to 8), 9, 8.
        int[] want = {0, 1, 1, 2, 1, 3};
        due("search()", y.count(6), 6);
        for (int s = 0; s < 6; s++) {
            due("classOf(" + s + ")", y.classOf(s), want[s]);
        }
        due("classes()", y.classes(), 4);
    }

    private static void manyClasses() {
        sentence = "(the greatest such division), of many CLASSES";
        // A line of n STATES at PLACE 0, from each by 1 to 2, and only there it is OBSERVED which one it is.
        for (int n : new int[] {10, 11, 15, 16, 31, 32, 33, 34, 63, 64, 65, 100, 128, 133}) {
            ProtocolBench x = new ProtocolBench();
            Tell.line(x, n);
            x.step(0, 0, 1, NONE);
            x.step(0, 1, 2, NONE);
            int there = x.expr(4, 0, 2, 0);
            x.observe(there);
            for (int v = 0; v < 3; v++) {
                x.observe(x.expr(9, there, x.expr(1, v, 0, 0), 0));
            }
            due("search() by " + n, x.search(), 3 * n);
            due("classes() by " + n, x.classes(), 3 * n);
            for (int s = 0; s < 3 * n; s += 7) {
                due("classOf(" + s + ") by " + n, x.classOf(s), s);
            }
        }
        // As above, but only whether the last digit is 3 is OBSERVED: those that lead to like ones are one.
        ProtocolBench y = new ProtocolBench();
        Tell.line(y, 100);
        y.step(0, 0, 1, NONE);
        y.step(0, 1, 2, NONE);
        int there = y.expr(4, 0, 2, 0), at1 = y.expr(4, 0, 1, 0);
        y.observe(Tell.both(y, there, Tell.same(y, 0, 3)));
        y.observe(Tell.not(y, Tell.both(y, Tell.not(y, there), Tell.not(y, at1))));
        due("search()", y.search(), 300);
        due("100 of the line, 2 at PLACE 1, 2 at PLACE 2", y.classes(), 104);
    }

    /** Leads from a PLACE back to a STATE of the line; a STATE's number beyond the line is none. */
    private static void leadBack(ProtocolBench x, int place, int state) {
        if (state < 100) {
            int s = x.step(0, place, 0, NONE);
            x.act(s, 0, 0, Tell.number(x, state % 10));
            x.act(s, 0, 1, Tell.number(x, state / 10));
        }
    }

    private static void byOneMoveAlone() {
        sentence = "to each MOVE of one there is a MOVE of the other one, to STATES in one CLASS";
        // A line of 100 STATES, each OBSERVED; behind its last two more, which differ by where they lead alone.
        int[] targets = {0, 1, 30, 31, 32, 33, 62, 63, 64, 65, 95, 96, 99, 100};
        for (int one : targets) {
            for (int other : targets) {
                ProtocolBench x = new ProtocolBench();
                int last = Tell.line(x, 100), in = x.expr(4, 0, 0, 0);
                x.observe(in);
                x.observe(x.expr(9, in, 0, 0));
                x.observe(x.expr(9, in, x.expr(1, 1, 0, 0), 0));
                x.step(0, 0, 1, last);
                x.step(0, 0, 2, last);
                leadBack(x, 1, one);
                leadBack(x, 2, other);
                due("search() to " + one + ", " + other, x.search(), 102);
                due("classes() to " + one + ", " + other, x.classes(), one == other ? 101 : 102);
                due("classOf(101) to " + one + ", " + other, x.classOf(101), one == other ? 100 : 101);
            }
        }
    }

    private static void lostIsAMove() {
        sentence = "to each MOVE of one (of any sort) there is a MOVE of the other one";
        // STATE with a LETTER that can be lost only, and one where a MEMBER can go only.
        ProtocolBench x = bench(1);
        x.channel(1, false, true);
        Tell.send(x, 0, 1, 0, 1);
        x.step(0, 0, 2, NONE);
        x.step(0, 2, 3, NONE);
        due("search()", x.search(), 5);
        due("what is lost is as a STEP", x.classOf(1), x.classOf(2));
        due("classes()", x.classes(), 3);
    }

    // ---- the answers of the rest

    private static void tellsLeast() {
        sentence = "The least int: UNKNOWN, OWNED, NOT";
        ProtocolBench x = bench(1, 0);
        int least = Tell.number(x, LEAST), mine = x.expr(2, 0, 0, 0), far = x.expr(2, 2, 0, 0);
        due("without a SEARCH", x.tells(0, least), LEAST);
        due("search(), though none has VARIABLE 2", x.search(), 1);
        due("an EXPR that tells it", x.tells(0, least), LEAST);
        due("OWNED", x.tells(0, mine), LEAST);
        due("OWNED, of a VARIABLE that none has", x.tells(0, far), LEAST);
        due("STATE 1", x.tells(1, least), LEAST);
        due("EXPR 3", x.tells(0, 3), LEAST);
    }

    private static void lettersBeyond() {
        sentence = "LETTER i (from 0) that a CHANNEL holds in a STATE; NONE: there is none";
        ProtocolBench x = bench(1);
        x.channel(3, false, false);
        x.channel(2, false, false);
        Tell.send(x, 0, 1, 0, 9);
        Tell.send(x, 1, 2, 0, 0);
        Tell.send(x, 2, 3, 0, 8);
        Tell.send(x, 3, 4, 1, 1);
        due("search()", x.search(), 5);
        int[] want = {-1, 9, 90, 908, 908};
        for (int s = 0; s < 5; s++) {
            due("letters in " + s, letters(x, s, 0), want[s]);
            for (int i : new int[] {LEAST, -1, s < 3 ? s : 3, 3, 4, 8, GREATEST}) {
                due("letter(" + s + ", 0, " + i + ")", x.letter(s, 0, i), NONE);
            }
            due("the other CHANNEL", x.letter(s, 1, 0), s == 4 ? 1 : NONE);
        }
    }

    private static void countsOfSearches() {
        sentence = "6 STATES found by the latest SEARCH (0 when it has ended, and without one), 7 whether that is SPENT";
        ProtocolBench x = bench(1);
        due("without one", x.count(6), 0);
        due("without one", x.count(7), 0);
        x.step(0, 0, 1, NONE);
        x.search();
        due("found", x.count(6), 2);
        x.step(0, 1, 2, NONE);
        due("when it has ended", x.count(6), 0);
        x.search();
        due("the latest", x.count(6), 3);
        due("a refused call", x.step(0, 1, 10, NONE), OUTSIDE);
        due("the latest still", x.count(6), 3);
        x.alike(true);
        x.expr(3, 0, 0, 0);
        due("search() is refused", x.search(), NOT);
        due("without one", x.count(6), 0);
    }

    public static void main(String[] args) {
        emptyAtFirst();
        wrapping();
        comparing();
        whatAKindHasNot();
        owned();
        forAMember();
        guards();
        sendsAsTheyWere();
        receivesOnlyWhereSomeAre();
        onceEach();
        doneInOrder();
        looseWays();
        looseAheadOfTheStep();
        firstActSlowest();
        lost();
        faultLeadsNowhere();
        spentAtOnce();
        spentAmidWays(397);
        spentAmidWays(398);
        madeAnew();
        foundBy();
        firstStateAlone();
        alikeByPlacesThenVariables();
        alikeWithinRoles();
        alikeRefuses();
        alikeTells();
        usedByRoles();
        usedByEachRole();
        stuckOrNot();
        firstFault();
        alwaysFirst();
        knots();
        fairTurns();
        fairByItself();
        lostIsNotForEver();
        fromToCounts();
        classesOf();
        numberedByLeast();
        manyClasses();
        byOneMoveAlone();
        lostIsAMove();
        tellsLeast();
        lettersBeyond();
        countsOfSearches();
        check.finish();
    }
}
