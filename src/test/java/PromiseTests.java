/** Each promise by hand: ordinary calls, the edges that the document names, wrong arguments. */
public final class PromiseTests {
    private static final int BAD = -1, NOT = -2, FULL = -3, STATE = -5, VOID = -2000000000;
    private static final int LOW = Integer.MIN_VALUE, HIGH = Integer.MAX_VALUE;
    private static int wrong = 0;
    private static String promise = "";

    public static void main(String[] args) {
        newObject();
        routers();
        links();
        turns();
        costs();
        rules();
        holdDown();
        ofLinks();
        betweens();
        rounds();
        roundsReceived();
        roundsSequenced();
        entries();
        knowns();
        settled();
        looped();
        right();
        worstCut();
        needed();
        thens();
        ways();
        shortests();
        counts();
        packets();
        tried();
        judges();
        drawns();
        feeds();
        scriptForm();
        scriptLines();
        images();
        holds();
        rows();
        puts();
        tells();
        howMany();
        System.out.println(wrong == 0 ? "the promises hold" : wrong + " answers are not as due");
        if (wrong != 0) {
            System.exit(1);
        }
    }

    private static void due(String call, int got, int want) {
        if (got != want) {
            wrong++;
            System.out.println(promise + ": " + call + " answered " + got + ", due is " + want);
        }
    }

    /** n routers and no link. */
    private static VectorRounds alone(int n) {
        VectorRounds x = new VectorRounds();
        for (int i = 0; i < n; i++) {
            x.router();
        }
        return x;
    }

    /** n routers in a line; link i joins i and i + 1, at cost 1. */
    private static VectorRounds line(int n) {
        VectorRounds x = alone(n);
        for (int i = 0; i + 1 < n; i++) {
            x.link(i, i + 1, 1);
        }
        return x;
    }

    /** Link 0 of a settled line of three has become dearer: 1 and 2 will have a loop to 0. */
    private static VectorRounds dearer() {
        VectorRounds x = line(3);
        x.rounds(3);
        x.cost(0, 10);
        return x;
    }

    private static int script(VectorRounds x, String text) {
        for (int i = 0; i < text.length(); i++) {
            x.feed(text.charAt(i));
        }
        return x.script();
    }

    private static void entryIs(VectorRounds x, int r, int d, int... want) {
        for (int what = 0; what < want.length; what++) {
            due("entry(" + r + ", " + d + ", " + what + ")", x.entry(r, d, what), want[what]);
        }
    }

    private static void newObject() {
        promise = "1";
        VectorRounds x = new VectorRounds();
        for (int what = 0; what <= 8; what++) {
            due("count(" + what + ")", x.count(what), 0);
        }
        for (int what = 0; what <= 2; what++) {
            due("rule", x.rule(what, 1), 0);
        }
        due("turn", x.turn(0, 0), BAD);
        due("told(0)", x.told(0), 0);
        due("told(1)", x.told(1), NOT);
        due("told(2)", x.told(2), 0);
        due("told(3)", x.told(3), 0);
        due("told(4)", x.told(4), NOT);
        due("told(5)", x.told(5), 0);
        due("back", x.back(), STATE);
        due("script", x.script(), -1000);
        due("rounds", x.rounds(80), 0);
        due("ROUND", x.count(4), 80);
        for (int holder = 0; holder <= 5; holder++) {
            due("tells", x.tells(holder, 0), -11);
        }
        due("another object", new VectorRounds().count(4), 0);
    }

    private static void routers() {
        promise = "2";
        VectorRounds x = new VectorRounds();
        for (int i = 0; i < 10; i++) {
            due("no router yet", x.known(i, 0), BAD);
            due("router", x.router(), i);
            entryIs(x, i, i, 0, i, 0, 0, 0);
            due("known", x.known(i, 0), i);
            due("known", x.known(i, 1), NOT);
        }
        due("router", x.router(), FULL);
        due("count", x.count(0), 10);
        due("count", x.count(3), 10);
    }

    private static void links() {
        promise = "3";
        VectorRounds x = alone(3);
        due("link", x.link(2, 0, 15), 0);
        due("link", x.link(0, 1, 1), 1);
        due("the same", x.link(2, 0, 1), STATE);
        due("the same, turned", x.link(0, 2, 1), STATE);
        x.turn(0, 0);
        due("the same, cut", x.link(0, 2, 1), STATE);
        int[][] bad = {{-1, 0, 1}, {0, -1, 1}, {3, 0, 1}, {0, 3, 1}, {1, 1, 1}, {1, 2, 0}, {1, 2, 16},
            {LOW, 0, 1}, {0, HIGH, 1}, {1, 2, LOW}, {1, 2, HIGH}, {0, 2, 16}};
        for (int[] b : bad) {
            due("link bad", x.link(b[0], b[1], b[2]), BAD);
        }
        due("count", x.count(1), 2);
        VectorRounds y = alone(10);
        int made = 0;
        for (int a = 0; a < 10; a++) {
            for (int b = a + 1; b < 10; b++) {
                due("link", y.link(b, a, 3), made < 24 ? made : FULL);
                made++;
            }
        }
        due("count", y.count(1), 24);
        due("STATE is named ahead of FULL", y.link(0, 1, 1), STATE);
        due("BAD ahead of both", y.link(0, 1, 0), BAD);
    }

    private static void turns() {
        promise = "4";
        VectorRounds x = line(3);
        x.rule(2, 2);
        x.rounds(3);
        due("up already", x.turn(1, 1), STATE);
        due("cut", x.turn(1, 0), 1);
        due("cut already", x.turn(1, 0), STATE);
        entryIs(x, 1, 2, 16, 2, 0, 5);
        entryIs(x, 2, 1, 16, 1, 0, 5);
        entryIs(x, 2, 0, 16, 1, 0, 5);
        entryIs(x, 0, 2, 2, 1, 0, 0);
        entryIs(x, 1, 0, 1, 0, 0, 0);
        entryIs(x, 2, 2, 0, 2, 0, 0);
        due("of", x.of(1, 3), 0);
        due("up", x.turn(1, 1), 1);
        due("of", x.of(1, 3), 1);
        entryIs(x, 1, 2, 16, 2, 0, 5);
        int[][] bad = {{-1, 0}, {2, 0}, {0, -1}, {0, 2}, {LOW, 0}, {HIGH, 1}, {0, LOW}, {0, HIGH}};
        for (int[] b : bad) {
            due("turn bad", x.turn(b[0], b[1]), BAD);
        }
        turnsSequenced();
    }

    private static void turnsSequenced() {
        VectorRounds x = line(2);
        x.rule(1, 1);
        x.rounds(1);
        entryIs(x, 0, 1, 1, 1, 2, 0);
        x.turn(0, 0);
        entryIs(x, 0, 1, 16, 1, 3, 1);
        entryIs(x, 1, 0, 16, 0, 3, 1);
        entryIs(x, 0, 0, 0, 0, 2, 0);
        x.rounds(3);
        x.turn(0, 1);
        x.turn(0, 0);
        promise = "4, an entry of metric 16 is not lost again";
        entryIs(x, 0, 1, 16, 1, 3, 1);
    }

    private static void costs() {
        promise = "5";
        VectorRounds x = line(3);
        x.rounds(3);
        due("cost", x.cost(0, 15), 1);
        due("cost", x.cost(0, 5), 15);
        due("cost", x.cost(0, 5), 5);
        due("of", x.of(0, 2), 5);
        due("of", x.of(1, 2), 1);
        entryIs(x, 0, 1, 1, 1);
        x.rounds(1);
        entryIs(x, 0, 1, 5, 1);
        x.turn(1, 0);
        due("of a cut one", x.cost(1, 7), 1);
        int[][] bad = {{-1, 1}, {2, 1}, {0, 0}, {0, 16}, {LOW, 1}, {HIGH, 1}, {0, LOW}, {0, HIGH}};
        for (int[] b : bad) {
            due("cost bad", x.cost(b[0], b[1]), BAD);
        }
        due("of", x.of(0, 2), 5);
    }

    private static void rules() {
        promise = "6";
        VectorRounds x = new VectorRounds();
        int[] most = {2, 1, 9};
        for (int what = 0; what < 3; what++) {
            due("rule", x.rule(what, most[what]), 0);
            due("rule", x.rule(what, most[what] + 1), BAD);
            due("rule", x.rule(what, -1), BAD);
            due("rule", x.rule(what, LOW), BAD);
            due("rule", x.rule(what, HIGH), BAD);
            due("rule", x.rule(what, 0), most[what]);
            due("rule", x.rule(what, 1), 0);
        }
        due("rule", x.rule(-1, 0), BAD);
        due("rule", x.rule(3, 0), BAD);
        due("rule", x.rule(LOW, 0), BAD);
        due("rule", x.rule(HIGH, 0), BAD);
        int[] toldSettled = {4, 2, 4};
        for (int horizon = 0; horizon <= 2; horizon++) {
            VectorRounds y = line(2);
            y.rule(0, horizon);
            y.rounds(1);
            due("told at first", y.count(5), 2);
            y.rounds(1);
            due("told then, horizon " + horizon, y.count(5), 2 + toldSettled[horizon]);
        }
        poisoned();
    }

    /** 1 lost 2; whether it takes the way over 0, which goes over 1 itself, hangs on the horizon. */
    private static void poisoned() {
        int[] metric = {3, 16, 16};
        for (int horizon = 0; horizon <= 2; horizon++) {
            VectorRounds x = line(3);
            x.rule(0, horizon);
            x.rounds(3);
            x.turn(1, 0);
            x.rounds(1);
            due("metric, horizon " + horizon, x.entry(1, 2, 0), metric[horizon]);
        }
        // Two that lead to one another: poison undoes it, a split horizon never tells of it.
        int[] behind = {5, 3, 16};
        int[] lasts = {16, 3, 16};
        for (int horizon = 0; horizon <= 2; horizon++) {
            VectorRounds x = dearer();
            x.rounds(1);
            x.turn(0, 0);
            x.rule(0, horizon);
            due("loop", x.told(2), 2);
            int wait = horizon == 0 ? 2 : 1;
            due("soon, horizon " + horizon, x.then(1, 0, wait, 0), behind[horizon]);
            due("at last, horizon " + horizon, x.then(1, 0, 80, 0), lasts[horizon]);
        }
    }

    private static void holdDown() {
        promise = "6, hold";
        VectorRounds x = alone(3);
        x.link(0, 1, 1);
        x.link(0, 2, 1);
        x.link(1, 2, 5);
        x.rule(0, 1);
        x.rule(2, 3);
        x.rounds(3);
        x.turn(0, 0);
        entryIs(x, 1, 0, 16, 0, 0, 6);
        due("held", x.then(1, 0, 3, 0), 16);
        due("taken", x.then(1, 0, 4, 0), 6);
        due("taken", x.then(1, 0, 4, 1), 2);
        due("rounds", x.rounds(3), 1);
        entryIs(x, 1, 0, 16, 0, 0, 6);
        due("rounds", x.rounds(1), 2);
        entryIs(x, 1, 0, 6, 2, 0, 6);
        VectorRounds y = line(3);
        y.rule(2, 3);
        y.rounds(3);
        y.turn(1, 0);
        y.rounds(1);
        promise = "6, hold counts from the round in which 16 is told";
        entryIs(y, 0, 2, 16, 1, 0, 7);
    }

    private static void ofLinks() {
        promise = "7";
        VectorRounds x = alone(4);
        x.link(3, 1, 9);
        x.link(0, 2, 4);
        int[][] want = {{1, 3, 9, 1}, {0, 2, 4, 1}};
        for (int link = 0; link < 2; link++) {
            for (int what = 0; what < 4; what++) {
                due("of", x.of(link, what), want[link][what]);
            }
        }
        x.turn(0, 0);
        due("of", x.of(0, 3), 0);
        due("of", x.of(1, 3), 1);
        int[][] bad = {{-1, 0}, {2, 0}, {0, -1}, {0, 4}, {LOW, 0}, {HIGH, 0}, {0, LOW}, {0, HIGH}};
        for (int[] b : bad) {
            due("of bad", x.of(b[0], b[1]), BAD);
        }
    }

    private static void betweens() {
        promise = "8";
        VectorRounds x = alone(4);
        x.link(3, 1, 9);
        x.link(0, 2, 4);
        due("between", x.between(1, 3), 0);
        due("between", x.between(3, 1), 0);
        due("between", x.between(2, 0), 1);
        due("between", x.between(0, 1), NOT);
        due("between alike ones", x.between(1, 1), NOT);
        x.turn(0, 0);
        due("between, cut", x.between(1, 3), 0);
        int[][] bad = {{-1, 0}, {0, -1}, {4, 0}, {0, 4}, {LOW, 0}, {0, HIGH}};
        for (int[] b : bad) {
            due("between bad", x.between(b[0], b[1]), BAD);
        }
    }

    private static void rounds() {
        promise = "9";
        VectorRounds x = line(3);
        due("rounds", x.rounds(1), 4);
        due("told from what stood ahead of it", x.entry(0, 2, 0), NOT);
        due("rounds", x.rounds(1), 2);
        due("rounds", x.rounds(1), 0);
        due("ROUND", x.count(4), 3);
        // Round 1: 4 links' ends tell 1 each; round 2: 2 + 3 * 2 + 2; round 3: 3 * 4.
        due("TOLD", x.count(5), 4 + 10 + 12);
        due("rounds", line(3).rounds(2), 6);
        due("rounds", line(3).rounds(80), 6);
        due("rounds", x.rounds(0), BAD);
        due("rounds", x.rounds(81), BAD);
        due("rounds", x.rounds(-1), BAD);
        due("rounds", x.rounds(LOW), BAD);
        due("rounds", x.rounds(HIGH), BAD);
        due("ROUND", x.count(4), 3);
        x.cost(0, 3);
        due("another metric: of 0 at 1, of 1 and 2 at 0", x.rounds(1), 3);
        due("and of 0 at 2, behind that", x.rounds(1), 1);
        due("and none", x.rounds(1), 0);
    }

    private static void roundsReceived() {
        promise = "9, received";
        VectorRounds x = alone(4);
        x.link(2, 3, 1);
        x.link(0, 2, 1);
        x.link(1, 3, 1);
        x.link(0, 1, 1);
        x.rounds(2);
        due("of two alike ways the first", x.entry(0, 3, 1), 1);
        due("of two alike ways the first", x.entry(3, 0, 1), 1);
        due("by numbers of who tells", x.known(0, 1), 1);
        due("by numbers of who tells", x.known(0, 2), 2);
        due("by numbers of who tells", x.known(3, 1), 1);
        due("by numbers of who tells", x.known(3, 2), 2);
        VectorRounds y = alone(3);
        y.link(0, 1, 8);
        y.link(1, 2, 8);
        due("16 is none", y.rounds(5), 4);
        due("16 is none", y.entry(0, 2, 0), NOT);
        y.cost(0, 7);
        y.rounds(1);
        entryIs(y, 0, 2, 15, 1, 0, 0, 2);
        y.cost(1, 15);
        y.rounds(2);
        entryIs(y, 0, 2, 16, 1, 0, 8, 2);
        due("another way is taken if it is less alone", metricOfTriangle(2), 2);
        due("another way is taken if it is less alone", metricOfTriangle(1), 1);
    }

    /** The metric from 0 to 2 where the straight link has this cost and the way over 1 costs 2. */
    private static int metricOfTriangle(int straight) {
        VectorRounds x = alone(3);
        x.link(0, 1, 1);
        x.link(1, 2, 1);
        x.link(0, 2, straight);
        x.rounds(4);
        due("via", x.entry(0, 2, 1), 2);
        x.cost(2, 3);
        x.rounds(1);
        due("1 tells ahead of 2", x.entry(0, 2, 1), 2);
        x.rounds(1);
        due("via", x.entry(0, 2, 1), 1);
        x.cost(2, straight);
        x.rounds(1);
        due("via", x.entry(0, 2, 1), straight == 1 ? 2 : 1);
        return x.entry(0, 2, 0);
    }

    private static void roundsSequenced() {
        promise = "9, sequenced";
        VectorRounds x = alone(4);
        x.rule(1, 1);
        x.link(0, 1, 5);
        x.link(0, 2, 1);
        x.link(1, 3, 1);
        x.link(2, 3, 1);
        x.rounds(4);
        entryIs(x, 0, 3, 2, 2, 6, 0);
        entryIs(x, 3, 3, 0, 3, 8, 0);
        due("other in between, as it was behind", x.rounds(1), 0);
        entryIs(x, 0, 3, 2, 2, 8, 0);
        x.cost(1, 9);
        due("a new sequence, a higher metric", x.rounds(1) > 0 ? 1 : 0, 1);
        entryIs(x, 0, 3, 6, 1, 10, 0);
        x.rule(1, 0);
        x.rounds(1);
        entryIs(x, 0, 3, 6, 1, 10, 0);
        entryIs(x, 3, 3, 0, 3, 12, 0);
        promise = "9, sequenced: a lost one";
        VectorRounds y = line(3);
        y.rule(1, 1);
        y.rounds(3);
        entryIs(y, 0, 2, 2, 1, 4, 0);
        y.turn(1, 0);
        entryIs(y, 1, 2, 16, 2, 7, 3);
        y.rounds(1);
        entryIs(y, 0, 2, 16, 1, 7, 4);
        entryIs(y, 1, 2, 16, 2, 7, 3);
        newerBut16();
    }

    /** 1 hears of 3 a round ahead of 2, but its way to 0 costs 16. */
    private static void newerBut16() {
        promise = "9, sequenced: 16 from another";
        VectorRounds x = alone(5);
        x.rule(1, 1);
        x.link(0, 1, 15);
        x.link(1, 3, 1);
        x.link(0, 2, 1);
        x.link(2, 4, 1);
        x.link(4, 3, 1);
        x.rounds(6);
        entryIs(x, 0, 3, 3, 2, 8, 0);
        x.cost(0, 14);
        x.rounds(1);
        entryIs(x, 0, 3, 15, 1, 12, 0);
        x.cost(0, 15);
        x.rounds(1);
        entryIs(x, 0, 3, 16, 1, 14, 8);
        x.rounds(1);
        entryIs(x, 0, 3, 16, 1, 16, 8);
    }

    private static void entries() {
        promise = "10";
        VectorRounds x = line(3);
        due("entry", x.entry(0, 1, 0), NOT);
        x.rounds(2);
        entryIs(x, 0, 0, 0, 0, 0, 0, 0);
        entryIs(x, 0, 1, 1, 1, 0, 0, 1);
        entryIs(x, 0, 2, 2, 1, 0, 0, 2);
        entryIs(x, 1, 0, 1, 0, 0, 0, 1);
        entryIs(x, 2, 0, 2, 1, 0, 0, 2);
        int[][] bad = {{-1, 0, 0}, {3, 0, 0}, {0, -1, 0}, {0, 3, 0}, {0, 0, -1}, {0, 0, 5},
            {LOW, 0, 0}, {HIGH, 0, 0}, {0, LOW, 0}, {0, HIGH, 0}, {0, 0, LOW}, {0, 0, HIGH}};
        for (int[] b : bad) {
            due("entry bad", x.entry(b[0], b[1], b[2]), BAD);
        }
        x.router();
        due("entry", x.entry(0, 3, 4), NOT);
        due("entry, BAD ahead of NOT", x.entry(0, 3, 5), BAD);
    }

    private static void knowns() {
        promise = "11";
        VectorRounds x = alone(3);
        x.link(2, 0, 1);
        x.rounds(1);
        x.link(0, 1, 1);
        x.rounds(1);
        due("known", x.known(0, 0), 0);
        due("known", x.known(0, 1), 2);
        due("known", x.known(0, 2), 1);
        due("known", x.known(0, 3), NOT);
        due("known", x.known(0, HIGH), NOT);
        due("known", x.known(0, -1), BAD);
        due("known", x.known(0, LOW), BAD);
        due("known", x.known(3, 0), BAD);
        due("known", x.known(-1, 0), BAD);
        due("known", x.known(HIGH, 0), BAD);
        x.turn(0, 0);
        due("known, though lost", x.known(0, 1), 2);
    }

    private static void settled() {
        promise = "12, settled";
        VectorRounds x = line(4);
        due("told(0)", x.told(0), 3);
        x.rounds(1);
        due("told(0)", x.told(0), 2);
        x.rounds(2);
        due("told(0)", x.told(0), 0);
        due("nothing changed", x.count(4), 3);
        x.cost(0, 2);
        due("told(0)", x.told(0), 3);
        due("told", x.told(-1), BAD);
        due("told", x.told(6), BAD);
        due("told", x.told(LOW), BAD);
        due("told", x.told(HIGH), BAD);
    }

    private static void looped() {
        promise = "12, loops";
        VectorRounds x = dearer();
        due("told(1)", x.told(1), 1);
        due("told(2)", x.told(2), 0);
        x.rounds(1);
        due("told(1)", x.told(1), 0);
        due("told(2)", x.told(2), 2);
        x.rounds(40);
        due("told(1)", x.told(1), NOT);
        due("told(2)", x.told(2), 0);
    }

    private static void right() {
        promise = "12, right";
        VectorRounds x = line(3);
        due("told(3)", x.told(3), 3);
        x.rounds(1);
        due("told(3)", x.told(3), 7);
        x.rounds(1);
        due("told(3)", x.told(3), 9);
        x.router();
        due("no entry is right where no way is", x.told(3), 16);
        x.cost(0, 15);
        x.cost(1, 15);
        // 0-1 and 1-2 are not told yet; 30 is as 16, and 2 stands there.
        due("told(3)", x.told(3), 10);
        x.rounds(2);
        due("told(3)", x.told(3), 16);
    }

    private static void worstCut() {
        promise = "12, worst cut";
        VectorRounds x = line(4);
        x.rule(0, 1);
        x.rounds(5);
        // Cut at an end, it takes two rounds till the other end hears of it; in the middle, one.
        due("told(4)", x.told(4), 0);
        x.turn(0, 0);
        x.rounds(5);
        due("the cut one is not tried", x.told(4), 1);
        x.turn(1, 0);
        x.turn(2, 0);
        due("none is up", x.told(4), NOT);
        VectorRounds y = alone(4);
        y.link(0, 1, 1);
        y.link(1, 2, 1);
        y.link(1, 3, 1);
        y.rule(0, 1);
        y.rounds(4);
        due("of several the least", y.told(4), 0);
        VectorRounds z = alone(5);
        z.link(0, 1, 1);
        z.link(2, 3, 1);
        z.link(3, 4, 1);
        z.rule(0, 1);
        z.rounds(4);
        due("not the first", z.told(4), 1);
        due("nothing changed", z.count(2), 3);
    }

    private static void needed() {
        promise = "12, needed";
        VectorRounds x = line(4);
        due("told(5)", x.told(5), 3);
        x.link(0, 2, 15);
        due("told(5)", x.told(5), 1);
        x.turn(0, 0);
        due("told(5)", x.told(5), 3);
        x.turn(2, 0);
        due("told(5)", x.told(5), 2);
    }

    private static void thens() {
        promise = "13";
        VectorRounds x = line(3);
        due("then", x.then(0, 2, 0, 0), NOT);
        due("then", x.then(0, 2, 1, 1), NOT);
        due("then", x.then(0, 2, 1, 2), 0);
        due("then", x.then(0, 2, 2, 0), 2);
        due("then", x.then(0, 2, 2, 1), 1);
        due("then", x.then(0, 2, 80, 0), 2);
        due("nothing changed", x.count(4), 0);
        due("nothing changed", x.count(5), 0);
        due("nothing changed", x.count(3), 3);
        VectorRounds y = dearer();
        y.router();
        due("loops", y.then(0, 0, 0, 2), 0);
        due("loops", y.then(0, 0, 1, 2), 2);
        due("loops, without an entry", y.then(0, 3, 1, 2), 2);
        int[][] bad = {{-1, 0, 0, 0}, {3, 0, 0, 0}, {0, -1, 0, 0}, {0, 3, 0, 0}, {0, 0, -1, 0}, {0, 0, 81, 0},
            {0, 0, 0, -1}, {0, 0, 0, 3}, {LOW, 0, 0, 0}, {0, HIGH, 0, 0}, {0, 0, HIGH, 0}, {0, 0, LOW, 0},
            {0, 0, 0, HIGH}, {0, 0, 0, LOW}};
        for (int[] b : bad) {
            due("then bad", x.then(b[0], b[1], b[2], b[3]), BAD);
        }
    }

    private static void ways() {
        promise = "14, 15";
        VectorRounds x = line(3);
        due("no entry: way", x.way(0, 2, -1), 1);
        due("no entry: ends", x.ends(0, 2), 0);
        due("itself: way", x.way(1, 1, -1), 1);
        due("itself: ends", x.ends(1, 1), 1);
        x.rounds(2);
        due("way", x.way(0, 2, -1), 3);
        for (int k = 0; k < 3; k++) {
            due("way", x.way(0, 2, k), k);
            due("way", x.way(2, 0, k), 2 - k);
        }
        due("way", x.way(0, 2, 3), NOT);
        due("way", x.way(0, 2, HIGH), NOT);
        due("ends", x.ends(0, 2), 1);
        x.turn(1, 0);
        due("lost on the way: way", x.way(0, 2, -1), 2);
        due("lost on the way: ends", x.ends(0, 2), 0);
        VectorRounds y = dearer();
        y.rounds(1);
        due("loop: way", y.way(1, 0, -1), 2);
        due("loop: way", y.way(1, 0, 1), 2);
        due("loop: way", y.way(1, 0, 2), NOT);
        due("loop: ends", y.ends(1, 0), 2);
        due("loop: ends", y.ends(0, 1), 1);
        int[][] bad = {{-1, 0, 0}, {3, 0, 0}, {0, -1, 0}, {0, 3, 0}, {0, 0, -2}, {LOW, 0, 0}, {0, HIGH, 0}, {0, 0, LOW}};
        for (int[] b : bad) {
            due("way bad", x.way(b[0], b[1], b[2]), BAD);
            due("ends bad", x.ends(b[0], b[1]), b[2] < -1 ? 1 : BAD);
        }
    }

    private static void shortests() {
        promise = "16";
        VectorRounds x = alone(5);
        x.link(0, 1, 15);
        x.link(1, 2, 15);
        x.link(2, 3, 2);
        x.link(0, 3, 15);
        due("shortest", x.shortest(0, 2), 17);
        due("shortest", x.shortest(2, 0), 17);
        due("shortest", x.shortest(3, 1), 17);
        due("itself", x.shortest(4, 4), 0);
        due("none", x.shortest(0, 4), NOT);
        x.turn(3, 0);
        due("above 16", x.shortest(0, 3), 32);
        x.turn(0, 0);
        due("none that is up", x.shortest(0, 3), NOT);
        int[][] bad = {{-1, 0}, {0, -1}, {5, 0}, {0, 5}, {LOW, 0}, {0, HIGH}};
        for (int[] b : bad) {
            due("shortest bad", x.shortest(b[0], b[1]), BAD);
        }
    }

    private static void counts() {
        promise = "17";
        VectorRounds x = line(3);
        due("no entry", x.counts(0, 2), 0);
        x.rounds(3);
        due("never", x.counts(0, 2), NOT);
        due("itself", x.counts(0, 0), NOT);
        x.turn(1, 0);
        due("lost", x.counts(1, 2), 0);
        due("told 16 next", x.counts(0, 2), 1);
        due("both", x.counts(2, 0), 0);
        VectorRounds y = dearer();
        y.rounds(1);
        y.turn(0, 0);
        // 1 has 3 over 2, 2 has 2 over 1: one of them rises by 2 each round, 1 to 3 5 5 .. 15 15, 2 to 4 4 .. 14 16.
        due("counting to the bound", y.counts(1, 0), 14);
        due("counting to the bound", y.counts(2, 0), 13);
        due("nothing changed", y.entry(1, 0, 0), 3);
        int[][] bad = {{-1, 0}, {0, -1}, {3, 0}, {0, 3}, {LOW, 0}, {0, HIGH}};
        for (int[] b : bad) {
            due("counts bad", x.counts(b[0], b[1]), BAD);
        }
    }

    private static void packets() {
        promise = "18";
        VectorRounds x = line(4);
        due("no entry", x.packet(0, 3, 40, 0), 0);
        due("no entry", x.packet(0, 3, 40, 1), 0);
        x.rounds(1);
        due("stays: a round is behind a step alone", x.packet(0, 2, 40, 0), 0);
        x.rounds(2);
        due("comes", x.packet(0, 3, 40, 0), 3);
        due("comes", x.packet(0, 3, 40, 1), 3);
        due("so many steps", x.packet(0, 3, 3, 0), 3);
        due("so many steps", x.packet(0, 3, 2, 0), 2);
        due("so many steps", x.packet(0, 3, 1, 1), 1);
        due("itself", x.packet(2, 2, 5, 0), 2);
        due("itself", x.packet(2, 2, 5, 1), 0);
        VectorRounds y = dearer();
        y.rounds(1);
        due("round and round", y.packet(1, 0, 2, 0), 1);
        due("round and round", y.packet(1, 0, 3, 0), 2);
        due("round and round", y.packet(1, 0, 5, 1), 5);
        due("till the round undoes the loop", y.packet(1, 0, 40, 0), 0);
        due("nothing changed", y.count(4), 4);
        int[][] bad = {{-1, 0, 1, 0}, {4, 0, 1, 0}, {0, -1, 1, 0}, {0, 4, 1, 0}, {0, 0, 0, 0}, {0, 0, 41, 0},
            {0, 0, 1, -1}, {0, 0, 1, 2}, {LOW, 0, 1, 0}, {0, HIGH, 1, 0}, {0, 0, LOW, 0}, {0, 0, HIGH, 0},
            {0, 0, 1, LOW}, {0, 0, 1, HIGH}};
        for (int[] b : bad) {
            due("packet bad", x.packet(b[0], b[1], b[2], b[3]), BAD);
        }
    }

    private static void tried() {
        promise = "19";
        VectorRounds x = line(2);
        x.rule(0, 2);
        x.rule(1, 1);
        for (int what = 0; what < 2; what++) {
            due("of several the least", x.tried(what), 0);
        }
        due("settled", x.tried(2), 1);
        VectorRounds y = line(3);
        y.rounds(3);
        y.turn(1, 0);
        // No sequence is above 0, so 0 does not hear that 2 is lost; by a split horizon it tells 1 nothing of it.
        due("horizon", y.tried(0), 1);
        due("sequenced", y.tried(1), 1);
        due("settled", y.tried(2), 0);
        due("nothing changed", y.rule(0, 0), 0);
        due("nothing changed", y.rule(1, 0), 0);
        VectorRounds z = dearer();
        due("horizon", z.tried(0), 0);
        due("sequenced", z.tried(1), 1);
        VectorRounds p = alone(4);
        p.link(1, 3, 2);
        p.link(2, 3, 2);
        p.link(0, 2, 4);
        p.rounds(6);
        p.cost(1, 10);
        p.rounds(3);
        // 3 lost 0 by way of 1, whose own way goes over 3: poison tells 1 so at once, a split horizon does not.
        due("horizon", p.tried(0), 2);
        due("sequenced", p.tried(1), 0);
        due("settled", p.tried(2), 1);
        due("tried", x.tried(-1), BAD);
        due("tried", x.tried(3), BAD);
        due("tried", x.tried(LOW), BAD);
        due("tried", x.tried(HIGH), BAD);
        due("no routers", new VectorRounds().tried(2), 0);
    }

    private static void judges() {
        promise = "20";
        VectorRounds x = line(3);
        x.rounds(1);
        due("nothing", x.judge(0, 0), -11);
        x.hold(0, 0, 0);
        due("an entry", x.judge(0, 0), -12);
        x.row(0, 0);
        due("no twos", x.judge(0, 0), 0);
        x.row(0, 1);
        due("odd", x.judge(0, 0), -13);
        x.row(0, 8);
        due("more than there are", x.judge(0, 0), -13);
        x.row(0, 7);
        due("odd", x.judge(0, 0), -13);
        x.row(0, 4);
        int[] table = {0, 0, 1, 1, 16, 0};
        for (int i = 0; i < 4; i++) {
            x.put(0, i, table[i]);
        }
        due("more routers", x.judge(0, 0), 2);
        x.row(0, 6);
        for (int i = 0; i < 6; i++) {
            x.put(0, i, table[i]);
        }
        due("all", x.judge(0, 0), NOT);
        due("another table", x.judge(0, 1), 0);
        for (int i = 0; i < 6; i++) {
            x.put(0, i, table[i] + 1);
            due("first that is otherwise", x.judge(0, 0), i / 2);
            x.put(0, i, table[i]);
        }
        x.put(0, 5, 2);
        due("no entry: via the router itself", x.judge(0, 0), 2);
        int[][] bad = {{-1, 0}, {6, 0}, {0, -1}, {0, 3}, {LOW, 0}, {HIGH, 0}, {0, LOW}, {0, HIGH}};
        for (int[] b : bad) {
            due("judge bad", x.judge(b[0], b[1]), BAD);
        }
    }

    private static void drawns() {
        promise = "21";
        VectorRounds x = alone(4);
        // By hand from the seed 1: x is 16838, 5758, 10113, 17515: 2 and 3, 2 and 3, 1 and 3, 3 and 3.
        due("2 and 3, cost 1 + 168 % 15", x.drawn(1, 1), 1);
        int[] want = {2, 3, 4, 1};
        for (int what = 0; what < 4; what++) {
            due("of", x.of(0, what), want[what]);
        }
        x.rounds(1);
        entryIs(x, 2, 3, 4, 3);
        due("it is there: cut", x.drawn(1, 1), 1);
        due("of", x.of(0, 3), 0);
        entryIs(x, 2, 3, 16, 3);
        due("it is cut: up", x.drawn(1, 1), 1);
        due("of", x.of(0, 3), 1);
        due("cut, up, another that comes, alike ones", x.drawn(1, 4), 2);
        int[] second = {1, 3, 1 + 101 % 15, 1};
        for (int what = 0; what < 4; what++) {
            due("of", x.of(1, what), second[what]);
        }
        due("of", x.of(0, 3), 1);
        due("lost meanwhile", x.entry(2, 3, 0), 16);
        VectorRounds y = alone(10);
        for (int a = 0, made = 0; a < 10; a++) {
            for (int b = a + 1; b < 10 && made < 24; b++, made++) {
                y.link(a, b, 1);
            }
        }
        for (int seed = 0; seed < 20; seed++) {
            due("24 there", y.drawn(seed, 12), 24);
        }
        due("fewer than two", new VectorRounds().drawn(1, 1), STATE);
        due("fewer than two", alone(1).drawn(1, 1), STATE);
        due("BAD ahead of STATE", alone(1).drawn(1, 13), BAD);
        due("drawn", x.drawn(1, 0), BAD);
        due("drawn", x.drawn(1, 13), BAD);
        due("drawn", x.drawn(1, LOW), BAD);
        due("drawn", x.drawn(1, HIGH), BAD);
        due("any seed", alone(2).drawn(LOW, 12), 1);
        due("any seed", alone(2).drawn(HIGH, 12), 1);
    }

    private static void feeds() {
        promise = "22";
        VectorRounds x = new VectorRounds();
        due("feed", x.feed(-1), BAD);
        due("feed", x.feed(256), BAD);
        due("feed", x.feed(LOW), BAD);
        due("feed", x.feed(HIGH), BAD);
        due("feed", x.feed(0), 1);
        due("feed", x.feed(255), 2);
        for (int i = 3; i <= 120; i++) {
            due("feed", x.feed('n'), i);
        }
        due("feed", x.feed('n'), FULL);
        due("BAD ahead of FULL", x.feed(256), BAD);
        due("count", x.count(7), 120);
        due("script", x.script(), -1000);
        due("count", x.count(7), 0);
        due("feed", x.feed('n'), 1);
    }

    private static void scriptForm() {
        promise = "23, form";
        String[] texts = {"", ";", "n;", "n;;n", "nn", "n ", " n", "n;x", "N", "l", "l ", "l 0", "l 0 1", "l 0 1 ",
            "l 0 1;", "l  0 1 1", "l 0  1 1", "l 0 1 1 ", "l 0 1 123", "l 000 1 1", "l a 1 1", "c", "c0", "c 0 ", "c 0 1",
            "u -1", "w 0", "w 0;", "w 0 1 1", "h", "h x", "q 123", "d 1;", "r 1n", "r 80;r", "c 0/", "c 0:", "c :", "c /"};
        int[] place = {0, 0, 2, 2, 1, 1, 0, 2, 0, 1, 2, 3, 5, 6,
            5, 2, 4, 7, 8, 4, 2, 1, 1, 3, 3,
            2, 3, 3, 5, 1, 2, 4, 4, 3, 6, 3, 3, 2, 2};
        for (int i = 0; i < texts.length; i++) {
            VectorRounds x = new VectorRounds();
            due("script of \"" + texts[i] + "\"", script(x, texts[i]), -1000 - place[i]);
            due("the tape is empty", x.count(7), 0);
            due("nothing is done", x.count(0), 0);
        }
        String full = "";
        for (int i = 0; i < 24; i++) {
            full += "r 10;";
        }
        VectorRounds x = new VectorRounds();
        due("it ends too early at 120", script(x, full), -1120);
        due("119 bytes", script(x, full.substring(0, 119)), 24);
        due("ROUND", x.count(4), 240);
    }

    private static void scriptLines() {
        promise = "23, lines";
        VectorRounds x = new VectorRounds();
        due("script", script(x, "n;n;n;l 0 1 3;l 02 01 15;w 1 04;h 2;q 1;d 9;r 2;c 0;u 0;r 01"), 13);
        due("count", x.count(0), 3);
        due("count", x.count(1), 2);
        due("of", x.of(1, 2), 4);
        due("count", x.count(4), 3);
        due("rule", x.rule(0, 0), 2);
        due("rule", x.rule(1, 0), 1);
        due("rule", x.rule(2, 0), 9);
        entryIs(x, 0, 1, 3, 1, 6, 11);
        int told = x.count(5);
        x.row(0, 2);
        String[] texts = {"l 0 1 1", "r 2;l 0 2 0", "n;l 3 4 1", "c 0;c 0", "u 0", "u 2", "c 2", "w 0 0", "w 0 16", "h 3", "q 2",
            "d 10", "r 0", "r 81", "n;n;n;n;n;n;n;n", "r 3;n;h 1;d 2;w 0 9;c 1;r 99", "l 0 0 1"};
        int[] line = {0, 1, 1, 1, 0, 0, 0, 0, 0, 0, 0, 0, 0, 0, 7, 6, 0};
        for (int i = 0; i < texts.length; i++) {
            due("script of \"" + texts[i] + "\"", script(x, texts[i]), -2000 - line[i]);
            due("all is as it was", x.count(0), 3);
            due("all is as it was", x.count(1), 2);
            due("all is as it was", x.count(2), 2);
            due("all is as it was", x.count(3), 9);
            due("all is as it was", x.count(4), 3);
            due("all is as it was", x.count(5), told);
            due("all is as it was", x.rule(0, 0) + x.rule(2, 0), 0);
            due("all is as it was", x.of(0, 2), 3);
            entryIs(x, 0, 1, 3, 1, 6, 11);
            due("the tape is empty", x.count(7), 0);
        }
        due("holders stay", x.count(8), 1);
        due("80 rounds", script(x, "r 80"), 1);
        due("ROUND", x.count(4), 83);
    }

    private static void images() {
        promise = "24, 25";
        VectorRounds x = line(3);
        due("back", x.back(), STATE);
        x.rule(0, 1);
        x.rounds(4);
        int told = x.count(5);
        due("image", x.image(), 4);
        x.rule(0, 2);
        x.rule(1, 1);
        x.rule(2, 5);
        x.router();
        x.cost(0, 9);
        x.link(0, 3, 1);
        x.turn(1, 0);
        x.rounds(7);
        x.feed('n');
        x.hold(2, 0, 1);
        due("back", x.back(), 4);
        due("count", x.count(0), 3);
        due("count", x.count(1), 2);
        due("count", x.count(2), 2);
        due("count", x.count(3), 9);
        due("count", x.count(4), 4);
        due("count", x.count(5), told);
        due("count", x.count(6), 0);
        due("the tape stays", x.count(7), 1);
        due("holders stay", x.count(8), 1);
        due("of", x.of(0, 2), 1);
        due("between", x.between(0, 2), NOT);
        due("rule", x.rule(0, 0), 1);
        due("rule", x.rule(1, 0), 0);
        due("rule", x.rule(2, 0), 0);
        entryIs(x, 0, 2, 2, 1, 0, 0, 2);
        x.rounds(1);
        due("again", x.back(), 4);
        due("count", x.count(4), 4);
        x.rounds(2);
        due("another image", x.image(), 6);
        x.rounds(2);
        due("back", x.back(), 6);
        due("link anew", x.link(0, 2, 1), 2);
        due("router anew", x.router(), 3);
        due("and its entries", x.entry(0, 3, 0), NOT);
    }

    private static void holds() {
        promise = "26";
        VectorRounds x = line(2);
        due("no entry", x.hold(0, 0, 1), NOT);
        due("nothing changed", x.count(8), 0);
        x.rounds(1);
        due("hold", x.hold(5, 0, 1), 1);
        x.turn(0, 0);
        due("as it was then", x.tells(5, 0), 1);
        due("hold again", x.hold(5, 0, 1), 1);
        due("as it is now", x.tells(5, 0), 16);
        x.row(0, 3);
        due("instead of a row", x.hold(0, 1, 1), 1);
        due("put", x.put(0, 0, 1), VOID);
        int[][] bad = {{-1, 0, 0}, {6, 0, 0}, {0, -1, 0}, {0, 2, 0}, {0, 0, -1}, {0, 0, 2}, {LOW, 0, 0}, {HIGH, 0, 0},
            {0, LOW, 0}, {0, 0, HIGH}};
        for (int[] b : bad) {
            due("hold bad", x.hold(b[0], b[1], b[2]), BAD);
        }
    }

    private static void rows() {
        promise = "27";
        VectorRounds x = line(2);
        due("row", x.row(0, 60), 1);
        due("put", x.put(0, 59, 7), 0);
        due("row", x.row(0, 61), BAD);
        due("row", x.row(0, HIGH), BAD);
        due("row", x.row(0, -2), -14);
        due("row", x.row(0, LOW), -14);
        due("nothing changed", x.put(0, 59, 7), 7);
        due("a new one", x.row(0, 60), 1);
        due("0 at first", x.put(0, 59, 7), 0);
        due("shorter", x.row(0, 2), 1);
        due("put", x.put(0, 2, 7), VOID);
        due("longer", x.row(0, 60), 1);
        due("0 at first", x.put(0, 59, 7), 0);
        due("of none", x.row(5, 0), 1);
        due("it holds something", x.count(8), 2);
        due("nothing", x.row(5, -1), 1);
        due("nothing", x.row(4, -1), 1);
        due("count", x.count(8), 1);
        x.hold(1, 0, 0);
        due("instead of an entry", x.row(1, 2), 1);
        due("tells", x.tells(1, 0), -12);
        due("row", x.row(-1, 1), BAD);
        due("row", x.row(6, 1), BAD);
        due("row", x.row(LOW, 1), BAD);
        due("row", x.row(HIGH, 1), BAD);
        due("BAD ahead of -14", x.row(6, -2), BAD);
    }

    private static void puts() {
        promise = "28";
        VectorRounds x = line(2);
        due("nothing", x.put(0, 0, 1), VOID);
        x.row(0, 2);
        due("put", x.put(0, 0, 5), 0);
        due("put", x.put(0, 0, LOW), 5);
        due("put", x.put(0, 0, 0), LOW);
        due("put", x.put(0, 1, HIGH), 0);
        due("put", x.put(0, 1, 1), HIGH);
        due("no place", x.put(0, 2, 1), VOID);
        due("no place", x.put(0, -1, 1), VOID);
        due("no place", x.put(0, HIGH, 1), VOID);
        due("no place", x.put(0, LOW, 1), VOID);
        due("holder", x.put(-1, 0, 1), VOID);
        due("holder", x.put(6, 0, 1), VOID);
        due("holder", x.put(LOW, 0, 1), VOID);
        due("holder", x.put(HIGH, 0, 1), VOID);
        x.hold(1, 0, 0);
        due("another sort", x.put(1, 0, 1), VOID);
        x.row(2, 2);
        due("each for itself", x.put(2, 1, 1), 0);
    }

    private static void tells() {
        promise = "29";
        VectorRounds x = line(3);
        x.rule(1, 1);
        x.rounds(3);
        x.hold(0, 1, 1);
        x.hold(1, 0, 2);
        x.turn(1, 0);
        x.hold(2, 1, 2);
        int[][] want = {{0, 6, -12, -12}, {2, -12, 1, -12}, {16, -12, -12, 3}};
        for (int holder = 0; holder < 3; holder++) {
            for (int as = 0; as < 4; as++) {
                due("tells(" + holder + ", " + as + ")", x.tells(holder, as), want[holder][as]);
            }
        }
        VectorRounds far = line(2);
        far.cost(0, 15);
        far.rounds(1);
        far.hold(0, 0, 1);
        due("15 is a reach", far.tells(0, 2), 1);
        due("15 is not lost", far.tells(0, 3), -12);
        due("nothing", x.tells(3, 0), -11);
        x.row(3, 2);
        for (int as = 0; as < 4; as++) {
            due("a row", x.tells(3, as), -12);
        }
        int[][] bad = {{-1, 0}, {6, 0}, {0, -1}, {0, 4}, {LOW, 0}, {HIGH, 0}, {0, LOW}, {0, HIGH}, {4, 4}};
        for (int[] b : bad) {
            due("tells bad", x.tells(b[0], b[1]), BAD);
        }
    }

    private static void howMany() {
        promise = "30";
        VectorRounds x = line(4);
        x.rounds(2);
        x.turn(2, 0);
        x.feed('n');
        x.row(1, 0);
        x.hold(3, 0, 0);
        // Behind round 2 the ends 0 and 3 do not know each other: 14 entries. Lost: 3 and 2's of one another, 3's of 1.
        int[] want = {4, 3, 2, 14, 2, 6 + 16, 3, 1, 2};
        for (int what = 0; what <= 8; what++) {
            due("count(" + what + ")", x.count(what), want[what]);
        }
        due("count", x.count(-1), BAD);
        due("count", x.count(9), BAD);
        due("count", x.count(LOW), BAD);
        due("count", x.count(HIGH), BAD);
    }
}
