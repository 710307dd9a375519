import java.util.Random;

/** Made-up runs, the same ones every time, on the program and on the model side by side. */
public final class ModelTest {
    private static final int RUNS = 1400;
    private static final int CALLS = 300;
    private static final int SHOWN = 20;
    /** Of a run whose transmissions mostly arrive in order, so that the window gets wide. */
    private static final int ORDERLY = 4;
    private static final Check check = new Check();

    /** The greatest value of each stat key over all runs. */
    private static final int[] reached = new int[36];

    public static void main(String[] args) {
        for (int run = 0; run < RUNS && check.wrong() < SHOWN; run++) {
            oneRun(run);
        }
        theRunsWentEverywhere();
        check.end();
    }

    private static void oneRun(int run) {
        Random random = new Random(run);
        int initCwnd = random.nextInt(20) - 1;
        int initRto = random.nextInt(4) == 0 ? random.nextInt(1200) : random.nextInt(60);
        RackTlp x = new RackTlp(initCwnd, initRto);
        Model m = new Model(initCwnd, initRto);
        int eagerness = random.nextInt(4) == 0 ? ORDERLY : random.nextInt(4);
        int step = 1 + random.nextInt(30);
        startNearAnEdge(run, random, step, x, m);
        compare("run " + run + ", at its start", x, m);
        for (int call = 0; call < CALLS && check.wrong() < SHOWN; call++) {
            oneCall("run " + run + ", call " + call, random, eagerness, step, x, m);
        }
    }

    /** Half of the runs start where the clock wraps, the segments end or the ids end soon, or two of these. */
    private static void startNearAnEdge(int run, Random random, int step, RackTlp x, Model m) {
        if (run % 6 == 0) {
            int time = Integer.MAX_VALUE - random.nextInt(4000);
            Check.passTo(x, time);
            m.passIdle(time);
        }
        if (run % 24 == 0 || run % 6 == 1) {
            mostSegmentsDelivered(56 + random.nextInt(7), step, x, m);
        }
        if (run % 24 == 6 || run % 6 == 2) {
            mostIdsMade(225 + random.nextInt(30), x, m);
        }
    }

    private static void mostSegmentsDelivered(int count, int step, RackTlp x, Model m) {
        for (int s = 0; s < count; s++) {
            check.due("write", x.write(s), m.write(s));
            check.due("tick", x.tick(s % step), m.tick(s % step));
            int t = x.stat(RackTlp.K_TX_COUNT) - 1;
            check.due("deliver", x.deliver(t), m.deliver(t));
        }
    }

    private static void mostIdsMade(int count, RackTlp x, Model m) {
        check.due("write", x.write(7), m.write(7));
        for (int t = 1; t < count; t++) {
            int wait = x.stat(RackTlp.K_TIMER_AT) - x.stat(RackTlp.K_NOW);
            check.due("tick", x.tick(wait), m.tick(wait));
        }
        int t = x.stat(RackTlp.K_TX_COUNT) - 1;
        check.due("deliver", x.deliver(t), m.deliver(t));
    }

    private static void oneCall(String where, Random random, int eagerness, int step, RackTlp x, Model m) {
        int what = random.nextInt(20);
        if (what < 5) {
            int b = random.nextInt();
            check.due(where + ": write(" + b + ")", x.write(b), m.write(b));
        } else if (what < 9) {
            int n = ticks(random, step);
            check.due(where + ": tick(" + n + ")", x.tick(n), m.tick(n));
        } else {
            int t = eagerness == ORDERLY && what < 19 ? firstOnItsWay(x) : pickId(random, x, what < 14);
            if (what % 4 < eagerness) {
                check.due(where + ": deliver(" + t + ")", x.deliver(t), m.deliver(t));
            } else if (what % 2 == 0) {
                check.due(where + ": deliverNoAck(" + t + ")", x.deliverNoAck(t), m.deliverNoAck(t));
            }
        }
        compare(where, x, m);
    }

    private static int ticks(Random random, int step) {
        int kind = random.nextInt(40);
        if (kind == 0) {
            return random.nextInt();
        }
        return kind < 4 ? random.nextInt(500) : random.nextInt(step + 1) - (kind == 5 ? 3 : 0);
    }

    private static int firstOnItsWay(RackTlp x) {
        int t = 0;
        while (t < RackTlp.MAX_TX && x.txInfo(t) >= 0 && (x.txInfo(t) & RackTlp.TX_ARRIVED) != 0) {
            t++;
        }
        return t;
    }

    private static int pickId(Random random, RackTlp x, boolean recent) {
        int count = x.stat(RackTlp.K_TX_COUNT);
        if (recent) {
            return count - 1 - random.nextInt(6);
        }
        return random.nextInt(count + 4) - 2;
    }

    private static void compare(String where, RackTlp x, Model m) {
        int[] stats = m.stats();
        check.due(where, "stat", -1, x.stat(-1), 0);
        check.due(where, "stat", stats.length, x.stat(stats.length), 0);
        for (int key = 0; key < stats.length; key++) {
            check.due(where, "stat", key, x.stat(key), stats[key]);
            reached[key] = Math.max(reached[key], stats[key]);
        }
        for (int s = -1; s <= stats[RackTlp.K_WRITTEN]; s++) {
            check.due(where, "segment", s, x.segment(s), m.segment(s));
            check.due(where, "recvByte", s, x.recvByte(s), m.recvByte(s));
        }
        for (int t = -1; t <= stats[RackTlp.K_TX_COUNT]; t++) {
            check.due(where, "txInfo", t, x.txInfo(t), m.txInfo(t));
            check.due(where, "txTime", t, x.txTime(t), m.txTime(t));
        }
    }

    /** Runs that never undo, probe or fill up would compare nothing of worth. */
    private static void theRunsWentEverywhere() {
        check.due("the ids ran out", reached[RackTlp.K_TX_COUNT], 256);
        check.due("the segments ran out", reached[RackTlp.K_WRITTEN], 64);
        check.due("every segment was sent", reached[RackTlp.K_NEXT_NEW], 64);
        check.due("the window was full", reached[RackTlp.K_CWND], 32);
        check.due("the backoff was full", reached[RackTlp.K_SHIFT], 6);
        check.due("the reordering window was full", reached[RackTlp.K_REO_MULT], 8);
        check.due("undos came", reached[RackTlp.K_UNDOS] > 1 ? 1 : 0, 1);
        check.due("probes came", reached[RackTlp.K_TLPS] > 1 ? 1 : 0, 1);
        check.due("losses came", reached[RackTlp.K_LOSS_MARKS] > 1 ? 1 : 0, 1);
    }
}
