/** Promise 8: stat. */
public final class Promise8Test {
    private static final int MIN = Integer.MIN_VALUE;
    private static final int MAX = Integer.MAX_VALUE;
    private static final Check check = new Check();

    public static void main(String[] args) {
        check.sentence("Promise 8: \"any other key (below 0 or above 35) answers 0\"");
        otherKeysAnswerZero();
        check.sentence("Promise 8: \"answers the value named by key\"");
        everyKeyOnOneRun();
        check.sentence("Promise 8: \"a value that is none answers -1\"");
        noneAnswersMinusOne();
        check.sentence("Promise 8: \"K_PTO pto, -1 while srtt is none\"");
        noProbeTimeWhileSrttIsNone();
        check.sentence("Promise 8: \"K_TIMER_AT its deadline, -1 when NONE\"");
        noDeadlineWithoutATimer();
        check.sentence("Promise 8: \"K_COMPLETE 1 iff every written segment is delivered, else 0"
            + " (so 1 while nothing has been written)\"");
        completeComesAndGoes();
        completeAtSixtyFour();
        check.sentence("Promise 8: \"K_CUM_ACK the receiver's cumAck\"");
        countsAtTheReceiver();
        countsUpToSixtyFour();
        check.sentence("Promise 8: \"It changes nothing\"");
        lookingChangesNothing();
        check.end();
    }

    private static void otherKeysAnswerZero() {
        RackTlp x = new RackTlp(4, 100);
        int[] other = {-1, -2, -36, 36, 37, 64, 100, 256, MIN, MIN + 35, MAX};
        for (int key : other) {
            check.changesNothing("new, stat", x, x::stat, key, 0);
        }
        // an object of which no value next to the edges is 0
        x.tick(3);
        Check.writeMany(x, 4);
        x.tick(10);
        x.deliver(2);
        check.stats("the edges", x, RackTlp.K_NOW, 13, RackTlp.K_PTO, 20);
        for (int key : other) {
            check.changesNothing("stat", x, x::stat, key, 0);
        }
    }

    /** A run after which nearly every value is off its starting one. */
    private static void everyKeyOnOneRun() {
        RackTlp x = new RackTlp(4, 100);
        Check.writeMany(x, 9);
        x.tick(10);
        x.deliver(0);
        // cwnd 5, ids 4 and 5 at 10; probe at 30 sends id 6, its timeout at 30 comes at once
        check.due("tick(20)", x.tick(20), 2);
        x.deliver(7);
        // id 7 was segment 1 at 30 (r 0, below minRtt 10, so rackTx stays)
        int[] due = {
            30, 2, 2, RackTlp.LOSS, 10, 5, 10, 2, 1, 30, 0, 0, 10, RackTlp.RTO, 40, 9, 7, 10,
            2, 3, 0, 0, 3, 5, 32, 7, 1, 0, 1, 0, 2, 2, 0, 30, 0, 20};
        for (int key = 0; key < due.length; key++) {
            check.due("stat(" + key + ")", x.stat(key), due[key]);
        }
    }

    private static void noneAnswersMinusOne() {
        int[] keys = {RackTlp.K_SRTT, RackTlp.K_RTTVAR, RackTlp.K_MIN_RTT, RackTlp.K_RACK_TX};
        int[] values = {10, 5, 10, 0};
        for (int i = 0; i < keys.length; i++) {
            RackTlp x = new RackTlp(4, 100);
            check.stats("new", x, keys[i], -1);
            x.write(1);
            check.stats("written", x, keys[i], -1);
            x.tick(10);
            check.stats("on its way", x, keys[i], -1);
            x.deliver(0);
            check.stats("delivered", x, keys[i], values[i]);
        }
    }

    private static void noProbeTimeWhileSrttIsNone() {
        RackTlp x = new RackTlp(4, 100);
        check.stats("new", x, RackTlp.K_PTO, -1);
        x.write(1);
        x.tick(100);
        x.deliver(0);
        check.stats("rackTx alone is known", x, RackTlp.K_PTO, -1, RackTlp.K_SRTT, -1, RackTlp.K_RACK_TX, 1);
        x.write(2);
        x.deliver(2);
        check.stats("srtt is 0", x, RackTlp.K_PTO, 2, RackTlp.K_SRTT, 0);
    }

    private static void noDeadlineWithoutATimer() {
        RackTlp x = new RackTlp(4, 100);
        check.stats("new", x, RackTlp.K_TIMER, RackTlp.NONE, RackTlp.K_TIMER_AT, -1);
        x.tick(7);
        check.stats("idle", x, RackTlp.K_TIMER, RackTlp.NONE, RackTlp.K_TIMER_AT, -1);
        x.write(1);
        x.write(2);
        check.stats("sent", x, RackTlp.K_TIMER, RackTlp.RTO, RackTlp.K_TIMER_AT, 107);
        x.tick(8);
        x.deliver(0);
        check.stats("one delivered", x, RackTlp.K_TIMER, RackTlp.PTO, RackTlp.K_TIMER_AT, 31);
        x.write(3);
        x.deliver(2);
        // a sample of 0: segment 1 is overdue and goes again at once, at 15
        check.stats("one left", x, RackTlp.K_TIMER, RackTlp.RTO, RackTlp.K_TIMER_AT, 15 + 7 + 20);
        x.deliver(1);
        check.stats("all delivered", x, RackTlp.K_TIMER, RackTlp.NONE, RackTlp.K_TIMER_AT, -1);
    }

    private static void completeComesAndGoes() {
        RackTlp x = new RackTlp(1, 100);
        check.stats("nothing written", x, RackTlp.K_COMPLETE, 1);
        x.tick(10);
        check.stats("nothing written, later", x, RackTlp.K_COMPLETE, 1);
        Check.writeMany(x, 2);
        check.stats("two written", x, RackTlp.K_COMPLETE, 0);
        x.deliverNoAck(0);
        check.stats("received, not learned", x, RackTlp.K_COMPLETE, 0);
        x.tick(100);
        x.deliver(1);
        check.stats("one learned", x, RackTlp.K_COMPLETE, 0, RackTlp.K_DELIVERED, 1);
        x.deliver(2);
        check.stats("both learned", x, RackTlp.K_COMPLETE, 1, RackTlp.K_DELIVERED, 2);
        x.write(1);
        check.stats("a third", x, RackTlp.K_COMPLETE, 0);
    }

    private static void completeAtSixtyFour() {
        RackTlp x = new RackTlp(16, 1000);
        Check.writeMany(x, 64);
        for (int t = 0; t < 64; t++) {
            check.stats(t + " delivered", x, RackTlp.K_COMPLETE, 0, RackTlp.K_DELIVERED, t);
            x.deliver(t);
        }
        check.stats("all delivered", x, RackTlp.K_COMPLETE, 1, RackTlp.K_DELIVERED, 64);
    }

    private static void countsAtTheReceiver() {
        RackTlp x = new RackTlp(16, 1000);
        check.stats("new", x, RackTlp.K_CUM_ACK, 0);
        Check.writeMany(x, 16);
        int[] order = {1, 0, 5, 3, 2, 4, 7, 6};
        int[] cumAck = {0, 2, 2, 2, 4, 6, 6, 8};
        for (int i = 0; i < order.length; i++) {
            x.deliverNoAck(order[i]);
            check.stats("after " + order[i], x, RackTlp.K_CUM_ACK, cumAck[i], RackTlp.K_DELIVERED, 0);
        }
    }

    private static void countsUpToSixtyFour() {
        RackTlp x = new RackTlp(16, 1000);
        Check.writeMany(x, 64);
        for (int t = 0; t < 64; t++) {
            check.stats(t + " received", x, RackTlp.K_CUM_ACK, t);
            x.deliver(t);
        }
        check.stats("all received", x, RackTlp.K_CUM_ACK, 64);
    }

    private static void lookingChangesNothing() {
        RackTlp x = new RackTlp(4, 100);
        Check.writeMany(x, 6);
        x.tick(10);
        x.deliver(3);
        x.deliverNoAck(1);
        x.tick(1);
        for (int key = -5; key < 50; key++) {
            check.changesNothing("stat", x, x::stat, key, x.stat(key));
        }
    }
}
