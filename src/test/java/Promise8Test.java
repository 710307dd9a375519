/** Promise 8: stat. */
public final class Promise8Test {
    private static final Check check = new Check();

    public static void main(String[] args) {
        otherKeysAnswerZero();
        everyKeyOnOneRun();
        completeComesAndGoes();
        countsAtTheReceiver();
        clampsTheTimeout();
        check.end();
    }

    private static void otherKeysAnswerZero() {
        RackTlp x = new RackTlp(4, 100);
        Check.writeMany(x, 4);
        x.tick(10);
        x.deliver(2);
        int[] other = {-1, -2, 36, 37, 64, 100, 256, Integer.MIN_VALUE, Integer.MAX_VALUE};
        for (int key : other) {
            check.due("stat(" + key + ")", x.stat(key), 0);
        }
    }

    /** A run after which nearly every value is off its starting one. */
    private static void everyKeyOnOneRun() {
        RackTlp x = new RackTlp(4, 100);
        Check.writeMany(x, 9);
        x.tick(10);
        x.deliver(0);
        // cwnd 5, ids 4 and 5 at 10; probe at 30 sends id 6, its timeout at 30 comes at once
        check.due("tick(20)", x.tick(20), 2);
        x.deliver(7);
        // id 7 was segment 1 at 30 (r 0, below minRtt 10, so rackTx stays)
        int[] due = {
            30, 2, 2, RackTlp.LOSS, 10, 5, 10, 2, 1, 30, 0, 0, 10, RackTlp.RTO, 40, 9, 7, 10,
            2, 3, 0, 0, 3, 5, 32, 7, 1, 0, 1, 0, 2, 2, 0, 30, 0, 20};
        for (int key = 0; key < due.length; key++) {
            check.due("stat(" + key + ")", x.stat(key), due[key]);
        }
        int[] before = Check.everything(x);
        for (int key = -5; key < 50; key++) {
            x.stat(key);
        }
        check.same("looking", Check.everything(x), before);
    }

    private static void completeComesAndGoes() {
        RackTlp x = new RackTlp(1, 100);
        check.stats("nothing written", x, RackTlp.K_COMPLETE, 1);
        Check.writeMany(x, 2);
        check.stats("two written", x, RackTlp.K_COMPLETE, 0);
        x.deliverNoAck(0);
        check.stats("received, not learned", x, RackTlp.K_COMPLETE, 0);
        x.tick(100);
        x.deliver(1);
        check.stats("one learned", x, RackTlp.K_COMPLETE, 0, RackTlp.K_DELIVERED, 1);
        x.deliver(2);
        check.stats("both learned", x, RackTlp.K_COMPLETE, 1, RackTlp.K_DELIVERED, 2,
            RackTlp.K_TIMER, RackTlp.NONE, RackTlp.K_TIMER_AT, -1);
        x.write(1);
        check.stats("a third", x, RackTlp.K_COMPLETE, 0);
    }

    private static void countsAtTheReceiver() {
        RackTlp x = new RackTlp(16, 1000);
        Check.writeMany(x, 16);
        int[] order = {1, 0, 5, 3, 2, 4, 7, 6};
        int[] cumAck = {0, 2, 2, 2, 4, 6, 6, 8};
        for (int i = 0; i < order.length; i++) {
            x.deliverNoAck(order[i]);
            check.stats("after " + order[i], x, RackTlp.K_CUM_ACK, cumAck[i], RackTlp.K_DELIVERED, 0);
        }
    }

    private static void clampsTheTimeout() {
        RackTlp x = new RackTlp(1, 100);
        x.write(1);
        x.deliver(0);
        check.stats("a sample of 0", x, RackTlp.K_SRTT, 0, RackTlp.K_RTTVAR, 0, RackTlp.K_MIN_RTT, 0,
            RackTlp.K_RTO, 4, RackTlp.K_PTO, 2, RackTlp.K_REO_WND, 0, RackTlp.K_RACK_TX, 0);
        RackTlp y = new RackTlp(1, 100);
        y.write(1);
        y.tick(1);
        y.deliver(0);
        check.stats("a sample of 1", y, RackTlp.K_SRTT, 1, RackTlp.K_RTTVAR, 0, RackTlp.K_RTO, 4,
            RackTlp.K_PTO, 2, RackTlp.K_REO_WND, 0);
        RackTlp z = new RackTlp(1, 100);
        z.write(1);
        z.tick(2);
        z.deliver(0);
        check.stats("a sample of 2", z, RackTlp.K_SRTT, 2, RackTlp.K_RTTVAR, 1, RackTlp.K_RTO, 6,
            RackTlp.K_PTO, 4);
    }
}
