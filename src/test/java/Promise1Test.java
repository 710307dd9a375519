/** Promise 1: construction and the starting state. */
public final class Promise1Test {
    private static final int MIN = Integer.MIN_VALUE;
    private static final int MAX = Integer.MAX_VALUE;
    private static final Check check = new Check();

    public static void main(String[] args) {
        check.sentence("Promise 1: \"clamps initCwnd into [1, 16]\", below the least");
        startsAsTold(0, 100, 1, 100);
        startsAsTold(-1, 100, 1, 100);
        startsAsTold(-16, 100, 1, 100);
        check.sentence("Promise 1: \"clamps initCwnd into [1, 16]\", at and within the edges");
        startsAsTold(1, 100, 1, 100);
        startsAsTold(2, 100, 2, 100);
        startsAsTold(10, 100, 10, 100);
        startsAsTold(15, 100, 15, 100);
        startsAsTold(16, 100, 16, 100);
        check.sentence("Promise 1: \"clamps initCwnd into [1, 16]\", above the greatest");
        startsAsTold(17, 100, 16, 100);
        startsAsTold(32, 100, 16, 100);
        check.sentence("Promise 1: \"initRto into [4, 1000]\", below the least");
        startsAsTold(4, 3, 4, 4);
        startsAsTold(4, 0, 4, 4);
        startsAsTold(4, -1000, 4, 4);
        check.sentence("Promise 1: \"initRto into [4, 1000]\", at and within the edges");
        startsAsTold(4, 4, 4, 4);
        startsAsTold(4, 5, 4, 5);
        startsAsTold(4, 300, 4, 300);
        startsAsTold(4, 999, 4, 999);
        startsAsTold(4, 1000, 4, 1000);
        check.sentence("Promise 1: \"initRto into [4, 1000]\", above the greatest");
        startsAsTold(4, 1001, 4, 1000);
        startsAsTold(4, 4000, 4, 1000);
        check.sentence("Promise 1: \"any int is accepted\"");
        startsAsTold(MIN, MIN, 1, 4);
        startsAsTold(MAX, MAX, 16, 1000);
        startsAsTold(MIN, MAX, 1, 1000);
        startsAsTold(MAX, MIN, 16, 4);
        check.sentence("Promise 1: \"Every segment starts with sends 0, not delivered, not lost, ep 0\"");
        segmentsStartBare();
        check.sentence("Promise 1: \"At the start\", whatever became of another object");
        objectsAreApart();
        check.end();
    }

    private static void startsAsTold(int initCwnd, int initRto, int cwnd, int rto) {
        String what = "new RackTlp(" + initCwnd + ", " + initRto + ")";
        RackTlp x = new RackTlp(initCwnd, initRto);
        int[] due = {
            0, cwnd, 32, RackTlp.OPEN, -1, -1, -1, 0, 1, rto, 0, -1, 0, RackTlp.NONE, -1, 0, 0, 0,
            0, 0, 0, 0, 0, 0, 0, 0, 0, 0, 0, 0, 0, 0, 1, 0, 0, -1};
        for (int key = 0; key < due.length; key++) {
            check.due(what + ", stat(" + key + ")", x.stat(key), due[key]);
        }
        for (int i = -1; i <= 64; i++) {
            check.due(what + ", segment(" + i + ")", x.segment(i), -1);
            check.due(what + ", recvByte(" + i + ")", x.recvByte(i), -1);
        }
        for (int t = -1; t <= 256; t++) {
            check.due(what + ", txInfo(" + t + ")", x.txInfo(t), -1);
            check.due(what + ", txTime(" + t + ")", x.txTime(t), -1);
        }
        check.refused(what + ", deliver", x, x::deliver, -1, 0, 1);
        check.refused(what + ", deliverNoAck", x, x::deliverNoAck, -1, 0, 1);
        theClampedValuesAreUsed(what, x, cwnd, rto);
    }

    private static void theClampedValuesAreUsed(String what, RackTlp x, int cwnd, int rto) {
        Check.writeMany(x, 20);
        check.stats(what + ", written", x, RackTlp.K_TX_COUNT, cwnd, RackTlp.K_INFLIGHT, cwnd,
            RackTlp.K_TIMER, RackTlp.RTO, RackTlp.K_TIMER_AT, rto);
        check.due(what + ", tick up to the timer", x.tick(rto - 1), 0);
        check.due(what + ", tick to the timer", x.tick(1), 1);
        check.stats(what + ", fired", x, RackTlp.K_RTOS, 1, RackTlp.K_RTO, 2 * rto, RackTlp.K_PRIOR_CWND, cwnd,
            RackTlp.K_PRIOR_SSTHRESH, 32);
    }

    private static void segmentsStartBare() {
        RackTlp x = new RackTlp(1, 100);
        Check.writeMany(x, 64);
        check.due("segment(0), sent", x.segment(0), 1 + 256);
        for (int s = 1; s < 64; s++) {
            check.due("segment(" + s + ")", x.segment(s), 0);
        }
    }

    private static void objectsAreApart() {
        RackTlp x = new RackTlp(4, 100);
        RackTlp y = new RackTlp(4, 100);
        int[] before = Check.everything(y);
        x.write(1);
        x.tick(5);
        x.deliver(0);
        check.same("another object's calls", Check.everything(y), before);
        check.same("a new object", Check.everything(new RackTlp(4, 100)), before);
    }
}
