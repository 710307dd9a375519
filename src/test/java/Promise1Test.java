/** Promise 1: construction and the starting state. */
public final class Promise1Test {
    private static final Check check = new Check();

    public static void main(String[] args) {
        startsAsTold(0, 0, 1, 4);
        startsAsTold(1, 4, 1, 4);
        startsAsTold(2, 5, 2, 5);
        startsAsTold(10, 300, 10, 300);
        startsAsTold(15, 999, 15, 999);
        startsAsTold(16, 1000, 16, 1000);
        startsAsTold(17, 1001, 16, 1000);
        startsAsTold(-7, 3, 1, 4);
        startsAsTold(Integer.MIN_VALUE, Integer.MIN_VALUE, 1, 4);
        startsAsTold(Integer.MAX_VALUE, Integer.MAX_VALUE, 16, 1000);
        objectsAreApart();
        check.end();
    }

    private static void startsAsTold(int initCwnd, int initRto, int cwnd, int rto) {
        String what = "new RackTlp(" + initCwnd + ", " + initRto + ")";
        RackTlp x = new RackTlp(initCwnd, initRto);
        int[] due = {
            0, cwnd, 32, RackTlp.OPEN, -1, -1, -1, 0, 1, rto, 0, -1, 0, RackTlp.NONE, -1, 0, 0, 0,
            0, 0, 0, 0, 0, 0, 0, 0, 0, 0, 0, 0, 0, 0, 1, 0, 0, -1};
        for (int key = 0; key < due.length; key++) {
            check.due(what + ", stat(" + key + ")", x.stat(key), due[key]);
        }
        for (int i = -1; i <= 64; i++) {
            check.due(what + ", segment(" + i + ")", x.segment(i), -1);
            check.due(what + ", recvByte(" + i + ")", x.recvByte(i), -1);
        }
        for (int t = -1; t <= 256; t++) {
            check.due(what + ", txInfo(" + t + ")", x.txInfo(t), -1);
            check.due(what + ", txTime(" + t + ")", x.txTime(t), -1);
        }
        check.due(what + ", deliver(0)", x.deliver(0), RackTlp.REFUSED);
        check.due(what + ", deliverNoAck(0)", x.deliverNoAck(0), RackTlp.REFUSED);
        theClampedValuesAreUsed(what, x, cwnd, rto);
    }

    private static void theClampedValuesAreUsed(String what, RackTlp x, int cwnd, int rto) {
        Check.writeMany(x, 20);
        check.stats(what + ", written", x, RackTlp.K_TX_COUNT, cwnd, RackTlp.K_INFLIGHT, cwnd,
            RackTlp.K_TIMER, RackTlp.RTO, RackTlp.K_TIMER_AT, rto);
        check.due(what + ", tick up to the timer", x.tick(rto - 1), 0);
        check.due(what + ", tick to the timer", x.tick(1), 1);
        check.stats(what + ", fired", x, RackTlp.K_RTOS, 1, RackTlp.K_RTO, 2 * rto);
    }

    private static void objectsAreApart() {
        RackTlp x = new RackTlp(4, 100);
        RackTlp y = new RackTlp(4, 100);
        int[] before = Check.everything(y);
        x.write(1);
        x.tick(5);
        x.deliver(0);
        check.same("another object's calls", Check.everything(y), before);
    }
}
