/** Promise 4: deliverNoAck. */
public final class Promise4Test {
    private static final Check check = new Check();

    public static void main(String[] args) {
        refusesWrongIds();
        movesTheReceiverAlone();
        duplicatesAreToldButNotLearned();
        check.end();
    }

    private static void refusesWrongIds() {
        RackTlp x = new RackTlp(4, 100);
        check.due("deliverNoAck(0) with no id", x.deliverNoAck(0), RackTlp.REFUSED);
        Check.writeMany(x, 6);
        x.deliverNoAck(1);
        int[] before = Check.everything(x);
        int[] wrong = {-1, 1, 4, 5, 64, 255, 256, Integer.MIN_VALUE, Integer.MAX_VALUE};
        for (int t : wrong) {
            check.due("deliverNoAck(" + t + ")", x.deliverNoAck(t), RackTlp.REFUSED);
            check.same("deliverNoAck(" + t + ")", Check.everything(x), before);
        }
        check.due("deliver of an arrived one", x.deliver(1), RackTlp.REFUSED);
        check.same("deliver of an arrived one", Check.everything(x), before);
        x.deliver(0);
        check.due("deliverNoAck of a delivered one", x.deliverNoAck(0), RackTlp.REFUSED);
    }

    private static void movesTheReceiverAlone() {
        RackTlp x = new RackTlp(4, 100);
        for (int i = 0; i < 6; i++) {
            x.write(300 + i);
        }
        x.tick(10);
        int[] sender = Check.senderOnly(x);
        check.due("deliverNoAck(1)", x.deliverNoAck(1), RackTlp.NEW_DATA);
        check.same("the sender", Check.senderOnly(x), sender);
        check.due("segment(1)", x.segment(1), 1 + 8 + 256);
        check.due("txInfo(1)", x.txInfo(1), 1 + 256);
        check.due("recvByte(1)", x.recvByte(1), 301 & 255);
        check.stats("a gap", x, RackTlp.K_CUM_ACK, 0, RackTlp.K_DELIVERED, 0, RackTlp.K_NOW, 10);
        check.due("deliverNoAck(0)", x.deliverNoAck(0), RackTlp.NEW_DATA);
        check.same("the sender", Check.senderOnly(x), sender);
        check.stats("no gap", x, RackTlp.K_CUM_ACK, 2, RackTlp.K_DELIVERED, 0, RackTlp.K_SRTT, -1,
            RackTlp.K_CWND, 4, RackTlp.K_INFLIGHT, 4, RackTlp.K_TX_COUNT, 4);
        x.deliverNoAck(2);
        x.deliverNoAck(3);
        check.stats("nothing learned", x, RackTlp.K_CUM_ACK, 4, RackTlp.K_COMPLETE, 0,
            RackTlp.K_TIMER, RackTlp.RTO, RackTlp.K_TIMER_AT, 100);
        check.due("the timeout still comes", x.tick(90), 1);
    }

    private static void duplicatesAreToldButNotLearned() {
        RackTlp x = new RackTlp(1, 10);
        x.write(7);
        x.tick(30);
        // ids 1 and 2 by RTO at 10 and at 30
        check.stats("two timeouts", x, RackTlp.K_TX_COUNT, 3, RackTlp.K_UNDO_RETRANS, 2);
        int[] sender = Check.senderOnly(x);
        check.due("deliverNoAck(2)", x.deliverNoAck(2), RackTlp.NEW_DATA);
        check.due("deliverNoAck(0)", x.deliverNoAck(0), RackTlp.DUPLICATE);
        check.same("the sender", Check.senderOnly(x), sender);
        check.stats("no DSACK", x, RackTlp.K_DSACKS, 0, RackTlp.K_REO_MULT, 1, RackTlp.K_UNDO_RETRANS, 2);
        check.due("deliverNoAck(0) again", x.deliverNoAck(0), RackTlp.REFUSED);
        check.due("deliver(1)", x.deliver(1), RackTlp.DUPLICATE);
        check.stats("learned", x, RackTlp.K_DSACKS, 1, RackTlp.K_DELIVERED, 1, RackTlp.K_COMPLETE, 1,
            RackTlp.K_UNDO_RETRANS, 1, RackTlp.K_STATE, RackTlp.OPEN);
    }
}
