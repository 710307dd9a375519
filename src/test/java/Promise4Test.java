/** Promise 4: deliverNoAck. */
public final class Promise4Test {
    private static final int MIN = Integer.MIN_VALUE;
    private static final int MAX = Integer.MAX_VALUE;
    private static final Check check = new Check();

    public static void main(String[] args) {
        check.sentence("Promise 4: \"REFUSED (changing nothing) when t < 0\"");
        refusesBelowZero();
        check.sentence("Promise 4: \"REFUSED (changing nothing) when .. t >= ids made\"");
        refusesWhatWasNeverMade();
        refusesAboveTheLastOfAllIds();
        check.sentence("Promise 4: \"REFUSED (changing nothing) when .. arrived(t)\"");
        refusesWhatHasArrived();
        check.sentence("Promise 4: \"otherwise DUPLICATE if received(seg(t)) already held, else NEW_DATA\"");
        duplicatesAreToldButNotLearned();
        aDuplicateKeepsTheByte();
        check.sentence("Promise 4: \"the sender state is unchanged\"");
        movesTheReceiverAlone();
        leavesEveryStateAlone();
        check.end();
    }

    private static void refusesBelowZero() {
        RackTlp x = new RackTlp(4, 100);
        check.refused("deliverNoAck", x, x::deliverNoAck, -1, MIN);
        Check.writeMany(x, 6);
        x.deliverNoAck(1);
        check.refused("deliverNoAck", x, x::deliverNoAck, -1, -2, -4, -256, MIN, MIN + 1);
        check.due("deliverNoAck(0)", x.deliverNoAck(0), RackTlp.NEW_DATA);
    }

    private static void refusesWhatWasNeverMade() {
        RackTlp x = new RackTlp(4, 100);
        check.refused("deliverNoAck with no id", x, x::deliverNoAck, 0, 1, 255, 256, MAX);
        Check.writeMany(x, 6);
        check.refused("deliverNoAck with 4 ids", x, x::deliverNoAck, 4, 5, 64, 255, 256, 257, MAX);
        check.due("deliverNoAck(3)", x.deliverNoAck(3), RackTlp.NEW_DATA);
        check.refused("deliverNoAck with 4 ids", x, x::deliverNoAck, 4);
    }

    private static void refusesAboveTheLastOfAllIds() {
        RackTlp x = new RackTlp(2, 4);
        Check.writeMany(x, 2);
        for (int i = 0; i < 10; i++) {
            x.tick(1000);
        }
        check.stats("ids used up", x, RackTlp.K_TX_COUNT, 256);
        check.refused("deliverNoAck", x, x::deliverNoAck, 256, 257, 512, MAX);
        check.due("deliverNoAck(255)", x.deliverNoAck(255), RackTlp.NEW_DATA);
        check.refused("deliverNoAck", x, x::deliverNoAck, 255, 256);
    }

    private static void refusesWhatHasArrived() {
        RackTlp x = new RackTlp(4, 100);
        Check.writeMany(x, 4);
        x.deliverNoAck(1);
        check.refused("deliverNoAck of an arrived one", x, x::deliverNoAck, 1);
        check.refused("deliver of an arrived one", x, x::deliver, 1);
        x.tick(5);
        x.deliver(0);
        check.refused("deliverNoAck of a delivered one", x, x::deliverNoAck, 0);
        check.refused("deliverNoAck of one learned with it", x, x::deliverNoAck, 1);
        x.tick(200);
        check.refused("deliverNoAck later", x, x::deliverNoAck, 0, 1);
    }

    private static void movesTheReceiverAlone() {
        RackTlp x = new RackTlp(4, 100);
        for (int i = 0; i < 6; i++) {
            x.write(300 + i);
        }
        x.tick(10);
        int[] sender = Check.senderOnly(x);
        check.due("deliverNoAck(1)", x.deliverNoAck(1), RackTlp.NEW_DATA);
        check.same("the sender", Check.senderOnly(x), sender);
        check.due("segment(1)", x.segment(1), 1 + 8 + 256);
        check.due("txInfo(1)", x.txInfo(1), 1 + 256);
        check.due("recvByte(1)", x.recvByte(1), 301 & 255);
        check.stats("a gap", x, RackTlp.K_CUM_ACK, 0, RackTlp.K_DELIVERED, 0, RackTlp.K_NOW, 10);
        check.due("deliverNoAck(0)", x.deliverNoAck(0), RackTlp.NEW_DATA);
        check.same("the sender", Check.senderOnly(x), sender);
        check.stats("no gap", x, RackTlp.K_CUM_ACK, 2, RackTlp.K_DELIVERED, 0, RackTlp.K_SRTT, -1,
            RackTlp.K_CWND, 4, RackTlp.K_INFLIGHT, 4, RackTlp.K_TX_COUNT, 4);
        x.deliverNoAck(2);
        x.deliverNoAck(3);
        check.stats("nothing learned", x, RackTlp.K_CUM_ACK, 4, RackTlp.K_COMPLETE, 0,
            RackTlp.K_TIMER, RackTlp.RTO, RackTlp.K_TIMER_AT, 100);
        check.due("the timeout still comes", x.tick(90), 1);
    }

    private static void arrivesUnnoticed(String what, RackTlp x, int t, int want) {
        int[] sender = Check.senderOnly(x);
        check.due(what + ", deliverNoAck(" + t + ")", x.deliverNoAck(t), want);
        check.same(what + ", deliverNoAck(" + t + ")", Check.senderOnly(x), sender);
        check.due(what + ", txInfo(" + t + ")", x.txInfo(t) & RackTlp.TX_ARRIVED, RackTlp.TX_ARRIVED);
    }

    private static void leavesEveryStateAlone() {
        RackTlp x = new RackTlp(4, 100);
        Check.writeMany(x, 9);
        x.tick(8);
        x.deliver(2);
        check.stats("reordered", x, RackTlp.K_TIMER, RackTlp.REO, RackTlp.K_TIMER_AT, 10, RackTlp.K_TX_COUNT, 6);
        arrivesUnnoticed("a candidate", x, 0, RackTlp.NEW_DATA);
        x.tick(2);
        // segments 0 and 1 are lost, and a window of 2 is full with 3, 4 and 5
        check.stats("recovery", x, RackTlp.K_STATE, RackTlp.RECOVERY, RackTlp.K_INFLIGHT, 3, RackTlp.K_CWND, 2);
        arrivesUnnoticed("lost in RECOVERY", x, 1, RackTlp.NEW_DATA);
        x.tick(14);
        check.stats("loss", x, RackTlp.K_STATE, RackTlp.LOSS, RackTlp.K_TX_COUNT, 7, RackTlp.K_UNDO_RETRANS, 1);
        arrivesUnnoticed("lost in LOSS", x, 5, RackTlp.NEW_DATA);
        arrivesUnnoticed("a retransmission in LOSS", x, 6, RackTlp.DUPLICATE);
    }

    private static void duplicatesAreToldButNotLearned() {
        RackTlp x = new RackTlp(1, 10);
        x.write(7);
        x.tick(30);
        // ids 1 and 2 by RTO at 10 and at 30
        check.stats("two timeouts", x, RackTlp.K_TX_COUNT, 3, RackTlp.K_UNDO_RETRANS, 2);
        int[] sender = Check.senderOnly(x);
        check.due("deliverNoAck(2)", x.deliverNoAck(2), RackTlp.NEW_DATA);
        check.due("deliverNoAck(0)", x.deliverNoAck(0), RackTlp.DUPLICATE);
        check.same("the sender", Check.senderOnly(x), sender);
        check.stats("no DSACK", x, RackTlp.K_DSACKS, 0, RackTlp.K_REO_MULT, 1, RackTlp.K_UNDO_RETRANS, 2);
        check.refused("deliverNoAck again", x, x::deliverNoAck, 0, 2);
        check.due("deliver(1)", x.deliver(1), RackTlp.DUPLICATE);
        check.stats("learned", x, RackTlp.K_DSACKS, 1, RackTlp.K_DELIVERED, 1, RackTlp.K_COMPLETE, 1,
            RackTlp.K_UNDO_RETRANS, 1, RackTlp.K_STATE, RackTlp.OPEN);
    }

    private static void aDuplicateKeepsTheByte() {
        RackTlp x = new RackTlp(1, 10);
        x.write(300);
        x.tick(30);
        check.due("deliver(0)", x.deliver(0), RackTlp.NEW_DATA);
        for (int t = 1; t <= 2; t++) {
            check.due("deliverNoAck(" + t + ")", x.deliverNoAck(t), RackTlp.DUPLICATE);
            check.due("the byte", x.recvByte(0), 44);
            check.stats("no DSACK", x, RackTlp.K_DSACKS, 0, RackTlp.K_CUM_ACK, 1);
        }
    }
}
