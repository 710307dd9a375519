/** Promise 3: deliver. */
public final class Promise3Test {
    private static final int MIN = Integer.MIN_VALUE;
    private static final int MAX = Integer.MAX_VALUE;
    private static final Check check = new Check();

    public static void main(String[] args) {
        check.sentence("Promise 3: \"If t < 0 .. it answers REFUSED and changes nothing\"");
        refusesBelowZero();
        check.sentence("Promise 3: \"If .. t >= the number of ids made .. it answers REFUSED and changes nothing\"");
        refusesWhatWasNeverMade();
        refusesAboveTheLastOfAllIds();
        check.sentence("Promise 3: \"If .. arrived(t) is already true, it answers REFUSED and changes nothing\"");
        refusesWhatHasArrived();
        check.sentence("Promise 3: \"a transmission id can be delivered at most once, whatever its segment's state\"");
        refusesWhateverTheSegmentsState();
        check.sentence("Promise 3: \"The answer is DUPLICATE if dup, else NEW_DATA\"");
        tellsDuplicatesFromNewData();
        check.sentence("Promise 3: \"now itself does not change\"");
        timeStands();
        check.sentence("Promise 3: \"Step a of ACK handles every received segment not yet delivered\"");
        learnsWhatCameUnacknowledged();
        learnsInIncreasingOrder();
        check.end();
    }

    private static void refusesBelowZero() {
        RackTlp x = new RackTlp(4, 100);
        check.refused("deliver", x, x::deliver, -1, MIN);
        Check.writeMany(x, 6);
        x.tick(10);
        x.deliver(1);
        check.refused("deliver", x, x::deliver, -1, -2, -4, -256, MIN, MIN + 1);
        check.due("deliver(0)", x.deliver(0), RackTlp.NEW_DATA);
    }

    private static void refusesWhatWasNeverMade() {
        RackTlp x = new RackTlp(4, 100);
        check.refused("deliver with no id", x, x::deliver, 0, 1, 255, 256, MAX);
        Check.writeMany(x, 4);
        check.refused("deliver with 4 ids", x, x::deliver, 4, 5, 63, 64, 255, 256, 257, MAX);
        check.due("deliver(3)", x.deliver(3), RackTlp.NEW_DATA);
        // at time 0 the other three are due at once; a window of 2 lets two of them go
        check.stats("6 ids", x, RackTlp.K_TX_COUNT, 6);
        check.refused("deliver with 6 ids", x, x::deliver, 6, 7, 255, 256, MAX);
        check.due("deliver(5)", x.deliver(5), RackTlp.NEW_DATA);
    }

    private static void refusesAboveTheLastOfAllIds() {
        RackTlp x = new RackTlp(2, 4);
        Check.writeMany(x, 2);
        for (int i = 0; i < 10; i++) {
            x.tick(1000);
        }
        check.stats("ids used up", x, RackTlp.K_TX_COUNT, 256);
        check.refused("deliver", x, x::deliver, 256, 257, 512, MAX);
        check.due("deliver(255)", x.deliver(255), RackTlp.NEW_DATA);
        check.refused("deliver", x, x::deliver, 255, 256);
    }

    private static void refusesWhatHasArrived() {
        RackTlp x = new RackTlp(4, 100);
        Check.writeMany(x, 4);
        x.tick(5);
        check.due("deliver(0)", x.deliver(0), RackTlp.NEW_DATA);
        check.refused("deliver of a delivered one", x, x::deliver, 0);
        check.refused("deliverNoAck of a delivered one", x, x::deliverNoAck, 0);
        check.due("deliverNoAck(1)", x.deliverNoAck(1), RackTlp.NEW_DATA);
        // an ack now would tell of segment 1, but a refused call brings none
        check.refused("deliver of one whose ack was lost", x, x::deliver, 1);
        x.tick(4);
        check.refused("deliver later", x, x::deliver, 0, 1);
        check.due("segment 1 is still to be learned", x.segment(1), 1 + 8 + 256);
    }

    private static void refusesWhateverTheSegmentsState() {
        RackTlp x = new RackTlp(3, 20);
        Check.writeMany(x, 3);
        x.deliverNoAck(1);
        x.tick(20);
        check.due("received and lost", x.segment(1), 1 + 4 + 8 + 256);
        check.refused("deliver, its segment is lost", x, x::deliver, 1);
        x.deliver(0);
        check.due("delivered", x.segment(1), 1 + 2 + 8 + 256);
        check.refused("deliver, its segment is delivered", x, x::deliver, 0, 1);
        check.due("another id of the same segment", x.deliver(3), RackTlp.DUPLICATE);
        check.refused("deliver, it came as a duplicate", x, x::deliver, 3);
    }

    private static void tellsDuplicatesFromNewData() {
        RackTlp x = new RackTlp(2, 20);
        x.write(300);
        x.write(301);
        x.tick(80);
        // segment 0 at 0, 20, 40 and 80; segment 1 at 0
        check.stats("sent again", x, RackTlp.K_TX_COUNT, 5, RackTlp.K_CUM_ACK, 0);
        check.due("received through deliver", x.deliver(3), RackTlp.NEW_DATA);
        check.due("its byte", x.recvByte(0), 44);
        check.due("an earlier id of the same segment", x.deliver(0), RackTlp.DUPLICATE);
        check.due("a later id of the same segment", x.deliver(4), RackTlp.DUPLICATE);
        check.due("its byte stays", x.recvByte(0), 44);
        check.stats("two DSACKs", x, RackTlp.K_DSACKS, 2, RackTlp.K_CUM_ACK, 1);
        int again = x.stat(RackTlp.K_TX_COUNT) - 1;
        check.due("segment 1 went again", x.txInfo(again), 1 + RackTlp.TX_RETX);
        check.due("received through deliverNoAck", x.deliverNoAck(1), RackTlp.NEW_DATA);
        check.due("the ack of it and of the duplicate", x.deliver(again), RackTlp.DUPLICATE);
        check.stats("both learned", x, RackTlp.K_DSACKS, 3, RackTlp.K_DELIVERED, 2, RackTlp.K_CUM_ACK, 2);
    }

    private static void timeStands() {
        RackTlp x = new RackTlp(4, 100);
        Check.writeMany(x, 8);
        x.tick(10);
        for (int t = 0; t < 8; t++) {
            x.deliver(t);
            check.stats("deliver(" + t + ")", x, RackTlp.K_NOW, 10);
        }
    }

    private static void learnsWhatCameUnacknowledged() {
        RackTlp x = new RackTlp(4, 100);
        Check.writeMany(x, 4);
        x.tick(8);
        x.deliverNoAck(0);
        x.deliverNoAck(2);
        x.tick(8);
        check.due("deliver(1)", x.deliver(1), RackTlp.NEW_DATA);
        check.stats("three learned", x, RackTlp.K_DELIVERED, 3, RackTlp.K_CUM_ACK, 3, RackTlp.K_CWND, 7,
            RackTlp.K_SRTT, 16, RackTlp.K_RTTVAR, 4, RackTlp.K_RACK_TX, 2, RackTlp.K_RACK_RTT, 16,
            RackTlp.K_DSACKS, 0);
        check.due("segment 2", x.segment(2), 1 + 2 + 8 + 256);
        check.due("deliver(0)", x.deliver(0), RackTlp.REFUSED);
    }

    private static void learnsInIncreasingOrder() {
        RackTlp x = new RackTlp(4, 100);
        x.write(0);
        x.tick(6);
        x.write(1);
        x.tick(10);
        x.deliverNoAck(0);
        check.due("deliver(1)", x.deliver(1), RackTlp.NEW_DATA);
        // 16, then 10: rttvar (24 + 6) / 4, srtt (112 + 10) / 8
        check.stats("16 is the first sample", x, RackTlp.K_RTTVAR, 7, RackTlp.K_SRTT, 15, RackTlp.K_MIN_RTT, 10,
            RackTlp.K_RACK_TX, 1, RackTlp.K_RACK_RTT, 10);
    }
}
