/** Promise 3: deliver, and with it ACK and what ACK runs. */
public final class Promise3Test {
    private static final int MIN = Integer.MIN_VALUE;
    private static final int MAX = Integer.MAX_VALUE;
    private static final Check check = new Check();

    public static void main(String[] args) {
        check.sentence("Promise 3: \"If t < 0 .. it answers REFUSED and changes nothing\"");
        refusesBelowZero();
        check.sentence("Promise 3: \"If .. t >= the number of ids made .. it answers REFUSED and changes nothing\"");
        refusesWhatWasNeverMade();
        refusesAboveTheLastOfAllIds();
        check.sentence("Promise 3: \"If .. arrived(t) is already true, it answers REFUSED and changes nothing\"");
        refusesWhatHasArrived();
        check.sentence("Promise 3: \"a transmission id can be delivered at most once, whatever its segment's state\"");
        refusesWhateverTheSegmentsState();
        check.sentence("Promise 3: \"The answer is DUPLICATE if dup, else NEW_DATA\"");
        tellsDuplicatesFromNewData();
        check.sentence("Promise 3: \"now itself does not change\"");
        timeStands();
        check.sentence("Promise 3: \"Step a of ACK handles every received segment not yet delivered\"");
        learnsWhatCameUnacknowledged();
        learnsInIncreasingOrder();
        check.sentence("Terms: SAMPLE");
        takesSamples();
        check.sentence("Terms: GROW");
        growsSlowlyThenCarefully();
        lossEndsTheRoundOfGrowth();
        check.sentence("Terms: DETECT: \"every candidate s with deadline(s) <= now\"");
        detectsAtOnceWhenDue();
        recoversAndLeavesRecovery();
        check.sentence("Terms: ACK, a: \"unless (sends(s) > 1 and minRtt is not none and r < minRtt)\"");
        ignoresTooShortTimes();
        check.sentence("Terms: ACK, b: \"If step a handled at least one segment\"");
        aDuplicateAloneRearmsNothing();
        check.sentence("Terms: ACK, c: \"if state != OPEN and ep(s0) > 0 .. if undoRetrans == 0, UNDO\"");
        undoesLoss();
        undoesNothingOnceOpen();
        undoMarksAgainWhatIsStillDue();
        undoClearsLostSegments();
        undoClearsTheLastSegmentToo();
        countsOnlyTheEpisodesOwnRetransmissions();
        check.sentence("Terms: EPISODE");
        aNewEpisodeStartsAfresh();
        aNewEpisodeForgetsTheLastSegmentToo();
        check.sentence("Terms: ACK, d: \"every s < recoveryPoint is delivered\"");
        leavesLossAtThePointAlone();
        check.end();
    }

    private static void refusesBelowZero() {
        RackTlp x = new RackTlp(4, 100);
        check.refused("deliver", x, x::deliver, -1, MIN);
        Check.writeMany(x, 6);
        x.tick(10);
        x.deliver(1);
        check.refused("deliver", x, x::deliver, -1, -2, -4, -256, MIN, MIN + 1);
        check.due("deliver(0)", x.deliver(0), RackTlp.NEW_DATA);
    }

    private static void refusesWhatWasNeverMade() {
        RackTlp x = new RackTlp(4, 100);
        check.refused("deliver with no id", x, x::deliver, 0, 1, 255, 256, MAX);
        Check.writeMany(x, 4);
        check.refused("deliver with 4 ids", x, x::deliver, 4, 5, 63, 64, 255, 256, 257, MAX);
        check.due("deliver(3)", x.deliver(3), RackTlp.NEW_DATA);
        // at time 0 the other three are due at once; a window of 2 lets two of them go
        check.stats("6 ids", x, RackTlp.K_TX_COUNT, 6);
        check.refused("deliver with 6 ids", x, x::deliver, 6, 7, 255, 256, MAX);
        check.due("deliver(5)", x.deliver(5), RackTlp.NEW_DATA);
    }

    private static void refusesAboveTheLastOfAllIds() {
        RackTlp x = new RackTlp(2, 4);
        Check.writeMany(x, 2);
        for (int i = 0; i < 10; i++) {
            x.tick(1000);
        }
        check.stats("ids used up", x, RackTlp.K_TX_COUNT, 256);
        check.refused("deliver", x, x::deliver, 256, 257, 512, MAX);
        check.due("deliver(255)", x.deliver(255), RackTlp.NEW_DATA);
        check.refused("deliver", x, x::deliver, 255, 256);
    }

    private static void refusesWhatHasArrived() {
        RackTlp x = new RackTlp(4, 100);
        Check.writeMany(x, 4);
        x.tick(5);
        check.due("deliver(0)", x.deliver(0), RackTlp.NEW_DATA);
        check.refused("deliver of a delivered one", x, x::deliver, 0);
        check.refused("deliverNoAck of a delivered one", x, x::deliverNoAck, 0);
        check.due("deliverNoAck(1)", x.deliverNoAck(1), RackTlp.NEW_DATA);
        // an ack now would tell of segment 1, but a refused call brings none
        check.refused("deliver of one whose ack was lost", x, x::deliver, 1);
        x.tick(4);
        check.refused("deliver later", x, x::deliver, 0, 1);
        check.due("segment 1 is still to be learned", x.segment(1), 1 + 8 + 256);
    }

    private static void refusesWhateverTheSegmentsState() {
        RackTlp x = new RackTlp(3, 20);
        Check.writeMany(x, 3);
        x.deliverNoAck(1);
        x.tick(20);
        check.due("received and lost", x.segment(1), 1 + 4 + 8 + 256);
        check.refused("deliver, its segment is lost", x, x::deliver, 1);
        x.deliver(0);
        check.due("delivered", x.segment(1), 1 + 2 + 8 + 256);
        check.refused("deliver, its segment is delivered", x, x::deliver, 0, 1);
        check.due("another id of the same segment", x.deliver(3), RackTlp.DUPLICATE);
        check.refused("deliver, it came as a duplicate", x, x::deliver, 3);
    }

    private static void tellsDuplicatesFromNewData() {
        RackTlp x = new RackTlp(2, 20);
        x.write(300);
        x.write(301);
        x.tick(80);
        // segment 0 at 0, 20, 40 and 80; segment 1 at 0
        check.stats("sent again", x, RackTlp.K_TX_COUNT, 5, RackTlp.K_CUM_ACK, 0);
        check.due("received through deliver", x.deliver(3), RackTlp.NEW_DATA);
        check.due("its byte", x.recvByte(0), 44);
        check.due("an earlier id of the same segment", x.deliver(0), RackTlp.DUPLICATE);
        check.due("a later id of the same segment", x.deliver(4), RackTlp.DUPLICATE);
        check.due("its byte stays", x.recvByte(0), 44);
        check.stats("two DSACKs", x, RackTlp.K_DSACKS, 2, RackTlp.K_CUM_ACK, 1);
        int again = x.stat(RackTlp.K_TX_COUNT) - 1;
        check.due("segment 1 went again", x.txInfo(again), 1 + RackTlp.TX_RETX);
        check.due("received through deliverNoAck", x.deliverNoAck(1), RackTlp.NEW_DATA);
        check.due("the ack of it and of the duplicate", x.deliver(again), RackTlp.DUPLICATE);
        check.stats("both learned", x, RackTlp.K_DSACKS, 3, RackTlp.K_DELIVERED, 2, RackTlp.K_CUM_ACK, 2);
    }

    private static void timeStands() {
        RackTlp x = new RackTlp(4, 100);
        Check.writeMany(x, 8);
        x.tick(10);
        for (int t = 0; t < 8; t++) {
            x.deliver(t);
            check.stats("deliver(" + t + ")", x, RackTlp.K_NOW, 10);
        }
    }

    private static void takesSamples() {
        RackTlp x = new RackTlp(4, 100);
        Check.writeMany(x, 4);
        x.tick(20);
        x.deliver(0);
        check.stats("first sample", x, RackTlp.K_SRTT, 20, RackTlp.K_RTTVAR, 10, RackTlp.K_MIN_RTT, 20,
            RackTlp.K_RTO, 60, RackTlp.K_PTO, 40, RackTlp.K_REO_WND, 5, RackTlp.K_RACK_TX, 0,
            RackTlp.K_RACK_RTT, 20, RackTlp.K_ARM_TIME, 20, RackTlp.K_CWND, 5, RackTlp.K_NOW, 20,
            RackTlp.K_DELIVERED, 1, RackTlp.K_CUM_ACK, 1, RackTlp.K_INFLIGHT, 3);
        x.tick(9);
        x.deliver(1);
        // d = 9: rttvar = 39 / 4, srtt = 169 / 8
        check.stats("second sample", x, RackTlp.K_SRTT, 21, RackTlp.K_RTTVAR, 9, RackTlp.K_MIN_RTT, 20,
            RackTlp.K_RTO, 57, RackTlp.K_RACK_TX, 1, RackTlp.K_RACK_RTT, 29, RackTlp.K_ARM_TIME, 29);
        x.write(1);
        x.tick(3);
        x.deliver(4);
        // d = 18: rttvar = 45 / 4, srtt = 150 / 8; the two older ones are due at once
        check.stats("third sample", x, RackTlp.K_SRTT, 18, RackTlp.K_RTTVAR, 11, RackTlp.K_MIN_RTT, 3,
            RackTlp.K_RACK_TX, 4, RackTlp.K_RACK_RTT, 3, RackTlp.K_REO_WND, 0,
            RackTlp.K_LOSS_MARKS, 2, RackTlp.K_STATE, RackTlp.RECOVERY);
    }

    private static void growsSlowlyThenCarefully() {
        RackTlp x = new RackTlp(4, 100);
        Check.writeMany(x, 4);
        x.tick(100);
        // RTO: ssthresh 2, cwnd 1
        x.deliver(4);
        check.stats("slow start", x, RackTlp.K_CWND, 2, RackTlp.K_SSTHRESH, 2, RackTlp.K_CNT, 0,
            RackTlp.K_STATE, RackTlp.LOSS);
        x.deliver(5);
        check.stats("avoidance", x, RackTlp.K_CWND, 2, RackTlp.K_CNT, 1);
        x.deliver(6);
        check.stats("avoidance, round full", x, RackTlp.K_CWND, 3, RackTlp.K_CNT, 0);
        x.deliver(7);
        check.stats("all delivered", x, RackTlp.K_CWND, 3, RackTlp.K_CNT, 1,
            RackTlp.K_STATE, RackTlp.OPEN, RackTlp.K_COMPLETE, 1, RackTlp.K_SRTT, -1);
        x.write(1);
        x.deliver(8);
        check.stats("avoidance in OPEN", x, RackTlp.K_CWND, 3, RackTlp.K_CNT, 2);
        x.write(1);
        x.deliver(9);
        check.stats("avoidance in OPEN, round full", x, RackTlp.K_CWND, 4, RackTlp.K_CNT, 0);
    }

    private static void detectsAtOnceWhenDue() {
        RackTlp x = new RackTlp(4, 100);
        x.write(1);
        x.tick(2);
        x.write(2);
        x.tick(10);
        // deadline of segment 0: 0 + 10 + 2 = 12 = now
        x.deliver(1);
        check.stats("deadline now", x, RackTlp.K_LOSS_MARKS, 1, RackTlp.K_STATE, RackTlp.RECOVERY,
            RackTlp.K_PRIOR_CWND, 5, RackTlp.K_PRIOR_SSTHRESH, 32, RackTlp.K_CWND, 2,
            RackTlp.K_SSTHRESH, 2, RackTlp.K_RECOVERY_POINT, 2, RackTlp.K_UNDO_RETRANS, 1,
            RackTlp.K_RETRANSMITS, 1, RackTlp.K_TX_COUNT, 3);
        check.due("retransmission", x.txInfo(2), RackTlp.TX_RETX);
        check.due("segment 0", x.segment(0), 1 + 2 * 256 + 1048576);

        RackTlp y = new RackTlp(4, 100);
        y.write(1);
        y.tick(1);
        y.write(2);
        y.tick(10);
        y.deliver(1);
        check.stats("deadline in 1", y, RackTlp.K_LOSS_MARKS, 0, RackTlp.K_STATE, RackTlp.OPEN,
            RackTlp.K_TIMER, RackTlp.REO, RackTlp.K_TIMER_AT, 12, RackTlp.K_NOW, 11);
    }

    private static void recoversAndLeavesRecovery() {
        RackTlp x = new RackTlp(4, 100);
        Check.writeMany(x, 4);
        x.tick(10);
        x.deliver(3);
        check.stats("reordered", x, RackTlp.K_TIMER, RackTlp.REO, RackTlp.K_TIMER_AT, 12,
            RackTlp.K_RACK_TX, 3, RackTlp.K_CWND, 5);
        x.tick(1);
        x.deliver(2);
        check.stats("older arrival", x, RackTlp.K_RACK_TX, 3, RackTlp.K_RACK_RTT, 10, RackTlp.K_CWND, 6,
            RackTlp.K_SRTT, 10, RackTlp.K_RTTVAR, 4);
        check.due("tick to the deadline", x.tick(1), 1);
        check.stats("lost", x, RackTlp.K_LOSS_MARKS, 2, RackTlp.K_CWND, 3, RackTlp.K_SSTHRESH, 3,
            RackTlp.K_PRIOR_CWND, 6, RackTlp.K_UNDO_RETRANS, 2, RackTlp.K_TIMER, RackTlp.RTO,
            RackTlp.K_TIMER_AT, 38);
        x.write(9);
        x.deliver(4);
        check.stats("no growth in RECOVERY", x, RackTlp.K_CWND, 3, RackTlp.K_CNT, 0,
            RackTlp.K_STATE, RackTlp.RECOVERY);
        x.deliver(5);
        check.stats("all below the point", x, RackTlp.K_STATE, RackTlp.OPEN, RackTlp.K_CWND, 3,
            RackTlp.K_COMPLETE, 0, RackTlp.K_UNDO_RETRANS, 2, RackTlp.K_UNDOS, 0);
    }

    private static void learnsWhatCameUnacknowledged() {
        RackTlp x = new RackTlp(4, 100);
        Check.writeMany(x, 4);
        x.tick(8);
        x.deliverNoAck(0);
        x.deliverNoAck(2);
        x.tick(8);
        check.due("deliver(1)", x.deliver(1), RackTlp.NEW_DATA);
        check.stats("three learned", x, RackTlp.K_DELIVERED, 3, RackTlp.K_CUM_ACK, 3, RackTlp.K_CWND, 7,
            RackTlp.K_SRTT, 16, RackTlp.K_RTTVAR, 4, RackTlp.K_RACK_TX, 2, RackTlp.K_RACK_RTT, 16,
            RackTlp.K_DSACKS, 0);
        check.due("segment 2", x.segment(2), 1 + 2 + 8 + 256);
        check.due("deliver(0)", x.deliver(0), RackTlp.REFUSED);
    }

    private static void learnsInIncreasingOrder() {
        RackTlp x = new RackTlp(4, 100);
        x.write(0);
        x.tick(6);
        x.write(1);
        x.tick(10);
        x.deliverNoAck(0);
        check.due("deliver(1)", x.deliver(1), RackTlp.NEW_DATA);
        // 16, then 10: rttvar (24 + 6) / 4, srtt (112 + 10) / 8
        check.stats("16 is the first sample", x, RackTlp.K_RTTVAR, 7, RackTlp.K_SRTT, 15, RackTlp.K_MIN_RTT, 10,
            RackTlp.K_RACK_TX, 1, RackTlp.K_RACK_RTT, 10);
    }

    private static void ignoresTooShortTimes() {
        RackTlp x = new RackTlp(4, 100);
        Check.writeMany(x, 2);
        x.tick(10);
        x.deliver(0);
        check.due("tick to the probe", x.tick(20), 1);
        x.tick(9);
        x.deliver(1);
        check.stats("below minRtt", x, RackTlp.K_RACK_TX, 0, RackTlp.K_RACK_RTT, 10, RackTlp.K_SRTT, 10,
            RackTlp.K_CWND, 6, RackTlp.K_TLP_OUT, 0, RackTlp.K_ARM_TIME, 39);

        RackTlp y = new RackTlp(4, 100);
        Check.writeMany(y, 2);
        y.tick(10);
        y.deliver(0);
        y.tick(20);
        y.tick(10);
        y.deliver(1);
        check.stats("at minRtt", y, RackTlp.K_RACK_TX, 2, RackTlp.K_RACK_RTT, 10, RackTlp.K_SRTT, 10,
            RackTlp.K_RTTVAR, 5);
        check.due("the probe's own arrival", y.deliver(2), RackTlp.DUPLICATE);
        check.stats("DSACK in OPEN", y, RackTlp.K_DSACKS, 1, RackTlp.K_REO_MULT, 2, RackTlp.K_UNDOS, 0,
            RackTlp.K_UNDO_RETRANS, 0, RackTlp.K_CWND, 6);
    }

    /** An object in LOSS with segments 0 to 2 delivered, one retransmission of segment 3 not undone. */
    private static RackTlp nearlyUndone() {
        RackTlp x = new RackTlp(4, 50);
        Check.writeMany(x, 4);
        x.tick(50);
        x.tick(5);
        x.deliver(0);
        check.stats("first arrival in LOSS", x, RackTlp.K_RACK_TX, 4, RackTlp.K_RACK_RTT, 5,
            RackTlp.K_CWND, 2, RackTlp.K_SHIFT, 0, RackTlp.K_SRTT, -1, RackTlp.K_UNDO_RETRANS, 3,
            RackTlp.K_TIMER, RackTlp.RTO, RackTlp.K_TIMER_AT, 50, RackTlp.K_NOW, 55);
        x.deliver(4);
        check.stats("first DSACK", x, RackTlp.K_UNDO_RETRANS, 2, RackTlp.K_UNDOS, 0, RackTlp.K_REO_MULT, 2);
        check.due("segment 0", x.segment(0), 1 + 2 + 8 + 2 * 256);
        x.deliver(1);
        check.stats("room for the last", x, RackTlp.K_UNDO_RETRANS, 3, RackTlp.K_CNT, 1, RackTlp.K_TX_COUNT, 8);
        x.deliver(5);
        x.deliver(6);
        x.deliver(2);
        check.stats("one left", x, RackTlp.K_UNDO_RETRANS, 1, RackTlp.K_CWND, 3, RackTlp.K_CNT, 0,
            RackTlp.K_STATE, RackTlp.LOSS, RackTlp.K_DSACKS, 3);
        return x;
    }

    private static void undoesLoss() {
        RackTlp x = nearlyUndone();
        check.due("deliverNoAck(3)", x.deliverNoAck(3), RackTlp.NEW_DATA);
        check.due("deliver(7)", x.deliver(7), RackTlp.DUPLICATE);
        check.stats("undone", x, RackTlp.K_UNDOS, 1, RackTlp.K_UNDO_RETRANS, 0, RackTlp.K_CWND, 4,
            RackTlp.K_SSTHRESH, 32, RackTlp.K_CNT, 0, RackTlp.K_STATE, RackTlp.OPEN, RackTlp.K_DSACKS, 4,
            RackTlp.K_REO_MULT, 5, RackTlp.K_COMPLETE, 1);
    }

    private static void undoesNothingOnceOpen() {
        RackTlp x = nearlyUndone();
        x.deliver(3);
        check.stats("open again", x, RackTlp.K_STATE, RackTlp.OPEN, RackTlp.K_CWND, 3, RackTlp.K_CNT, 1);
        check.due("deliver(7)", x.deliver(7), RackTlp.DUPLICATE);
        check.stats("too late", x, RackTlp.K_UNDOS, 0, RackTlp.K_UNDO_RETRANS, 1, RackTlp.K_CWND, 3,
            RackTlp.K_SSTHRESH, 2, RackTlp.K_DSACKS, 4, RackTlp.K_PRIOR_CWND, 4);
        check.due("segment 3 keeps its ep", x.segment(3), 1 + 2 + 8 + 2 * 256 + 1048576);
    }

    private static void undoMarksAgainWhatIsStillDue() {
        RackTlp x = new RackTlp(8, 100);
        Check.writeMany(x, 8);
        x.tick(10);
        x.deliver(7);
        check.due("tick to the deadline", x.tick(2), 1);
        // 7 lost, cwnd 4: segments 0 to 3 go again, 4 to 6 stay lost
        check.stats("lost", x, RackTlp.K_LOSS_MARKS, 7, RackTlp.K_CWND, 4, RackTlp.K_UNDO_RETRANS, 4,
            RackTlp.K_PRIOR_CWND, 9);
        x.deliverNoAck(0);
        x.deliverNoAck(1);
        x.deliverNoAck(2);
        x.deliverNoAck(3);
        x.deliver(8);
        // the four are delivered, so 4 to 6 go again too
        check.stats("four learned", x, RackTlp.K_UNDO_RETRANS, 6, RackTlp.K_TX_COUNT, 15, RackTlp.K_DELIVERED, 5);
        x.deliver(9);
        x.deliver(10);
        x.deliver(11);
        check.stats("half undone", x, RackTlp.K_UNDO_RETRANS, 3, RackTlp.K_UNDOS, 0);
        x.deliverNoAck(4);
        x.deliver(12);
        x.deliverNoAck(5);
        x.deliver(13);
        check.stats("one left", x, RackTlp.K_UNDO_RETRANS, 1, RackTlp.K_STATE, RackTlp.RECOVERY,
            RackTlp.K_CWND, 4);
        x.deliverNoAck(6);
        x.deliver(14);
        check.stats("undone", x, RackTlp.K_UNDO_RETRANS, 0, RackTlp.K_UNDOS, 1, RackTlp.K_CWND, 9,
            RackTlp.K_SSTHRESH, 32, RackTlp.K_STATE, RackTlp.OPEN, RackTlp.K_DSACKS, 7, RackTlp.K_REO_MULT, 8);
    }

    private static void undoClearsLostSegments() {
        RackTlp x = new RackTlp(2, 50);
        Check.writeMany(x, 2);
        x.tick(50);
        // LOSS: segment 0 went again as id 2, segment 1 is lost and waits
        check.due("waiting", x.segment(1), 1 + 4 + 256);
        x.deliverNoAck(0);
        check.due("deliver(2)", x.deliver(2), RackTlp.DUPLICATE);
        // UNDO clears 1; its id 1 is below rackTx 2 and due at 0 + 0 + 0, so DETECT marks it again
        check.stats("undone, lost anew", x, RackTlp.K_UNDOS, 1, RackTlp.K_LOSS_MARKS, 1,
            RackTlp.K_STATE, RackTlp.RECOVERY, RackTlp.K_PRIOR_CWND, 2, RackTlp.K_PRIOR_SSTHRESH, 32,
            RackTlp.K_CWND, 2, RackTlp.K_SSTHRESH, 2, RackTlp.K_UNDO_RETRANS, 1, RackTlp.K_TX_COUNT, 4);
        check.due("gone again", x.segment(1), 1 + 2 * 256 + 1048576);
    }

    /** So many segments delivered one by one after 8 each: srtt and minRtt 8, rttvar 0, a timeout after 9. */
    private static RackTlp deliveredAfterEight(int count) {
        RackTlp x = new RackTlp(16, 100);
        for (int i = 0; i < count; i++) {
            x.write(i);
            x.tick(8);
            x.deliver(i);
        }
        check.stats("steady", x, RackTlp.K_SRTT, 8, RackTlp.K_RTO, 9, RackTlp.K_TX_COUNT, count, RackTlp.K_CWND, 32);
        return x;
    }

    private static void undoClearsTheLastSegmentToo() {
        RackTlp x = deliveredAfterEight(60);
        Check.writeMany(x, 4);
        check.due("tick(9)", x.tick(9), 1);
        check.due("lost", x.segment(63), 1 + 4 + 256);
        x.deliverNoAck(60);
        check.due("deliver(64)", x.deliver(64), RackTlp.DUPLICATE);
        // id 64 came in less than minRtt, so rackTx stays and nothing is a candidate
        check.stats("undone", x, RackTlp.K_UNDOS, 1, RackTlp.K_STATE, RackTlp.OPEN, RackTlp.K_CWND, 32,
            RackTlp.K_INFLIGHT, 3, RackTlp.K_RACK_TX, 59, RackTlp.K_LOSS_MARKS, 0, RackTlp.K_TX_COUNT, 65);
        for (int s = 61; s < 64; s++) {
            check.due("segment(" + s + ")", x.segment(s), 1 + 256);
        }
    }

    private static void countsOnlyTheEpisodesOwnRetransmissions() {
        RackTlp x = new RackTlp(4, 100);
        Check.writeMany(x, 3);
        x.tick(10);
        x.deliver(0);
        // probe of segment 2 in OPEN (id 3), then the timeout sends segment 1 (id 4)
        check.due("tick(20)", x.tick(20), 2);
        x.deliver(2);
        check.due("the probe arrives", x.deliver(3), RackTlp.DUPLICATE);
        check.stats("a probe is not of the episode", x, RackTlp.K_DSACKS, 1, RackTlp.K_UNDO_RETRANS, 1,
            RackTlp.K_UNDOS, 0, RackTlp.K_STATE, RackTlp.LOSS, RackTlp.K_CWND, 2);
        check.due("segment 2", x.segment(2), 1 + 2 + 8 + 2 * 256);
    }

    private static void aNewEpisodeStartsAfresh() {
        RackTlp x = new RackTlp(4, 50);
        x.write(1);
        x.tick(50);
        x.deliver(1);
        check.stats("over", x, RackTlp.K_STATE, RackTlp.OPEN, RackTlp.K_UNDO_RETRANS, 1, RackTlp.K_CWND, 2);
        check.due("ep stays", x.segment(0), 1 + 2 + 8 + 2 * 256 + 1048576);
        x.write(2);
        check.due("tick(50)", x.tick(50), 1);
        check.stats("the next episode", x, RackTlp.K_STATE, RackTlp.LOSS, RackTlp.K_UNDO_RETRANS, 1,
            RackTlp.K_PRIOR_CWND, 2, RackTlp.K_PRIOR_SSTHRESH, 2, RackTlp.K_RECOVERY_POINT, 2);
        check.due("ep is gone", x.segment(0), 1 + 2 + 8 + 2 * 256);
        check.due("ep is new", x.segment(1), 1 + 2 * 256 + 1048576);
    }

    private static void aNewEpisodeForgetsTheLastSegmentToo() {
        RackTlp x = deliveredAfterEight(59);
        x.write(59);
        x.tick(4);
        x.deliver(59);
        // srtt 7, rttvar 1, minRtt 4: a timeout after 11
        x.write(60);
        x.tick(1);
        Check.writeMany(x, 2);
        x.tick(7);
        x.deliver(62);
        // segment 60 is lost at once and goes again as id 63; segment 61 does after 63, as id 65
        x.write(63);
        check.due("tick(1)", x.tick(1), 1);
        check.stats("recovery", x, RackTlp.K_STATE, RackTlp.RECOVERY, RackTlp.K_RECOVERY_POINT, 63,
            RackTlp.K_NEXT_NEW, 64, RackTlp.K_TX_COUNT, 66);
        x.tick(4);
        x.deliver(65);
        x.deliver(60);
        check.stats("open, the last one on its way", x, RackTlp.K_STATE, RackTlp.OPEN, RackTlp.K_DELIVERED, 63);
        check.due("ep stays", x.segment(63), 1 + 2 * 256 + 1048576);
        check.due("tick(8)", x.tick(8), 1);
        check.stats("the next episode", x, RackTlp.K_STATE, RackTlp.LOSS, RackTlp.K_UNDO_RETRANS, 1);
        check.due("ep is new", x.segment(63), 1 + 3 * 256 + 1048576);
    }

    private static void aDuplicateAloneRearmsNothing() {
        RackTlp x = new RackTlp(2, 50);
        Check.writeMany(x, 2);
        x.tick(50);
        x.deliver(0);
        check.due("tick(50)", x.tick(50), 1);
        x.tick(1);
        check.due("deliver(2)", x.deliver(2), RackTlp.DUPLICATE);
        check.stats("a DSACK alone", x, RackTlp.K_SHIFT, 1, RackTlp.K_ARM_TIME, 50, RackTlp.K_NOW, 101,
            RackTlp.K_UNDO_RETRANS, 2, RackTlp.K_DELIVERED, 1);

        RackTlp y = new RackTlp(4, 100);
        y.write(1);
        y.tick(100);
        y.deliver(0);
        Check.writeMany(y, 2);
        y.tick(10);
        y.deliver(2);
        check.due("tick to the probe", y.tick(20), 1);
        check.due("deliver(1)", y.deliver(1), RackTlp.DUPLICATE);
        check.stats("a DSACK leaves the probe out", y, RackTlp.K_TLP_OUT, 1, RackTlp.K_ARM_TIME, 110);
    }

    private static void leavesLossAtThePointAlone() {
        RackTlp x = new RackTlp(2, 50);
        Check.writeMany(x, 2);
        x.tick(50);
        x.deliver(2);
        x.write(3);
        // segment 2 is above the point; segment 1 (id 3) is due at once and goes again as id 5
        check.due("deliver(4)", x.deliver(4), RackTlp.NEW_DATA);
        check.stats("one below is missing", x, RackTlp.K_STATE, RackTlp.LOSS, RackTlp.K_DELIVERED, 2,
            RackTlp.K_RECOVERY_POINT, 2, RackTlp.K_TX_COUNT, 6, RackTlp.K_LOSS_MARKS, 1,
            RackTlp.K_PRIOR_CWND, 2, RackTlp.K_UNDO_RETRANS, 3);
        x.deliver(5);
        check.stats("none is missing", x, RackTlp.K_STATE, RackTlp.OPEN);
    }

    private static RackTlp inTheMidstOfARound() {
        RackTlp x = new RackTlp(4, 100);
        Check.writeMany(x, 4);
        x.tick(100);
        for (int t = 4; t < 8; t++) {
            x.deliver(t);
        }
        Check.writeMany(x, 2);
        check.stats("midst of a round", x, RackTlp.K_CWND, 3, RackTlp.K_CNT, 1, RackTlp.K_TX_COUNT, 10);
        return x;
    }

    private static void lossEndsTheRoundOfGrowth() {
        RackTlp x = inTheMidstOfARound();
        x.deliver(9);
        check.stats("detected", x, RackTlp.K_STATE, RackTlp.RECOVERY, RackTlp.K_CNT, 0, RackTlp.K_CWND, 2,
            RackTlp.K_PRIOR_CWND, 3, RackTlp.K_LOSS_MARKS, 1);
        RackTlp y = inTheMidstOfARound();
        check.due("tick(100)", y.tick(100), 1);
        check.stats("timed out", y, RackTlp.K_STATE, RackTlp.LOSS, RackTlp.K_CNT, 0, RackTlp.K_CWND, 1,
            RackTlp.K_PRIOR_CWND, 3);
    }

}
