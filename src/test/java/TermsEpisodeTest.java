/** Terms: EPISODE, DETECT and UNDO, sentence by sentence. */
public final class TermsEpisodeTest {
    private static final Check check = new Check();

    public static void main(String[] args) {
        check.sentence("Terms: EPISODE: \"priorCwnd = cwnd; priorSsthresh = ssthresh; undoRetrans = 0;"
            + " ep(s) = 0 for every s\"");
        aNewEpisodeStartsAfresh();
        aNewEpisodeForgetsTheLastSegmentToo();
        check.sentence("Terms: EPISODE: \"used only in OPEN\"");
        aLossInRecoveryStartsNone();
        aLossInLossStartsNone();
        check.sentence("Terms: DETECT: \"every candidate s with deadline(s) <= now .. becomes lost\"");
        detectsAtOnceWhenDue();
        check.sentence("Terms: \"candidate(s): outstanding(s), not lost(s), rackTx is not none and last(s) < rackTx\"");
        whatWasSentLaterIsNoCandidate();
        check.sentence("Terms: DETECT: \"lossMarks++ for each\"");
        recoversAndLeavesRecovery();
        check.sentence("Terms: DETECT: \"If at least one did\"");
        nothingDueStartsNothing();
        check.sentence("Terms: DETECT: \"ssthresh = max(cwnd / 2, 2); cwnd = ssthresh; cnt = 0; state = RECOVERY\"");
        lossEndsTheRoundOfGrowth();
        check.sentence("Terms: DETECT: \"recoveryPoint = nextNew\"");
        thePointIsWhatWasSent();
        check.sentence("Terms: UNDO: \"cwnd = max(cwnd, priorCwnd)\"");
        undoesLoss();
        undoKeepsAWiderWindow();
        check.sentence("Terms: UNDO: \"ssthresh = max(ssthresh, priorSsthresh)\"");
        undoKeepsAHigherThreshold();
        check.sentence("Terms: UNDO: \"cnt = 0; state = OPEN; .. undos++\"");
        undoMarksAgainWhatIsStillDue();
        undoComesOnceForEachEpisode();
        undoLeavesTheBackoff();
        check.sentence("Terms: UNDO: \"lost(s) = false for every s\"");
        undoClearsLostSegments();
        undoClearsTheLastSegmentToo();
        undoClearsTheFirstSegmentToo();
        check.end();
    }

    private static void aNewEpisodeStartsAfresh() {
        RackTlp x = new RackTlp(4, 50);
        x.write(1);
        x.tick(50);
        x.deliver(1);
        check.stats("over", x, RackTlp.K_STATE, RackTlp.OPEN, RackTlp.K_UNDO_RETRANS, 1, RackTlp.K_CWND, 2);
        check.due("ep stays", x.segment(0), 1 + 2 + 8 + 2 * 256 + 1048576);
        x.write(2);
        check.due("tick(50)", x.tick(50), 1);
        check.stats("the next episode", x, RackTlp.K_STATE, RackTlp.LOSS, RackTlp.K_UNDO_RETRANS, 1,
            RackTlp.K_PRIOR_CWND, 2, RackTlp.K_PRIOR_SSTHRESH, 2, RackTlp.K_RECOVERY_POINT, 2);
        check.due("ep is gone", x.segment(0), 1 + 2 + 8 + 2 * 256);
        check.due("ep is new", x.segment(1), 1 + 2 * 256 + 1048576);
    }

    /** So many segments delivered one by one after 8 each: srtt and minRtt 8, rttvar 0, a timeout after 9. */
    private static RackTlp deliveredAfterEight(int count) {
        RackTlp x = new RackTlp(16, 100);
        for (int i = 0; i < count; i++) {
            x.write(i);
            x.tick(8);
            x.deliver(i);
        }
        check.stats("steady", x, RackTlp.K_SRTT, 8, RackTlp.K_RTO, 9, RackTlp.K_TX_COUNT, count, RackTlp.K_CWND, 32);
        return x;
    }

    private static void aNewEpisodeForgetsTheLastSegmentToo() {
        RackTlp x = deliveredAfterEight(59);
        x.write(59);
        x.tick(4);
        x.deliver(59);
        // srtt 7, rttvar 1, minRtt 4: a timeout after 11
        x.write(60);
        x.tick(1);
        Check.writeMany(x, 2);
        x.tick(7);
        x.deliver(62);
        // segment 60 is lost at once and goes again as id 63; segment 61 does after 63, as id 65
        x.write(63);
        check.due("tick(1)", x.tick(1), 1);
        check.stats("recovery", x, RackTlp.K_STATE, RackTlp.RECOVERY, RackTlp.K_RECOVERY_POINT, 63,
            RackTlp.K_NEXT_NEW, 64, RackTlp.K_TX_COUNT, 66);
        x.tick(4);
        x.deliver(65);
        x.deliver(60);
        check.stats("open, the last one on its way", x, RackTlp.K_STATE, RackTlp.OPEN, RackTlp.K_DELIVERED, 63);
        check.due("ep stays", x.segment(63), 1 + 2 * 256 + 1048576);
        check.due("tick(8)", x.tick(8), 1);
        check.stats("the next episode", x, RackTlp.K_STATE, RackTlp.LOSS, RackTlp.K_UNDO_RETRANS, 1);
        check.due("ep is new", x.segment(63), 1 + 3 * 256 + 1048576);
    }

    private static void aLossInRecoveryStartsNone() {
        RackTlp x = new RackTlp(8, 100);
        x.write(0);
        x.tick(1);
        Check.writeMany(x, 2);
        x.tick(10);
        x.deliver(2);
        check.due("segment 0 is lost at 12", x.tick(1), 1);
        x.write(3);
        int[] before = {RackTlp.K_STATE, RackTlp.RECOVERY, RackTlp.K_PRIOR_CWND, 9, RackTlp.K_PRIOR_SSTHRESH, 32,
            RackTlp.K_CWND, 4, RackTlp.K_SSTHRESH, 4, RackTlp.K_RECOVERY_POINT, 3};
        check.stats("one is lost", x, before);
        check.stats("one is lost", x, RackTlp.K_LOSS_MARKS, 1, RackTlp.K_UNDO_RETRANS, 1, RackTlp.K_NEXT_NEW, 4);
        check.due("segment 1 is lost at 13", x.tick(1), 1);
        check.stats("two are lost", x, before);
        check.stats("two are lost", x, RackTlp.K_LOSS_MARKS, 2, RackTlp.K_UNDO_RETRANS, 2, RackTlp.K_NEXT_NEW, 4);
        check.due("segment 0 keeps its ep", x.segment(0), 1 + 2 * 256 + 1048576);
    }

    private static void aLossInLossStartsNone() {
        RackTlp x = new RackTlp(2, 50);
        Check.writeMany(x, 2);
        x.tick(50);
        x.deliver(2);
        check.stats("both went again", x, RackTlp.K_STATE, RackTlp.LOSS, RackTlp.K_CWND, 2, RackTlp.K_UNDO_RETRANS, 2);
        x.write(2);
        x.tick(1);
        x.deliver(4);
        // a sample of 1 makes segment 1, of 50, due at 51
        check.stats("one is lost", x, RackTlp.K_STATE, RackTlp.LOSS, RackTlp.K_LOSS_MARKS, 1, RackTlp.K_PRIOR_CWND, 2,
            RackTlp.K_PRIOR_SSTHRESH, 32, RackTlp.K_CWND, 2, RackTlp.K_CNT, 1, RackTlp.K_RECOVERY_POINT, 2,
            RackTlp.K_NEXT_NEW, 3, RackTlp.K_UNDO_RETRANS, 3);
    }

    private static void detectsAtOnceWhenDue() {
        RackTlp x = new RackTlp(4, 100);
        x.write(1);
        x.tick(2);
        x.write(2);
        x.tick(10);
        // deadline of segment 0: 0 + 10 + 2 = 12 = now
        x.deliver(1);
        check.stats("deadline now", x, RackTlp.K_LOSS_MARKS, 1, RackTlp.K_STATE, RackTlp.RECOVERY,
            RackTlp.K_PRIOR_CWND, 5, RackTlp.K_PRIOR_SSTHRESH, 32, RackTlp.K_CWND, 2,
            RackTlp.K_SSTHRESH, 2, RackTlp.K_RECOVERY_POINT, 2, RackTlp.K_UNDO_RETRANS, 1,
            RackTlp.K_RETRANSMITS, 1, RackTlp.K_TX_COUNT, 3);
        check.due("retransmission", x.txInfo(2), RackTlp.TX_RETX);
        check.due("segment 0", x.segment(0), 1 + 2 * 256 + 1048576);

        RackTlp y = new RackTlp(4, 100);
        y.write(1);
        y.tick(1);
        y.write(2);
        y.tick(10);
        y.deliver(1);
        check.stats("deadline in 1", y, RackTlp.K_LOSS_MARKS, 0, RackTlp.K_STATE, RackTlp.OPEN,
            RackTlp.K_TIMER, RackTlp.REO, RackTlp.K_TIMER_AT, 12, RackTlp.K_NOW, 11);
    }

    private static void whatWasSentLaterIsNoCandidate() {
        RackTlp x = new RackTlp(4, 100);
        Check.writeMany(x, 4);
        x.tick(10);
        x.deliver(1);
        check.due("tick to the deadline of segment 0", x.tick(2), 1);
        check.stats("that one alone", x, RackTlp.K_LOSS_MARKS, 1, RackTlp.K_TIMER, RackTlp.RTO, RackTlp.K_RACK_TX, 1);
        check.due("sent earlier", x.segment(0), 1 + 4 + 256);
        check.due("sent later", x.segment(2), 1 + 256);
        check.due("sent later", x.segment(3), 1 + 256);
    }

    private static void recoversAndLeavesRecovery() {
        RackTlp x = new RackTlp(4, 100);
        Check.writeMany(x, 4);
        x.tick(10);
        x.deliver(3);
        check.stats("reordered", x, RackTlp.K_TIMER, RackTlp.REO, RackTlp.K_TIMER_AT, 12,
            RackTlp.K_RACK_TX, 3, RackTlp.K_CWND, 5);
        x.tick(1);
        x.deliver(2);
        check.stats("older arrival", x, RackTlp.K_RACK_TX, 3, RackTlp.K_RACK_RTT, 10, RackTlp.K_CWND, 6,
            RackTlp.K_SRTT, 10, RackTlp.K_RTTVAR, 4);
        check.due("tick to the deadline", x.tick(1), 1);
        check.stats("lost", x, RackTlp.K_LOSS_MARKS, 2, RackTlp.K_CWND, 3, RackTlp.K_SSTHRESH, 3,
            RackTlp.K_PRIOR_CWND, 6, RackTlp.K_UNDO_RETRANS, 2, RackTlp.K_TIMER, RackTlp.RTO,
            RackTlp.K_TIMER_AT, 38);
        x.write(9);
        x.deliver(4);
        check.stats("no growth in RECOVERY", x, RackTlp.K_CWND, 3, RackTlp.K_CNT, 0,
            RackTlp.K_STATE, RackTlp.RECOVERY);
        x.deliver(5);
        check.stats("all below the point", x, RackTlp.K_STATE, RackTlp.OPEN, RackTlp.K_CWND, 3,
            RackTlp.K_COMPLETE, 0, RackTlp.K_UNDO_RETRANS, 2, RackTlp.K_UNDOS, 0);
    }

    private static void nothingDueStartsNothing() {
        RackTlp x = new RackTlp(4, 100);
        Check.writeMany(x, 3);
        x.tick(10);
        x.deliver(2);
        check.stats("two candidates, none due", x, RackTlp.K_TIMER, RackTlp.REO, RackTlp.K_STATE, RackTlp.OPEN,
            RackTlp.K_PRIOR_CWND, 0, RackTlp.K_CWND, 5, RackTlp.K_SSTHRESH, 32, RackTlp.K_LOSS_MARKS, 0);
        x.deliver(0);
        x.deliver(1);
        check.stats("no candidate", x, RackTlp.K_STATE, RackTlp.OPEN, RackTlp.K_PRIOR_CWND, 0, RackTlp.K_CWND, 7,
            RackTlp.K_RECOVERY_POINT, 0);
    }

    private static RackTlp inTheMidstOfARound() {
        RackTlp x = new RackTlp(4, 100);
        Check.writeMany(x, 4);
        x.tick(100);
        for (int t = 4; t < 8; t++) {
            x.deliver(t);
        }
        Check.writeMany(x, 2);
        check.stats("midst of a round", x, RackTlp.K_CWND, 3, RackTlp.K_CNT, 1, RackTlp.K_TX_COUNT, 10);
        return x;
    }

    private static void lossEndsTheRoundOfGrowth() {
        RackTlp x = inTheMidstOfARound();
        x.deliver(9);
        check.stats("detected", x, RackTlp.K_STATE, RackTlp.RECOVERY, RackTlp.K_CNT, 0, RackTlp.K_CWND, 2,
            RackTlp.K_SSTHRESH, 2, RackTlp.K_PRIOR_CWND, 3, RackTlp.K_LOSS_MARKS, 1);
    }

    private static void thePointIsWhatWasSent() {
        RackTlp x = new RackTlp(4, 100);
        Check.writeMany(x, 8);
        x.tick(10);
        x.deliver(3);
        check.due("tick to the deadline", x.tick(2), 1);
        check.stats("six of eight", x, RackTlp.K_LOSS_MARKS, 3, RackTlp.K_NEXT_NEW, 6, RackTlp.K_WRITTEN, 8,
            RackTlp.K_RECOVERY_POINT, 6);
    }

    /** An object in LOSS with segments 0 to 2 delivered, one retransmission of segment 3 not undone. */
    private static RackTlp nearlyUndone() {
        RackTlp x = new RackTlp(4, 50);
        Check.writeMany(x, 4);
        x.tick(50);
        x.tick(5);
        x.deliver(0);
        check.stats("first arrival in LOSS", x, RackTlp.K_RACK_TX, 4, RackTlp.K_RACK_RTT, 5,
            RackTlp.K_CWND, 2, RackTlp.K_SHIFT, 0, RackTlp.K_SRTT, -1, RackTlp.K_UNDO_RETRANS, 3,
            RackTlp.K_TIMER, RackTlp.RTO, RackTlp.K_TIMER_AT, 50, RackTlp.K_NOW, 55);
        x.deliver(4);
        check.stats("first DSACK", x, RackTlp.K_UNDO_RETRANS, 2, RackTlp.K_UNDOS, 0, RackTlp.K_REO_MULT, 2);
        check.due("segment 0", x.segment(0), 1 + 2 + 8 + 2 * 256);
        x.deliver(1);
        check.stats("room for the last", x, RackTlp.K_UNDO_RETRANS, 3, RackTlp.K_CNT, 1, RackTlp.K_TX_COUNT, 8);
        x.deliver(5);
        x.deliver(6);
        x.deliver(2);
        check.stats("one left", x, RackTlp.K_UNDO_RETRANS, 1, RackTlp.K_CWND, 3, RackTlp.K_CNT, 0,
            RackTlp.K_STATE, RackTlp.LOSS, RackTlp.K_DSACKS, 3);
        return x;
    }

    private static void undoesLoss() {
        RackTlp x = nearlyUndone();
        check.due("deliverNoAck(3)", x.deliverNoAck(3), RackTlp.NEW_DATA);
        check.due("deliver(7)", x.deliver(7), RackTlp.DUPLICATE);
        check.stats("undone", x, RackTlp.K_UNDOS, 1, RackTlp.K_UNDO_RETRANS, 0, RackTlp.K_CWND, 4,
            RackTlp.K_SSTHRESH, 32, RackTlp.K_CNT, 0, RackTlp.K_STATE, RackTlp.OPEN, RackTlp.K_DSACKS, 4,
            RackTlp.K_REO_MULT, 5, RackTlp.K_COMPLETE, 1);
        check.stats("what UNDO leaves", x, RackTlp.K_RECOVERY_POINT, 4, RackTlp.K_PRIOR_CWND, 4,
            RackTlp.K_PRIOR_SSTHRESH, 32, RackTlp.K_RTOS, 1, RackTlp.K_RETRANSMITS, 4);
    }

    private static void undoKeepsAWiderWindow() {
        RackTlp x = new RackTlp(2, 50);
        Check.writeMany(x, 3);
        check.due("tick(50)", x.tick(50), 1);
        x.deliver(2);
        check.stats("segment 1 goes again, segment 2 for the first time", x, RackTlp.K_PRIOR_CWND, 2,
            RackTlp.K_CWND, 2, RackTlp.K_SSTHRESH, 2, RackTlp.K_UNDO_RETRANS, 2, RackTlp.K_TX_COUNT, 5);
        check.due("deliver(0)", x.deliver(0), RackTlp.DUPLICATE);
        x.tick(8);
        x.deliverNoAck(4);
        x.deliverNoAck(1);
        // segments 1 and 2 fill the round: the window is 3 before UNDO
        check.due("deliver(3)", x.deliver(3), RackTlp.DUPLICATE);
        check.stats("neither 2, the prior one, nor 2, the threshold", x, RackTlp.K_UNDOS, 1, RackTlp.K_CWND, 3,
            RackTlp.K_PRIOR_CWND, 2, RackTlp.K_SSTHRESH, 32, RackTlp.K_CNT, 0, RackTlp.K_STATE, RackTlp.OPEN);
    }

    private static void undoKeepsAHigherThreshold() {
        RackTlp x = new RackTlp(1, 50);
        x.write(0);
        check.due("tick(50)", x.tick(50), 1);
        x.deliver(1);
        // from 2 to 6, past a threshold of 2
        for (int s = 1; s <= 14; s++) {
            x.write(s);
            x.deliver(s + 1);
        }
        check.stats("grown", x, RackTlp.K_STATE, RackTlp.OPEN, RackTlp.K_CWND, 6, RackTlp.K_SSTHRESH, 2,
            RackTlp.K_TX_COUNT, 16);
        Check.writeMany(x, 2);
        x.deliver(17);
        check.stats("lost", x, RackTlp.K_STATE, RackTlp.RECOVERY, RackTlp.K_PRIOR_CWND, 6,
            RackTlp.K_PRIOR_SSTHRESH, 2, RackTlp.K_CWND, 3, RackTlp.K_SSTHRESH, 3, RackTlp.K_TX_COUNT, 19);
        x.deliverNoAck(16);
        check.due("deliver(18)", x.deliver(18), RackTlp.DUPLICATE);
        check.stats("neither 2, the prior one, nor 6, the window", x, RackTlp.K_UNDOS, 1, RackTlp.K_SSTHRESH, 3,
            RackTlp.K_CWND, 6, RackTlp.K_STATE, RackTlp.OPEN);
    }

    private static void undoMarksAgainWhatIsStillDue() {
        RackTlp x = new RackTlp(8, 100);
        Check.writeMany(x, 8);
        x.tick(10);
        x.deliver(7);
        check.due("tick to the deadline", x.tick(2), 1);
        // 7 lost, cwnd 4: segments 0 to 3 go again, 4 to 6 stay lost
        check.stats("lost", x, RackTlp.K_LOSS_MARKS, 7, RackTlp.K_CWND, 4, RackTlp.K_UNDO_RETRANS, 4,
            RackTlp.K_PRIOR_CWND, 9);
        x.deliverNoAck(0);
        x.deliverNoAck(1);
        x.deliverNoAck(2);
        x.deliverNoAck(3);
        x.deliver(8);
        // the four are delivered, so 4 to 6 go again too
        check.stats("four learned", x, RackTlp.K_UNDO_RETRANS, 6, RackTlp.K_TX_COUNT, 15, RackTlp.K_DELIVERED, 5);
        x.deliver(9);
        x.deliver(10);
        x.deliver(11);
        check.stats("half undone", x, RackTlp.K_UNDO_RETRANS, 3, RackTlp.K_UNDOS, 0);
        x.deliverNoAck(4);
        x.deliver(12);
        x.deliverNoAck(5);
        x.deliver(13);
        check.stats("one left", x, RackTlp.K_UNDO_RETRANS, 1, RackTlp.K_STATE, RackTlp.RECOVERY,
            RackTlp.K_CWND, 4);
        x.deliverNoAck(6);
        x.deliver(14);
        check.stats("undone", x, RackTlp.K_UNDO_RETRANS, 0, RackTlp.K_UNDOS, 1, RackTlp.K_CWND, 9,
            RackTlp.K_SSTHRESH, 32, RackTlp.K_STATE, RackTlp.OPEN, RackTlp.K_DSACKS, 7, RackTlp.K_REO_MULT, 8);
    }

    private static void undoComesOnceForEachEpisode() {
        RackTlp x = new RackTlp(1, 50);
        for (int s = 0; s < 5; s++) {
            x.write(s);
            check.due("tick(50)", x.tick(50), 1);
            x.deliverNoAck(2 * s);
            check.stats("before", x, RackTlp.K_UNDOS, s, RackTlp.K_STATE, RackTlp.LOSS);
            check.due("deliver", x.deliver(2 * s + 1), RackTlp.DUPLICATE);
            check.stats("after", x, RackTlp.K_UNDOS, s + 1, RackTlp.K_STATE, RackTlp.OPEN, RackTlp.K_SSTHRESH, 32);
        }
    }

    private static void undoLeavesTheBackoff() {
        RackTlp x = new RackTlp(2, 4);
        Check.writeMany(x, 2);
        x.tick(10000);
        x.tick(0);
        x.tick(0);
        x.tick(0);
        x.deliver(0);
        check.stats("no id left", x, RackTlp.K_TX_COUNT, 256, RackTlp.K_UNDO_RETRANS, 254, RackTlp.K_SHIFT, 0);
        check.due("segment 1 times out and cannot go", x.tick(0), 64);
        for (int t = 2; t <= 255; t++) {
            check.stats("before " + t, x, RackTlp.K_UNDOS, 0, RackTlp.K_STATE, RackTlp.LOSS, RackTlp.K_SHIFT, 6);
            check.due("deliver(" + t + ")", x.deliver(t), RackTlp.DUPLICATE);
        }
        // no arrival came with the duplicates; segment 1 is long due, so DETECT starts the next episode at once
        check.stats("undone", x, RackTlp.K_UNDOS, 1, RackTlp.K_UNDO_RETRANS, 0, RackTlp.K_SHIFT, 6, RackTlp.K_RTO, 256,
            RackTlp.K_STATE, RackTlp.RECOVERY, RackTlp.K_LOSS_MARKS, 1, RackTlp.K_PRIOR_CWND, 2,
            RackTlp.K_PRIOR_SSTHRESH, 32, RackTlp.K_CWND, 2, RackTlp.K_SSTHRESH, 2);
    }

    private static void undoClearsLostSegments() {
        RackTlp x = new RackTlp(2, 50);
        Check.writeMany(x, 2);
        x.tick(50);
        // LOSS: segment 0 went again as id 2, segment 1 is lost and waits
        check.due("waiting", x.segment(1), 1 + 4 + 256);
        x.deliverNoAck(0);
        check.due("deliver(2)", x.deliver(2), RackTlp.DUPLICATE);
        // UNDO clears 1; its id 1 is below rackTx 2 and due at 0 + 0 + 0, so DETECT marks it again
        check.stats("undone, lost anew", x, RackTlp.K_UNDOS, 1, RackTlp.K_LOSS_MARKS, 1,
            RackTlp.K_STATE, RackTlp.RECOVERY, RackTlp.K_PRIOR_CWND, 2, RackTlp.K_PRIOR_SSTHRESH, 32,
            RackTlp.K_CWND, 2, RackTlp.K_SSTHRESH, 2, RackTlp.K_UNDO_RETRANS, 1, RackTlp.K_TX_COUNT, 4);
        check.due("gone again", x.segment(1), 1 + 2 * 256 + 1048576);
    }

    private static void undoClearsTheLastSegmentToo() {
        RackTlp x = deliveredAfterEight(60);
        Check.writeMany(x, 4);
        check.due("tick(9)", x.tick(9), 1);
        check.due("lost", x.segment(63), 1 + 4 + 256);
        x.deliverNoAck(60);
        check.due("deliver(64)", x.deliver(64), RackTlp.DUPLICATE);
        // id 64 came in less than minRtt, so rackTx stays and nothing is a candidate
        check.stats("undone", x, RackTlp.K_UNDOS, 1, RackTlp.K_STATE, RackTlp.OPEN, RackTlp.K_CWND, 32,
            RackTlp.K_INFLIGHT, 3, RackTlp.K_RACK_TX, 59, RackTlp.K_LOSS_MARKS, 0, RackTlp.K_TX_COUNT, 65);
        for (int s = 61; s < 64; s++) {
            check.due("segment(" + s + ")", x.segment(s), 1 + 256);
        }
    }

    /**
     * Segment 0 is sent at 200 before the greatest int and never arrives. All the rest happens after the wrap, where
     * its deadline lies far ahead: segments 1 to 44 are lost and go again, and it is not, until no id is left.
     */
    private static RackTlp idsUsedUpAroundTheFirstSegment() {
        RackTlp x = new RackTlp(16, 1000);
        Check.passTo(x, Integer.MAX_VALUE - 200);
        x.write(0);
        x.tick(400);
        Check.writeMany(x, 8);
        x.tick(8);
        x.deliver(8);
        x.tick(2);
        // each round the newest id arrives, the seven other ones go again, and one new segment goes
        for (int round = 0; round < 34; round++) {
            x.write(round);
            x.tick(8);
            x.deliver(x.stat(RackTlp.K_TX_COUNT) - 1);
            x.tick(2);
        }
        check.stats("two ids left", x, RackTlp.K_TX_COUNT, 254, RackTlp.K_RTOS, 0, RackTlp.K_STATE, RackTlp.RECOVERY,
            RackTlp.K_PRIOR_CWND, 17, RackTlp.K_UNDO_RETRANS, 211, RackTlp.K_LOSS_MARKS, 211);
        Check.writeMany(x, 2);
        x.tick(100);
        x.deliver(247);
        x.deliver(248);
        check.stats("no id left", x, RackTlp.K_TX_COUNT, 256, RackTlp.K_RACK_RTT, 102, RackTlp.K_LOSS_MARKS, 211);
        check.due("still on its way", x.segment(0), 1 + 256);
        return x;
    }

    private static void undoClearsTheFirstSegmentToo() {
        RackTlp x = idsUsedUpAroundTheFirstSegment();
        x.tick(150);
        x.deliver(249);
        // 252 past the time of segment 0 is past the wrap too, and before now
        check.stats("due", x, RackTlp.K_RACK_RTT, 252, RackTlp.K_LOSS_MARKS, 212);
        check.due("lost", x.segment(0), 1 + 4 + 256);
        x.deliver(255);
        check.stats("150 past it is not", x, RackTlp.K_RACK_RTT, 150, RackTlp.K_UNDOS, 0);
        check.due("but lost is lost", x.segment(0), 1 + 4 + 256);
        for (int t = 1; t <= 253; t++) {
            x.deliver(t);
        }
        check.stats("undone", x, RackTlp.K_UNDOS, 1, RackTlp.K_UNDO_RETRANS, 0, RackTlp.K_STATE, RackTlp.OPEN,
            RackTlp.K_CWND, 17, RackTlp.K_LOSS_MARKS, 216, RackTlp.K_INFLIGHT, 2);
        check.due("not lost", x.segment(0), 1 + 256);
    }
}
