/** Promise 3: deliver, and with it ACK and what ACK runs. */
public final class Promise3Test {
    private static final Check check = new Check();

    public static void main(String[] args) {
        refusesWrongIds();
        takesSamples();
        growsSlowlyThenCarefully();
        detectsAtOnceWhenDue();
        recoversAndLeavesRecovery();
        learnsWhatCameUnacknowledged();
        ignoresTooShortTimes();
        undoesLoss();
        undoesNothingOnceOpen();
        undoMarksAgainWhatIsStillDue();
        countsOnlyTheEpisodesOwnRetransmissions();
        aNewEpisodeStartsAfresh();
        aDuplicateAloneRearmsNothing();
        leavesLossAtThePointAlone();
        lossEndsTheRoundOfGrowth();
        widensTheReorderingWindow();
        noneIsNotMinusOne();
        check.end();
    }

    private static void refusesWrongIds() {
        RackTlp x = new RackTlp(4, 100);
        Check.writeMany(x, 6);
        check.due("deliver(2)", x.deliver(2), RackTlp.NEW_DATA);
        // At time 0 segments 0 and 1 are due at once: cwnd 2 lets id 4 go, and no more.
        int[] before = Check.everything(x);
        int[] wrong = {-1, 2, 5, 6, 64, 255, 256, 1000, Integer.MIN_VALUE, Integer.MAX_VALUE};
        for (int t : wrong) {
            check.due("deliver(" + t + ")", x.deliver(t), RackTlp.REFUSED);
            check.same("deliver(" + t + ")", Check.everything(x), before);
        }
        check.due("deliver(4)", x.deliver(4), RackTlp.NEW_DATA);
        check.due("deliver(4) again", x.deliver(4), RackTlp.REFUSED);
        check.due("deliver(0), the same segment", x.deliver(0), RackTlp.DUPLICATE);
    }

    private static void takesSamples() {
        RackTlp x = new RackTlp(4, 100);
        Check.writeMany(x, 4);
        x.tick(20);
        x.deliver(0);
        check.stats("first sample", x, RackTlp.K_SRTT, 20, RackTlp.K_RTTVAR, 10, RackTlp.K_MIN_RTT, 20,
            RackTlp.K_RTO, 60, RackTlp.K_PTO, 40, RackTlp.K_REO_WND, 5, RackTlp.K_RACK_TX, 0,
            RackTlp.K_RACK_RTT, 20, RackTlp.K_ARM_TIME, 20, RackTlp.K_CWND, 5, RackTlp.K_NOW, 20,
            RackTlp.K_DELIVERED, 1, RackTlp.K_CUM_ACK, 1, RackTlp.K_INFLIGHT, 3);
        x.tick(9);
        x.deliver(1);
        // d = 9: rttvar = 39 / 4, srtt = 169 / 8
        check.stats("second sample", x, RackTlp.K_SRTT, 21, RackTlp.K_RTTVAR, 9, RackTlp.K_MIN_RTT, 20,
            RackTlp.K_RTO, 57, RackTlp.K_RACK_TX, 1, RackTlp.K_RACK_RTT, 29, RackTlp.K_ARM_TIME, 29);
        x.write(1);
        x.tick(3);
        x.deliver(4);
        // d = 18: rttvar = 45 / 4, srtt = 150 / 8; the two older ones are due at once
        check.stats("third sample", x, RackTlp.K_SRTT, 18, RackTlp.K_RTTVAR, 11, RackTlp.K_MIN_RTT, 3,
            RackTlp.K_RACK_TX, 4, RackTlp.K_RACK_RTT, 3, RackTlp.K_REO_WND, 0,
            RackTlp.K_LOSS_MARKS, 2, RackTlp.K_STATE, RackTlp.RECOVERY);
    }

    private static void growsSlowlyThenCarefully() {
        RackTlp x = new RackTlp(4, 100);
        Check.writeMany(x, 4);
        x.tick(100);
        // RTO: ssthresh 2, cwnd 1
        x.deliver(4);
        check.stats("slow start", x, RackTlp.K_CWND, 2, RackTlp.K_SSTHRESH, 2, RackTlp.K_CNT, 0,
            RackTlp.K_STATE, RackTlp.LOSS);
        x.deliver(5);
        check.stats("avoidance", x, RackTlp.K_CWND, 2, RackTlp.K_CNT, 1);
        x.deliver(6);
        check.stats("avoidance, round full", x, RackTlp.K_CWND, 3, RackTlp.K_CNT, 0);
        x.deliver(7);
        check.stats("all delivered", x, RackTlp.K_CWND, 3, RackTlp.K_CNT, 1,
            RackTlp.K_STATE, RackTlp.OPEN, RackTlp.K_COMPLETE, 1, RackTlp.K_SRTT, -1);
        x.write(1);
        x.deliver(8);
        check.stats("avoidance in OPEN", x, RackTlp.K_CWND, 3, RackTlp.K_CNT, 2);
        x.write(1);
        x.deliver(9);
        check.stats("avoidance in OPEN, round full", x, RackTlp.K_CWND, 4, RackTlp.K_CNT, 0);
        windowHasACeiling();
    }

    private static void windowHasACeiling() {
        RackTlp x = new RackTlp(16, 100);
        for (int i = 0; i < 64; i++) {
            x.write(i);
            x.deliver(i);
            int due = i < 16 ? 17 + i : 32;
            check.stats("delivered " + i, x, RackTlp.K_CWND, due,
                RackTlp.K_CNT, i < 16 ? 0 : (i - 15) % 32);
        }
    }

    private static void detectsAtOnceWhenDue() {
        RackTlp x = new RackTlp(4, 100);
        x.write(1);
        x.tick(2);
        x.write(2);
        x.tick(10);
        // deadline of segment 0: 0 + 10 + 2 = 12 = now
        x.deliver(1);
        check.stats("deadline now", x, RackTlp.K_LOSS_MARKS, 1, RackTlp.K_STATE, RackTlp.RECOVERY,
            RackTlp.K_PRIOR_CWND, 5, RackTlp.K_PRIOR_SSTHRESH, 32, RackTlp.K_CWND, 2,
            RackTlp.K_SSTHRESH, 2, RackTlp.K_RECOVERY_POINT, 2, RackTlp.K_UNDO_RETRANS, 1,
            RackTlp.K_RETRANSMITS, 1, RackTlp.K_TX_COUNT, 3);
        check.due("retransmission", x.txInfo(2), RackTlp.TX_RETX);
        check.due("segment 0", x.segment(0), 1 + 2 * 256 + 1048576);

        RackTlp y = new RackTlp(4, 100);
        y.write(1);
        y.tick(1);
        y.write(2);
        y.tick(10);
        y.deliver(1);
        check.stats("deadline in 1", y, RackTlp.K_LOSS_MARKS, 0, RackTlp.K_STATE, RackTlp.OPEN,
            RackTlp.K_TIMER, RackTlp.REO, RackTlp.K_TIMER_AT, 12, RackTlp.K_NOW, 11);
    }

    private static void recoversAndLeavesRecovery() {
        RackTlp x = new RackTlp(4, 100);
        Check.writeMany(x, 4);
        x.tick(10);
        x.deliver(3);
        check.stats("reordered", x, RackTlp.K_TIMER, RackTlp.REO, RackTlp.K_TIMER_AT, 12,
            RackTlp.K_RACK_TX, 3, RackTlp.K_CWND, 5);
        x.tick(1);
        x.deliver(2);
        check.stats("older arrival", x, RackTlp.K_RACK_TX, 3, RackTlp.K_RACK_RTT, 10, RackTlp.K_CWND, 6,
            RackTlp.K_SRTT, 10, RackTlp.K_RTTVAR, 4);
        check.due("tick to the deadline", x.tick(1), 1);
        check.stats("lost", x, RackTlp.K_LOSS_MARKS, 2, RackTlp.K_CWND, 3, RackTlp.K_SSTHRESH, 3,
            RackTlp.K_PRIOR_CWND, 6, RackTlp.K_UNDO_RETRANS, 2, RackTlp.K_TIMER, RackTlp.RTO,
            RackTlp.K_TIMER_AT, 38);
        x.write(9);
        x.deliver(4);
        check.stats("no growth in RECOVERY", x, RackTlp.K_CWND, 3, RackTlp.K_CNT, 0,
            RackTlp.K_STATE, RackTlp.RECOVERY);
        x.deliver(5);
        check.stats("all below the point", x, RackTlp.K_STATE, RackTlp.OPEN, RackTlp.K_CWND, 3,
            RackTlp.K_COMPLETE, 0, RackTlp.K_UNDO_RETRANS, 2, RackTlp.K_UNDOS, 0);
    }

    private static void learnsWhatCameUnacknowledged() {
        RackTlp x = new RackTlp(4, 100);
        Check.writeMany(x, 4);
        x.tick(8);
        x.deliverNoAck(0);
        x.deliverNoAck(2);
        x.tick(8);
        check.due("deliver(1)", x.deliver(1), RackTlp.NEW_DATA);
        check.stats("three learned", x, RackTlp.K_DELIVERED, 3, RackTlp.K_CUM_ACK, 3, RackTlp.K_CWND, 7,
            RackTlp.K_SRTT, 16, RackTlp.K_RTTVAR, 4, RackTlp.K_RACK_TX, 2, RackTlp.K_RACK_RTT, 16,
            RackTlp.K_DSACKS, 0);
        check.due("segment 2", x.segment(2), 1 + 2 + 8 + 256);
        check.due("deliver(0)", x.deliver(0), RackTlp.REFUSED);
    }

    private static void ignoresTooShortTimes() {
        RackTlp x = new RackTlp(4, 100);
        Check.writeMany(x, 2);
        x.tick(10);
        x.deliver(0);
        check.due("tick to the probe", x.tick(20), 1);
        x.tick(9);
        x.deliver(1);
        check.stats("below minRtt", x, RackTlp.K_RACK_TX, 0, RackTlp.K_RACK_RTT, 10, RackTlp.K_SRTT, 10,
            RackTlp.K_CWND, 6, RackTlp.K_TLP_OUT, 0, RackTlp.K_ARM_TIME, 39);

        RackTlp y = new RackTlp(4, 100);
        Check.writeMany(y, 2);
        y.tick(10);
        y.deliver(0);
        y.tick(20);
        y.tick(10);
        y.deliver(1);
        check.stats("at minRtt", y, RackTlp.K_RACK_TX, 2, RackTlp.K_RACK_RTT, 10, RackTlp.K_SRTT, 10,
            RackTlp.K_RTTVAR, 5);
        check.due("the probe's own arrival", y.deliver(2), RackTlp.DUPLICATE);
        check.stats("DSACK in OPEN", y, RackTlp.K_DSACKS, 1, RackTlp.K_REO_MULT, 2, RackTlp.K_UNDOS, 0,
            RackTlp.K_UNDO_RETRANS, 0, RackTlp.K_CWND, 6);
    }

    /** An object in LOSS with segments 0 to 2 delivered, one retransmission of segment 3 not undone. */
    private static RackTlp nearlyUndone() {
        RackTlp x = new RackTlp(4, 50);
        Check.writeMany(x, 4);
        x.tick(50);
        x.tick(5);
        x.deliver(0);
        check.stats("first arrival in LOSS", x, RackTlp.K_RACK_TX, 4, RackTlp.K_RACK_RTT, 5,
            RackTlp.K_CWND, 2, RackTlp.K_SHIFT, 0, RackTlp.K_SRTT, -1, RackTlp.K_UNDO_RETRANS, 3,
            RackTlp.K_TIMER, RackTlp.RTO, RackTlp.K_TIMER_AT, 50, RackTlp.K_NOW, 55);
        x.deliver(4);
        check.stats("first DSACK", x, RackTlp.K_UNDO_RETRANS, 2, RackTlp.K_UNDOS, 0, RackTlp.K_REO_MULT, 2);
        check.due("segment 0", x.segment(0), 1 + 2 + 8 + 2 * 256);
        x.deliver(1);
        check.stats("room for the last", x, RackTlp.K_UNDO_RETRANS, 3, RackTlp.K_CNT, 1, RackTlp.K_TX_COUNT, 8);
        x.deliver(5);
        x.deliver(6);
        x.deliver(2);
        check.stats("one left", x, RackTlp.K_UNDO_RETRANS, 1, RackTlp.K_CWND, 3, RackTlp.K_CNT, 0,
            RackTlp.K_STATE, RackTlp.LOSS, RackTlp.K_DSACKS, 3);
        return x;
    }

    private static void undoesLoss() {
        RackTlp x = nearlyUndone();
        check.due("deliverNoAck(3)", x.deliverNoAck(3), RackTlp.NEW_DATA);
        check.due("deliver(7)", x.deliver(7), RackTlp.DUPLICATE);
        check.stats("undone", x, RackTlp.K_UNDOS, 1, RackTlp.K_UNDO_RETRANS, 0, RackTlp.K_CWND, 4,
            RackTlp.K_SSTHRESH, 32, RackTlp.K_CNT, 0, RackTlp.K_STATE, RackTlp.OPEN, RackTlp.K_DSACKS, 4,
            RackTlp.K_REO_MULT, 5, RackTlp.K_COMPLETE, 1);
    }

    private static void undoesNothingOnceOpen() {
        RackTlp x = nearlyUndone();
        x.deliver(3);
        check.stats("open again", x, RackTlp.K_STATE, RackTlp.OPEN, RackTlp.K_CWND, 3, RackTlp.K_CNT, 1);
        check.due("deliver(7)", x.deliver(7), RackTlp.DUPLICATE);
        check.stats("too late", x, RackTlp.K_UNDOS, 0, RackTlp.K_UNDO_RETRANS, 1, RackTlp.K_CWND, 3,
            RackTlp.K_SSTHRESH, 2, RackTlp.K_DSACKS, 4, RackTlp.K_PRIOR_CWND, 4);
        check.due("segment 3 keeps its ep", x.segment(3), 1 + 2 + 8 + 2 * 256 + 1048576);
    }

    private static void undoMarksAgainWhatIsStillDue() {
        RackTlp x = new RackTlp(8, 100);
        Check.writeMany(x, 8);
        x.tick(10);
        x.deliver(7);
        check.due("tick to the deadline", x.tick(2), 1);
        // 7 lost, cwnd 4: segments 0 to 3 go again, 4 to 6 stay lost
        check.stats("lost", x, RackTlp.K_LOSS_MARKS, 7, RackTlp.K_CWND, 4, RackTlp.K_UNDO_RETRANS, 4,
            RackTlp.K_PRIOR_CWND, 9);
        x.deliverNoAck(0);
        x.deliverNoAck(1);
        x.deliverNoAck(2);
        x.deliverNoAck(3);
        x.deliver(8);
        // the four are delivered, so 4 to 6 go again too
        check.stats("four learned", x, RackTlp.K_UNDO_RETRANS, 6, RackTlp.K_TX_COUNT, 15, RackTlp.K_DELIVERED, 5);
        x.deliver(9);
        x.deliver(10);
        x.deliver(11);
        check.stats("half undone", x, RackTlp.K_UNDO_RETRANS, 3, RackTlp.K_UNDOS, 0);
        x.deliverNoAck(4);
        x.deliver(12);
        x.deliverNoAck(5);
        x.deliver(13);
        check.stats("one left", x, RackTlp.K_UNDO_RETRANS, 1, RackTlp.K_STATE, RackTlp.RECOVERY,
            RackTlp.K_CWND, 4);
        x.deliverNoAck(6);
        x.deliver(14);
        check.stats("undone", x, RackTlp.K_UNDO_RETRANS, 0, RackTlp.K_UNDOS, 1, RackTlp.K_CWND, 9,
            RackTlp.K_SSTHRESH, 32, RackTlp.K_STATE, RackTlp.OPEN, RackTlp.K_DSACKS, 7, RackTlp.K_REO_MULT, 8);
        undoClearsLostSegments();
    }

    private static void undoClearsLostSegments() {
        RackTlp x = new RackTlp(2, 50);
        Check.writeMany(x, 2);
        x.tick(50);
        // LOSS: segment 0 went again as id 2, segment 1 is lost and waits
        check.due("waiting", x.segment(1), 1 + 4 + 256);
        x.deliverNoAck(0);
        check.due("deliver(2)", x.deliver(2), RackTlp.DUPLICATE);
        // UNDO clears 1; its id 1 is below rackTx 2 and due at 0 + 0 + 0, so DETECT marks it again
        check.stats("undone, lost anew", x, RackTlp.K_UNDOS, 1, RackTlp.K_LOSS_MARKS, 1,
            RackTlp.K_STATE, RackTlp.RECOVERY, RackTlp.K_PRIOR_CWND, 2, RackTlp.K_PRIOR_SSTHRESH, 32,
            RackTlp.K_CWND, 2, RackTlp.K_SSTHRESH, 2, RackTlp.K_UNDO_RETRANS, 1, RackTlp.K_TX_COUNT, 4);
        check.due("gone again", x.segment(1), 1 + 2 * 256 + 1048576);
    }

    private static void countsOnlyTheEpisodesOwnRetransmissions() {
        RackTlp x = new RackTlp(4, 100);
        Check.writeMany(x, 3);
        x.tick(10);
        x.deliver(0);
        // probe of segment 2 in OPEN (id 3), then the timeout sends segment 1 (id 4)
        check.due("tick(20)", x.tick(20), 2);
        x.deliver(2);
        check.due("the probe arrives", x.deliver(3), RackTlp.DUPLICATE);
        check.stats("a probe is not of the episode", x, RackTlp.K_DSACKS, 1, RackTlp.K_UNDO_RETRANS, 1,
            RackTlp.K_UNDOS, 0, RackTlp.K_STATE, RackTlp.LOSS, RackTlp.K_CWND, 2);
        check.due("segment 2", x.segment(2), 1 + 2 + 8 + 2 * 256);
    }

    private static void aNewEpisodeStartsAfresh() {
        RackTlp x = new RackTlp(4, 50);
        x.write(1);
        x.tick(50);
        x.deliver(1);
        check.stats("over", x, RackTlp.K_STATE, RackTlp.OPEN, RackTlp.K_UNDO_RETRANS, 1, RackTlp.K_CWND, 2);
        check.due("ep stays", x.segment(0), 1 + 2 + 8 + 2 * 256 + 1048576);
        x.write(2);
        check.due("tick(50)", x.tick(50), 1);
        check.stats("the next episode", x, RackTlp.K_STATE, RackTlp.LOSS, RackTlp.K_UNDO_RETRANS, 1,
            RackTlp.K_PRIOR_CWND, 2, RackTlp.K_PRIOR_SSTHRESH, 2, RackTlp.K_RECOVERY_POINT, 2);
        check.due("ep is gone", x.segment(0), 1 + 2 + 8 + 2 * 256);
        check.due("ep is new", x.segment(1), 1 + 2 * 256 + 1048576);
    }

    private static void aDuplicateAloneRearmsNothing() {
        RackTlp x = new RackTlp(2, 50);
        Check.writeMany(x, 2);
        x.tick(50);
        x.deliver(0);
        check.due("tick(50)", x.tick(50), 1);
        x.tick(1);
        check.due("deliver(2)", x.deliver(2), RackTlp.DUPLICATE);
        check.stats("a DSACK alone", x, RackTlp.K_SHIFT, 1, RackTlp.K_ARM_TIME, 50, RackTlp.K_NOW, 101,
            RackTlp.K_UNDO_RETRANS, 2, RackTlp.K_DELIVERED, 1);

        RackTlp y = new RackTlp(4, 100);
        y.write(1);
        y.tick(100);
        y.deliver(0);
        Check.writeMany(y, 2);
        y.tick(10);
        y.deliver(2);
        check.due("tick to the probe", y.tick(20), 1);
        check.due("deliver(1)", y.deliver(1), RackTlp.DUPLICATE);
        check.stats("a DSACK leaves the probe out", y, RackTlp.K_TLP_OUT, 1, RackTlp.K_ARM_TIME, 110);
    }

    private static void leavesLossAtThePointAlone() {
        RackTlp x = new RackTlp(2, 50);
        Check.writeMany(x, 2);
        x.tick(50);
        x.deliver(2);
        x.write(3);
        // segment 2 is above the point; segment 1 (id 3) is due at once and goes again as id 5
        check.due("deliver(4)", x.deliver(4), RackTlp.NEW_DATA);
        check.stats("one below is missing", x, RackTlp.K_STATE, RackTlp.LOSS, RackTlp.K_DELIVERED, 2,
            RackTlp.K_RECOVERY_POINT, 2, RackTlp.K_TX_COUNT, 6, RackTlp.K_LOSS_MARKS, 1,
            RackTlp.K_PRIOR_CWND, 2, RackTlp.K_UNDO_RETRANS, 3);
        x.deliver(5);
        check.stats("none is missing", x, RackTlp.K_STATE, RackTlp.OPEN);
    }

    private static RackTlp inTheMidstOfARound() {
        RackTlp x = new RackTlp(4, 100);
        Check.writeMany(x, 4);
        x.tick(100);
        for (int t = 4; t < 8; t++) {
            x.deliver(t);
        }
        Check.writeMany(x, 2);
        check.stats("midst of a round", x, RackTlp.K_CWND, 3, RackTlp.K_CNT, 1, RackTlp.K_TX_COUNT, 10);
        return x;
    }

    private static void lossEndsTheRoundOfGrowth() {
        RackTlp x = inTheMidstOfARound();
        x.deliver(9);
        check.stats("detected", x, RackTlp.K_STATE, RackTlp.RECOVERY, RackTlp.K_CNT, 0, RackTlp.K_CWND, 2,
            RackTlp.K_PRIOR_CWND, 3, RackTlp.K_LOSS_MARKS, 1);
        RackTlp y = inTheMidstOfARound();
        check.due("tick(100)", y.tick(100), 1);
        check.stats("timed out", y, RackTlp.K_STATE, RackTlp.LOSS, RackTlp.K_CNT, 0, RackTlp.K_CWND, 1,
            RackTlp.K_PRIOR_CWND, 3);
    }

    private static void widensTheReorderingWindow() {
        RackTlp x = new RackTlp(4, 4);
        x.write(1);
        x.tick(2000);
        check.due("deliver(0)", x.deliver(0), RackTlp.NEW_DATA);
        for (int t = 1; t <= 9; t++) {
            check.due("deliver(" + t + ")", x.deliver(t), RackTlp.DUPLICATE);
            check.stats("DSACK " + t, x, RackTlp.K_DSACKS, t, RackTlp.K_REO_MULT, t < 7 ? t + 1 : 8,
                RackTlp.K_REO_WND, 0);
        }
        int id = x.stat(RackTlp.K_TX_COUNT);
        x.write(2);
        x.tick(3);
        x.deliver(id);
        check.stats("no wider than srtt", x, RackTlp.K_SRTT, 3, RackTlp.K_MIN_RTT, 3, RackTlp.K_REO_WND, 3);
    }

    /** After the clock has wrapped once round, an estimate may be -1 without being none. */
    private static void noneIsNotMinusOne() {
        RackTlp x = new RackTlp(2, 4);
        Check.writeMany(x, 2);
        // RTOs send segment 0 again and again until no id is left; segment 1 goes once, at 0.
        for (int i = 0; i < 429496; i++) {
            x.tick(10000);
        }
        x.tick(7295);
        check.stats("once round", x, RackTlp.K_NOW, -1, RackTlp.K_TX_COUNT, 256);
        check.due("deliver(1)", x.deliver(1), RackTlp.NEW_DATA);
        check.stats("a sample of -1", x, RackTlp.K_SRTT, -1, RackTlp.K_RTTVAR, 0, RackTlp.K_MIN_RTT, -1,
            RackTlp.K_REO_WND, -1, RackTlp.K_PTO, 2, RackTlp.K_RTO, 4, RackTlp.K_RACK_TX, 1);
    }
}
