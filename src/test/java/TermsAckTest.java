/** Terms: ACK, step by step and in their order, with SAMPLE and GROW. */
public final class TermsAckTest {
    private static final Check check = new Check();

    public static void main(String[] args) {
        check.sentence("Terms: SAMPLE: \"if srtt is none: srtt = r, rttvar = r / 2, minRtt = r\"");
        theFirstSample();
        check.sentence("Terms: SAMPLE: \"d = |srtt - r|; rttvar = (3 * rttvar + d) / 4; srtt = (7 * srtt + r) / 8\"");
        takesSamples();
        check.sentence("Terms: SAMPLE: \"minRtt = min(minRtt, r)\"");
        theLeastSampleIsKept();
        check.sentence("Terms: GROW: \"if cwnd < ssthresh, cwnd++; else cnt++ and, if cnt >= cwnd,"
            + " cwnd++ and cnt = 0\"");
        growsSlowlyThenCarefully();
        check.sentence("Terms: GROW: \"does nothing in RECOVERY\"");
        nothingGrowsInRecovery();
        check.sentence("Terms: ACK, a: \"lost(s) = false; delivered count++\"");
        whatIsDeliveredIsNotLost();
        check.sentence("Terms: ACK, a: \"if sends(s) == 1, SAMPLE(r)\"");
        whatWentTwiceGivesNoSample();
        check.sentence("Terms: ACK, a: \"unless (sends(s) > 1 and minRtt is not none and r < minRtt)\"");
        ignoresTooShortTimes();
        check.sentence("Terms: ACK, a: \"if rackTx is none or last(s) > rackTx\"");
        anEarlierSendingLeavesRackTx();
        check.sentence("Terms: ACK, a: \"finally, in every case, GROW\"");
        everyArrivalGrows();
        check.sentence("Terms: ACK, b: \"If step a handled at least one segment: shift = 0; tlpOut = false;"
            + " armTime = now\"");
        anArrivalEndsBackoffAndProbe();
        aDuplicateAloneRearmsNothing();
        check.sentence("Terms: ACK, c: \"dsacks++; reoMult = min(reoMult + 1, 8)\"");
        everyDuplicateCountsInOpenToo();
        check.sentence("Terms: ACK, c: \"if state != OPEN and ep(s0) > 0: ep(s0)--; undoRetrans--\"");
        countsOnlyTheEpisodesOwnRetransmissions();
        theDuplicatesOwnSegmentCounts();
        aDuplicateOfNoEpisodeUndoesNothing();
        nothingIsUndoneOnceOpen();
        check.sentence("Terms: ACK, d: \"every s < recoveryPoint is delivered\"");
        leavesLossAtThePointAlone();
        check.sentence("Terms: ACK: \"steps in this order\"");
        growsBeforeUndo();
        undoesBeforeItOpens();
        widensBeforeItDetects();
        opensBeforeItDetects();
        detectsBeforeItSends();
        check.end();
    }

    private static void theFirstSample() {
        int[] given = {0, 1, 2, 3, 10, 99};
        for (int r : given) {
            RackTlp x = new RackTlp(1, 100);
            x.write(0);
            x.tick(r);
            x.deliver(0);
            check.stats("a sample of " + r, x, RackTlp.K_SRTT, r, RackTlp.K_RTTVAR, r / 2, RackTlp.K_MIN_RTT, r);
        }
    }

    private static void takesSamples() {
        RackTlp x = new RackTlp(4, 100);
        Check.writeMany(x, 4);
        x.tick(20);
        x.deliver(0);
        check.stats("first sample", x, RackTlp.K_SRTT, 20, RackTlp.K_RTTVAR, 10, RackTlp.K_MIN_RTT, 20,
            RackTlp.K_RTO, 60, RackTlp.K_PTO, 40, RackTlp.K_REO_WND, 5, RackTlp.K_RACK_TX, 0,
            RackTlp.K_RACK_RTT, 20, RackTlp.K_ARM_TIME, 20, RackTlp.K_CWND, 5, RackTlp.K_NOW, 20,
            RackTlp.K_DELIVERED, 1, RackTlp.K_CUM_ACK, 1, RackTlp.K_INFLIGHT, 3);
        x.tick(9);
        x.deliver(1);
        // d = 9: rttvar = 39 / 4, srtt = 169 / 8
        check.stats("second sample", x, RackTlp.K_SRTT, 21, RackTlp.K_RTTVAR, 9, RackTlp.K_MIN_RTT, 20,
            RackTlp.K_RTO, 57, RackTlp.K_RACK_TX, 1, RackTlp.K_RACK_RTT, 29, RackTlp.K_ARM_TIME, 29);
        x.write(1);
        x.tick(3);
        x.deliver(4);
        // d = 18: rttvar = 45 / 4, srtt = 150 / 8; the two older ones are due at once
        check.stats("third sample", x, RackTlp.K_SRTT, 18, RackTlp.K_RTTVAR, 11, RackTlp.K_MIN_RTT, 3,
            RackTlp.K_RACK_TX, 4, RackTlp.K_RACK_RTT, 3, RackTlp.K_REO_WND, 0,
            RackTlp.K_LOSS_MARKS, 2, RackTlp.K_STATE, RackTlp.RECOVERY);
    }

    private static void theLeastSampleIsKept() {
        RackTlp x = new RackTlp(5, 100);
        Check.writeMany(x, 4);
        x.tick(8);
        x.deliver(0);
        x.tick(6);
        x.write(4);
        x.tick(9);
        int[] srtt = {9, 10, 11, 10};
        int[] rttvar = {6, 8, 9, 7};
        // three samples of 23 and then one of 9, which is below srtt and above the least
        for (int t = 1; t <= 4; t++) {
            x.deliver(t);
            check.stats("sample " + t, x, RackTlp.K_SRTT, srtt[t - 1], RackTlp.K_RTTVAR, rttvar[t - 1],
                RackTlp.K_MIN_RTT, 8);
        }
        x.write(5);
        x.tick(7);
        x.deliver(5);
        check.stats("a sample of 7", x, RackTlp.K_MIN_RTT, 7);
    }

    private static void growsSlowlyThenCarefully() {
        RackTlp x = new RackTlp(4, 100);
        Check.writeMany(x, 4);
        x.tick(100);
        // RTO: ssthresh 2, cwnd 1
        x.deliver(4);
        check.stats("slow start", x, RackTlp.K_CWND, 2, RackTlp.K_SSTHRESH, 2, RackTlp.K_CNT, 0,
            RackTlp.K_STATE, RackTlp.LOSS);
        x.deliver(5);
        check.stats("avoidance", x, RackTlp.K_CWND, 2, RackTlp.K_CNT, 1);
        x.deliver(6);
        check.stats("avoidance, round full", x, RackTlp.K_CWND, 3, RackTlp.K_CNT, 0);
        x.deliver(7);
        check.stats("all delivered", x, RackTlp.K_CWND, 3, RackTlp.K_CNT, 1,
            RackTlp.K_STATE, RackTlp.OPEN, RackTlp.K_COMPLETE, 1, RackTlp.K_SRTT, -1);
        x.write(1);
        x.deliver(8);
        check.stats("avoidance in OPEN", x, RackTlp.K_CWND, 3, RackTlp.K_CNT, 2);
        x.write(1);
        x.deliver(9);
        check.stats("avoidance in OPEN, round full", x, RackTlp.K_CWND, 4, RackTlp.K_CNT, 0);
    }

    private static void nothingGrowsInRecovery() {
        RackTlp x = new RackTlp(8, 100);
        Check.writeMany(x, 8);
        x.tick(10);
        x.deliver(1);
        check.due("segment 0 is lost", x.tick(2), 1);
        for (int t = 2; t <= 6; t++) {
            x.deliver(t);
            check.stats("deliver(" + t + ")", x, RackTlp.K_STATE, RackTlp.RECOVERY, RackTlp.K_CWND, 4,
                RackTlp.K_SSTHRESH, 4, RackTlp.K_CNT, 0);
        }
        x.deliver(0);
        x.deliver(7);
        check.stats("step a comes before step d", x, RackTlp.K_STATE, RackTlp.OPEN, RackTlp.K_CWND, 4,
            RackTlp.K_CNT, 0);
        x.write(8);
        x.deliver(x.stat(RackTlp.K_TX_COUNT) - 1);
        check.stats("OPEN", x, RackTlp.K_CNT, 1);
    }

    private static void whatIsDeliveredIsNotLost() {
        RackTlp x = new RackTlp(3, 50);
        Check.writeMany(x, 3);
        check.due("tick(50)", x.tick(50), 1);
        check.due("lost", x.segment(2), 1 + 4 + 256);
        x.deliver(2);
        check.due("delivered", x.segment(2), 1 + 2 + 8 + 256);
        check.stats("one", x, RackTlp.K_DELIVERED, 1);
        x.deliverNoAck(0);
        x.deliver(1);
        check.stats("three", x, RackTlp.K_DELIVERED, 3);
    }

    private static void whatWentTwiceGivesNoSample() {
        RackTlp x = new RackTlp(2, 50);
        x.write(0);
        x.tick(10);
        x.deliver(0);
        x.write(1);
        // the probe at 30
        check.due("tick(20)", x.tick(20), 1);
        x.tick(15);
        x.deliver(2);
        check.stats("as the first one left it", x, RackTlp.K_SRTT, 10, RackTlp.K_RTTVAR, 5, RackTlp.K_MIN_RTT, 10,
            RackTlp.K_RACK_TX, 2, RackTlp.K_RACK_RTT, 15, RackTlp.K_DELIVERED, 2);
    }

    private static void ignoresTooShortTimes() {
        RackTlp x = new RackTlp(4, 100);
        Check.writeMany(x, 2);
        x.tick(10);
        x.deliver(0);
        check.due("tick to the probe", x.tick(20), 1);
        x.tick(9);
        x.deliver(1);
        check.stats("below minRtt", x, RackTlp.K_RACK_TX, 0, RackTlp.K_RACK_RTT, 10, RackTlp.K_SRTT, 10,
            RackTlp.K_CWND, 6, RackTlp.K_TLP_OUT, 0, RackTlp.K_ARM_TIME, 39);

        RackTlp y = new RackTlp(4, 100);
        Check.writeMany(y, 2);
        y.tick(10);
        y.deliver(0);
        y.tick(20);
        y.tick(10);
        y.deliver(1);
        check.stats("at minRtt", y, RackTlp.K_RACK_TX, 2, RackTlp.K_RACK_RTT, 10, RackTlp.K_SRTT, 10,
            RackTlp.K_RTTVAR, 5);
        check.due("the probe's own arrival", y.deliver(2), RackTlp.DUPLICATE);
        check.stats("DSACK in OPEN", y, RackTlp.K_DSACKS, 1, RackTlp.K_REO_MULT, 2, RackTlp.K_UNDOS, 0,
            RackTlp.K_UNDO_RETRANS, 0, RackTlp.K_CWND, 6);
    }

    private static void anEarlierSendingLeavesRackTx() {
        RackTlp x = new RackTlp(4, 100);
        Check.writeMany(x, 3);
        x.tick(10);
        x.deliver(1);
        check.stats("none before", x, RackTlp.K_RACK_TX, 1, RackTlp.K_RACK_RTT, 10);
        x.tick(1);
        x.deliver(0);
        check.stats("earlier", x, RackTlp.K_RACK_TX, 1, RackTlp.K_RACK_RTT, 10);
        x.deliver(2);
        check.stats("later", x, RackTlp.K_RACK_TX, 2, RackTlp.K_RACK_RTT, 11);
    }

    private static void everyArrivalGrows() {
        RackTlp x = new RackTlp(4, 100);
        Check.writeMany(x, 4);
        x.tick(10);
        x.deliver(2);
        check.stats("a later sending", x, RackTlp.K_CWND, 5);
        x.deliver(0);
        check.stats("an earlier one", x, RackTlp.K_CWND, 6);
        x.deliverNoAck(1);
        x.deliver(3);
        check.stats("two at once", x, RackTlp.K_CWND, 8);
        x.write(4);
        // srtt 10, rttvar 1: the probe at 30 comes after the timeout at 24
        check.due("tick(14)", x.tick(14), 1);
        x.deliver(4);
        check.stats("too short a time", x, RackTlp.K_CWND, 2, RackTlp.K_RACK_TX, 3);
    }

    private static void anArrivalEndsBackoffAndProbe() {
        RackTlp x = new RackTlp(2, 50);
        Check.writeMany(x, 2);
        x.tick(50);
        x.tick(50);
        check.stats("backed off", x, RackTlp.K_SHIFT, 2, RackTlp.K_ARM_TIME, 0);
        x.tick(3);
        x.deliver(0);
        check.stats("an arrival", x, RackTlp.K_SHIFT, 0, RackTlp.K_ARM_TIME, 103, RackTlp.K_NOW, 103);
        RackTlp y = new RackTlp(4, 100);
        Check.writeMany(y, 2);
        y.tick(10);
        y.deliver(0);
        check.due("tick to the probe", y.tick(20), 1);
        check.stats("out", y, RackTlp.K_TLP_OUT, 1);
        y.tick(1);
        y.deliver(1);
        check.stats("an arrival", y, RackTlp.K_TLP_OUT, 0, RackTlp.K_ARM_TIME, 31);
    }

    private static void aDuplicateAloneRearmsNothing() {
        RackTlp x = new RackTlp(2, 50);
        Check.writeMany(x, 2);
        x.tick(50);
        x.deliver(0);
        check.due("tick(50)", x.tick(50), 1);
        x.tick(1);
        check.due("deliver(2)", x.deliver(2), RackTlp.DUPLICATE);
        check.stats("a DSACK alone", x, RackTlp.K_SHIFT, 1, RackTlp.K_ARM_TIME, 50, RackTlp.K_NOW, 101,
            RackTlp.K_UNDO_RETRANS, 2, RackTlp.K_DELIVERED, 1);

        RackTlp y = new RackTlp(4, 100);
        y.write(1);
        y.tick(100);
        y.deliver(0);
        Check.writeMany(y, 2);
        y.tick(10);
        y.deliver(2);
        check.due("tick to the probe", y.tick(20), 1);
        check.due("deliver(1)", y.deliver(1), RackTlp.DUPLICATE);
        check.stats("a DSACK leaves the probe out", y, RackTlp.K_TLP_OUT, 1, RackTlp.K_ARM_TIME, 110);
    }

    private static void everyDuplicateCountsInOpenToo() {
        RackTlp x = new RackTlp(1, 50);
        x.write(0);
        x.tick(50);
        x.tick(100);
        x.deliver(0);
        check.stats("open", x, RackTlp.K_STATE, RackTlp.OPEN, RackTlp.K_DSACKS, 0, RackTlp.K_REO_MULT, 1,
            RackTlp.K_UNDO_RETRANS, 2);
        for (int t = 1; t <= 2; t++) {
            check.due("deliver(" + t + ")", x.deliver(t), RackTlp.DUPLICATE);
            check.stats("counted", x, RackTlp.K_DSACKS, t, RackTlp.K_REO_MULT, 1 + t, RackTlp.K_UNDO_RETRANS, 2,
                RackTlp.K_UNDOS, 0);
        }
        x.write(1);
        x.deliver(3);
        check.stats("new data does not count", x, RackTlp.K_DSACKS, 2, RackTlp.K_REO_MULT, 3);
    }

    private static void countsOnlyTheEpisodesOwnRetransmissions() {
        RackTlp x = new RackTlp(4, 100);
        Check.writeMany(x, 3);
        x.tick(10);
        x.deliver(0);
        // probe of segment 2 in OPEN (id 3), then the timeout sends segment 1 (id 4)
        check.due("tick(20)", x.tick(20), 2);
        x.deliver(2);
        check.due("the probe arrives", x.deliver(3), RackTlp.DUPLICATE);
        check.stats("a probe is not of the episode", x, RackTlp.K_DSACKS, 1, RackTlp.K_UNDO_RETRANS, 1,
            RackTlp.K_UNDOS, 0, RackTlp.K_STATE, RackTlp.LOSS, RackTlp.K_CWND, 2);
        check.due("segment 2", x.segment(2), 1 + 2 + 8 + 2 * 256);
    }

    /** In LOSS with both segments sent again, segment 0 delivered and both dups still to come. */
    private static RackTlp twoToBeUndone() {
        RackTlp x = new RackTlp(2, 50);
        Check.writeMany(x, 2);
        check.due("tick(50)", x.tick(50), 1);
        x.deliver(2);
        check.stats("two sent again", x, RackTlp.K_STATE, RackTlp.LOSS, RackTlp.K_UNDO_RETRANS, 2,
            RackTlp.K_TX_COUNT, 4, RackTlp.K_CWND, 2, RackTlp.K_SSTHRESH, 2, RackTlp.K_CNT, 0);
        return x;
    }

    private static void theDuplicatesOwnSegmentCounts() {
        RackTlp x = twoToBeUndone();
        x.deliverNoAck(1);
        check.due("deliver(3)", x.deliver(3), RackTlp.DUPLICATE);
        check.stats("one", x, RackTlp.K_UNDO_RETRANS, 1, RackTlp.K_UNDOS, 0, RackTlp.K_STATE, RackTlp.OPEN);
        check.due("its own", x.segment(1), 1 + 2 + 8 + 2 * 256);
        check.due("not the other", x.segment(0), 1 + 2 + 8 + 2 * 256 + 1048576);
        RackTlp y = twoToBeUndone();
        check.due("deliver(0)", y.deliver(0), RackTlp.DUPLICATE);
        check.stats("one", y, RackTlp.K_UNDO_RETRANS, 1, RackTlp.K_UNDOS, 0, RackTlp.K_STATE, RackTlp.LOSS);
        check.due("its own", y.segment(0), 1 + 2 + 8 + 2 * 256);
        check.due("not the other", y.segment(1), 1 + 2 * 256 + 1048576);
    }

    private static void aDuplicateOfNoEpisodeUndoesNothing() {
        RackTlp x = new RackTlp(8, 100);
        Check.writeMany(x, 2);
        x.tick(10);
        x.deliver(0);
        check.due("segment 1 is probed", x.tick(20), 1);
        x.deliver(1);
        Check.writeMany(x, 8);
        x.tick(10);
        x.deliver(4);
        check.due("segment 2 is lost", x.tick(2), 1);
        // six on their way and a window of 5: it waits, and there is nothing to be undone
        check.stats("waiting", x, RackTlp.K_STATE, RackTlp.RECOVERY, RackTlp.K_CWND, 5, RackTlp.K_INFLIGHT, 6,
            RackTlp.K_UNDO_RETRANS, 0);
        check.due("the probe arrives", x.deliver(2), RackTlp.DUPLICATE);
        check.stats("nothing undone", x, RackTlp.K_STATE, RackTlp.RECOVERY, RackTlp.K_DSACKS, 1, RackTlp.K_UNDOS, 0,
            RackTlp.K_UNDO_RETRANS, 0, RackTlp.K_CWND, 5);
        check.due("still lost", x.segment(2), 1 + 4 + 256);
    }

    private static void nothingIsUndoneOnceOpen() {
        RackTlp x = twoToBeUndone();
        x.deliver(0);
        x.deliver(1);
        check.stats("open", x, RackTlp.K_STATE, RackTlp.OPEN, RackTlp.K_UNDO_RETRANS, 1);
        check.due("deliver(3)", x.deliver(3), RackTlp.DUPLICATE);
        check.stats("too late", x, RackTlp.K_UNDOS, 0, RackTlp.K_UNDO_RETRANS, 1, RackTlp.K_SSTHRESH, 2,
            RackTlp.K_DSACKS, 2);
        check.due("its ep stays", x.segment(1), 1 + 2 + 8 + 2 * 256 + 1048576);
    }

    private static void leavesLossAtThePointAlone() {
        RackTlp x = new RackTlp(2, 50);
        Check.writeMany(x, 2);
        x.tick(50);
        x.deliver(2);
        x.write(3);
        // segment 2 is above the point; segment 1 (id 3) is due at once and goes again as id 5
        check.due("deliver(4)", x.deliver(4), RackTlp.NEW_DATA);
        check.stats("one below is missing", x, RackTlp.K_STATE, RackTlp.LOSS, RackTlp.K_DELIVERED, 2,
            RackTlp.K_RECOVERY_POINT, 2, RackTlp.K_TX_COUNT, 6, RackTlp.K_LOSS_MARKS, 1,
            RackTlp.K_PRIOR_CWND, 2, RackTlp.K_UNDO_RETRANS, 3);
        x.deliver(5);
        check.stats("none is missing", x, RackTlp.K_STATE, RackTlp.OPEN);
    }

    private static void growsBeforeUndo() {
        RackTlp x = twoToBeUndone();
        x.deliver(0);
        x.deliverNoAck(1);
        check.due("deliver(3)", x.deliver(3), RackTlp.DUPLICATE);
        // the growth of segment 1 counts in the round of LOSS, and UNDO ends that round
        check.stats("a before c", x, RackTlp.K_UNDOS, 1, RackTlp.K_CWND, 2, RackTlp.K_CNT, 0, RackTlp.K_SSTHRESH, 32);
    }

    private static void undoesBeforeItOpens() {
        RackTlp x = new RackTlp(4, 50);
        x.write(0);
        check.due("tick(50)", x.tick(50), 1);
        x.deliverNoAck(0);
        // with segment 0 delivered, d would open it at once and there would be nothing to undo
        check.due("deliver(1)", x.deliver(1), RackTlp.DUPLICATE);
        check.stats("c before d", x, RackTlp.K_UNDOS, 1, RackTlp.K_UNDO_RETRANS, 0, RackTlp.K_CWND, 4,
            RackTlp.K_SSTHRESH, 32, RackTlp.K_STATE, RackTlp.OPEN);
    }

    private static void widensBeforeItDetects() {
        RackTlp x = new RackTlp(4, 100);
        x.write(0);
        x.tick(100);
        x.deliver(0);
        x.write(1);
        x.tick(2);
        x.write(2);
        x.tick(10);
        x.deliverNoAck(3);
        // of 100, and 10 + 2 later it is 112; the duplicate makes it 10 + 5
        check.due("deliver(1)", x.deliver(1), RackTlp.DUPLICATE);
        check.stats("c before e", x, RackTlp.K_NOW, 112, RackTlp.K_REO_MULT, 2, RackTlp.K_REO_WND, 5,
            RackTlp.K_LOSS_MARKS, 0, RackTlp.K_TIMER, RackTlp.REO, RackTlp.K_TIMER_AT, 115);
    }

    private static void opensBeforeItDetects() {
        RackTlp x = new RackTlp(8, 100);
        Check.writeMany(x, 2);
        x.tick(10);
        x.deliver(1);
        check.due("segment 0 is lost", x.tick(2), 1);
        x.write(2);
        x.tick(2);
        x.write(3);
        x.tick(10);
        x.deliverNoAck(4);
        check.due("segment 0 comes", x.deliver(2), RackTlp.NEW_DATA);
        // all below the point is delivered; segment 2, of 12, is due at 12 + 10 + 2 and starts an episode of its own
        check.stats("d before e", x, RackTlp.K_NOW, 24, RackTlp.K_STATE, RackTlp.RECOVERY, RackTlp.K_LOSS_MARKS, 2,
            RackTlp.K_PRIOR_CWND, 4, RackTlp.K_PRIOR_SSTHRESH, 4, RackTlp.K_CWND, 2, RackTlp.K_SSTHRESH, 2,
            RackTlp.K_RECOVERY_POINT, 4, RackTlp.K_UNDO_RETRANS, 1);
        check.due("ep is gone", x.segment(0), 1 + 2 + 8 + 2 * 256);
        check.due("ep is new", x.segment(2), 1 + 2 * 256 + 1048576);
    }

    private static void detectsBeforeItSends() {
        RackTlp x = new RackTlp(2, 100);
        Check.writeMany(x, 6);
        x.deliver(1);
        // a sample of 0: segment 0 is lost at once and goes before the new ones
        check.stats("e before f", x, RackTlp.K_LOSS_MARKS, 1, RackTlp.K_CWND, 2, RackTlp.K_INFLIGHT, 2,
            RackTlp.K_RECOVERY_POINT, 2, RackTlp.K_TX_COUNT, 4);
        check.due("the lost one", x.txInfo(2), RackTlp.TX_RETX);
        check.due("a new one", x.txInfo(3), 2);
    }
}
