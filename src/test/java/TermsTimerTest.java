/** Terms: TIMER, rule by rule, and FIRE, sentence by sentence. */
public final class TermsTimerTest {
    private static final Check check = new Check();

    public static void main(String[] args) {
        check.sentence("Terms: TIMER: \"REO at the least candidate deadline if a candidate exists\"");
        reorderingComesBeforeAnEarlierTimeout();
        reorderingComesBeforeAProbe();
        firesTheEarliestFirst();
        check.sentence("Terms: TIMER: \"PTO .. if srtt is not none\"");
        noProbeWithoutSrtt();
        check.sentence("Terms: TIMER: \"PTO .. if .. state is OPEN\"");
        noProbeInRecoveryOrLoss();
        check.sentence("Terms: TIMER: \"PTO .. if .. tlpOut is false\"");
        noProbeWhileOneIsOut();
        check.sentence("Terms: TIMER: \"PTO .. if .. armTime + pto <= rtoAt\"");
        timeoutComesBeforeALaterProbe();
        check.sentence("Terms: \"rtoAt: the least time(last(s)) + rto over outstanding s\"");
        lostSegmentsTimeOutToo();
        deliveredSegmentsDoNotTimeOut();
        check.sentence("Terms: FIRE, REO: \"DETECT; SEND\"");
        firesReordering();
        check.sentence("Terms: FIRE, PTO: \"s = nextNew if nextNew < written, .. TRANSMIT(s) whatever cwnd is\"");
        probesWithNewData();
        check.sentence("Terms: FIRE, PTO: \"else the greatest outstanding s\"");
        probesTheGreatestAndTimesOutTheLeast();
        probesTheGreatestOutstandingNotTheNewest();
        check.sentence("Terms: FIRE, PTO: \"tlps++; .. if an id was made, tlp of it = true; tlpOut = true\"");
        probesTheTail();
        check.sentence("Terms: FIRE, RTO: \"rtos++; if state is OPEN, EPISODE; if state != LOSS, ssthresh ="
            + " max(cwnd / 2, 2)\"");
        backsOff();
        timeoutInRecovery();
        timeoutInLossKeepsTheThreshold();
        check.sentence("Terms: FIRE, RTO: \"state = LOSS; cwnd = 1; cnt = 0\"");
        timeoutEndsTheRoundOfGrowth();
        check.sentence("Terms: FIRE, RTO: \"recoveryPoint = nextNew\"");
        thePointIsWhatWasSent();
        check.sentence("Terms: FIRE, RTO: \"every outstanding s becomes lost (not counted in lossMarks)\"");
        allThatIsOutstandingIsLost();
        check.sentence("Terms: FIRE, RTO: \"tlpOut = false\"");
        timeoutEndsTheProbe();
        check.sentence("Terms: FIRE, with every segment sent");
        firesWithEverySegmentSent();
        check.end();
    }

    /** The given number of segments delivered one by one after 8 each: srtt and minRtt 8, rttvar 0. */
    private static RackTlp steady(int count) {
        RackTlp x = new RackTlp(16, 100);
        for (int i = 0; i < count; i++) {
            x.write(i);
            x.tick(8);
            x.deliver(i);
        }
        check.stats("steady", x, RackTlp.K_SRTT, 8, RackTlp.K_RTTVAR, 0, RackTlp.K_RTO, 9, RackTlp.K_PTO, 16,
            RackTlp.K_REO_WND, 2, RackTlp.K_NOW, 8 * count);
        return x;
    }

    private static void reorderingComesBeforeAnEarlierTimeout() {
        RackTlp x = steady(6);
        Check.writeMany(x, 2);
        check.stats("the timeout", x, RackTlp.K_TIMER, RackTlp.RTO, RackTlp.K_TIMER_AT, 57);
        x.tick(8);
        x.deliver(7);
        check.stats("a later deadline, but of a candidate", x, RackTlp.K_TIMER, RackTlp.REO, RackTlp.K_TIMER_AT, 58);
        check.due("tick(1)", x.tick(1), 0);
        check.due("tick(1)", x.tick(1), 1);
        check.stats("lost", x, RackTlp.K_LOSS_MARKS, 1, RackTlp.K_RTOS, 0);
    }

    private static void reorderingComesBeforeAProbe() {
        RackTlp x = new RackTlp(4, 100);
        Check.writeMany(x, 2);
        x.tick(40);
        x.deliver(1);
        // without a candidate it would be a probe at 40 + 80, as early as the timeout at 0 + 120
        check.stats("a candidate", x, RackTlp.K_PTO, 80, RackTlp.K_RTO, 120, RackTlp.K_TIMER, RackTlp.REO,
            RackTlp.K_TIMER_AT, 50);
        x.deliver(0);
        check.stats("none", x, RackTlp.K_TIMER, RackTlp.NONE, RackTlp.K_LOSS_MARKS, 0);
    }

    private static void firesTheEarliestFirst() {
        RackTlp x = new RackTlp(4, 100);
        x.write(0);
        x.tick(1);
        Check.writeMany(x, 2);
        x.tick(8);
        x.deliver(2);
        check.stats("two to come", x, RackTlp.K_NOW, 9, RackTlp.K_TIMER, RackTlp.REO, RackTlp.K_TIMER_AT, 10);
        check.due("tick(1)", x.tick(1), 1);
        check.stats("the first", x, RackTlp.K_LOSS_MARKS, 1, RackTlp.K_TIMER, RackTlp.REO, RackTlp.K_TIMER_AT, 11);
        check.due("tick(1)", x.tick(1), 1);
        check.stats("the second", x, RackTlp.K_LOSS_MARKS, 2, RackTlp.K_TIMER, RackTlp.RTO);
    }

    private static void noProbeWithoutSrtt() {
        RackTlp x = new RackTlp(2, 20);
        x.write(0);
        check.stats("never sampled", x, RackTlp.K_TIMER, RackTlp.RTO, RackTlp.K_TIMER_AT, 20);
        x.tick(20);
        x.deliver(1);
        x.write(1);
        check.stats("OPEN, but never sampled", x, RackTlp.K_STATE, RackTlp.OPEN, RackTlp.K_SRTT, -1,
            RackTlp.K_TIMER, RackTlp.RTO, RackTlp.K_TIMER_AT, 40);
    }

    private static void noProbeInRecoveryOrLoss() {
        RackTlp x = new RackTlp(4, 100);
        Check.writeMany(x, 2);
        x.tick(10);
        x.deliver(1);
        x.tick(2);
        // a probe would come at 10 + 20, the timeout comes at 12 + 30
        check.stats("recovery", x, RackTlp.K_STATE, RackTlp.RECOVERY, RackTlp.K_TLP_OUT, 0, RackTlp.K_PTO, 20,
            RackTlp.K_TIMER, RackTlp.RTO, RackTlp.K_TIMER_AT, 42);
        check.due("tick(30)", x.tick(30), 1);
        check.stats("loss", x, RackTlp.K_STATE, RackTlp.LOSS, RackTlp.K_TLP_OUT, 0, RackTlp.K_TLPS, 0,
            RackTlp.K_TIMER, RackTlp.RTO, RackTlp.K_TIMER_AT, 102);
    }

    private static void noProbeWhileOneIsOut() {
        RackTlp x = new RackTlp(4, 100);
        Check.writeMany(x, 2);
        x.tick(10);
        x.deliver(0);
        check.due("tick to the probe", x.tick(20), 1);
        x.write(2);
        // armed at 30 anew: another probe would come at 50, the timeout comes at 60
        check.stats("one is out", x, RackTlp.K_STATE, RackTlp.OPEN, RackTlp.K_TLP_OUT, 1, RackTlp.K_ARM_TIME, 30,
            RackTlp.K_PTO, 20, RackTlp.K_TIMER, RackTlp.RTO, RackTlp.K_TIMER_AT, 60);
        x.tick(10);
        x.deliver(3);
        check.stats("an ack lets the next one come", x, RackTlp.K_TLP_OUT, 0, RackTlp.K_NOW, 40);
    }

    private static void timeoutComesBeforeALaterProbe() {
        RackTlp x = new RackTlp(4, 100);
        Check.writeMany(x, 3);
        x.tick(10);
        x.deliver(0);
        x.tick(1);
        x.deliver(1);
        // srtt 10, rttvar 4: rto 26 from 0, probe 20 from 11
        check.stats("probe too late", x, RackTlp.K_RTO, 26, RackTlp.K_PTO, 20, RackTlp.K_ARM_TIME, 11,
            RackTlp.K_TIMER, RackTlp.RTO, RackTlp.K_TIMER_AT, 26);
    }

    private static void lostSegmentsTimeOutToo() {
        RackTlp x = new RackTlp(2, 50);
        Check.writeMany(x, 2);
        check.due("tick(50)", x.tick(50), 1);
        check.due("segment 1 is lost since 0", x.segment(1), 1 + 4 + 256);
        check.stats("twice 50 from 0, not from 50", x, RackTlp.K_RTO, 100, RackTlp.K_TIMER, RackTlp.RTO,
            RackTlp.K_TIMER_AT, 100);
    }

    private static void deliveredSegmentsDoNotTimeOut() {
        RackTlp x = new RackTlp(2, 50);
        x.write(0);
        x.tick(7);
        x.write(1);
        check.stats("the earlier one's", x, RackTlp.K_TIMER, RackTlp.RTO, RackTlp.K_TIMER_AT, 50);
        x.deliver(0);
        // 19 from the first one would be before the probe; from the second one it is not
        check.stats("the later one's is 26", x, RackTlp.K_RTO, 19, RackTlp.K_TIMER, RackTlp.PTO,
            RackTlp.K_TIMER_AT, 21);
    }

    private static void firesReordering() {
        RackTlp x = new RackTlp(4, 100);
        x.write(0);
        x.tick(1);
        x.write(1);
        x.tick(1);
        x.write(2);
        x.tick(8);
        x.deliver(2);
        // r = 8, window 2: segment 0 is due at 10 = now, segment 1 at 11
        check.stats("one due", x, RackTlp.K_LOSS_MARKS, 1, RackTlp.K_TIMER, RackTlp.REO,
            RackTlp.K_TIMER_AT, 11, RackTlp.K_RECOVERY_POINT, 3, RackTlp.K_CWND, 2);
        x.write(3);
        check.due("tick(1)", x.tick(1), 1);
        check.stats("the other", x, RackTlp.K_LOSS_MARKS, 2, RackTlp.K_STATE, RackTlp.RECOVERY,
            RackTlp.K_CWND, 2, RackTlp.K_SSTHRESH, 2, RackTlp.K_PRIOR_CWND, 5, RackTlp.K_RECOVERY_POINT, 3,
            RackTlp.K_UNDO_RETRANS, 2, RackTlp.K_RTOS, 0, RackTlp.K_TLPS, 0, RackTlp.K_SHIFT, 0,
            RackTlp.K_TX_COUNT, 5);
        check.due("the lost one goes before the new one", x.txInfo(4), 1 + RackTlp.TX_RETX);
    }

    private static void probesWithNewData() {
        RackTlp x = new RackTlp(1, 100);
        Check.writeMany(x, 2);
        x.tick(10);
        x.deliver(0);
        Check.writeMany(x, 3);
        check.stats("window full", x, RackTlp.K_CWND, 2, RackTlp.K_INFLIGHT, 2, RackTlp.K_NEXT_NEW, 3,
            RackTlp.K_TIMER, RackTlp.PTO, RackTlp.K_TIMER_AT, 30);
        check.due("tick(20)", x.tick(20), 1);
        check.due("the probe", x.txInfo(3), 3 + RackTlp.TX_TLP);
        check.stats("probed beyond the window", x, RackTlp.K_INFLIGHT, 3, RackTlp.K_CWND, 2,
            RackTlp.K_NEXT_NEW, 4, RackTlp.K_ARM_TIME, 30, RackTlp.K_RETRANSMITS, 0, RackTlp.K_TX_COUNT, 4,
            RackTlp.K_TIMER, RackTlp.RTO, RackTlp.K_TIMER_AT, 40);
        x.deliver(3);
        check.stats("an ack ends the probe", x, RackTlp.K_TLP_OUT, 0, RackTlp.K_TLPS, 1);
    }

    private static void probesTheGreatestAndTimesOutTheLeast() {
        RackTlp x = new RackTlp(4, 100);
        Check.writeMany(x, 3);
        x.tick(10);
        x.deliver(0);
        // the probe of segment 2 and the timeout of segment 1 are both due at 30
        check.due("tick(20)", x.tick(20), 2);
        check.due("the probe", x.txInfo(3), 2 + RackTlp.TX_RETX + RackTlp.TX_TLP);
        check.due("the timeout", x.txInfo(4), 1 + RackTlp.TX_RETX);
        check.stats("both", x, RackTlp.K_TLPS, 1, RackTlp.K_RTOS, 1, RackTlp.K_TX_COUNT, 5);
    }

    private static void probesTheGreatestOutstandingNotTheNewest() {
        RackTlp x = new RackTlp(8, 100);
        x.write(0);
        x.tick(1);
        x.write(1);
        x.tick(10);
        x.deliver(1);
        check.due("segment 0 is lost at 12", x.tick(1), 1);
        Check.writeMany(x, 2);
        x.tick(10);
        x.deliver(4);
        // segment 3 has come, so 0 and 2 are lost at 24; 2 is not below the recovery point
        check.due("tick(2)", x.tick(2), 1);
        check.stats("sent again", x, RackTlp.K_LOSS_MARKS, 3, RackTlp.K_TX_COUNT, 7, RackTlp.K_RECOVERY_POINT, 2);
        x.deliver(0);
        check.stats("open", x, RackTlp.K_STATE, RackTlp.OPEN, RackTlp.K_INFLIGHT, 1, RackTlp.K_RACK_TX, 4,
            RackTlp.K_TIMER, RackTlp.PTO, RackTlp.K_TIMER_AT, 44);
        check.due("tick(20)", x.tick(20), 1);
        check.due("the probe", x.txInfo(7), 2 + RackTlp.TX_RETX + RackTlp.TX_TLP);
        check.due("the newest is delivered", x.segment(3), 1 + 2 + 8 + 256);
    }

    private static void probesTheTail() {
        RackTlp x = new RackTlp(4, 100);
        Check.writeMany(x, 2);
        x.tick(10);
        x.deliver(0);
        check.stats("armed", x, RackTlp.K_TIMER, RackTlp.PTO, RackTlp.K_TIMER_AT, 30, RackTlp.K_RTO, 30);
        check.due("tick(19)", x.tick(19), 0);
        check.due("tick(1)", x.tick(1), 1);
        check.stats("probed", x, RackTlp.K_TLPS, 1, RackTlp.K_TLP_OUT, 1, RackTlp.K_RETRANSMITS, 1,
            RackTlp.K_STATE, RackTlp.OPEN, RackTlp.K_UNDO_RETRANS, 0, RackTlp.K_CWND, 5,
            RackTlp.K_RTOS, 0, RackTlp.K_SHIFT, 0, RackTlp.K_ARM_TIME, 10, RackTlp.K_INFLIGHT, 1,
            RackTlp.K_TIMER, RackTlp.RTO, RackTlp.K_TIMER_AT, 60);
        check.due("the probe", x.txInfo(2), 1 + RackTlp.TX_RETX + RackTlp.TX_TLP);
        check.due("its time", x.txTime(2), 30);
        check.due("its segment", x.segment(1), 1 + 2 * 256);
        check.due("the probe's timeout", x.tick(30), 1);
        check.stats("timed out", x, RackTlp.K_RTOS, 1, RackTlp.K_TLP_OUT, 0, RackTlp.K_STATE, RackTlp.LOSS,
            RackTlp.K_PRIOR_CWND, 5, RackTlp.K_SSTHRESH, 2, RackTlp.K_LOSS_MARKS, 0, RackTlp.K_TLPS, 1);
    }

    private static void backsOff() {
        RackTlp x = new RackTlp(8, 10);
        Check.writeMany(x, 8);
        check.due("tick(9)", x.tick(9), 0);
        check.due("tick(1)", x.tick(1), 1);
        check.stats("first timeout", x, RackTlp.K_RTOS, 1, RackTlp.K_STATE, RackTlp.LOSS, RackTlp.K_CWND, 1,
            RackTlp.K_CNT, 0, RackTlp.K_SSTHRESH, 4, RackTlp.K_PRIOR_CWND, 8, RackTlp.K_PRIOR_SSTHRESH, 32,
            RackTlp.K_SHIFT, 1, RackTlp.K_RTO, 20, RackTlp.K_RECOVERY_POINT, 8, RackTlp.K_LOSS_MARKS, 0,
            RackTlp.K_INFLIGHT, 1, RackTlp.K_UNDO_RETRANS, 1, RackTlp.K_TX_COUNT, 9, RackTlp.K_TIMER_AT, 20);
        check.due("segment 0", x.segment(0), 1 + 2 * 256 + 1048576);
        check.due("segment 7", x.segment(7), 1 + 4 + 256);
        int[] at = {20, 40, 80, 160, 320, 640};
        for (int i = 0; i < at.length; i++) {
            check.due("tick before " + at[i], x.tick(at[i] - x.stat(RackTlp.K_NOW) - 1), 0);
            check.due("tick to " + at[i], x.tick(1), i < 5 ? 1 : 64);
            check.due("txTime", x.txTime(9 + i), at[i]);
            check.stats("timeout at " + at[i], x, RackTlp.K_SHIFT, i < 5 ? i + 2 : 6,
                RackTlp.K_SSTHRESH, 4, RackTlp.K_PRIOR_CWND, 8);
        }
    }

    private static void timeoutInRecovery() {
        RackTlp x = new RackTlp(16, 100);
        Check.writeMany(x, 16);
        x.tick(10);
        x.deliver(15);
        x.tick(2);
        check.stats("recovery", x, RackTlp.K_STATE, RackTlp.RECOVERY, RackTlp.K_CWND, 8,
            RackTlp.K_SSTHRESH, 8, RackTlp.K_PRIOR_CWND, 17, RackTlp.K_UNDO_RETRANS, 8,
            RackTlp.K_TIMER, RackTlp.RTO, RackTlp.K_TIMER_AT, 30);
        x.write(1);
        check.due("tick(18)", x.tick(18), 1);
        // the episode goes on, so the first one's values stay
        check.stats("loss", x, RackTlp.K_STATE, RackTlp.LOSS, RackTlp.K_CWND, 1, RackTlp.K_SSTHRESH, 4,
            RackTlp.K_PRIOR_CWND, 17, RackTlp.K_PRIOR_SSTHRESH, 32, RackTlp.K_UNDO_RETRANS, 9,
            RackTlp.K_LOSS_MARKS, 15, RackTlp.K_INFLIGHT, 1);
        check.due("segment 0", x.segment(0), 1 + 3 * 256 + 2 * 1048576);
    }

    private static void timeoutInLossKeepsTheThreshold() {
        RackTlp x = new RackTlp(16, 50);
        Check.writeMany(x, 16);
        check.due("tick(50)", x.tick(50), 1);
        check.stats("from 16", x, RackTlp.K_SSTHRESH, 8, RackTlp.K_PRIOR_CWND, 16);
        for (int t = 0; t < 4; t++) {
            x.deliver(t);
        }
        check.stats("grown to 5", x, RackTlp.K_CWND, 5, RackTlp.K_STATE, RackTlp.LOSS, RackTlp.K_UNDO_RETRANS, 9,
            RackTlp.K_NOW, 50);
        check.due("tick(0)", x.tick(0), 1);
        check.stats("neither 2 nor 5", x, RackTlp.K_RTOS, 2, RackTlp.K_CWND, 1, RackTlp.K_SSTHRESH, 8,
            RackTlp.K_PRIOR_CWND, 16, RackTlp.K_PRIOR_SSTHRESH, 32, RackTlp.K_UNDO_RETRANS, 10);
    }

    private static void timeoutEndsTheRoundOfGrowth() {
        RackTlp x = new RackTlp(4, 100);
        Check.writeMany(x, 4);
        x.tick(100);
        for (int t = 4; t < 8; t++) {
            x.deliver(t);
        }
        x.write(4);
        check.stats("midst of a round", x, RackTlp.K_STATE, RackTlp.OPEN, RackTlp.K_CWND, 3, RackTlp.K_CNT, 1);
        check.due("tick(100)", x.tick(100), 1);
        check.stats("timed out", x, RackTlp.K_STATE, RackTlp.LOSS, RackTlp.K_CWND, 1, RackTlp.K_CNT, 0,
            RackTlp.K_PRIOR_CWND, 3);
    }

    private static void thePointIsWhatWasSent() {
        RackTlp x = new RackTlp(3, 50);
        Check.writeMany(x, 8);
        check.due("tick(50)", x.tick(50), 1);
        check.stats("three of eight", x, RackTlp.K_RECOVERY_POINT, 3, RackTlp.K_NEXT_NEW, 3, RackTlp.K_WRITTEN, 8);
        x.deliverNoAck(0);
        x.deliverNoAck(1);
        x.deliver(2);
        check.stats("below it all is delivered", x, RackTlp.K_STATE, RackTlp.OPEN, RackTlp.K_CWND, 3,
            RackTlp.K_NEXT_NEW, 6, RackTlp.K_RECOVERY_POINT, 3, RackTlp.K_SRTT, 50, RackTlp.K_RTTVAR, 18);
        check.due("the probe, of segment 6", x.tick(100), 1);
        check.due("the timeout", x.tick(22), 1);
        check.stats("seven of eight", x, RackTlp.K_STATE, RackTlp.LOSS, RackTlp.K_RECOVERY_POINT, 7,
            RackTlp.K_NEXT_NEW, 7, RackTlp.K_WRITTEN, 8);
    }

    private static void allThatIsOutstandingIsLost() {
        RackTlp x = new RackTlp(4, 50);
        Check.writeMany(x, 5);
        x.deliverNoAck(3);
        check.due("tick(50)", x.tick(50), 1);
        check.due("gone again at once", x.segment(0), 1 + 2 * 256 + 1048576);
        check.due("lost", x.segment(1), 1 + 4 + 256);
        check.due("lost", x.segment(2), 1 + 4 + 256);
        check.due("received, not learned", x.segment(3), 1 + 4 + 8 + 256);
        check.due("not sent", x.segment(4), 0);
        x.deliver(4);
        // segment 3 gave a sample of 50
        check.due("tick(150)", x.tick(150), 1);
        check.due("delivered", x.segment(0), 1 + 2 + 8 + 2 * 256 + 1048576);
        check.due("gone again at once", x.segment(1), 1 + 3 * 256 + 2 * 1048576);
        check.due("lost anew", x.segment(2), 1 + 4 + 2 * 256 + 1048576);
        check.due("delivered", x.segment(3), 1 + 2 + 8 + 256);
        check.stats("not counted", x, RackTlp.K_RTOS, 2, RackTlp.K_LOSS_MARKS, 0, RackTlp.K_INFLIGHT, 1);
    }

    private static void timeoutEndsTheProbe() {
        RackTlp x = new RackTlp(4, 100);
        Check.writeMany(x, 2);
        x.tick(10);
        x.deliver(0);
        check.due("tick to the probe", x.tick(20), 1);
        check.stats("out", x, RackTlp.K_TLP_OUT, 1);
        check.due("tick to its timeout", x.tick(30), 1);
        check.stats("no longer out", x, RackTlp.K_TLP_OUT, 0, RackTlp.K_RTOS, 1, RackTlp.K_TLPS, 1);
    }

    private static void firesWithEverySegmentSent() {
        RackTlp x = lastFourOnTheirWay(0);
        // samples of 0: probe after 2, timeout after 4
        check.stats("all sent", x, RackTlp.K_NEXT_NEW, 64, RackTlp.K_INFLIGHT, 4,
            RackTlp.K_TIMER, RackTlp.PTO, RackTlp.K_TIMER_AT, 2);
        check.due("tick to the probe", x.tick(2), 1);
        check.due("the probe", x.txInfo(64), 63 + RackTlp.TX_RETX + RackTlp.TX_TLP);
        check.due("tick to the timeout", x.tick(2), 1);
        check.stats("timed out", x, RackTlp.K_RTOS, 1, RackTlp.K_RECOVERY_POINT, 64, RackTlp.K_INFLIGHT, 1);
        check.due("the timeout", x.txInfo(65), 60 + RackTlp.TX_RETX);
        check.due("the last is lost", x.segment(63), 1 + 4 + 2 * 256);

        RackTlp y = lastFourOnTheirWay(8);
        check.stats("all sent", y, RackTlp.K_NOW, 480, RackTlp.K_SRTT, 8, RackTlp.K_RTTVAR, 0, RackTlp.K_RTO, 9,
            RackTlp.K_TIMER, RackTlp.RTO, RackTlp.K_TIMER_AT, 489);
        y.tick(8);
        y.deliver(63);
        check.stats("reordered", y, RackTlp.K_TIMER, RackTlp.REO, RackTlp.K_TIMER_AT, 490);
        check.due("tick to the deadline", y.tick(2), 1);
        check.stats("lost", y, RackTlp.K_LOSS_MARKS, 3, RackTlp.K_RECOVERY_POINT, 64, RackTlp.K_TX_COUNT, 67);
        y.deliver(60);
        y.deliver(61);
        y.deliver(62);
        check.stats("recovered", y, RackTlp.K_STATE, RackTlp.OPEN, RackTlp.K_COMPLETE, 1);
    }

    /** Segments 0 to 59 delivered one by one, each after the given time, then 60 to 63 sent. */
    private static RackTlp lastFourOnTheirWay(int time) {
        RackTlp x = new RackTlp(16, 100);
        for (int i = 0; i < 60; i++) {
            x.write(i);
            x.tick(time);
            x.deliver(i);
        }
        Check.writeMany(x, 4);
        return x;
    }
}
