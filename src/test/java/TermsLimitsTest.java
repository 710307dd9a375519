/** Terms: the least and greatest values, the values that may be none, and the edges of the timer. */
public final class TermsLimitsTest {
    private static final Check check = new Check();

    public static void main(String[] args) {
        check.sentence("Terms: \"at most 64 exist\"");
        segmentsEndAtSixtyFour();
        check.sentence("Terms: \"srtt, rttvar, minRtt, rackTx (each of these four may be none)\"");
        allFourAreNoneUntilAnAck();
        rackTxComesWithoutASample();
        zeroIsNotNone();
        check.sentence("Terms: \"reoWnd: 0 if minRtt is none, else min((reoMult * minRtt) / 4, srtt)\"");
        theReorderingWindowIsAtMostSrtt();
        theReorderingWindowMayPassMinRtt();
        check.sentence("Terms: \"reoMult = min(reoMult + 1, 8)\"");
        reoMultIsAtMostEight();
        check.sentence("Terms: \"clamped into [4, 4000] (below 4 becomes 4, above 4000 becomes 4000)\"");
        theTimeoutIsAtLeastFour();
        theTimeoutIsAtMostFourThousand();
        check.sentence("Terms: \"shift = min(shift + 1, 6)\"");
        shiftIsAtMostSix();
        check.sentence("Terms: \"pto: max(2 * srtt, 2)\"");
        theProbeWaitsAtLeastTwo();
        check.sentence("Terms: \"Then if cwnd > 32, cwnd = 32\"");
        theWindowIsAtMostThirtyTwo();
        check.sentence("Terms: \"ssthresh = max(cwnd / 2, 2)\", in a timeout");
        aTimeoutLeavesAtLeastTwo();
        check.sentence("Terms: \"ssthresh = max(cwnd / 2, 2)\", in DETECT");
        aLossLeavesAtLeastTwo();
        check.sentence("Terms: TIMER: \"armTime + pto <= rtoAt\"");
        aProbeAsLateAsTheTimeoutComesFirst();
        check.sentence("Terms: TIMER: \"NONE if no segment is outstanding\"");
        noTimerWithNothingOutstanding();
        check.sentence("Terms: \"A deadline may lie before now\", of a timeout");
        aTimeoutBeforeNow();
        check.sentence("Terms: \"A deadline may lie before now\", of a probe");
        aProbeBeforeNow();
        check.end();
    }

    private static void segmentsEndAtSixtyFour() {
        RackTlp x = new RackTlp(16, 100);
        for (int i = 0; i < 70; i++) {
            check.due("write " + i, x.write(i), i < 64 ? i : RackTlp.REFUSED);
            check.stats("write " + i, x, RackTlp.K_WRITTEN, Math.min(i + 1, 64));
        }
        for (int i = 0; i < 64; i++) {
            x.deliver(i);
        }
        check.stats("all arrived", x, RackTlp.K_DELIVERED, 64, RackTlp.K_CUM_ACK, 64, RackTlp.K_NEXT_NEW, 64,
            RackTlp.K_COMPLETE, 1, RackTlp.K_TX_COUNT, 64);
    }

    private static void fourNone(String what, RackTlp x) {
        check.stats(what, x, RackTlp.K_SRTT, -1, RackTlp.K_RTTVAR, -1, RackTlp.K_MIN_RTT, -1, RackTlp.K_RACK_TX, -1,
            RackTlp.K_PTO, -1, RackTlp.K_REO_WND, 0, RackTlp.K_RACK_RTT, 0);
    }

    private static void allFourAreNoneUntilAnAck() {
        RackTlp x = new RackTlp(4, 50);
        fourNone("new", x);
        Check.writeMany(x, 2);
        fourNone("written", x);
        x.tick(20);
        x.deliverNoAck(0);
        fourNone("received, not learned", x);
        x.tick(30);
        fourNone("timed out", x);
        check.stats("timed out", x, RackTlp.K_RTOS, 1);
    }

    private static void rackTxComesWithoutASample() {
        RackTlp x = new RackTlp(4, 50);
        Check.writeMany(x, 2);
        x.tick(50);
        // segment 0 went twice: no sample, but its time counts, however short, while minRtt is none
        x.deliver(0);
        check.stats("no sample", x, RackTlp.K_SRTT, -1, RackTlp.K_RTTVAR, -1, RackTlp.K_MIN_RTT, -1,
            RackTlp.K_PTO, -1, RackTlp.K_REO_WND, 0, RackTlp.K_RTO, 50, RackTlp.K_RACK_TX, 2, RackTlp.K_RACK_RTT, 0);
        x.deliver(3);
        x.write(3);
        check.stats("no probe without srtt", x, RackTlp.K_STATE, RackTlp.OPEN, RackTlp.K_SRTT, -1,
            RackTlp.K_TIMER, RackTlp.RTO, RackTlp.K_TIMER_AT, 100);
    }

    private static void zeroIsNotNone() {
        RackTlp x = new RackTlp(4, 50);
        Check.writeMany(x, 2);
        x.deliver(0);
        check.stats("a sample of 0", x, RackTlp.K_SRTT, 0, RackTlp.K_RTTVAR, 0, RackTlp.K_MIN_RTT, 0,
            RackTlp.K_RACK_TX, 0, RackTlp.K_RACK_RTT, 0, RackTlp.K_PTO, 2, RackTlp.K_RTO, 4,
            RackTlp.K_TIMER, RackTlp.PTO, RackTlp.K_TIMER_AT, 2);
        x.write(3);
        x.tick(1);
        x.deliver(1);
        check.stats("smoothed", x, RackTlp.K_SRTT, 0, RackTlp.K_RTTVAR, 0, RackTlp.K_MIN_RTT, 0);
        RackTlp y = new RackTlp(1, 50);
        y.write(0);
        y.deliver(0);
        Check.writeMany(y, 2);
        // id 0 is rackTx and is not none: no id is below it, so nothing is a candidate
        check.stats("no candidate", y, RackTlp.K_RACK_TX, 0, RackTlp.K_TIMER, RackTlp.PTO, RackTlp.K_LOSS_MARKS, 0);
    }

    /** srtt and minRtt are 8, and ids 2 to 10 are duplicates of segment 1 that are still to arrive. */
    private static RackTlp nineDuplicatesToCome() {
        RackTlp x = new RackTlp(4, 100);
        x.write(0);
        x.tick(8);
        x.deliver(0);
        x.write(1);
        for (int t = 2; t <= 10; t++) {
            Check.passToTimer(x);
        }
        x.deliver(1);
        check.stats("nine to come", x, RackTlp.K_SRTT, 8, RackTlp.K_MIN_RTT, 8, RackTlp.K_TX_COUNT, 11,
            RackTlp.K_REO_MULT, 1, RackTlp.K_REO_WND, 2, RackTlp.K_STATE, RackTlp.OPEN);
        return x;
    }

    private static void theReorderingWindowIsAtMostSrtt() {
        RackTlp x = nineDuplicatesToCome();
        int[] windows = {4, 6, 8, 8, 8, 8, 8, 8, 8};
        for (int i = 0; i < windows.length; i++) {
            check.due("deliver", x.deliver(2 + i), RackTlp.DUPLICATE);
            check.stats("duplicate " + i, x, RackTlp.K_REO_WND, windows[i], RackTlp.K_SRTT, 8);
        }
    }

    private static void theReorderingWindowMayPassMinRtt() {
        RackTlp x = new RackTlp(5, 100);
        Check.writeMany(x, 4);
        x.tick(8);
        x.deliver(0);
        x.tick(15);
        for (int t = 1; t <= 3; t++) {
            x.deliver(t);
        }
        // samples of 8, 23, 23 and 23
        check.stats("sampled", x, RackTlp.K_MIN_RTT, 8, RackTlp.K_SRTT, 11, RackTlp.K_REO_WND, 2);
        x.write(4);
        for (int t = 5; t <= 10; t++) {
            Check.passToTimer(x);
        }
        check.stats("six to come", x, RackTlp.K_TX_COUNT, 11);
        x.deliver(4);
        int[] windows = {4, 6, 8, 10, 11, 11};
        for (int i = 0; i < windows.length; i++) {
            check.due("deliver", x.deliver(5 + i), RackTlp.DUPLICATE);
            check.stats("duplicate " + i, x, RackTlp.K_REO_WND, windows[i], RackTlp.K_MIN_RTT, 8, RackTlp.K_SRTT, 11);
        }
    }

    private static void reoMultIsAtMostEight() {
        RackTlp x = nineDuplicatesToCome();
        int[] mult = {2, 3, 4, 5, 6, 7, 8, 8, 8};
        for (int i = 0; i < mult.length; i++) {
            check.due("deliver", x.deliver(2 + i), RackTlp.DUPLICATE);
            check.stats("duplicate " + i, x, RackTlp.K_REO_MULT, mult[i], RackTlp.K_DSACKS, i + 1);
        }
    }

    /** An object on which so many segments, one after the other, were delivered after the given time each. */
    private static RackTlp sampled(int count, int time) {
        RackTlp x = new RackTlp(1, 1000);
        for (int i = 0; i < count; i++) {
            x.write(i);
            x.tick(time);
            x.deliver(i);
        }
        return x;
    }

    private static void theTimeoutIsAtLeastFour() {
        check.stats("0 + 1", sampled(1, 0), RackTlp.K_SRTT, 0, RackTlp.K_RTTVAR, 0, RackTlp.K_RTO, 4);
        check.stats("1 + 1", sampled(1, 1), RackTlp.K_SRTT, 1, RackTlp.K_RTTVAR, 0, RackTlp.K_RTO, 4);
        check.stats("2 + 1", sampled(2, 2), RackTlp.K_SRTT, 2, RackTlp.K_RTTVAR, 0, RackTlp.K_RTO, 4);
        check.stats("3 + 1", sampled(2, 3), RackTlp.K_SRTT, 3, RackTlp.K_RTTVAR, 0, RackTlp.K_RTO, 4);
        check.stats("4 + 1", sampled(3, 4), RackTlp.K_SRTT, 4, RackTlp.K_RTTVAR, 0, RackTlp.K_RTO, 5);
        check.stats("2 + 4", sampled(1, 2), RackTlp.K_SRTT, 2, RackTlp.K_RTTVAR, 1, RackTlp.K_RTO, 6);
        RackTlp x = sampled(1, 0);
        x.write(1);
        check.due("tick to the probe", x.tick(2), 1);
        check.due("tick to the clamped timeout", x.tick(4), 1);
        check.stats("clamped, then doubled", x, RackTlp.K_RTOS, 1, RackTlp.K_SHIFT, 1, RackTlp.K_RTO, 8);
    }

    /** Segment 1 of three, sent once and at 0, is delivered at the given time, after timeouts. */
    private static RackTlp sampledInLoss(int time) {
        RackTlp x = new RackTlp(3, 1000);
        Check.writeMany(x, 3);
        Check.passTo(x, time);
        x.deliver(1);
        check.stats("sampled", x, RackTlp.K_SRTT, time, RackTlp.K_SHIFT, 0);
        return x;
    }

    private static void theTimeoutIsAtMostFourThousand() {
        check.stats("1333 + 4 * 666", sampledInLoss(1333), RackTlp.K_RTTVAR, 666, RackTlp.K_RTO, 3997);
        check.stats("1334 + 4 * 667", sampledInLoss(1334), RackTlp.K_RTTVAR, 667, RackTlp.K_RTO, 4000);
        check.stats("1335 + 4 * 667", sampledInLoss(1335), RackTlp.K_RTTVAR, 667, RackTlp.K_RTO, 4000);
        check.stats("9999 + 4 * 4999", sampledInLoss(9999), RackTlp.K_RTTVAR, 4999, RackTlp.K_RTO, 4000);
        RackTlp x = sampledInLoss(9999);
        // segment 0 went again at 8000, and with the ack segment 2 did at 9999
        check.stats("clamped", x, RackTlp.K_TIMER, RackTlp.RTO, RackTlp.K_TIMER_AT, 12000);
        check.due("tick(2000)", x.tick(2000), 0);
        check.due("tick(1), to the clamped timeout", x.tick(1), 1);
        check.stats("clamped, then doubled", x, RackTlp.K_SHIFT, 1, RackTlp.K_RTO, 8000, RackTlp.K_TIMER_AT, 17999);
    }

    private static void shiftIsAtMostSix() {
        RackTlp x = new RackTlp(1, 10);
        x.write(1);
        int[] shifts = {0, 1, 2, 3, 4, 5, 6, 6, 6, 6};
        for (int i = 0; i < shifts.length; i++) {
            check.stats("after timeout " + i, x, RackTlp.K_RTOS, i, RackTlp.K_SHIFT, shifts[i],
                RackTlp.K_RTO, 10 << shifts[i], RackTlp.K_TIMER_AT, x.stat(RackTlp.K_NOW) + (10 << shifts[i]));
            Check.passToTimer(x);
        }
        x.deliver(0);
        check.stats("an ack ends it", x, RackTlp.K_SHIFT, 0, RackTlp.K_RTO, 10);
    }

    private static void theProbeWaitsAtLeastTwo() {
        int[] waits = {2, 2, 4, 6};
        for (int srtt = 0; srtt < waits.length; srtt++) {
            check.stats("srtt " + srtt, sampled(1, srtt), RackTlp.K_SRTT, srtt, RackTlp.K_PTO, waits[srtt]);
        }
        RackTlp x = sampled(1, 0);
        x.write(1);
        check.due("tick(1)", x.tick(1), 0);
        check.due("tick(1), to the probe", x.tick(1), 1);
        check.stats("probed", x, RackTlp.K_TLPS, 1);
    }

    private static void theWindowIsAtMostThirtyTwo() {
        RackTlp x = new RackTlp(16, 100);
        for (int i = 0; i < 64; i++) {
            x.write(i);
            x.deliver(i);
            check.stats("delivered " + i, x, RackTlp.K_CWND, i < 16 ? 17 + i : 32,
                RackTlp.K_CNT, i < 16 ? 0 : (i - 15) % 32);
        }
        RackTlp y = new RackTlp(16, 1000);
        Check.writeMany(y, 64);
        for (int t = 0; t < 24; t++) {
            y.deliver(t);
        }
        check.stats("no more than 32 on their way", y, RackTlp.K_CWND, 32, RackTlp.K_INFLIGHT, 32,
            RackTlp.K_NEXT_NEW, 56);
    }

    private static void aTimeoutLeavesAtLeastTwo() {
        int[] ssthresh = {0, 2, 2, 2, 2, 2, 3, 3, 4};
        for (int cwnd = 1; cwnd < ssthresh.length; cwnd++) {
            RackTlp x = new RackTlp(cwnd, 50);
            x.write(0);
            check.due("tick(50)", x.tick(50), 1);
            check.stats("from a window of " + cwnd, x, RackTlp.K_SSTHRESH, ssthresh[cwnd], RackTlp.K_CWND, 1,
                RackTlp.K_PRIOR_CWND, cwnd);
        }
    }

    private static void aLossLeavesAtLeastTwo() {
        int[] left = {0, 0, 0, 2, 2, 2, 3, 3, 4, 4};
        for (int cwnd = 3; cwnd < left.length; cwnd++) {
            RackTlp x = new RackTlp(cwnd - 1, 50);
            Check.writeMany(x, 2);
            x.tick(8);
            x.deliver(1);
            check.stats("reordered", x, RackTlp.K_CWND, cwnd, RackTlp.K_SSTHRESH, 32);
            check.due("tick(2)", x.tick(2), 1);
            check.stats("from a window of " + cwnd, x, RackTlp.K_LOSS_MARKS, 1, RackTlp.K_CWND, left[cwnd],
                RackTlp.K_SSTHRESH, left[cwnd], RackTlp.K_PRIOR_CWND, cwnd);
        }
        fromAWindowOfTwo();
    }

    private static void fromAWindowOfTwo() {
        RackTlp x = new RackTlp(2, 50);
        x.write(0);
        x.tick(50);
        x.deliver(1);
        // OPEN again with a window of 2, and the next arrival makes the count 1 alone
        Check.writeMany(x, 2);
        x.tick(1);
        x.deliver(3);
        check.stats("from a window of 2", x, RackTlp.K_LOSS_MARKS, 1, RackTlp.K_PRIOR_CWND, 2, RackTlp.K_CWND, 2,
            RackTlp.K_SSTHRESH, 2, RackTlp.K_CNT, 0, RackTlp.K_STATE, RackTlp.RECOVERY);
    }

    private static void aProbeAsLateAsTheTimeoutComesFirst() {
        check.stats("as late", thirdSentAt(8), RackTlp.K_TIMER, RackTlp.PTO, RackTlp.K_TIMER_AT, 30);
        check.stats("one later", thirdSentAt(7), RackTlp.K_TIMER, RackTlp.RTO, RackTlp.K_TIMER_AT, 29);
        check.stats("one earlier", thirdSentAt(9), RackTlp.K_TIMER, RackTlp.PTO, RackTlp.K_TIMER_AT, 30);
    }

    /** At 10 the first two segments are delivered, so a probe comes at 30; the timeout is 22. */
    private static RackTlp thirdSentAt(int time) {
        RackTlp x = new RackTlp(4, 100);
        Check.writeMany(x, 2);
        x.tick(time);
        x.write(2);
        x.tick(10 - time);
        x.deliver(0);
        x.deliver(1);
        check.stats("armed", x, RackTlp.K_ARM_TIME, 10, RackTlp.K_PTO, 20, RackTlp.K_RTO, 22);
        return x;
    }

    private static void noTimerWithNothingOutstanding() {
        RackTlp x = new RackTlp(1, 50);
        check.stats("new", x, RackTlp.K_TIMER, RackTlp.NONE, RackTlp.K_TIMER_AT, -1);
        x.write(0);
        check.stats("sent", x, RackTlp.K_TIMER, RackTlp.RTO, RackTlp.K_TIMER_AT, 50);
        x.deliverNoAck(0);
        check.stats("received, not learned", x, RackTlp.K_TIMER, RackTlp.RTO, RackTlp.K_TIMER_AT, 50);
        x.tick(50);
        x.deliver(1);
        check.stats("delivered", x, RackTlp.K_TIMER, RackTlp.NONE, RackTlp.K_TIMER_AT, -1);
    }

    private static void aTimeoutBeforeNow() {
        RackTlp x = new RackTlp(4, 50);
        Check.writeMany(x, 4);
        x.tick(50);
        x.tick(5);
        x.deliver(0);
        // the ack ends the backoff; segments 2 and 3 wait since 0
        check.stats("due at 50", x, RackTlp.K_NOW, 55, RackTlp.K_TIMER, RackTlp.RTO, RackTlp.K_TIMER_AT, 50);
        check.due("tick(0)", x.tick(0), 1);
        check.stats("fired at 55", x, RackTlp.K_NOW, 55, RackTlp.K_RTOS, 2, RackTlp.K_TIMER_AT, 100);
        check.due("sent at", x.txTime(x.stat(RackTlp.K_TX_COUNT) - 1), 55);
    }

    private static void aProbeBeforeNow() {
        RackTlp x = new RackTlp(2, 100);
        x.write(0);
        x.tick(1);
        x.write(1);
        x.tick(10);
        x.deliver(1);
        x.write(2);
        check.due("segment 0 is lost at 12", x.tick(1), 1);
        check.due("and goes again", x.txInfo(3), RackTlp.TX_RETX);
        x.tick(1);
        x.deliver(0);
        check.stats("armed in RECOVERY", x, RackTlp.K_STATE, RackTlp.RECOVERY, RackTlp.K_ARM_TIME, 13,
            RackTlp.K_PTO, 20, RackTlp.K_TIMER, RackTlp.RTO, RackTlp.K_TIMER_AT, 41);
        check.due("tick(22)", x.tick(22), 0);
        check.due("deliver(3)", x.deliver(3), RackTlp.DUPLICATE);
        // the duplicate undoes the episode and arms nothing
        check.stats("due at 33", x, RackTlp.K_UNDOS, 1, RackTlp.K_STATE, RackTlp.OPEN, RackTlp.K_NOW, 35,
            RackTlp.K_TIMER, RackTlp.PTO, RackTlp.K_TIMER_AT, 33);
        check.due("tick(0)", x.tick(0), 1);
        check.stats("probed at 35", x, RackTlp.K_TLPS, 1, RackTlp.K_NOW, 35, RackTlp.K_TIMER, RackTlp.RTO,
            RackTlp.K_TIMER_AT, 65);
        check.due("the probe", x.txInfo(4), 2 + RackTlp.TX_RETX + RackTlp.TX_TLP);
        check.due("its time", x.txTime(4), 35);
    }
}
