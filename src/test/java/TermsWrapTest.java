/** Terms: the clock, deadlines and estimates past the greatest int, and division below zero. */
public final class TermsWrapTest {
    private static final int MAX = Integer.MAX_VALUE;
    private static final int MIN = Integer.MIN_VALUE;

    /** So near the greatest int that a deadline from here lies above every time after the wrap. */
    private static final int BASE = 2147470000;
    private static final Check check = new Check();

    public static void main(String[] args) {
        String wraps = "Terms: \"All arithmetic is on Java int, wrapping as Java int arithmetic does\"";
        check.sentence(wraps + ", now");
        theClockWraps();
        check.sentence(wraps + ", target = now + n");
        theTargetWrapsAndTheDeadlineDoesNot();
        check.sentence(wraps + ", time + rto");
        theDeadlineWrapsAndTheTargetDoesNot();
        bothWrap();
        theLeastTimeoutIsTheWrappedOne();
        check.sentence(wraps + ", now - time");
        aTimeAcrossTheWrapIsShort();
        check.sentence(wraps + ", armTime + pto");
        theProbesDeadlineWraps();
        theTimeoutsDeadlineWrapsFirst();
        theProbesDeadlineAloneWraps();
        check.sentence(wraps + ", time + rackRtt + reoWnd");
        theDeadlineOfALossWraps();
        theLeastDeadlineOfALossIsTheWrappedOne();
        check.sentence(wraps + ", 4 * rttvar, 2 * srtt, reoMult * minRtt");
        theGreatestSample();
        check.sentence(wraps + ", 7 * srtt, 3 * rttvar, srtt - r");
        theLeastSampleAfterTheGreatest();
        check.sentence("Terms: \"|x| is the absolute value\", of the least int too");
        theGapIsTheLeastInt();
        check.sentence("Terms: \"x/y truncates\", below zero too");
        divisionBelowZeroTruncates();
        check.sentence("Terms: \"each of these four may be none\", and -1 is not none");
        minusOneIsNotNone();
        noTimeIsTooShortWhileNoneIsKnown();
        check.end();
    }

    private static RackTlp idleAt(int initCwnd, int initRto, int time) {
        RackTlp x = new RackTlp(initCwnd, initRto);
        Check.passTo(x, time);
        return x;
    }

    private static void theClockWraps() {
        RackTlp x = idleAt(4, 100, MAX);
        check.stats("the greatest", x, RackTlp.K_NOW, MAX);
        check.due("tick(0)", x.tick(0), 0);
        check.stats("the greatest", x, RackTlp.K_NOW, MAX);
        check.due("tick(1)", x.tick(1), 0);
        check.stats("the least", x, RackTlp.K_NOW, MIN);
        RackTlp y = idleAt(4, 100, MAX);
        check.due("tick(10000)", y.tick(10000), 0);
        check.stats("beyond the least", y, RackTlp.K_NOW, MIN + 9999);
        y.write(1);
        check.due("sent at", y.txTime(0), MIN + 9999);
        check.stats("armed", y, RackTlp.K_ARM_TIME, MIN + 9999, RackTlp.K_TIMER_AT, MIN + 10099);
    }

    private static void theTargetWrapsAndTheDeadlineDoesNot() {
        RackTlp x = idleAt(4, 10, MAX - 50);
        x.write(1);
        check.stats("deadline", x, RackTlp.K_TIMER_AT, MAX - 40);
        check.due("tick(100), over the deadline", x.tick(100), 0);
        check.stats("not fired", x, RackTlp.K_NOW, MIN + 49, RackTlp.K_RTOS, 0, RackTlp.K_TIMER, RackTlp.RTO,
            RackTlp.K_TIMER_AT, MAX - 40);
        check.due("tick(10000)", x.tick(10000), 0);
    }

    private static void theDeadlineWrapsAndTheTargetDoesNot() {
        RackTlp x = idleAt(4, 100, MAX - 7);
        x.write(1);
        check.stats("deadline", x, RackTlp.K_TIMER_AT, MIN + 92);
        // it lies far before now, and so does each one after it
        check.due("tick(0)", x.tick(0), 64);
        check.stats("fired", x, RackTlp.K_NOW, MAX - 7, RackTlp.K_RTOS, 64, RackTlp.K_TX_COUNT, 65);
        check.due("sent at", x.txTime(64), MAX - 7);
        check.due("tick(7)", x.tick(7), 64);
        check.stats("fired", x, RackTlp.K_NOW, MAX, RackTlp.K_RTOS, 128);
    }

    private static void bothWrap() {
        RackTlp x = idleAt(4, 100, MAX - 7);
        x.write(1);
        check.due("tick(99)", x.tick(99), 0);
        check.stats("one before", x, RackTlp.K_NOW, MIN + 91, RackTlp.K_TIMER_AT, MIN + 92);
        check.due("tick(1)", x.tick(1), 1);
        check.stats("fired", x, RackTlp.K_NOW, MIN + 92, RackTlp.K_RTOS, 1, RackTlp.K_TIMER_AT, MIN + 292);
        check.due("sent at", x.txTime(1), MIN + 92);
    }

    private static void theLeastTimeoutIsTheWrappedOne() {
        RackTlp x = idleAt(4, 100, MAX - 140);
        x.write(1);
        check.due("tick(60)", x.tick(60), 0);
        check.stats("one", x, RackTlp.K_TIMER_AT, MAX - 40);
        x.write(2);
        check.stats("the later one is less", x, RackTlp.K_TIMER_AT, MIN + 19);
    }

    private static void aTimeAcrossTheWrapIsShort() {
        RackTlp x = idleAt(4, 100, MAX - 7);
        x.write(1);
        x.tick(50);
        x.deliver(0);
        check.stats("a sample of 50", x, RackTlp.K_NOW, MIN + 42, RackTlp.K_SRTT, 50, RackTlp.K_RTTVAR, 25,
            RackTlp.K_MIN_RTT, 50, RackTlp.K_RACK_RTT, 50, RackTlp.K_ARM_TIME, MIN + 42);
    }

    /** Idle at the given time, with srtt 10 and rttvar 5: a probe after 20, a timeout after 30. */
    private static RackTlp sampledTenAt(int time) {
        RackTlp x = new RackTlp(4, 100);
        x.write(0);
        x.tick(10);
        x.deliver(0);
        Check.passTo(x, time);
        check.stats("sampled", x, RackTlp.K_PTO, 20, RackTlp.K_RTO, 30, RackTlp.K_NOW, time);
        return x;
    }

    private static void theProbesDeadlineWraps() {
        RackTlp x = sampledTenAt(MAX - 15);
        x.write(1);
        check.stats("both wrap", x, RackTlp.K_TIMER, RackTlp.PTO, RackTlp.K_TIMER_AT, MIN + 4);
        check.due("tick(0), a probe and timeouts", x.tick(0), 64);
        check.stats("fired", x, RackTlp.K_TLPS, 1, RackTlp.K_RTOS, 63, RackTlp.K_NOW, MAX - 15);
        check.due("the probe", x.txInfo(2), 1 + RackTlp.TX_RETX + RackTlp.TX_TLP);
        check.due("the probe's time", x.txTime(2), MAX - 15);
    }

    private static void theTimeoutsDeadlineWrapsFirst() {
        RackTlp x = sampledTenAt(MAX - 25);
        x.write(1);
        // the probe's is MAX - 5, which is more
        check.stats("the timeout alone wraps", x, RackTlp.K_TIMER, RackTlp.RTO, RackTlp.K_TIMER_AT, MIN + 4);
    }

    private static void theProbesDeadlineAloneWraps() {
        RackTlp x = new RackTlp(4, 100);
        // rttvar goes 4, 3, 2, 1, 0
        for (int i = 0; i < 5; i++) {
            x.write(i);
            x.tick(8);
            x.deliver(i);
        }
        Check.passTo(x, MAX - 12);
        x.write(5);
        check.stats("a probe after 16, a timeout after 9", x, RackTlp.K_PTO, 16, RackTlp.K_RTO, 9,
            RackTlp.K_TIMER, RackTlp.PTO, RackTlp.K_TIMER_AT, MIN + 3);
    }

    /**
     * All 256 ids made by timeouts of segment 0, the last one at BASE + 10000; segments 1 and 2 sent once,
     * segment 1 at BASE and segment 2 so much later as given (0 to 3); all three lost, in LOSS.
     */
    private static RackTlp stuck(int later) {
        RackTlp x = idleAt(3, 5, BASE);
        Check.writeMany(x, 2);
        x.tick(later);
        x.write(2);
        x.tick(10000 - later);
        x.tick(0);
        x.tick(0);
        x.tick(0);
        check.stats("stuck", x, RackTlp.K_TX_COUNT, 256, RackTlp.K_NOW, BASE + 10000, RackTlp.K_SHIFT, 6,
            RackTlp.K_UNDO_RETRANS, 253);
        check.due("the last id", x.txInfo(255), RackTlp.TX_RETX);
        check.due("its time", x.txTime(255), BASE + 10000);
        check.due("segment 1", x.segment(1), 1 + 4 + 256);
        check.due("segment 2", x.segment(2), 1 + 4 + 256);
        return x;
    }

    private static void theDeadlineOfALossWraps() {
        RackTlp x = stuck(2);
        int toTheEnd = MAX - 1 - BASE;
        Check.passTo(x, BASE + 10000 + toTheEnd);
        check.due("deliver(0)", x.deliver(0), RackTlp.NEW_DATA);
        check.stats("the last sending's time counts", x, RackTlp.K_RACK_TX, 255, RackTlp.K_RACK_RTT, toTheEnd,
            RackTlp.K_REO_WND, 0, RackTlp.K_LOSS_MARKS, 0, RackTlp.K_TIMER, RackTlp.RTO);
        for (int t = 3; t <= 255; t++) {
            check.due("deliver(" + t + ")", x.deliver(t), RackTlp.DUPLICATE);
        }
        // UNDO clears both; segment 1 is due at MAX - 1, segment 2 two later, which is MIN and before now
        check.stats("one lost anew", x, RackTlp.K_NOW, MIN + 9998, RackTlp.K_UNDOS, 1, RackTlp.K_LOSS_MARKS, 1,
            RackTlp.K_STATE, RackTlp.RECOVERY, RackTlp.K_TIMER, RackTlp.REO, RackTlp.K_TIMER_AT, MAX - 1);
        check.due("segment 1", x.segment(1), 1 + 256);
        check.due("segment 2", x.segment(2), 1 + 4 + 256);
    }

    private static void theLeastDeadlineOfALossIsTheWrappedOne() {
        int base = MAX - 30000;
        RackTlp x = idleAt(4, 4, base);
        Check.writeMany(x, 2);
        x.tick(1);
        x.write(2);
        x.tick(2);
        x.write(3);
        x.tick(9997);
        x.tick(0);
        x.tick(0);
        x.tick(0);
        x.deliver(2);
        check.stats("sampled", x, RackTlp.K_TX_COUNT, 256, RackTlp.K_SRTT, 9999, RackTlp.K_NOW, base + 10000);
        Check.passTo(x, MIN);
        x.deliver(0);
        check.stats("learned", x, RackTlp.K_RACK_TX, 255, RackTlp.K_RACK_RTT, 20001);
        for (int t = 4; t <= 255; t++) {
            x.deliver(t);
        }
        // segment 1, of base, is due at MAX; segment 3, three later, at MIN + 2
        check.stats("both are candidates", x, RackTlp.K_UNDOS, 1, RackTlp.K_REO_WND, 9999, RackTlp.K_LOSS_MARKS, 0,
            RackTlp.K_STATE, RackTlp.OPEN, RackTlp.K_TIMER, RackTlp.REO, RackTlp.K_TIMER_AT, MIN + 2);
        check.due("tick(1)", x.tick(1), 0);
        check.due("tick(1)", x.tick(1), 1);
        check.stats("one is lost", x, RackTlp.K_LOSS_MARKS, 1, RackTlp.K_TIMER, RackTlp.REO, RackTlp.K_TIMER_AT, MAX);
        check.due("segment 1", x.segment(1), 1 + 256);
        check.due("segment 3", x.segment(3), 1 + 4 + 256);
    }

    private static void theGreatestSample() {
        RackTlp x = stuck(0);
        Check.passTo(x, BASE + MAX);
        x.deliver(1);
        // 4 * rttvar is -4, so rto is MAX + 1 = MIN, clamped; 2 * srtt is -2
        check.stats("a sample of MAX", x, RackTlp.K_SRTT, MAX, RackTlp.K_RTTVAR, 1073741823, RackTlp.K_MIN_RTT, MAX,
            RackTlp.K_RACK_RTT, MAX, RackTlp.K_RTO, 4, RackTlp.K_PTO, 2, RackTlp.K_REO_WND, 536870911);
        x.deliver(0);
        check.stats("shorter by 10000", x, RackTlp.K_RACK_TX, 1, RackTlp.K_SRTT, MAX);
        int[] windows = {0, 536870911, -1, 536870910, -1, 536870910, -2};
        for (int i = 0; i < windows.length; i++) {
            x.deliver(3 + i);
            check.stats("a wider window", x, RackTlp.K_REO_MULT, 2 + i, RackTlp.K_REO_WND, windows[i]);
        }
    }

    private static void theLeastSampleAfterTheGreatest() {
        RackTlp x = stuck(0);
        Check.passTo(x, BASE + MAX);
        x.deliver(1);
        x.tick(1);
        x.deliver(2);
        // d = |MAX - MIN| = |-1|; 3 * 1073741823 is -1073741827, 7 * MAX is MAX - 6
        check.stats("a sample of MIN", x, RackTlp.K_RTTVAR, -268435456, RackTlp.K_SRTT, 0, RackTlp.K_MIN_RTT, MIN,
            RackTlp.K_RTO, 4, RackTlp.K_PTO, 2, RackTlp.K_REO_WND, -536870912,
            RackTlp.K_RACK_TX, 2, RackTlp.K_RACK_RTT, MIN);
    }

    private static void theGapIsTheLeastInt() {
        RackTlp x = stuck(0);
        Check.passTo(x, BASE + 1073741830);
        x.deliver(1);
        // 4 * rttvar and 2 * srtt are both below zero
        check.stats("a sample of 2^30 + 6", x, RackTlp.K_SRTT, 1073741830, RackTlp.K_RTTVAR, 536870915,
            RackTlp.K_MIN_RTT, 1073741830, RackTlp.K_RTO, 4000, RackTlp.K_PTO, 2, RackTlp.K_REO_WND, 268435457);
        Check.passTo(x, BASE + 1073741830 + MIN);
        x.deliver(2);
        // srtt - r is MIN, and so is its absolute value: rttvar is -536870903 / 4, srtt -2147483600 / 8
        check.stats("a sample less by 2^31", x, RackTlp.K_SRTT, -268435450, RackTlp.K_RTTVAR, -134217725,
            RackTlp.K_MIN_RTT, -1073741818, RackTlp.K_RTO, 4, RackTlp.K_PTO, 2);
    }

    private static void divisionBelowZeroTruncates() {
        RackTlp x = stuck(0);
        Check.passTo(x, BASE - 3);
        x.deliver(1);
        check.stats("a sample of -3", x, RackTlp.K_SRTT, -3, RackTlp.K_RTTVAR, -1, RackTlp.K_MIN_RTT, -3,
            RackTlp.K_REO_WND, -3, RackTlp.K_RTO, 4, RackTlp.K_PTO, 2);
        x.deliver(0);
        int[] windows = {-3, -3, -3, -3, -4, -5, -6};
        for (int i = 0; i < windows.length; i++) {
            x.deliver(3 + i);
            check.stats("a wider window", x, RackTlp.K_REO_MULT, 2 + i, RackTlp.K_REO_WND, windows[i]);
        }
        x.tick(1);
        x.deliver(2);
        // (3 * -1 + 1) / 4 and (7 * -3 - 2) / 8
        check.stats("a sample of -2", x, RackTlp.K_RTTVAR, 0, RackTlp.K_SRTT, -2, RackTlp.K_MIN_RTT, -3);
    }

    private static void minusOneIsNotNone() {
        RackTlp x = stuck(0);
        Check.passTo(x, BASE - 1);
        x.deliver(1);
        check.stats("a sample of -1", x, RackTlp.K_SRTT, -1, RackTlp.K_RTTVAR, 0, RackTlp.K_MIN_RTT, -1,
            RackTlp.K_REO_WND, -1, RackTlp.K_PTO, 2, RackTlp.K_RTO, 4, RackTlp.K_RACK_TX, 1, RackTlp.K_RACK_RTT, -1);
        x.tick(10);
        x.deliver(2);
        // smoothed as a second sample: (0 + 10) / 4 and (-7 + 9) / 8
        check.stats("a sample of 9", x, RackTlp.K_SRTT, 0, RackTlp.K_RTTVAR, 2, RackTlp.K_MIN_RTT, -1);
    }

    private static void noTimeIsTooShortWhileNoneIsKnown() {
        RackTlp x = stuck(0);
        Check.passTo(x, BASE + 10000 + MIN);
        x.deliver(0);
        // sent many times, so it gives no sample, and minRtt is none: even MIN is not below it
        check.stats("the last sending's time counts", x, RackTlp.K_MIN_RTT, -1, RackTlp.K_RACK_TX, 255,
            RackTlp.K_RACK_RTT, MIN);
    }
}
