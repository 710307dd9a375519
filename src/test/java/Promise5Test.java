/** Promise 5: tick, and with it TIMER and FIRE. */
public final class Promise5Test {
    private static final Check check = new Check();

    public static void main(String[] args) {
        check.sentence("Promise 5: \"n is clamped into [0, 10000]\", below the least");
        noTimePassesBelowZero();
        check.sentence("Promise 5: \"n is clamped into [0, 10000]\", above the greatest");
        atMostTenThousandPass();
        timersBeyondTenThousandWait();
        check.sentence("Promise 5: \"stop if it is NONE\"");
        nothingFiresWithoutATimer();
        check.sentence("Promise 5: \"or its deadline > target\"");
        firesAtTheDeadlineAndNotBefore();
        check.sentence("Promise 5: \"now = max(now, deadline)\"");
        firesAtItsOwnTime();
        check.sentence("Promise 5: \"at most 64 times\"");
        firesAtMostSixtyFour();
        check.sentence("Promise 5: \"A due timer left over after 64 FIREs fires in a later tick\"");
        whatIsLeftOverFiresLater();
        check.sentence("Promise 5: \"With n clamped to 0, timers whose deadline is at or before now still fire\"");
        firesBeforeNowInAnEmptyTick();
        firesAtNowInAnEmptyTick();
        check.sentence("Promise 5: \"Nothing else changes beyond what the FIREs do\"");
        nothingElseChanges();
        check.sentence("Terms: FIRE, REO");
        firesReordering();
        firesTheEarliestFirst();
        check.sentence("Terms: FIRE, PTO");
        probesTheTail();
        probesTheGreatestAndTimesOutTheLeast();
        probesTheGreatestOutstandingNotTheNewest();
        probesWithNewData();
        timeoutComesBeforeALaterProbe();
        check.sentence("Terms: FIRE, RTO");
        backsOff();
        timeoutInRecovery();
        firesWithEverySegmentSent();
        check.end();
    }

    private static void noTimePassesBelowZero() {
        RackTlp x = new RackTlp(4, 100);
        x.tick(40);
        int[] given = {-1, -2, -40, -10000, -10001, Integer.MIN_VALUE, Integer.MIN_VALUE + 1, 0};
        for (int n : given) {
            check.changesNothing("tick when idle", x, x::tick, n, 0);
        }
        x.write(1);
        for (int n : given) {
            check.changesNothing("tick with a timer to come", x, x::tick, n, 0);
        }
        check.stats("no time", x, RackTlp.K_NOW, 40, RackTlp.K_TIMER_AT, 140);
        check.due("tick(1)", x.tick(1), 0);
        check.stats("time", x, RackTlp.K_NOW, 41);
    }

    private static void atMostTenThousandPass() {
        int[] given = {9999, 10000, 10001, 20000, Integer.MAX_VALUE - 1, Integer.MAX_VALUE};
        int[] passed = {9999, 10000, 10000, 10000, 10000, 10000};
        for (int i = 0; i < given.length; i++) {
            RackTlp x = new RackTlp(4, 100);
            x.tick(7);
            check.due("tick(" + given[i] + ") when idle", x.tick(given[i]), 0);
            check.stats("tick(" + given[i] + ")", x, RackTlp.K_NOW, 7 + passed[i]);
        }
    }

    private static void timersBeyondTenThousandWait() {
        RackTlp x = new RackTlp(1, 1000);
        x.write(1);
        // timeouts at 1000, 3000, 7000 and 15000
        check.due("tick(MAX)", x.tick(Integer.MAX_VALUE), 3);
        check.stats("at 10000", x, RackTlp.K_NOW, 10000, RackTlp.K_RTOS, 3, RackTlp.K_TIMER_AT, 15000);
        check.due("tick(4999)", x.tick(4999), 0);
        check.due("tick(1)", x.tick(1), 1);
    }

    private static void nothingFiresWithoutATimer() {
        RackTlp x = new RackTlp(4, 100);
        int[] before = Check.everythingButNow(x);
        int[] given = {0, 1, 9999, 10000};
        int[] now = {0, 1, 10000, 20000};
        for (int i = 0; i < given.length; i++) {
            check.due("tick(" + given[i] + ")", x.tick(given[i]), 0);
            check.stats("tick(" + given[i] + ")", x, RackTlp.K_NOW, now[i], RackTlp.K_TIMER, RackTlp.NONE);
            check.same("tick(" + given[i] + ")", Check.everythingButNow(x), before);
        }
        x.write(1);
        x.deliver(0);
        before = Check.everythingButNow(x);
        check.due("tick when all is delivered", x.tick(10000), 0);
        check.same("tick when all is delivered", Check.everythingButNow(x), before);
        check.stats("tick when all is delivered", x, RackTlp.K_NOW, 30000);
    }

    private static void firesAtTheDeadlineAndNotBefore() {
        RackTlp x = new RackTlp(4, 100);
        x.write(1);
        check.due("one before the deadline", x.tick(99), 0);
        check.stats("one before the deadline", x, RackTlp.K_NOW, 99, RackTlp.K_RTOS, 0);
        RackTlp y = new RackTlp(4, 100);
        y.write(1);
        check.due("at the deadline", y.tick(100), 1);
        check.stats("at the deadline", y, RackTlp.K_NOW, 100, RackTlp.K_RTOS, 1);
        RackTlp z = new RackTlp(4, 100);
        z.write(1);
        // the second one is due at 300
        check.due("one before the second", z.tick(299), 1);
        check.due("the second", z.tick(1), 1);
    }

    private static void firesAtItsOwnTime() {
        RackTlp x = new RackTlp(4, 100);
        x.write(1);
        check.due("tick(1000)", x.tick(1000), 3);
        int[] times = {0, 100, 300, 700};
        for (int t = 0; t < times.length; t++) {
            check.due("txTime(" + t + ")", x.txTime(t), times[t]);
        }
        check.stats("afterwards", x, RackTlp.K_NOW, 1000, RackTlp.K_TX_COUNT, 4, RackTlp.K_TIMER_AT, 1500);
    }

    private static void whatIsLeftOverFiresLater() {
        RackTlp x = new RackTlp(2, 4);
        Check.writeMany(x, 2);
        // segment 1 waits since 0, so from 256 on a timeout is always due
        check.due("tick(255)", x.tick(255), 6);
        check.due("tick(1)", x.tick(1), 64);
        check.stats("left over", x, RackTlp.K_NOW, 256, RackTlp.K_RTOS, 70, RackTlp.K_TIMER, RackTlp.RTO,
            RackTlp.K_TIMER_AT, 256);
        check.due("tick(10)", x.tick(10), 64);
        check.stats("fired at once", x, RackTlp.K_NOW, 266, RackTlp.K_RTOS, 134);
        check.due("sent at", x.txTime(2 + 6 + 64), 256);
        check.due("tick(0)", x.tick(0), 64);
        check.due("sent at", x.txTime(2 + 6 + 128), 266);
        x.deliver(1);
        check.stats("the other is due at", x, RackTlp.K_TIMER_AT, 266 + x.stat(RackTlp.K_RTO));
        check.due("none is left over", x.tick(0), 0);
    }

    private static void firesBeforeNowInAnEmptyTick() {
        int[] given = {0, -1, Integer.MIN_VALUE};
        for (int n : given) {
            RackTlp x = new RackTlp(4, 50);
            Check.writeMany(x, 4);
            x.tick(50);
            x.tick(5);
            x.deliver(0);
            check.stats("due before now", x, RackTlp.K_NOW, 55, RackTlp.K_TIMER_AT, 50);
            check.due("tick(" + n + ")", x.tick(n), 1);
            check.stats("time never goes back", x, RackTlp.K_NOW, 55, RackTlp.K_RTOS, 2, RackTlp.K_TIMER_AT, 100);
            check.due("sent at", x.txTime(7), 55);
            check.due("tick(0)", x.tick(0), 0);
        }
    }

    private static void firesAtNowInAnEmptyTick() {
        int[] given = {0, -1, Integer.MIN_VALUE};
        for (int n : given) {
            RackTlp x = new RackTlp(4, 50);
            Check.writeMany(x, 4);
            x.tick(50);
            x.deliver(0);
            check.stats("due now", x, RackTlp.K_NOW, 50, RackTlp.K_TIMER, RackTlp.RTO, RackTlp.K_TIMER_AT, 50);
            check.due("tick(" + n + ")", x.tick(n), 1);
            check.stats("fired", x, RackTlp.K_NOW, 50, RackTlp.K_RTOS, 2, RackTlp.K_TIMER_AT, 100);
        }
    }

    private static void nothingElseChanges() {
        RackTlp x = new RackTlp(4, 100);
        Check.writeMany(x, 9);
        x.tick(10);
        x.deliver(0);
        x.deliver(3);
        check.stats("a timer to come", x, RackTlp.K_TIMER, RackTlp.REO, RackTlp.K_TIMER_AT, 12);
        int[] before = Check.everythingButNow(x);
        check.due("tick(1)", x.tick(1), 0);
        check.same("tick(1)", Check.everythingButNow(x), before);
        check.stats("tick(1)", x, RackTlp.K_NOW, 11);
        check.due("tick(1), to the timer", x.tick(1), 1);
        check.stats("what the timer does", x, RackTlp.K_LOSS_MARKS, 2, RackTlp.K_DELIVERED, 2, RackTlp.K_CUM_ACK, 1,
            RackTlp.K_WRITTEN, 9, RackTlp.K_ARM_TIME, 10, RackTlp.K_SHIFT, 0, RackTlp.K_DSACKS, 0);
    }

    private static void firesReordering() {
        RackTlp x = new RackTlp(4, 100);
        x.write(0);
        x.tick(1);
        x.write(1);
        x.tick(1);
        x.write(2);
        x.tick(8);
        x.deliver(2);
        // r = 8, window 2: segment 0 is due at 10 = now, segment 1 at 11
        check.stats("one due", x, RackTlp.K_LOSS_MARKS, 1, RackTlp.K_TIMER, RackTlp.REO,
            RackTlp.K_TIMER_AT, 11, RackTlp.K_RECOVERY_POINT, 3, RackTlp.K_CWND, 2);
        x.write(3);
        check.due("tick(1)", x.tick(1), 1);
        check.stats("the other", x, RackTlp.K_LOSS_MARKS, 2, RackTlp.K_STATE, RackTlp.RECOVERY,
            RackTlp.K_CWND, 2, RackTlp.K_SSTHRESH, 2, RackTlp.K_PRIOR_CWND, 5, RackTlp.K_RECOVERY_POINT, 3,
            RackTlp.K_UNDO_RETRANS, 2, RackTlp.K_RTOS, 0, RackTlp.K_TLPS, 0, RackTlp.K_SHIFT, 0,
            RackTlp.K_TX_COUNT, 5);
        check.due("the lost one goes before the new one", x.txInfo(4), 1 + RackTlp.TX_RETX);
    }

    private static void firesTheEarliestFirst() {
        RackTlp x = new RackTlp(4, 100);
        x.write(0);
        x.tick(1);
        Check.writeMany(x, 2);
        x.tick(8);
        x.deliver(2);
        check.stats("two to come", x, RackTlp.K_NOW, 9, RackTlp.K_TIMER, RackTlp.REO, RackTlp.K_TIMER_AT, 10);
        check.due("tick(1)", x.tick(1), 1);
        check.stats("the first", x, RackTlp.K_LOSS_MARKS, 1, RackTlp.K_TIMER, RackTlp.REO, RackTlp.K_TIMER_AT, 11);
        check.due("tick(1)", x.tick(1), 1);
        check.stats("the second", x, RackTlp.K_LOSS_MARKS, 2, RackTlp.K_TIMER, RackTlp.RTO);
    }

    private static void probesTheTail() {
        RackTlp x = new RackTlp(4, 100);
        Check.writeMany(x, 2);
        x.tick(10);
        x.deliver(0);
        check.stats("armed", x, RackTlp.K_TIMER, RackTlp.PTO, RackTlp.K_TIMER_AT, 30, RackTlp.K_RTO, 30);
        check.due("tick(19)", x.tick(19), 0);
        check.due("tick(1)", x.tick(1), 1);
        check.stats("probed", x, RackTlp.K_TLPS, 1, RackTlp.K_TLP_OUT, 1, RackTlp.K_RETRANSMITS, 1,
            RackTlp.K_STATE, RackTlp.OPEN, RackTlp.K_UNDO_RETRANS, 0, RackTlp.K_CWND, 5,
            RackTlp.K_RTOS, 0, RackTlp.K_SHIFT, 0, RackTlp.K_ARM_TIME, 10, RackTlp.K_INFLIGHT, 1,
            RackTlp.K_TIMER, RackTlp.RTO, RackTlp.K_TIMER_AT, 60);
        check.due("the probe", x.txInfo(2), 1 + RackTlp.TX_RETX + RackTlp.TX_TLP);
        check.due("its time", x.txTime(2), 30);
        check.due("its segment", x.segment(1), 1 + 2 * 256);
        check.due("the probe's timeout", x.tick(30), 1);
        check.stats("timed out", x, RackTlp.K_RTOS, 1, RackTlp.K_TLP_OUT, 0, RackTlp.K_STATE, RackTlp.LOSS,
            RackTlp.K_PRIOR_CWND, 5, RackTlp.K_SSTHRESH, 2, RackTlp.K_LOSS_MARKS, 0, RackTlp.K_TLPS, 1);
    }

    private static void probesTheGreatestAndTimesOutTheLeast() {
        RackTlp x = new RackTlp(4, 100);
        Check.writeMany(x, 3);
        x.tick(10);
        x.deliver(0);
        // the probe of segment 2 and the timeout of segment 1 are both due at 30
        check.due("tick(20)", x.tick(20), 2);
        check.due("the probe", x.txInfo(3), 2 + RackTlp.TX_RETX + RackTlp.TX_TLP);
        check.due("the timeout", x.txInfo(4), 1 + RackTlp.TX_RETX);
        check.stats("both", x, RackTlp.K_TLPS, 1, RackTlp.K_RTOS, 1, RackTlp.K_TX_COUNT, 5);
    }

    private static void probesTheGreatestOutstandingNotTheNewest() {
        RackTlp x = new RackTlp(8, 100);
        x.write(0);
        x.tick(1);
        x.write(1);
        x.tick(10);
        x.deliver(1);
        check.due("segment 0 is lost at 12", x.tick(1), 1);
        Check.writeMany(x, 2);
        x.tick(10);
        x.deliver(4);
        // segment 3 has come, so 0 and 2 are lost at 24; 2 is not below the recovery point
        check.due("tick(2)", x.tick(2), 1);
        check.stats("sent again", x, RackTlp.K_LOSS_MARKS, 3, RackTlp.K_TX_COUNT, 7, RackTlp.K_RECOVERY_POINT, 2);
        x.deliver(0);
        check.stats("open", x, RackTlp.K_STATE, RackTlp.OPEN, RackTlp.K_INFLIGHT, 1, RackTlp.K_RACK_TX, 4,
            RackTlp.K_TIMER, RackTlp.PTO, RackTlp.K_TIMER_AT, 44);
        check.due("tick(20)", x.tick(20), 1);
        check.due("the probe", x.txInfo(7), 2 + RackTlp.TX_RETX + RackTlp.TX_TLP);
        check.due("the newest is delivered", x.segment(3), 1 + 2 + 8 + 256);
    }

    private static void probesWithNewData() {
        RackTlp x = new RackTlp(1, 100);
        Check.writeMany(x, 2);
        x.tick(10);
        x.deliver(0);
        Check.writeMany(x, 3);
        check.stats("window full", x, RackTlp.K_CWND, 2, RackTlp.K_INFLIGHT, 2, RackTlp.K_NEXT_NEW, 3,
            RackTlp.K_TIMER, RackTlp.PTO, RackTlp.K_TIMER_AT, 30);
        check.due("tick(20)", x.tick(20), 1);
        check.due("the probe", x.txInfo(3), 3 + RackTlp.TX_TLP);
        check.stats("probed beyond the window", x, RackTlp.K_INFLIGHT, 3, RackTlp.K_CWND, 2,
            RackTlp.K_NEXT_NEW, 4, RackTlp.K_ARM_TIME, 30, RackTlp.K_RETRANSMITS, 0, RackTlp.K_TX_COUNT, 4,
            RackTlp.K_TIMER, RackTlp.RTO, RackTlp.K_TIMER_AT, 40);
        x.deliver(3);
        check.stats("an ack ends the probe", x, RackTlp.K_TLP_OUT, 0, RackTlp.K_TLPS, 1);
    }

    private static void timeoutComesBeforeALaterProbe() {
        RackTlp x = new RackTlp(4, 100);
        Check.writeMany(x, 3);
        x.tick(10);
        x.deliver(0);
        x.tick(1);
        x.deliver(1);
        // srtt 10, rttvar 4: rto 26 from 0, probe 20 from 11
        check.stats("probe too late", x, RackTlp.K_RTO, 26, RackTlp.K_PTO, 20, RackTlp.K_ARM_TIME, 11,
            RackTlp.K_TIMER, RackTlp.RTO, RackTlp.K_TIMER_AT, 26);
    }

    private static void backsOff() {
        RackTlp x = new RackTlp(8, 10);
        Check.writeMany(x, 8);
        check.due("tick(9)", x.tick(9), 0);
        check.due("tick(1)", x.tick(1), 1);
        check.stats("first timeout", x, RackTlp.K_RTOS, 1, RackTlp.K_STATE, RackTlp.LOSS, RackTlp.K_CWND, 1,
            RackTlp.K_CNT, 0, RackTlp.K_SSTHRESH, 4, RackTlp.K_PRIOR_CWND, 8, RackTlp.K_PRIOR_SSTHRESH, 32,
            RackTlp.K_SHIFT, 1, RackTlp.K_RTO, 20, RackTlp.K_RECOVERY_POINT, 8, RackTlp.K_LOSS_MARKS, 0,
            RackTlp.K_INFLIGHT, 1, RackTlp.K_UNDO_RETRANS, 1, RackTlp.K_TX_COUNT, 9, RackTlp.K_TIMER_AT, 20);
        check.due("segment 0", x.segment(0), 1 + 2 * 256 + 1048576);
        check.due("segment 7", x.segment(7), 1 + 4 + 256);
        int[] at = {20, 40, 80, 160, 320, 640};
        for (int i = 0; i < at.length; i++) {
            check.due("tick before " + at[i], x.tick(at[i] - x.stat(RackTlp.K_NOW) - 1), 0);
            check.due("tick to " + at[i], x.tick(1), i < 5 ? 1 : 64);
            check.due("txTime", x.txTime(9 + i), at[i]);
            check.stats("timeout at " + at[i], x, RackTlp.K_SHIFT, i < 5 ? i + 2 : 6,
                RackTlp.K_SSTHRESH, 4, RackTlp.K_PRIOR_CWND, 8);
        }
    }

    private static void firesAtMostSixtyFour() {
        RackTlp x = new RackTlp(8, 10);
        Check.writeMany(x, 8);
        int[] ids = {72, 136, 200, 256, 256};
        for (int i = 0; i < ids.length; i++) {
            check.due("tick", x.tick(i == 0 ? 10000 : 0), 64);
            check.stats("tick", x, RackTlp.K_NOW, 10000, RackTlp.K_RTOS, 64 * (i + 1),
                RackTlp.K_TX_COUNT, ids[i], RackTlp.K_RTO, 640, RackTlp.K_TIMER_AT, 640,
                RackTlp.K_RETRANSMITS, ids[i] - 8, RackTlp.K_UNDO_RETRANS, ids[i] - 8);
        }
        check.due("sent within the first tick", x.txTime(71), 640);
        check.due("sent within a later one", x.txTime(72), 10000);
        check.due("segment 0", x.segment(0), 1 + 4 + 249 * 256 + 248 * 1048576);
        x.deliver(1);
        check.stats("a great sample", x, RackTlp.K_SRTT, 10000, RackTlp.K_RTTVAR, 5000,
            RackTlp.K_RTO, 4000, RackTlp.K_SHIFT, 0);
    }

    private static void timeoutInRecovery() {
        RackTlp x = new RackTlp(16, 100);
        Check.writeMany(x, 16);
        x.tick(10);
        x.deliver(15);
        x.tick(2);
        check.stats("recovery", x, RackTlp.K_STATE, RackTlp.RECOVERY, RackTlp.K_CWND, 8,
            RackTlp.K_SSTHRESH, 8, RackTlp.K_PRIOR_CWND, 17, RackTlp.K_UNDO_RETRANS, 8,
            RackTlp.K_TIMER, RackTlp.RTO, RackTlp.K_TIMER_AT, 30);
        x.write(1);
        check.due("tick(18)", x.tick(18), 1);
        // the episode goes on, so the first one's values stay
        check.stats("loss", x, RackTlp.K_STATE, RackTlp.LOSS, RackTlp.K_CWND, 1, RackTlp.K_SSTHRESH, 4,
            RackTlp.K_PRIOR_CWND, 17, RackTlp.K_PRIOR_SSTHRESH, 32, RackTlp.K_UNDO_RETRANS, 9,
            RackTlp.K_LOSS_MARKS, 15, RackTlp.K_INFLIGHT, 1);
        check.due("segment 0", x.segment(0), 1 + 3 * 256 + 2 * 1048576);
    }

    private static void firesWithEverySegmentSent() {
        RackTlp x = lastFourOnTheirWay(0);
        // samples of 0: probe after 2, timeout after 4
        check.stats("all sent", x, RackTlp.K_NEXT_NEW, 64, RackTlp.K_INFLIGHT, 4,
            RackTlp.K_TIMER, RackTlp.PTO, RackTlp.K_TIMER_AT, 2);
        check.due("tick to the probe", x.tick(2), 1);
        check.due("the probe", x.txInfo(64), 63 + RackTlp.TX_RETX + RackTlp.TX_TLP);
        check.due("tick to the timeout", x.tick(2), 1);
        check.stats("timed out", x, RackTlp.K_RTOS, 1, RackTlp.K_RECOVERY_POINT, 64, RackTlp.K_INFLIGHT, 1);
        check.due("the timeout", x.txInfo(65), 60 + RackTlp.TX_RETX);
        check.due("the last is lost", x.segment(63), 1 + 4 + 2 * 256);

        RackTlp y = lastFourOnTheirWay(8);
        check.stats("all sent", y, RackTlp.K_NOW, 480, RackTlp.K_SRTT, 8, RackTlp.K_RTTVAR, 0, RackTlp.K_RTO, 9,
            RackTlp.K_TIMER, RackTlp.RTO, RackTlp.K_TIMER_AT, 489);
        y.tick(8);
        y.deliver(63);
        check.stats("reordered", y, RackTlp.K_TIMER, RackTlp.REO, RackTlp.K_TIMER_AT, 490);
        check.due("tick to the deadline", y.tick(2), 1);
        check.stats("lost", y, RackTlp.K_LOSS_MARKS, 3, RackTlp.K_RECOVERY_POINT, 64, RackTlp.K_TX_COUNT, 67);
        y.deliver(60);
        y.deliver(61);
        y.deliver(62);
        check.stats("recovered", y, RackTlp.K_STATE, RackTlp.OPEN, RackTlp.K_COMPLETE, 1);
    }

    /** Segments 0 to 59 delivered one by one, each after the given time, then 60 to 63 sent. */
    private static RackTlp lastFourOnTheirWay(int time) {
        RackTlp x = new RackTlp(16, 100);
        for (int i = 0; i < 60; i++) {
            x.write(i);
            x.tick(time);
            x.deliver(i);
        }
        Check.writeMany(x, 4);
        return x;
    }

}
