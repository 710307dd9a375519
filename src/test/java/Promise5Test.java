/** Promise 5: tick. */
public final class Promise5Test {
    private static final Check check = new Check();

    public static void main(String[] args) {
        check.sentence("Promise 5: \"n is clamped into [0, 10000]\", below the least");
        noTimePassesBelowZero();
        check.sentence("Promise 5: \"n is clamped into [0, 10000]\", above the greatest");
        atMostTenThousandPass();
        timersBeyondTenThousandWait();
        check.sentence("Promise 5: \"stop if it is NONE\"");
        nothingFiresWithoutATimer();
        check.sentence("Promise 5: \"or its deadline > target\"");
        firesAtTheDeadlineAndNotBefore();
        check.sentence("Promise 5: \"now = max(now, deadline)\"");
        firesAtItsOwnTime();
        check.sentence("Promise 5: \"at most 64 times\"");
        firesAtMostSixtyFour();
        check.sentence("Promise 5: \"A due timer left over after 64 FIREs fires in a later tick\"");
        whatIsLeftOverFiresLater();
        check.sentence("Promise 5: \"With n clamped to 0, timers whose deadline is at or before now still fire\"");
        firesBeforeNowInAnEmptyTick();
        firesAtNowInAnEmptyTick();
        check.sentence("Promise 5: \"Nothing else changes beyond what the FIREs do\"");
        nothingElseChanges();
        check.end();
    }

    private static void noTimePassesBelowZero() {
        RackTlp x = new RackTlp(4, 100);
        x.tick(40);
        int[] given = {-1, -2, -40, -10000, -10001, Integer.MIN_VALUE, Integer.MIN_VALUE + 1, 0};
        for (int n : given) {
            check.changesNothing("tick when idle", x, x::tick, n, 0);
        }
        x.write(1);
        for (int n : given) {
            check.changesNothing("tick with a timer to come", x, x::tick, n, 0);
        }
        check.stats("no time", x, RackTlp.K_NOW, 40, RackTlp.K_TIMER_AT, 140);
        check.due("tick(1)", x.tick(1), 0);
        check.stats("time", x, RackTlp.K_NOW, 41);
    }

    private static void atMostTenThousandPass() {
        int[] given = {9999, 10000, 10001, 20000, Integer.MAX_VALUE - 1, Integer.MAX_VALUE};
        int[] passed = {9999, 10000, 10000, 10000, 10000, 10000};
        for (int i = 0; i < given.length; i++) {
            RackTlp x = new RackTlp(4, 100);
            x.tick(7);
            check.due("tick(" + given[i] + ") when idle", x.tick(given[i]), 0);
            check.stats("tick(" + given[i] + ")", x, RackTlp.K_NOW, 7 + passed[i]);
        }
    }

    private static void timersBeyondTenThousandWait() {
        RackTlp x = new RackTlp(1, 1000);
        x.write(1);
        // timeouts at 1000, 3000, 7000 and 15000
        check.due("tick(MAX)", x.tick(Integer.MAX_VALUE), 3);
        check.stats("at 10000", x, RackTlp.K_NOW, 10000, RackTlp.K_RTOS, 3, RackTlp.K_TIMER_AT, 15000);
        check.due("tick(4999)", x.tick(4999), 0);
        check.due("tick(1)", x.tick(1), 1);
    }

    private static void nothingFiresWithoutATimer() {
        RackTlp x = new RackTlp(4, 100);
        int[] before = Check.everythingButNow(x);
        int[] given = {0, 1, 9999, 10000};
        int[] now = {0, 1, 10000, 20000};
        for (int i = 0; i < given.length; i++) {
            check.due("tick(" + given[i] + ")", x.tick(given[i]), 0);
            check.stats("tick(" + given[i] + ")", x, RackTlp.K_NOW, now[i], RackTlp.K_TIMER, RackTlp.NONE);
            check.same("tick(" + given[i] + ")", Check.everythingButNow(x), before);
        }
        x.write(1);
        x.deliver(0);
        before = Check.everythingButNow(x);
        check.due("tick when all is delivered", x.tick(10000), 0);
        check.same("tick when all is delivered", Check.everythingButNow(x), before);
        check.stats("tick when all is delivered", x, RackTlp.K_NOW, 30000);
    }

    private static void firesAtTheDeadlineAndNotBefore() {
        RackTlp x = new RackTlp(4, 100);
        x.write(1);
        check.due("one before the deadline", x.tick(99), 0);
        check.stats("one before the deadline", x, RackTlp.K_NOW, 99, RackTlp.K_RTOS, 0);
        RackTlp y = new RackTlp(4, 100);
        y.write(1);
        check.due("at the deadline", y.tick(100), 1);
        check.stats("at the deadline", y, RackTlp.K_NOW, 100, RackTlp.K_RTOS, 1);
        RackTlp z = new RackTlp(4, 100);
        z.write(1);
        // the second one is due at 300
        check.due("one before the second", z.tick(299), 1);
        check.due("the second", z.tick(1), 1);
    }

    private static void firesAtItsOwnTime() {
        RackTlp x = new RackTlp(4, 100);
        x.write(1);
        check.due("tick(1000)", x.tick(1000), 3);
        int[] times = {0, 100, 300, 700};
        for (int t = 0; t < times.length; t++) {
            check.due("txTime(" + t + ")", x.txTime(t), times[t]);
        }
        check.stats("afterwards", x, RackTlp.K_NOW, 1000, RackTlp.K_TX_COUNT, 4, RackTlp.K_TIMER_AT, 1500);
    }

    private static void whatIsLeftOverFiresLater() {
        RackTlp x = new RackTlp(2, 4);
        Check.writeMany(x, 2);
        // segment 1 waits since 0, so from 256 on a timeout is always due
        check.due("tick(255)", x.tick(255), 6);
        check.due("tick(1)", x.tick(1), 64);
        check.stats("left over", x, RackTlp.K_NOW, 256, RackTlp.K_RTOS, 70, RackTlp.K_TIMER, RackTlp.RTO,
            RackTlp.K_TIMER_AT, 256);
        check.due("tick(10)", x.tick(10), 64);
        check.stats("fired at once", x, RackTlp.K_NOW, 266, RackTlp.K_RTOS, 134);
        check.due("sent at", x.txTime(2 + 6 + 64), 256);
        check.due("tick(0)", x.tick(0), 64);
        check.due("sent at", x.txTime(2 + 6 + 128), 266);
        x.deliver(1);
        check.stats("the other is due at", x, RackTlp.K_TIMER_AT, 266 + x.stat(RackTlp.K_RTO));
        check.due("none is left over", x.tick(0), 0);
    }

    private static void firesBeforeNowInAnEmptyTick() {
        int[] given = {0, -1, Integer.MIN_VALUE};
        for (int n : given) {
            RackTlp x = new RackTlp(4, 50);
            Check.writeMany(x, 4);
            x.tick(50);
            x.tick(5);
            x.deliver(0);
            check.stats("due before now", x, RackTlp.K_NOW, 55, RackTlp.K_TIMER_AT, 50);
            check.due("tick(" + n + ")", x.tick(n), 1);
            check.stats("time never goes back", x, RackTlp.K_NOW, 55, RackTlp.K_RTOS, 2, RackTlp.K_TIMER_AT, 100);
            check.due("sent at", x.txTime(7), 55);
            check.due("tick(0)", x.tick(0), 0);
        }
    }

    private static void firesAtNowInAnEmptyTick() {
        int[] given = {0, -1, Integer.MIN_VALUE};
        for (int n : given) {
            RackTlp x = new RackTlp(4, 50);
            Check.writeMany(x, 4);
            x.tick(50);
            x.deliver(0);
            check.stats("due now", x, RackTlp.K_NOW, 50, RackTlp.K_TIMER, RackTlp.RTO, RackTlp.K_TIMER_AT, 50);
            check.due("tick(" + n + ")", x.tick(n), 1);
            check.stats("fired", x, RackTlp.K_NOW, 50, RackTlp.K_RTOS, 2, RackTlp.K_TIMER_AT, 100);
        }
    }

    private static void nothingElseChanges() {
        RackTlp x = new RackTlp(4, 100);
        Check.writeMany(x, 9);
        x.tick(10);
        x.deliver(0);
        x.deliver(3);
        check.stats("a timer to come", x, RackTlp.K_TIMER, RackTlp.REO, RackTlp.K_TIMER_AT, 12);
        int[] before = Check.everythingButNow(x);
        check.due("tick(1)", x.tick(1), 0);
        check.same("tick(1)", Check.everythingButNow(x), before);
        check.stats("tick(1)", x, RackTlp.K_NOW, 11);
        check.due("tick(1), to the timer", x.tick(1), 1);
        check.stats("what the timer does", x, RackTlp.K_LOSS_MARKS, 2, RackTlp.K_DELIVERED, 2, RackTlp.K_CUM_ACK, 1,
            RackTlp.K_WRITTEN, 9, RackTlp.K_ARM_TIME, 10, RackTlp.K_SHIFT, 0, RackTlp.K_DSACKS, 0);
    }

    private static void firesAtMostSixtyFour() {
        RackTlp x = new RackTlp(8, 10);
        Check.writeMany(x, 8);
        int[] ids = {72, 136, 200, 256, 256};
        for (int i = 0; i < ids.length; i++) {
            check.due("tick", x.tick(i == 0 ? 10000 : 0), 64);
            check.stats("tick", x, RackTlp.K_NOW, 10000, RackTlp.K_RTOS, 64 * (i + 1),
                RackTlp.K_TX_COUNT, ids[i], RackTlp.K_RTO, 640, RackTlp.K_TIMER_AT, 640,
                RackTlp.K_RETRANSMITS, ids[i] - 8, RackTlp.K_UNDO_RETRANS, ids[i] - 8);
        }
        check.due("sent within the first tick", x.txTime(71), 640);
        check.due("sent within a later one", x.txTime(72), 10000);
        check.due("segment 0", x.segment(0), 1 + 4 + 249 * 256 + 248 * 1048576);
        x.deliver(1);
        check.stats("a great sample", x, RackTlp.K_SRTT, 10000, RackTlp.K_RTTVAR, 5000,
            RackTlp.K_RTO, 4000, RackTlp.K_SHIFT, 0);
    }
}
