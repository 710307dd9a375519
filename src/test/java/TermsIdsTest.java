/** Terms: the 256 ids, and what each call does when the last of them is made and when none is left. */
public final class TermsIdsTest {
    private static final String NO_MORE =
        "Terms: \"At most 256 ids ever exist; once 256 exist, nothing more is transmitted by any call\"";
    private static final Check check = new Check();

    public static void main(String[] args) {
        check.sentence("Terms: \"Every sending of a segment gets the next id 0, 1, 2, ..\"");
        idsAreMadeInOrder();
        check.sentence("Terms: \"A larger id means sent later\"");
        aLargerIdIsNotOlder();
        check.sentence(NO_MORE + ": write");
        writeSendsNothing();
        check.sentence(NO_MORE + ": deliver");
        deliverSendsNothingNew();
        deliverSendsNothingLost();
        check.sentence(NO_MORE + ": a reordering timer");
        reorderingSendsNothing();
        check.sentence(NO_MORE + ": a timeout");
        timeoutSendsNothing();
        timeoutsGoOnFiring();
        check.sentence("Terms: FIRE, PTO: \"if an id was made, tlp of it = true\"");
        aProbeOfNewDataSendsNothing();
        aProbeOfTheTailSendsNothing();
        aProbeLeavesALostTailLost();
        aProbeTakesTheLastId();
        check.sentence("Terms: SEND: \"repeat while fewer than 256 ids exist and inflight < cwnd\"");
        sendStopsAtTheLastId();
        sendStopsAtTheWindow();
        check.sentence("Terms: TRANSMIT: \"if 256 ids exist, nothing\"");
        aTimeoutTakesTheLastId();
        check.end();
    }

    /** So many ids, all of segment 0 and one by one: the first by write, the others by timeouts. */
    private static RackTlp timedOut(int initCwnd, int initRto, int segments, int ids) {
        RackTlp x = new RackTlp(initCwnd, initRto);
        Check.writeMany(x, segments);
        for (int t = 1; t < ids; t++) {
            Check.passToTimer(x);
        }
        check.stats("timed out", x, RackTlp.K_TX_COUNT, ids, RackTlp.K_RTOS, ids - 1, RackTlp.K_CWND, 1,
            RackTlp.K_INFLIGHT, 1);
        return x;
    }

    /** As above, and then segment 0 is delivered: OPEN, with a window of 2 and nothing on its way. */
    private static RackTlp openWith(int ids) {
        RackTlp x = timedOut(2, 20, 1, ids);
        x.deliver(ids - 1);
        check.stats("open", x, RackTlp.K_STATE, RackTlp.OPEN, RackTlp.K_CWND, 2, RackTlp.K_INFLIGHT, 0,
            RackTlp.K_SHIFT, 0, RackTlp.K_TX_COUNT, ids, RackTlp.K_SRTT, -1);
        return x;
    }

    private static void idsAreMadeInOrder() {
        RackTlp x = new RackTlp(2, 20);
        Check.writeMany(x, 3);
        int[] ids = {2, 3, 4, 5, 6};
        for (int i = 0; i < ids.length; i++) {
            check.stats("ids made", x, RackTlp.K_TX_COUNT, ids[i]);
            check.due("the newest id", x.txInfo(ids[i] - 1), i == 0 ? 1 : RackTlp.TX_RETX);
            check.due("the next id", x.txInfo(ids[i]), -1);
            Check.passToTimer(x);
        }
    }

    private static void aLargerIdIsNotOlder() {
        RackTlp x = timedOut(4, 20, 1, 200);
        for (int t = 1; t < 200; t++) {
            check.due("sent later", x.txTime(t) > x.txTime(t - 1) ? 1 : 0, 1);
        }
    }

    private static void writeSendsNothing() {
        RackTlp x = openWith(255);
        int now = x.stat(RackTlp.K_NOW);
        check.due("write", x.write(1), 1);
        check.stats("the last id", x, RackTlp.K_TX_COUNT, 256, RackTlp.K_NEXT_NEW, 2, RackTlp.K_INFLIGHT, 1);
        check.due("the last id", x.txInfo(255), 1);
        x.tick(1);
        check.due("write without ids", x.write(2), 2);
        // the window has room for it
        check.stats("none left", x, RackTlp.K_TX_COUNT, 256, RackTlp.K_WRITTEN, 3, RackTlp.K_NEXT_NEW, 2,
            RackTlp.K_INFLIGHT, 1, RackTlp.K_CWND, 2, RackTlp.K_ARM_TIME, now);
        check.due("not sent", x.segment(2), 0);
        check.due("no id 256", x.txInfo(256), -1);
    }

    private static void deliverSendsNothingNew() {
        RackTlp x = openWith(255);
        Check.writeMany(x, 3);
        check.due("deliver(255)", x.deliver(255), RackTlp.NEW_DATA);
        check.stats("none left", x, RackTlp.K_TX_COUNT, 256, RackTlp.K_NEXT_NEW, 2, RackTlp.K_INFLIGHT, 0,
            RackTlp.K_WRITTEN, 4, RackTlp.K_COMPLETE, 0, RackTlp.K_TIMER, RackTlp.NONE, RackTlp.K_TIMER_AT, -1);
        check.due("tick(10000)", x.tick(10000), 0);
        check.due("not sent", x.segment(2), 0);
    }

    private static void deliverSendsNothingLost() {
        RackTlp x = new RackTlp(2, 4);
        Check.writeMany(x, 2);
        x.tick(10000);
        x.tick(0);
        x.tick(0);
        x.tick(0);
        check.stats("ids used up", x, RackTlp.K_TX_COUNT, 256, RackTlp.K_RETRANSMITS, 254);
        check.due("deliver(255)", x.deliver(255), RackTlp.NEW_DATA);
        check.stats("room in the window", x, RackTlp.K_CWND, 2, RackTlp.K_INFLIGHT, 0, RackTlp.K_TX_COUNT, 256,
            RackTlp.K_RETRANSMITS, 254, RackTlp.K_STATE, RackTlp.LOSS);
        check.due("lost and waiting for ever", x.segment(1), 1 + 4 + 256);
    }

    /** The last two ids are segments 1 and 2; 2 arrives after 8, so segment 1 is due 2 later. */
    private static RackTlp lastTwoReordered() {
        RackTlp x = openWith(254);
        Check.writeMany(x, 2);
        x.tick(8);
        x.deliver(255);
        check.stats("reordered", x, RackTlp.K_TX_COUNT, 256, RackTlp.K_RACK_TX, 255, RackTlp.K_REO_WND, 2,
            RackTlp.K_TIMER, RackTlp.REO, RackTlp.K_TIMER_AT, x.stat(RackTlp.K_NOW) + 2, RackTlp.K_RETRANSMITS, 253);
        check.due("tick(2)", x.tick(2), 1);
        return x;
    }

    private static void reorderingSendsNothing() {
        RackTlp x = lastTwoReordered();
        check.stats("lost", x, RackTlp.K_LOSS_MARKS, 1, RackTlp.K_STATE, RackTlp.RECOVERY, RackTlp.K_TX_COUNT, 256,
            RackTlp.K_RETRANSMITS, 253, RackTlp.K_UNDO_RETRANS, 0, RackTlp.K_INFLIGHT, 0, RackTlp.K_CWND, 2);
        check.due("lost and not sent", x.segment(1), 1 + 4 + 256);
    }

    private static void timeoutSendsNothing() {
        RackTlp x = lastTwoReordered();
        // sent 10 ago, srtt 8 and rttvar 4
        check.stats("timeout", x, RackTlp.K_TIMER, RackTlp.RTO, RackTlp.K_TIMER_AT, x.stat(RackTlp.K_NOW) + 14);
        check.due("tick(14)", x.tick(14), 1);
        check.stats("timed out", x, RackTlp.K_RTOS, 254, RackTlp.K_STATE, RackTlp.LOSS, RackTlp.K_CWND, 1,
            RackTlp.K_SHIFT, 1, RackTlp.K_RECOVERY_POINT, 3, RackTlp.K_TX_COUNT, 256, RackTlp.K_RETRANSMITS, 253,
            RackTlp.K_UNDO_RETRANS, 0, RackTlp.K_LOSS_MARKS, 1, RackTlp.K_TIMER_AT, x.stat(RackTlp.K_NOW) + 24);
        check.due("lost and not sent", x.segment(1), 1 + 4 + 256);
    }

    private static void timeoutsGoOnFiring() {
        RackTlp x = timedOut(2, 20, 1, 256);
        for (int rtos = 256; rtos < 300; rtos++) {
            check.due("tick", x.tick(10000), 64);
            check.stats("no more ids", x, RackTlp.K_TX_COUNT, 256, RackTlp.K_RTOS, 255 + 64 * (rtos - 255));
        }
        check.due("segment 0", x.segment(0), 1 + 4 + 256 * 256 + 255 * 1048576);
    }

    /** srtt 10, a probe after 20 and a timeout after 30; the ids up to 253 are made. */
    private static RackTlp sampledWithTwoIdsLeft() {
        RackTlp x = openWith(253);
        x.write(1);
        x.tick(10);
        x.deliver(253);
        check.stats("sampled", x, RackTlp.K_SRTT, 10, RackTlp.K_RTO, 30, RackTlp.K_PTO, 20, RackTlp.K_TX_COUNT, 254,
            RackTlp.K_STATE, RackTlp.OPEN, RackTlp.K_CWND, 2, RackTlp.K_RETRANSMITS, 252);
        return x;
    }

    private static void aProbeOfNewDataSendsNothing() {
        RackTlp x = sampledWithTwoIdsLeft();
        int now = x.stat(RackTlp.K_NOW);
        Check.writeMany(x, 3);
        check.stats("one waits", x, RackTlp.K_TX_COUNT, 256, RackTlp.K_NEXT_NEW, 4, RackTlp.K_WRITTEN, 5,
            RackTlp.K_TIMER, RackTlp.PTO, RackTlp.K_TIMER_AT, now + 20);
        check.due("tick(20)", x.tick(20), 1);
        check.stats("a probe without an id", x, RackTlp.K_TLPS, 1, RackTlp.K_TLP_OUT, 1, RackTlp.K_TX_COUNT, 256,
            RackTlp.K_NEXT_NEW, 4, RackTlp.K_ARM_TIME, now, RackTlp.K_TIMER, RackTlp.RTO,
            RackTlp.K_TIMER_AT, now + 30);
        check.due("the last id is no probe", x.txInfo(255), 3);
        check.due("the waiting segment", x.segment(4), 0);
    }

    private static void aProbeOfTheTailSendsNothing() {
        RackTlp x = sampledWithTwoIdsLeft();
        Check.writeMany(x, 2);
        check.due("tick(20)", x.tick(20), 1);
        check.stats("a probe without an id", x, RackTlp.K_TLPS, 1, RackTlp.K_TLP_OUT, 1, RackTlp.K_TX_COUNT, 256,
            RackTlp.K_RETRANSMITS, 252);
        check.due("the last id is no probe", x.txInfo(255), 3);
        check.due("the tail", x.segment(3), 1 + 256);
        check.due("tick(10)", x.tick(10), 1);
        check.stats("the timeout comes", x, RackTlp.K_RTOS, 253, RackTlp.K_TLP_OUT, 0, RackTlp.K_TX_COUNT, 256);
    }

    private static void aProbeLeavesALostTailLost() {
        RackTlp x = timedOut(16, 100, 1, 247);
        x.deliver(246);
        // samples of 40 take rttvar to 8, and the window from 2 to 6
        for (int t = 247; t <= 250; t++) {
            x.write(t);
            x.tick(40);
            x.deliver(t);
        }
        Check.writeMany(x, 2);
        x.tick(40);
        x.deliver(252);
        check.due("segment 5 is lost", x.tick(10), 1);
        Check.writeMany(x, 2);
        check.stats("the last two ids are new data", x, RackTlp.K_TX_COUNT, 256, RackTlp.K_CWND, 3,
            RackTlp.K_STATE, RackTlp.RECOVERY, RackTlp.K_RECOVERY_POINT, 7, RackTlp.K_NEXT_NEW, 9);
        x.tick(1);
        x.deliver(255);
        check.due("segment 7 is lost", x.segment(7), 1 + 4 + 256);
        x.deliver(251);
        check.stats("open", x, RackTlp.K_STATE, RackTlp.OPEN, RackTlp.K_LOSS_MARKS, 3, RackTlp.K_INFLIGHT, 0,
            RackTlp.K_SRTT, 35, RackTlp.K_RTTVAR, 14, RackTlp.K_TIMER, RackTlp.PTO,
            RackTlp.K_TIMER_AT, x.stat(RackTlp.K_NOW) + 70);
        check.due("tick(70)", x.tick(70), 1);
        check.stats("a probe without an id", x, RackTlp.K_TLPS, 1, RackTlp.K_TLP_OUT, 1, RackTlp.K_TX_COUNT, 256);
        check.due("segment 7 is still lost", x.segment(7), 1 + 4 + 256);
    }

    private static void aProbeTakesTheLastId() {
        RackTlp x = sampledWithTwoIdsLeft();
        x.write(2);
        check.due("tick(20)", x.tick(20), 1);
        check.stats("a probe with the last id", x, RackTlp.K_TX_COUNT, 256, RackTlp.K_TLPS, 1,
            RackTlp.K_RETRANSMITS, 253);
        check.due("the last id", x.txInfo(255), 2 + RackTlp.TX_RETX + RackTlp.TX_TLP);
        check.due("the one before", x.txInfo(254), 2);
        check.due("the tail", x.segment(2), 1 + 2 * 256);
    }

    private static void sendStopsAtTheLastId() {
        RackTlp x = timedOut(1, 20, 5, 255);
        check.due("deliver(254)", x.deliver(254), RackTlp.NEW_DATA);
        check.stats("two could go, one does", x, RackTlp.K_CWND, 2, RackTlp.K_INFLIGHT, 1, RackTlp.K_NEXT_NEW, 2,
            RackTlp.K_TX_COUNT, 256);
        check.due("the last id", x.txInfo(255), 1);
        check.due("not sent", x.segment(2), 0);
    }

    private static void sendStopsAtTheWindow() {
        RackTlp x = timedOut(1, 20, 5, 253);
        check.due("deliver(252)", x.deliver(252), RackTlp.NEW_DATA);
        check.stats("two go, an id is left", x, RackTlp.K_CWND, 2, RackTlp.K_INFLIGHT, 2, RackTlp.K_NEXT_NEW, 3,
            RackTlp.K_TX_COUNT, 255);
        check.due("not sent", x.segment(3), 0);
    }

    private static void aTimeoutTakesTheLastId() {
        RackTlp x = timedOut(2, 20, 1, 255);
        Check.passToTimer(x);
        check.due("sent for the 256th time", x.segment(0), 1 + 256 * 256 + 255 * 1048576);
        check.stats("the last id", x, RackTlp.K_TX_COUNT, 256, RackTlp.K_RETRANSMITS, 255,
            RackTlp.K_UNDO_RETRANS, 255, RackTlp.K_INFLIGHT, 1);
        int at = x.stat(RackTlp.K_TIMER_AT);
        check.due("the last id's time", x.txTime(255), at - 1280);
        x.tick(at - 1 - x.stat(RackTlp.K_NOW));
        check.due("one before the timer", x.stat(RackTlp.K_RTOS), 255);
        check.due("tick(1)", x.tick(1), 64);
        check.stats("no more ids", x, RackTlp.K_TX_COUNT, 256, RackTlp.K_RETRANSMITS, 255, RackTlp.K_RTOS, 319,
            RackTlp.K_UNDO_RETRANS, 255, RackTlp.K_INFLIGHT, 0, RackTlp.K_NOW, at, RackTlp.K_TIMER_AT, at);
        check.due("lost", x.segment(0), 1 + 4 + 256 * 256 + 255 * 1048576);
    }
}
