/** Terms: TRANSMIT and SEND, sentence by sentence; their ends of ids are in TermsIdsTest. */
public final class TermsSendTest {
    private static final Check check = new Check();

    public static void main(String[] args) {
        check.sentence("Terms: TRANSMIT: \"the next id t gets seg s, time now, not arrived, retx(t) = (sends(s) > 0),"
            + " tlp(t) false\"");
        everySendingIsRecorded();
        aSendingAfterAProbeIsNoProbe();
        check.sentence("Terms: TRANSMIT: \"sends(s)++\"");
        sendingsAreCounted();
        check.sentence("Terms: TRANSMIT: \"last(s) = t\"");
        theLastSendingCounts();
        check.sentence("Terms: TRANSMIT: \"If retx(t): lost(s) = false; retransmits++\"");
        whatGoesAgainIsNotLost();
        check.sentence("Terms: TRANSMIT: \"and if state != OPEN also ep(s)++ and undoRetrans++\"");
        aProbeInOpenIsOfNoEpisode();
        recoveryAndLossCountTheirOwn();
        newDataIsOfNoEpisode();
        check.sentence("Terms: TRANSMIT: \"Else: nextNew++ and armTime = now\"");
        newDataAloneArms();
        check.sentence("Terms: SEND: \"inflight < cwnd\"");
        theWindowIsFilledAndNoMore();
        check.sentence("Terms: SEND: \"if some s is lost, TRANSMIT(the least such s)\"");
        theLeastLostGoesFirst();
        check.sentence("Terms: SEND: \"else if nextNew < written, TRANSMIT(nextNew)\"");
        newDataGoesInOrderOnceNoneIsLost();
        check.sentence("Terms: SEND: \"else stop\"");
        nothingGoesWhenNothingWaits();
        check.end();
    }

    private static void everySendingIsRecorded() {
        RackTlp x = new RackTlp(2, 20);
        x.tick(7);
        x.write(5);
        check.due("the first id", x.txInfo(0), 0);
        check.due("its time", x.txTime(0), 7);
        check.due("tick(20)", x.tick(20), 1);
        check.due("the second id", x.txInfo(1), RackTlp.TX_RETX);
        check.due("its time", x.txTime(1), 27);
        x.deliver(0);
        check.due("the first arrives", x.txInfo(0), RackTlp.TX_ARRIVED);
        check.due("the second does not", x.txInfo(1), RackTlp.TX_RETX);
        x.tick(3);
        x.write(6);
        check.due("another segment", x.txInfo(2), 1);
        check.due("its time", x.txTime(2), 30);
        check.due("the first one's time stays", x.txTime(0), 7);
    }

    private static void aSendingAfterAProbeIsNoProbe() {
        RackTlp x = new RackTlp(4, 100);
        Check.writeMany(x, 2);
        x.tick(10);
        x.deliver(0);
        // the probe at 30, its timeout at 60
        check.due("tick(50)", x.tick(50), 2);
        check.due("the probe", x.txInfo(2), 1 + RackTlp.TX_RETX + RackTlp.TX_TLP);
        check.due("the same segment again", x.txInfo(3), 1 + RackTlp.TX_RETX);
        x.deliver(2);
        x.write(2);
        check.due("new data", x.txInfo(4), 2);
    }

    private static void sendingsAreCounted() {
        RackTlp x = new RackTlp(1, 20);
        Check.writeMany(x, 2);
        check.due("not sent", x.segment(1), 0);
        for (int sends = 1; sends < 8; sends++) {
            check.due("sent", x.segment(0), 1 + sends * 256 + (sends - 1) * 1048576);
            check.stats("sent", x, RackTlp.K_TX_COUNT, sends);
            Check.passToTimer(x);
        }
        check.due("not sent", x.segment(1), 0);
    }

    private static void theLastSendingCounts() {
        RackTlp x = new RackTlp(2, 20);
        x.write(1);
        check.due("tick(20)", x.tick(20), 1);
        check.stats("the timeout counts from the last", x, RackTlp.K_RTO, 40, RackTlp.K_TIMER_AT, 60);
        x.tick(5);
        check.due("the first one arrives", x.deliver(0), RackTlp.NEW_DATA);
        check.stats("the last one counts", x, RackTlp.K_RACK_TX, 1, RackTlp.K_RACK_RTT, 5);
    }

    private static void whatGoesAgainIsNotLost() {
        RackTlp x = new RackTlp(4, 50);
        Check.writeMany(x, 3);
        check.stats("new data is not counted", x, RackTlp.K_RETRANSMITS, 0);
        check.due("tick(50)", x.tick(50), 1);
        check.due("gone again", x.segment(0), 1 + 2 * 256 + 1048576);
        check.due("waiting", x.segment(1), 1 + 4 + 256);
        check.stats("one", x, RackTlp.K_RETRANSMITS, 1, RackTlp.K_INFLIGHT, 1);
        x.deliver(3);
        check.due("gone again", x.segment(1), 1 + 2 * 256 + 1048576);
        check.due("gone again", x.segment(2), 1 + 2 * 256 + 1048576);
        check.stats("three", x, RackTlp.K_RETRANSMITS, 3, RackTlp.K_INFLIGHT, 2);
    }

    private static void aProbeInOpenIsOfNoEpisode() {
        RackTlp x = new RackTlp(4, 100);
        Check.writeMany(x, 2);
        x.tick(10);
        x.deliver(0);
        check.due("tick to the probe", x.tick(20), 1);
        check.stats("sent again in OPEN", x, RackTlp.K_STATE, RackTlp.OPEN, RackTlp.K_RETRANSMITS, 1,
            RackTlp.K_UNDO_RETRANS, 0);
        check.due("its segment", x.segment(1), 1 + 2 * 256);
    }

    private static void recoveryAndLossCountTheirOwn() {
        RackTlp x = new RackTlp(4, 100);
        Check.writeMany(x, 2);
        x.tick(10);
        x.deliver(1);
        check.due("tick to the deadline", x.tick(2), 1);
        check.stats("sent again in RECOVERY", x, RackTlp.K_STATE, RackTlp.RECOVERY, RackTlp.K_RETRANSMITS, 1,
            RackTlp.K_UNDO_RETRANS, 1);
        check.due("its segment", x.segment(0), 1 + 2 * 256 + 1048576);
        // srtt 10 and rttvar 5, from 12 on
        check.due("tick to the timeout", x.tick(30), 1);
        check.stats("and in LOSS", x, RackTlp.K_STATE, RackTlp.LOSS, RackTlp.K_RETRANSMITS, 2,
            RackTlp.K_UNDO_RETRANS, 2);
        check.due("its segment", x.segment(0), 1 + 3 * 256 + 2 * 1048576);
    }

    private static void newDataIsOfNoEpisode() {
        RackTlp x = new RackTlp(1, 20);
        x.write(0);
        check.due("tick(20)", x.tick(20), 1);
        Check.writeMany(x, 2);
        x.deliver(1);
        check.stats("open", x, RackTlp.K_STATE, RackTlp.OPEN, RackTlp.K_NEXT_NEW, 3);
        check.due("tick(20)", x.tick(20), 1);
        x.write(3);
        // segment 1 comes back, segment 2 goes again and segment 3 goes for the first time
        x.deliver(4);
        check.stats("new data in LOSS", x, RackTlp.K_STATE, RackTlp.LOSS, RackTlp.K_NEXT_NEW, 4,
            RackTlp.K_UNDO_RETRANS, 2, RackTlp.K_RETRANSMITS, 3);
        check.due("the new one", x.segment(3), 1 + 256);
        check.due("its id", x.txInfo(6), 3);
    }

    private static void newDataAloneArms() {
        RackTlp x = new RackTlp(2, 20);
        x.tick(7);
        x.write(1);
        check.stats("new", x, RackTlp.K_NEXT_NEW, 1, RackTlp.K_ARM_TIME, 7);
        check.due("tick(20)", x.tick(20), 1);
        check.stats("sent again", x, RackTlp.K_NEXT_NEW, 1, RackTlp.K_ARM_TIME, 7, RackTlp.K_NOW, 27,
            RackTlp.K_TX_COUNT, 2);
        x.write(2);
        check.stats("no room", x, RackTlp.K_NEXT_NEW, 1, RackTlp.K_ARM_TIME, 7);
        x.tick(2);
        x.deliver(0);
        x.tick(1);
        x.write(3);
        check.stats("new", x, RackTlp.K_NEXT_NEW, 3, RackTlp.K_ARM_TIME, 30, RackTlp.K_NOW, 30);
    }

    private static void theWindowIsFilledAndNoMore() {
        for (int cwnd = 1; cwnd <= 16; cwnd++) {
            RackTlp x = new RackTlp(cwnd, 100);
            Check.writeMany(x, 20);
            check.stats("written", x, RackTlp.K_TX_COUNT, cwnd, RackTlp.K_INFLIGHT, cwnd, RackTlp.K_NEXT_NEW, cwnd);
            x.deliver(0);
            int sent = Math.min(cwnd + 2, 20);
            check.stats("one has come, two go", x, RackTlp.K_TX_COUNT, sent, RackTlp.K_INFLIGHT, sent - 1,
                RackTlp.K_CWND, cwnd + 1);
        }
    }

    private static void theLeastLostGoesFirst() {
        RackTlp x = new RackTlp(6, 50);
        Check.writeMany(x, 8);
        x.deliverNoAck(1);
        check.due("tick(50)", x.tick(50), 1);
        check.due("the least", x.txInfo(6), RackTlp.TX_RETX);
        x.deliver(6);
        // segments 0 and 1 are learned, so the window is 3 and the three least lost ones go
        check.due("the next", x.txInfo(7), 2 + RackTlp.TX_RETX);
        check.due("and the next", x.txInfo(8), 3 + RackTlp.TX_RETX);
        check.stats("the window", x, RackTlp.K_CWND, 3, RackTlp.K_INFLIGHT, 3, RackTlp.K_TX_COUNT, 10);
        check.due("and the last", x.txInfo(9), 4 + RackTlp.TX_RETX);
        check.due("still lost", x.segment(5), 1 + 4 + 256);
        check.due("new data waits", x.segment(6), 0);
    }

    private static void newDataGoesInOrderOnceNoneIsLost() {
        RackTlp x = new RackTlp(2, 50);
        Check.writeMany(x, 5);
        check.due("tick(50)", x.tick(50), 1);
        x.deliver(2);
        check.due("the last lost one", x.txInfo(3), 1 + RackTlp.TX_RETX);
        check.due("new data", x.txInfo(4), 2);
        check.stats("the window", x, RackTlp.K_CWND, 2, RackTlp.K_INFLIGHT, 2, RackTlp.K_TX_COUNT, 5,
            RackTlp.K_NEXT_NEW, 3);
        x.deliver(3);
        check.due("more new data", x.txInfo(5), 3);
    }

    private static void nothingGoesWhenNothingWaits() {
        RackTlp x = new RackTlp(16, 100);
        Check.writeMany(x, 3);
        check.stats("room for more", x, RackTlp.K_TX_COUNT, 3, RackTlp.K_INFLIGHT, 3, RackTlp.K_NEXT_NEW, 3);
        x.tick(10);
        x.deliver(0);
        check.stats("room for more", x, RackTlp.K_TX_COUNT, 3, RackTlp.K_CWND, 17, RackTlp.K_RETRANSMITS, 0);
    }
}
