/** Promise 2: write. */
public final class Promise2Test {
    private static final Check check = new Check();

    public static void main(String[] args) {
        check.sentence("Promise 2: \"any int b, negatives included, gives a byte in 0..255\"");
        bytesAreMasked();
        check.sentence("Promise 2: \"the answer is the new segment's index (0..63)\"");
        answersTheIndex();
        check.sentence("Promise 2: \"If 64 segments are already written, it answers REFUSED and changes nothing\"");
        refusesTheSixtyFifth();
        refusesWhenAllAreDelivered();
        refusesInLoss();
        check.sentence("Promise 2: \"SEND runs\"");
        sendsWithinTheWindow();
        holdsBackWhileLossFillsTheWindow();
        check.sentence("Promise 2: \"now never changes; the receiver never changes\"");
        stampsTheCurrentTime();
        movesTheSenderAlone();
        check.end();
    }

    private static void bytesAreMasked() {
        int[] given = {0, 1, 127, 128, 254, 255, 256, 257, -1, -2, -128, -255, -256, -257, 511, 1000,
            Integer.MIN_VALUE, Integer.MAX_VALUE};
        int[] kept = {0, 1, 127, 128, 254, 255, 0, 1, 255, 254, 128, 1, 0, 255, 255, 232, 0, 255};
        RackTlp x = new RackTlp(16, 100);
        for (int i = 0; i < given.length; i++) {
            check.due("write(" + given[i] + ")", x.write(given[i]), i);
            check.due("recvByte before arrival", x.recvByte(i), -1);
        }
        for (int i = 0; i < given.length; i++) {
            x.deliver(i);
            check.due("byte of write(" + given[i] + ")", x.recvByte(i), kept[i]);
        }
    }

    private static void answersTheIndex() {
        RackTlp x = new RackTlp(1, 100);
        for (int i = 0; i < 64; i++) {
            check.due("write", x.write(-1), i);
            check.stats("write " + i, x, RackTlp.K_WRITTEN, i + 1);
        }
    }

    private static void refusesTheSixtyFifth() {
        RackTlp x = new RackTlp(16, 1000);
        for (int i = 0; i < 64; i++) {
            check.due("write " + i, x.write(200 + i), i);
        }
        check.refused("write of a 65th", x, x::write, 7, 0, -1, 64, 256, Integer.MIN_VALUE, Integer.MAX_VALUE);
        check.stats("a 65th", x, RackTlp.K_WRITTEN, 64, RackTlp.K_TX_COUNT, 16);
        for (int t = 0; t < 64; t++) {
            x.deliver(t);
            check.due("the byte of " + t, x.recvByte(t), (200 + t) & 255);
        }
    }

    private static void refusesWhenAllAreDelivered() {
        RackTlp x = new RackTlp(16, 1000);
        Check.writeMany(x, 64);
        for (int t = 0; t < 64; t++) {
            x.deliver(t);
        }
        check.refused("write", x, x::write, 7, -1);
        check.stats("complete", x, RackTlp.K_COMPLETE, 1, RackTlp.K_WRITTEN, 64, RackTlp.K_TX_COUNT, 64);
    }

    private static void refusesInLoss() {
        RackTlp x = new RackTlp(4, 50);
        Check.writeMany(x, 64);
        x.tick(50);
        x.deliverNoAck(1);
        check.stats("in LOSS", x, RackTlp.K_STATE, RackTlp.LOSS, RackTlp.K_INFLIGHT, 1);
        check.refused("write", x, x::write, 7, -1);
    }

    private static void sendsWithinTheWindow() {
        RackTlp x = new RackTlp(2, 100);
        for (int i = 0; i < 4; i++) {
            check.due("write", x.write(i), i);
            int sent = i < 2 ? i + 1 : 2;
            check.stats("after write " + i, x, RackTlp.K_WRITTEN, i + 1, RackTlp.K_NEXT_NEW, sent,
                RackTlp.K_TX_COUNT, sent, RackTlp.K_INFLIGHT, sent, RackTlp.K_NOW, 0,
                RackTlp.K_CUM_ACK, 0, RackTlp.K_COMPLETE, 0, RackTlp.K_RETRANSMITS, 0);
            check.due("segment", x.segment(i), i < 2 ? 257 : 0);
        }
    }

    private static void holdsBackWhileLossFillsTheWindow() {
        RackTlp x = new RackTlp(4, 50);
        Check.writeMany(x, 4);
        x.tick(50);
        check.due("write in LOSS", x.write(9), 4);
        check.stats("write in LOSS", x, RackTlp.K_TX_COUNT, 5, RackTlp.K_INFLIGHT, 1,
            RackTlp.K_NEXT_NEW, 4, RackTlp.K_ARM_TIME, 0, RackTlp.K_RECOVERY_POINT, 4);
        check.due("segment held back", x.segment(4), 0);
    }

    private static void stampsTheCurrentTime() {
        RackTlp x = new RackTlp(4, 100);
        x.tick(30);
        x.write(1);
        x.tick(12);
        x.write(2);
        check.due("txTime(0)", x.txTime(0), 30);
        check.due("txTime(1)", x.txTime(1), 42);
        check.stats("two writes", x, RackTlp.K_NOW, 42, RackTlp.K_ARM_TIME, 42,
            RackTlp.K_TIMER, RackTlp.RTO, RackTlp.K_TIMER_AT, 130);
    }

    private static void movesTheSenderAlone() {
        RackTlp x = new RackTlp(4, 100);
        Check.writeMany(x, 3);
        x.tick(7);
        x.deliver(0);
        x.deliverNoAck(2);
        for (int i = 3; i < 64; i++) {
            check.due("write", x.write(90 + i), i);
            check.stats("write " + i, x, RackTlp.K_NOW, 7, RackTlp.K_CUM_ACK, 1, RackTlp.K_DELIVERED, 1);
            check.due("recvByte(0)", x.recvByte(0), 0);
            check.due("recvByte(1)", x.recvByte(1), -1);
            check.due("recvByte(2)", x.recvByte(2), 2);
            check.due("recvByte(" + i + ")", x.recvByte(i), -1);
        }
    }
}
