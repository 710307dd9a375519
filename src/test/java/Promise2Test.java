/** Promise 2: write. */
public final class Promise2Test {
    private static final Check check = new Check();

    public static void main(String[] args) {
        bytesAreMasked();
        sendsWithinTheWindow();
        refusesTheSixtyFifth();
        stampsTheCurrentTime();
        holdsBackWhileLossFillsTheWindow();
        sendsNothingWithoutIds();
        check.end();
    }

    private static void bytesAreMasked() {
        int[] given = {0, 1, 255, 256, -1, -255, -256, 511, 1000, Integer.MIN_VALUE, Integer.MAX_VALUE};
        int[] kept = {0, 1, 255, 0, 255, 1, 0, 255, 232, 0, 255};
        RackTlp x = new RackTlp(16, 100);
        for (int i = 0; i < given.length; i++) {
            check.due("write(" + given[i] + ")", x.write(given[i]), i);
            check.due("recvByte before arrival", x.recvByte(i), -1);
        }
        for (int i = 0; i < given.length; i++) {
            x.deliver(i);
            check.due("byte of write(" + given[i] + ")", x.recvByte(i), kept[i]);
        }
    }

    private static void sendsWithinTheWindow() {
        RackTlp x = new RackTlp(2, 100);
        for (int i = 0; i < 4; i++) {
            check.due("write", x.write(i), i);
            int sent = i < 2 ? i + 1 : 2;
            check.stats("after write " + i, x, RackTlp.K_WRITTEN, i + 1, RackTlp.K_NEXT_NEW, sent,
                RackTlp.K_TX_COUNT, sent, RackTlp.K_INFLIGHT, sent, RackTlp.K_NOW, 0,
                RackTlp.K_CUM_ACK, 0, RackTlp.K_COMPLETE, 0, RackTlp.K_RETRANSMITS, 0);
            check.due("segment", x.segment(i), i < 2 ? 257 : 0);
        }
    }

    private static void refusesTheSixtyFifth() {
        RackTlp x = new RackTlp(16, 1000);
        for (int i = 0; i < 64; i++) {
            check.due("write " + i, x.write(200 + i), i);
        }
        int[] before = Check.everything(x);
        check.due("write of a 65th", x.write(7), RackTlp.REFUSED);
        check.due("write of a 65th", x.write(-1), RackTlp.REFUSED);
        check.same("write of a 65th", Check.everything(x), before);
        for (int t = 0; t < 64; t++) {
            x.deliver(t);
        }
        before = Check.everything(x);
        check.due("write when all 64 are delivered", x.write(7), RackTlp.REFUSED);
        check.same("write when all 64 are delivered", Check.everything(x), before);
        check.due("the 64th byte", x.recvByte(63), (200 + 63) & 255);
    }

    private static void stampsTheCurrentTime() {
        RackTlp x = new RackTlp(4, 100);
        x.tick(30);
        x.write(1);
        x.tick(12);
        x.write(2);
        check.due("txTime(0)", x.txTime(0), 30);
        check.due("txTime(1)", x.txTime(1), 42);
        check.stats("two writes", x, RackTlp.K_NOW, 42, RackTlp.K_ARM_TIME, 42,
            RackTlp.K_TIMER, RackTlp.RTO, RackTlp.K_TIMER_AT, 130);
    }

    private static void holdsBackWhileLossFillsTheWindow() {
        RackTlp x = new RackTlp(4, 50);
        Check.writeMany(x, 4);
        x.tick(50);
        check.due("write in LOSS", x.write(9), 4);
        check.stats("write in LOSS", x, RackTlp.K_TX_COUNT, 5, RackTlp.K_INFLIGHT, 1,
            RackTlp.K_NEXT_NEW, 4, RackTlp.K_ARM_TIME, 0, RackTlp.K_RECOVERY_POINT, 4);
        check.due("segment held back", x.segment(4), 0);
    }

    private static void sendsNothingWithoutIds() {
        RackTlp x = new RackTlp(8, 4);
        x.write(1);
        for (int i = 0; i < 20; i++) {
            x.tick(10000);
        }
        check.stats("ids used up", x, RackTlp.K_TX_COUNT, 256);
        x.deliver(255);
        check.stats("ids used up, delivered", x, RackTlp.K_COMPLETE, 1, RackTlp.K_INFLIGHT, 0);
        check.due("write without ids", x.write(2), 1);
        check.stats("write without ids", x, RackTlp.K_TX_COUNT, 256, RackTlp.K_NEXT_NEW, 1,
            RackTlp.K_WRITTEN, 2, RackTlp.K_COMPLETE, 0, RackTlp.K_TIMER, RackTlp.NONE);
        check.due("segment without ids", x.segment(1), 0);
    }
}
