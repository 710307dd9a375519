/** Promise 7: segment and recvByte. */
public final class Promise7Test {
    private static final int MIN = Integer.MIN_VALUE;
    private static final int MAX = Integer.MAX_VALUE;
    private static final Check check = new Check();

    public static void main(String[] args) {
        check.sentence("Promise 7: segment \"answers -1 if s < 0\"");
        noSegmentBelowZero();
        check.sentence("Promise 7: segment \"answers -1 if .. s >= written\"");
        noSegmentBeforeAnythingIsWritten();
        noSegmentFromWrittenOn();
        check.sentence("Promise 7: \"SEG_SENT if sends(s) > 0, plus SEG_DELIVERED .. plus ep(s) * 1048576\"");
        tellsEveryBit();
        check.sentence("Promise 7: recvByte \"answers -1 if i < 0\"");
        noByteBelowZero();
        check.sentence("Promise 7: recvByte \"answers -1 if .. i >= 64\"");
        noByteFromSixtyFourOn();
        check.sentence("Promise 7: recvByte \"answers -1 if .. not received(i)\"");
        noByteBeforeAnythingIsReceived();
        noByteOfWhatIsNotReceived();
        check.sentence("Promise 7: \"else the byte (0..255) the receiver holds for segment i\"");
        tellsTheBytes();
        check.sentence("Promise 7: \"Neither changes anything\"");
        lookingChangesNothing();
        check.end();
    }

    private static void noSegment(String what, RackTlp x, int... indexes) {
        for (int s : indexes) {
            check.changesNothing(what + ", segment", x, x::segment, s, -1);
        }
    }

    private static void noByte(String what, RackTlp x, int... indexes) {
        for (int i : indexes) {
            check.changesNothing(what + ", recvByte", x, x::recvByte, i, -1);
        }
    }

    private static void noSegmentBelowZero() {
        RackTlp x = new RackTlp(2, 100);
        noSegment("new", x, -1, MIN);
        Check.writeMany(x, 3);
        noSegment("three written", x, -1, -2, -3, -64, MIN, MIN + 1);
        check.due("segment(0)", x.segment(0), 1 + 256);
    }

    private static void noSegmentBeforeAnythingIsWritten() {
        RackTlp x = new RackTlp(2, 100);
        noSegment("new", x, 0, 1, 63, 64, MAX);
        x.tick(1000);
        noSegment("idle", x, 0, 1, 63, 64);
    }

    private static void noSegmentFromWrittenOn() {
        RackTlp x = new RackTlp(2, 100);
        for (int written = 1; written <= 64; written++) {
            x.write(written);
            check.due("the newest", x.segment(written - 1), written <= 2 ? 1 + 256 : 0);
            noSegment(written + " written", x, written, written + 1);
        }
        noSegment("all written", x, 64, 65, 128, 256, MAX);
        x.write(65);
        noSegment("one refused", x, 64);
    }

    private static void tellsEveryBit() {
        RackTlp x = new RackTlp(4, 20);
        Check.writeMany(x, 5);
        check.due("sent", x.segment(3), 1 + 256);
        check.due("not sent", x.segment(4), 0);
        x.tick(20);
        check.due("sent twice in an episode", x.segment(0), 1 + 2 * 256 + 1048576);
        check.due("lost", x.segment(1), 1 + 4 + 256);
        x.deliverNoAck(1);
        check.due("lost but received", x.segment(1), 1 + 4 + 8 + 256);
        x.tick(20);
        check.due("sent three times", x.segment(0), 1 + 3 * 256 + 2 * 1048576);
        x.deliver(0);
        check.due("delivered", x.segment(0), 1 + 2 + 8 + 3 * 256 + 2 * 1048576);
        check.due("learned with it", x.segment(1), 1 + 2 + 8 + 256);
        x.deliver(5);
        check.due("one of two undone", x.segment(0), 1 + 2 + 8 + 3 * 256 + 1048576);
    }

    private static void noByteBelowZero() {
        RackTlp x = new RackTlp(2, 100);
        noByte("new", x, -1, MIN);
        x.write(9);
        x.deliver(0);
        noByte("one received", x, -1, -2, -64, MIN, MIN + 1);
        check.due("recvByte(0)", x.recvByte(0), 9);
    }

    private static void noByteFromSixtyFourOn() {
        RackTlp x = new RackTlp(16, 100);
        noByte("new", x, 64, MAX);
        for (int i = 0; i < 64; i++) {
            x.write(100 + i);
            x.deliver(i);
        }
        check.due("recvByte(63)", x.recvByte(63), 163);
        noByte("all received", x, 64, 65, 128, 256, MAX);
    }

    private static void noByteBeforeAnythingIsReceived() {
        RackTlp x = new RackTlp(2, 100);
        for (int i = 0; i < 64; i++) {
            noByte("new", x, i);
        }
        Check.writeMany(x, 64);
        for (int i = 0; i < 64; i++) {
            noByte("written", x, i);
        }
    }

    private static void noByteOfWhatIsNotReceived() {
        RackTlp x = new RackTlp(4, 100);
        Check.writeMany(x, 6);
        x.deliver(2);
        check.due("recvByte(2)", x.recvByte(2), 2);
        noByte("2 received", x, 0, 1, 3, 4, 5, 6, 63);
        x.tick(100);
        noByte("timed out", x, 0, 1, 3, 4, 5, 6, 63);
        x.deliverNoAck(0);
        check.due("recvByte(0)", x.recvByte(0), 0);
        noByte("0 and 2 received", x, 1, 3, 4, 5);
    }

    private static void tellsTheBytes() {
        RackTlp x = new RackTlp(16, 100);
        for (int i = 0; i < 64; i++) {
            x.write(1000 - 37 * i);
            check.due("recvByte(" + i + ") early", x.recvByte(i), -1);
            int answer = i % 2 == 0 ? x.deliver(i) : x.deliverNoAck(i);
            check.due("arrival " + i, answer, RackTlp.NEW_DATA);
            check.due("recvByte(" + i + ")", x.recvByte(i), (1000 - 37 * i) & 255);
        }
        for (int i = 0; i < 64; i++) {
            check.due("recvByte(" + i + ") at the end", x.recvByte(i), (1000 - 37 * i) & 255);
        }
    }

    private static void lookingChangesNothing() {
        RackTlp x = new RackTlp(4, 100);
        Check.writeMany(x, 6);
        x.tick(10);
        x.deliver(3);
        x.deliverNoAck(1);
        x.tick(5);
        for (int i = 0; i < 6; i++) {
            check.changesNothing("segment", x, x::segment, i, x.segment(i));
            check.changesNothing("recvByte", x, x::recvByte, i, x.recvByte(i));
        }
    }
}
