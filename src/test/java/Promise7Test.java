/** Promise 7: segment and recvByte. */
public final class Promise7Test {
    private static final Check check = new Check();

    public static void main(String[] args) {
        answersMinusOneOutside();
        tellsEveryBit();
        tellsTheBytes();
        check.end();
    }

    private static void answersMinusOneOutside() {
        RackTlp x = new RackTlp(2, 100);
        Check.writeMany(x, 3);
        int[] outside = {-1, 3, 4, 63, 64, 65, Integer.MIN_VALUE, Integer.MAX_VALUE};
        for (int s : outside) {
            check.due("segment(" + s + ")", x.segment(s), -1);
            check.due("recvByte(" + s + ")", x.recvByte(s), -1);
        }
        check.due("segment(2), not sent", x.segment(2), 0);
        Check.writeMany(x, 61);
        check.due("segment(63)", x.segment(63), 0);
        check.due("segment(64)", x.segment(64), -1);
        check.due("recvByte(63)", x.recvByte(63), -1);
        check.due("recvByte(64)", x.recvByte(64), -1);
    }

    private static void tellsEveryBit() {
        RackTlp x = new RackTlp(4, 20);
        Check.writeMany(x, 5);
        check.due("sent", x.segment(3), 1 + 256);
        check.due("not sent", x.segment(4), 0);
        x.tick(20);
        check.due("sent twice in an episode", x.segment(0), 1 + 2 * 256 + 1048576);
        check.due("lost", x.segment(1), 1 + 4 + 256);
        x.deliverNoAck(1);
        check.due("lost but received", x.segment(1), 1 + 4 + 8 + 256);
        x.tick(20);
        check.due("sent three times", x.segment(0), 1 + 3 * 256 + 2 * 1048576);
        x.deliver(0);
        int[] before = Check.everything(x);
        check.due("delivered", x.segment(0), 1 + 2 + 8 + 3 * 256 + 2 * 1048576);
        check.due("learned with it", x.segment(1), 1 + 2 + 8 + 256);
        check.same("looking", Check.everything(x), before);
        x.deliver(5);
        check.due("one of two undone", x.segment(0), 1 + 2 + 8 + 3 * 256 + 1048576);
    }

    private static void tellsTheBytes() {
        RackTlp x = new RackTlp(16, 100);
        for (int i = 0; i < 64; i++) {
            x.write(1000 - 37 * i);
            check.due("recvByte(" + i + ") early", x.recvByte(i), -1);
            int answer = i % 2 == 0 ? x.deliver(i) : x.deliverNoAck(i);
            check.due("arrival " + i, answer, RackTlp.NEW_DATA);
            check.due("recvByte(" + i + ")", x.recvByte(i), (1000 - 37 * i) & 255);
        }
        check.due("recvByte(0) at the end", x.recvByte(0), 1000 & 255);
    }
}
