/** Promise 6: txInfo and txTime. */
public final class Promise6Test {
    private static final Check check = new Check();

    public static void main(String[] args) {
        answersMinusOneOutside();
        tellsEveryBit();
        tellsTheLastOfAllIds();
        check.end();
    }

    private static void answersMinusOneOutside() {
        RackTlp x = new RackTlp(3, 100);
        int[] outside = {-1, -2, 3, 4, 63, 64, 255, 256, 257, Integer.MIN_VALUE, Integer.MAX_VALUE};
        Check.writeMany(x, 5);
        for (int t : outside) {
            check.due("txInfo(" + t + ")", x.txInfo(t), -1);
            check.due("txTime(" + t + ")", x.txTime(t), -1);
        }
        for (int t = 0; t < 3; t++) {
            check.due("txInfo(" + t + ")", x.txInfo(t), t);
            check.due("txTime(" + t + ")", x.txTime(t), 0);
        }
    }

    private static void tellsEveryBit() {
        RackTlp x = new RackTlp(4, 100);
        x.tick(5);
        Check.writeMany(x, 2);
        x.tick(10);
        x.deliver(0);
        check.due("arrived", x.txInfo(0), 256);
        check.due("on its way", x.txInfo(1), 1);
        x.tick(20);
        check.due("probe", x.txInfo(2), 1 + 512 + 1024);
        check.due("probe's time", x.txTime(2), 35);
        check.due("the first sending's time stays", x.txTime(1), 5);
        x.tick(30);
        check.due("timeout's retransmission", x.txInfo(3), 1 + 512);
        check.due("timeout's time", x.txTime(3), 65);
        x.deliver(2);
        x.deliverNoAck(3);
        int[] before = Check.everything(x);
        check.due("probe arrived", x.txInfo(2), 1 + 256 + 512 + 1024);
        check.due("retransmission arrived", x.txInfo(3), 1 + 256 + 512);
        check.due("the first one did not", x.txInfo(1), 1);
        check.same("looking", Check.everything(x), before);
    }

    private static void tellsTheLastOfAllIds() {
        RackTlp x = new RackTlp(2, 4);
        Check.writeMany(x, 2);
        for (int i = 0; i < 10; i++) {
            x.tick(1000);
        }
        check.due("txInfo(255)", x.txInfo(255), 512);
        check.due("txInfo(256)", x.txInfo(256), -1);
        check.due("txTime(256)", x.txTime(256), -1);
        check.due("deliver(255)", x.deliver(255), RackTlp.NEW_DATA);
        check.due("txInfo(255), arrived", x.txInfo(255), 512 + 256);
        check.due("deliver(256)", x.deliver(256), RackTlp.REFUSED);
    }
}
