/** Promise 6: txInfo and txTime. */
public final class Promise6Test {
    private static final int MIN = Integer.MIN_VALUE;
    private static final int MAX = Integer.MAX_VALUE;
    private static final Check check = new Check();

    public static void main(String[] args) {
        check.sentence("Promise 6: \"answers -1 if t < 0\"");
        answersMinusOneBelowZero();
        check.sentence("Promise 6: \"answers -1 if .. t >= ids made\"");
        answersMinusOneBeforeAnythingIsSent();
        answersMinusOneFromTheCountOn();
        answersMinusOneAboveTheLastOfAllIds();
        check.sentence("Promise 6: \"seg(t), plus TX_ARRIVED .. plus TX_RETX .. plus TX_TLP\"");
        tellsEveryBit();
        tellsTheGreatestSegment();
        check.sentence("Promise 6: \"else time(t)\"");
        tellsEveryTime();
        check.sentence("Promise 6: \"Neither changes anything\"");
        lookingChangesNothing();
        check.end();
    }

    private static void outside(String what, RackTlp x, int... ids) {
        for (int t : ids) {
            check.changesNothing(what + ", txInfo", x, x::txInfo, t, -1);
            check.changesNothing(what + ", txTime", x, x::txTime, t, -1);
        }
    }

    private static void answersMinusOneBelowZero() {
        RackTlp x = new RackTlp(3, 100);
        outside("new", x, -1, MIN);
        Check.writeMany(x, 5);
        outside("three ids", x, -1, -2, -3, -256, MIN, MIN + 1);
        check.due("txInfo(0)", x.txInfo(0), 0);
        check.due("txTime(0)", x.txTime(0), 0);
    }

    private static void answersMinusOneBeforeAnythingIsSent() {
        RackTlp x = new RackTlp(3, 100);
        outside("new", x, 0, 1, 63, 64, 255, 256, MAX);
        x.tick(50);
        outside("idle", x, 0, 1, 255, 256);
    }

    private static void answersMinusOneFromTheCountOn() {
        RackTlp x = new RackTlp(3, 100);
        for (int count = 1; count <= 3; count++) {
            x.write(count);
            check.due("the newest id", x.txInfo(count - 1), count - 1);
            check.due("its time", x.txTime(count - 1), 0);
            outside(count + " ids", x, count, count + 1);
        }
        x.write(4);
        // the window is full, so the fourth segment has no id
        outside("3 ids", x, 3, 4, 63, 64, 255, 256, 257, MAX);
    }

    private static RackTlp allIdsMade() {
        RackTlp x = new RackTlp(2, 4);
        Check.writeMany(x, 2);
        x.tick(10000);
        x.tick(0);
        x.tick(0);
        x.tick(0);
        return x;
    }

    private static void answersMinusOneAboveTheLastOfAllIds() {
        RackTlp x = allIdsMade();
        check.due("txInfo(255)", x.txInfo(255), RackTlp.TX_RETX);
        check.due("txTime(255)", x.txTime(255), 10000);
        outside("256 ids", x, 256, 257, 512, MAX, -1);
        check.due("deliver(255)", x.deliver(255), RackTlp.NEW_DATA);
        check.due("txInfo(255), arrived", x.txInfo(255), RackTlp.TX_RETX + RackTlp.TX_ARRIVED);
        outside("256 ids", x, 256);
    }

    private static void tellsEveryBit() {
        RackTlp x = new RackTlp(4, 100);
        x.tick(5);
        Check.writeMany(x, 2);
        x.tick(10);
        x.deliver(0);
        check.due("arrived", x.txInfo(0), 256);
        check.due("on its way", x.txInfo(1), 1);
        x.tick(20);
        check.due("probe", x.txInfo(2), 1 + 512 + 1024);
        x.tick(30);
        check.due("timeout's retransmission", x.txInfo(3), 1 + 512);
        x.deliver(2);
        x.deliverNoAck(3);
        check.due("probe arrived", x.txInfo(2), 1 + 256 + 512 + 1024);
        check.due("retransmission arrived", x.txInfo(3), 1 + 256 + 512);
        check.due("the first one did not", x.txInfo(1), 1);
    }

    private static void tellsTheGreatestSegment() {
        RackTlp x = new RackTlp(16, 100);
        for (int t = 0; t < 64; t++) {
            x.write(t);
            check.due("sent", x.txInfo(t), t);
            x.deliver(t);
            check.due("arrived", x.txInfo(t), t + RackTlp.TX_ARRIVED);
        }
        check.due("the 64th", x.txInfo(63), 63 + 256);
        outside("64 ids", x, 64);
    }

    private static void tellsEveryTime() {
        RackTlp x = new RackTlp(4, 100);
        x.tick(5);
        Check.writeMany(x, 2);
        check.due("the first", x.txTime(0), 5);
        x.tick(10);
        x.deliver(0);
        check.due("an arrival leaves it", x.txTime(0), 5);
        x.tick(25);
        check.due("the probe came at 35", x.txTime(2), 35);
        check.due("the first sending's time stays", x.txTime(1), 5);
        x.tick(30);
        check.due("the timeout came at 65", x.txTime(3), 65);
        RackTlp y = allIdsMade();
        int[] times = {0, 0, 4, 8, 16, 32, 64, 128, 256, 256};
        for (int t = 0; t < times.length; t++) {
            check.due("id " + t, y.txTime(t), times[t]);
        }
        check.due("the last one of the first tick", y.txTime(65), 256);
        check.due("the first one of the second tick", y.txTime(66), 10000);
    }

    private static void lookingChangesNothing() {
        RackTlp x = new RackTlp(4, 100);
        Check.writeMany(x, 6);
        x.tick(10);
        x.deliver(3);
        x.tick(5);
        for (int t = 0; t < x.stat(RackTlp.K_TX_COUNT); t++) {
            check.changesNothing("txInfo", x, x::txInfo, t, x.txInfo(t));
            check.changesNothing("txTime", x, x::txTime, t, x.txTime(t));
        }
    }
}
