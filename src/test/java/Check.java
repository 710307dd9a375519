import java.util.Arrays;
import java.util.function.IntUnaryOperator;

/** Counts the answers that are not the ones that are due, and tells each of them. */
final class Check {
    private String sentence = "";
    private int sentences = 0;
    private int wrong = 0;
    private long done = 0;

    /** The words of the document that the checks from here on are about. */
    void sentence(String words) {
        sentence = words;
        sentences++;
    }

    void due(String what, long got, long want) {
        done++;
        if (got != want) {
            tellWrong(what + ": answered " + got + ", due is " + want);
        }
    }

    private void tellWrong(String text) {
        wrong++;
        System.out.println(sentence.isEmpty() ? text : text + " [" + sentence + "]");
    }

    /** As above, but the text is put together only when it is needed: for very many checks. */
    void due(String where, String getter, int argument, int got, int want) {
        if (got == want) {
            done++;
        } else {
            due(where + ", " + getter + "(" + argument + ")", got, want);
        }
    }

    /** Pairs of a stat key and the value that is due. */
    void stats(String what, RackTlp x, int... keysAndValues) {
        for (int i = 0; i + 1 < keysAndValues.length; i += 2) {
            due(what + ", stat(" + keysAndValues[i] + ")", x.stat(keysAndValues[i]), keysAndValues[i + 1]);
        }
    }

    void same(String what, int[] got, int[] want) {
        done++;
        if (!Arrays.equals(got, want)) {
            tellWrong(what + ": something changed, at place " + Arrays.mismatch(got, want));
        }
    }

    /** A call that must answer as told and leave all that the getters tell as it was. */
    void changesNothing(String name, RackTlp x, IntUnaryOperator call, int argument, int want) {
        int[] before = everything(x);
        due(name + "(" + argument + ")", call.applyAsInt(argument), want);
        same(name + "(" + argument + ")", everything(x), before);
    }

    void refused(String name, RackTlp x, IntUnaryOperator call, int... arguments) {
        for (int argument : arguments) {
            changesNothing(name, x, call, argument, RackTlp.REFUSED);
        }
    }

    int wrong() {
        return wrong;
    }

    void end() {
        String about = sentences == 0 ? "" : " on " + sentences + " sentences";
        System.out.println(done + " checks" + about + ", " + wrong + " wrong");
        if (wrong != 0) {
            System.exit(1);
        }
    }

    /** All that the getters tell of an object. */
    static int[] everything(RackTlp x) {
        int[] all = new int[38 + 66 + 66 + 258 + 258];
        int n = 0;
        for (int key = -1; key <= 36; key++) {
            all[n++] = x.stat(key);
        }
        for (int s = -1; s <= 64; s++) {
            all[n++] = x.segment(s);
        }
        for (int i = -1; i <= 64; i++) {
            all[n++] = x.recvByte(i);
        }
        for (int t = -1; t <= 256; t++) {
            all[n++] = x.txInfo(t);
        }
        for (int t = -1; t <= 256; t++) {
            all[n++] = x.txTime(t);
        }
        return all;
    }

    /** All that the getters tell of the sender, with what the receiver alone knows left out. */
    static int[] senderOnly(RackTlp x) {
        int[] all = everything(x);
        all[1 + RackTlp.K_CUM_ACK] = 0;
        for (int i = 38; i < 38 + 66; i++) {
            all[i] = all[i] == -1 ? -1 : all[i] & ~RackTlp.SEG_RECEIVED;
        }
        for (int i = 38 + 66; i < 38 + 66 + 66; i++) {
            all[i] = 0;
        }
        for (int i = 38 + 66 + 66; i < 38 + 66 + 66 + 258; i++) {
            all[i] = all[i] == -1 ? -1 : all[i] & ~RackTlp.TX_ARRIVED;
        }
        return all;
    }

    /** All that the getters tell of an object, with the time left out. */
    static int[] everythingButNow(RackTlp x) {
        int[] all = everything(x);
        all[1 + RackTlp.K_NOW] = 0;
        return all;
    }

    /** Ticks until it is the given time, past the greatest int if that is the way. */
    static void passTo(RackTlp x, int time) {
        long left = Integer.toUnsignedLong(time - x.stat(RackTlp.K_NOW));
        while (left > 0) {
            int step = (int) Math.min(left, 10000);
            x.tick(step);
            left -= step;
        }
    }

    /** Ticks to the time of the timer that is set. */
    static void passToTimer(RackTlp x) {
        x.tick(x.stat(RackTlp.K_TIMER_AT) - x.stat(RackTlp.K_NOW));
    }

    static void writeMany(RackTlp x, int count) {
        for (int i = 0; i < count; i++) {
            x.write(i);
        }
    }
}
