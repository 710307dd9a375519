import java.util.Arrays;

/** Counts the answers that are not the ones that are due, and tells each of them. */
final class Check {
    private int wrong = 0;
    private long done = 0;

    void due(String what, long got, long want) {
        done++;
        if (got != want) {
            wrong++;
            System.out.println(what + ": answered " + got + ", due is " + want);
        }
    }

    /** As above, but the text is put together only when it is needed: for very many checks. */
    void due(String where, String getter, int argument, int got, int want) {
        if (got == want) {
            done++;
        } else {
            due(where + ", " + getter + "(" + argument + ")", got, want);
        }
    }

    /** Pairs of a stat key and the value that is due. */
    void stats(String what, RackTlp x, int... keysAndValues) {
        for (int i = 0; i + 1 < keysAndValues.length; i += 2) {
            due(what + ", stat(" + keysAndValues[i] + ")", x.stat(keysAndValues[i]), keysAndValues[i + 1]);
        }
    }

    void same(String what, int[] got, int[] want) {
        done++;
        if (!Arrays.equals(got, want)) {
            wrong++;
            System.out.println(what + ": something changed, at place " + Arrays.mismatch(got, want));
        }
    }

    int wrong() {
        return wrong;
    }

    void end() {
        System.out.println(done + " checks, " + wrong + " wrong");
        if (wrong != 0) {
            System.exit(1);
        }
    }

    /** All that the getters tell of an object. */
    static int[] everything(RackTlp x) {
        int[] all = new int[38 + 66 + 66 + 258 + 258];
        int n = 0;
        for (int key = -1; key <= 36; key++) {
            all[n++] = x.stat(key);
        }
        for (int s = -1; s <= 64; s++) {
            all[n++] = x.segment(s);
        }
        for (int i = -1; i <= 64; i++) {
            all[n++] = x.recvByte(i);
        }
        for (int t = -1; t <= 256; t++) {
            all[n++] = x.txInfo(t);
        }
        for (int t = -1; t <= 256; t++) {
            all[n++] = x.txTime(t);
        }
        return all;
    }

    /** All that the getters tell of the sender, with what the receiver alone knows left out. */
    static int[] senderOnly(RackTlp x) {
        int[] all = everything(x);
        all[1 + RackTlp.K_CUM_ACK] = 0;
        for (int i = 38; i < 38 + 66; i++) {
            all[i] = all[i] == -1 ? -1 : all[i] & ~RackTlp.SEG_RECEIVED;
        }
        for (int i = 38 + 66; i < 38 + 66 + 66; i++) {
            all[i] = 0;
        }
        for (int i = 38 + 66 + 66; i < 38 + 66 + 66 + 258; i++) {
            all[i] = all[i] == -1 ? -1 : all[i] & ~RackTlp.TX_ARRIVED;
        }
        return all;
    }

    static void writeMany(RackTlp x, int count) {
        for (int i = 0; i < count; i++) {
            x.write(i);
        }
    }
}
