import java.util.ArrayList;
import java.util.List;
import java.util.OptionalInt;
import java.util.stream.IntStream;

/** The document told a second time, with the Java library's help and no thought of speed. */
final class Model {
    private static final class Tx {
        int id;
        Seg seg;
        int time;
        boolean arrived;
        boolean retx;
        boolean tlp;
    }

    private static final class Seg {
        int index;
        int data;
        boolean received;
        boolean delivered;
        boolean lost;
        int ep;
        final List<Tx> sendings = new ArrayList<>();

        int sends() {
            return sendings.size();
        }

        Tx last() {
            return sendings.get(sendings.size() - 1);
        }

        boolean outstanding() {
            return sends() > 0 && !delivered;
        }
    }

    private final int initRto;
    private final List<Seg> segs = new ArrayList<>();
    private final List<Tx> txs = new ArrayList<>();
    private int now;
    private int cwnd;
    private int ssthresh = 32;
    private int cnt;
    private int state = RackTlp.OPEN;
    private int nextNew;
    private Integer srtt;
    private Integer rttvar;
    private Integer minRtt;
    private Integer rackTx;
    private int rackRtt;
    private int reoMult = 1;
    private int shift;
    private int armTime;
    private boolean tlpOut;
    private int priorCwnd;
    private int priorSsthresh;
    private int undoRetrans;
    private int recoveryPoint;
    private int retransmits;
    private int dsacks;
    private int undos;
    private int tlps;
    private int rtos;
    private int lossMarks;
    private int deliveredCount;

    Model(int initCwnd, int initRto) {
        this.cwnd = Math.max(1, Math.min(16, initCwnd));
        this.initRto = Math.max(4, Math.min(1000, initRto));
    }

    /** What ticks do while nothing is outstanding, in one step: a clock near its end takes very many. */
    void passIdle(int time) {
        now = time;
    }

    int write(int b) {
        if (segs.size() == 64) {
            return -1;
        }
        Seg s = new Seg();
        s.index = segs.size();
        s.data = Math.floorMod(b, 256);
        segs.add(s);
        send();
        return s.index;
    }

    int deliver(int t) {
        int answer = deliverNoAck(t);
        if (answer != -1) {
            ack(answer == 2, txs.get(t).seg);
        }
        return answer;
    }

    int deliverNoAck(int t) {
        if (t < 0 || t >= txs.size() || txs.get(t).arrived) {
            return -1;
        }
        Tx tx = txs.get(t);
        tx.arrived = true;
        boolean dup = tx.seg.received;
        tx.seg.received = true;
        return dup ? 2 : 1;
    }

    int tick(int n) {
        int target = now + Math.max(0, Math.min(10000, n));
        for (int fires = 0; ; fires++) {
            int kind = timer();
            if (fires == 64 || kind == RackTlp.NONE || timerAt() > target) {
                now = target;
                return fires;
            }
            now = Math.max(now, timerAt());
            fire(kind);
        }
    }

    int txInfo(int t) {
        if (t < 0 || t >= txs.size()) {
            return -1;
        }
        Tx tx = txs.get(t);
        return tx.seg.index + (tx.arrived ? 256 : 0) + (tx.retx ? 512 : 0) + (tx.tlp ? 1024 : 0);
    }

    int txTime(int t) {
        return t < 0 || t >= txs.size() ? -1 : txs.get(t).time;
    }

    int segment(int i) {
        if (i < 0 || i >= segs.size()) {
            return -1;
        }
        Seg s = segs.get(i);
        return (s.sends() > 0 ? 1 : 0) + (s.delivered ? 2 : 0) + (s.lost ? 4 : 0) + (s.received ? 8 : 0)
            + s.sends() * 256 + s.ep * 1048576;
    }

    int recvByte(int i) {
        return i >= 0 && i < segs.size() && segs.get(i).received ? segs.get(i).data : -1;
    }

    /** The values of all stat keys, from K_NOW to K_PTO. */
    int[] stats() {
        int kind = timer();
        return new int[] {
            now, cwnd, ssthresh, state, orNone(srtt), orNone(rttvar), orNone(minRtt), reoWnd(), reoMult, rto(), shift,
            orNone(rackTx), rackRtt, kind, kind == RackTlp.NONE ? -1 : timerAt(), segs.size(), nextNew, txs.size(),
            inflight(), retransmits, dsacks, undos, undoRetrans, priorCwnd, priorSsthresh, recoveryPoint, tlps,
            tlpOut ? 1 : 0, rtos, lossMarks, cumAck(), deliveredCount,
            segs.stream().allMatch(s -> s.delivered) ? 1 : 0, armTime, cnt, srtt == null ? -1 : pto()};
    }

    private static int orNone(Integer value) {
        return value == null ? -1 : value;
    }

    private int cumAck() {
        return (int) segs.stream().takeWhile(s -> s.received).count();
    }

    private int inflight() {
        return (int) segs.stream().filter(s -> s.outstanding() && !s.lost).count();
    }

    private int reoWnd() {
        return minRtt == null ? 0 : Math.min(reoMult * minRtt / 4, srtt);
    }

    private int rto() {
        int base = srtt == null ? initRto : srtt + Math.max(1, 4 * rttvar);
        return Math.max(4, Math.min(4000, base)) * (int) Math.pow(2, shift);
    }

    private int pto() {
        return Math.max(2 * srtt, 2);
    }

    private boolean candidate(Seg s) {
        return s.outstanding() && !s.lost && rackTx != null && s.last().id < rackTx;
    }

    private int deadline(Seg s) {
        return s.last().time + rackRtt + reoWnd();
    }

    private OptionalInt rtoAt() {
        return segs.stream().filter(Seg::outstanding).mapToInt(s -> s.last().time + rto()).min();
    }

    private int timer() {
        if (rtoAt().isEmpty()) {
            return RackTlp.NONE;
        }
        if (segs.stream().anyMatch(this::candidate)) {
            return RackTlp.REO;
        }
        boolean probe = srtt != null && state == RackTlp.OPEN && !tlpOut && armTime + pto() <= rtoAt().getAsInt();
        return probe ? RackTlp.PTO : RackTlp.RTO;
    }

    private int timerAt() {
        int kind = timer();
        if (kind == RackTlp.REO) {
            return segs.stream().filter(this::candidate).mapToInt(this::deadline).min().getAsInt();
        }
        return kind == RackTlp.PTO ? armTime + pto() : rtoAt().getAsInt();
    }

    private Tx transmit(Seg s) {
        if (txs.size() == 256) {
            return null;
        }
        Tx t = new Tx();
        t.id = txs.size();
        t.seg = s;
        t.time = now;
        t.retx = s.sends() > 0;
        txs.add(t);
        s.sendings.add(t);
        if (!t.retx) {
            nextNew++;
            armTime = now;
            return t;
        }
        s.lost = false;
        retransmits++;
        if (state != RackTlp.OPEN) {
            s.ep++;
            undoRetrans++;
        }
        return t;
    }

    private void send() {
        while (txs.size() < 256 && inflight() < cwnd) {
            Seg next = segs.stream().filter(s -> s.lost).findFirst().orElse(null);
            if (next == null && nextNew < segs.size()) {
                next = segs.get(nextNew);
            }
            if (next == null) {
                return;
            }
            transmit(next);
        }
    }

    private void episode() {
        priorCwnd = cwnd;
        priorSsthresh = ssthresh;
        undoRetrans = 0;
        segs.forEach(s -> s.ep = 0);
    }

    private void detect() {
        List<Seg> due = segs.stream().filter(s -> candidate(s) && deadline(s) <= now).toList();
        due.forEach(s -> s.lost = true);
        lossMarks += due.size();
        if (!due.isEmpty() && state == RackTlp.OPEN) {
            episode();
            ssthresh = Math.max(cwnd / 2, 2);
            cwnd = ssthresh;
            cnt = 0;
            state = RackTlp.RECOVERY;
            recoveryPoint = nextNew;
        }
    }

    private void sample(int r) {
        if (srtt == null) {
            srtt = r;
            rttvar = r / 2;
            minRtt = r;
        } else {
            rttvar = (3 * rttvar + Math.abs(srtt - r)) / 4;
            srtt = (7 * srtt + r) / 8;
            minRtt = Math.min(minRtt, r);
        }
    }

    private void grow() {
        if (state == RackTlp.RECOVERY) {
            return;
        }
        if (cwnd < ssthresh) {
            cwnd++;
        } else if (++cnt >= cwnd) {
            cwnd++;
            cnt = 0;
        }
        cwnd = Math.min(cwnd, 32);
    }

    private void ack(boolean dup, Seg s0) {
        List<Seg> fresh = segs.stream().filter(s -> s.received && !s.delivered).toList();
        for (Seg s : fresh) {
            s.delivered = true;
            s.lost = false;
            deliveredCount++;
            int r = now - s.last().time;
            if (s.sends() == 1) {
                sample(r);
            }
            if (!(s.sends() > 1 && minRtt != null && r < minRtt) && (rackTx == null || s.last().id > rackTx)) {
                rackTx = s.last().id;
                rackRtt = r;
            }
            grow();
        }
        if (!fresh.isEmpty()) {
            shift = 0;
            tlpOut = false;
            armTime = now;
        }
        if (dup) {
            dsack(s0);
        }
        if (state != RackTlp.OPEN && IntStream.range(0, recoveryPoint).allMatch(i -> segs.get(i).delivered)) {
            state = RackTlp.OPEN;
        }
        detect();
        send();
    }

    private void dsack(Seg s0) {
        dsacks++;
        reoMult = Math.min(reoMult + 1, 8);
        if (state == RackTlp.OPEN || s0.ep == 0) {
            return;
        }
        s0.ep--;
        undoRetrans--;
        if (undoRetrans == 0) {
            cwnd = Math.max(cwnd, priorCwnd);
            ssthresh = Math.max(ssthresh, priorSsthresh);
            cnt = 0;
            state = RackTlp.OPEN;
            segs.forEach(s -> s.lost = false);
            undos++;
        }
    }

    private void fire(int kind) {
        if (kind == RackTlp.REO) {
            detect();
        } else if (kind == RackTlp.PTO) {
            tlps++;
            Seg s = nextNew < segs.size() ? segs.get(nextNew)
                : segs.stream().filter(Seg::outstanding).reduce((a, b) -> b).get();
            Tx t = transmit(s);
            if (t != null) {
                t.tlp = true;
            }
            tlpOut = true;
        } else {
            rtos++;
            if (state == RackTlp.OPEN) {
                episode();
            }
            if (state != RackTlp.LOSS) {
                ssthresh = Math.max(cwnd / 2, 2);
            }
            state = RackTlp.LOSS;
            cwnd = 1;
            cnt = 0;
            recoveryPoint = nextNew;
            segs.stream().filter(Seg::outstanding).forEach(s -> s.lost = true);
            shift = Math.min(shift + 1, 6);
            tlpOut = false;
        }
        send();
    }
}
