/**
 * The sending side of a reliable connection over a channel that the caller drives,
 * with RACK loss detection, tail loss probes, a retransmission timeout and DSACK undo.
 */
public final class RackTlp {
    public static final int MAX_SEGMENTS = 64;
    public static final int MAX_TX = 256;
    public static final int MAX_CWND = 32;
    public static final int NONE = 0;
    public static final int REO = 1;
    public static final int PTO = 2;
    public static final int RTO = 3;
    public static final int OPEN = 0;
    public static final int RECOVERY = 1;
    public static final int LOSS = 2;
    public static final int REFUSED = -1;
    public static final int NEW_DATA = 1;
    public static final int DUPLICATE = 2;
    public static final int SEG_SENT = 1;
    public static final int SEG_DELIVERED = 2;
    public static final int SEG_LOST = 4;
    public static final int SEG_RECEIVED = 8;
    public static final int TX_ARRIVED = 256;
    public static final int TX_RETX = 512;
    public static final int TX_TLP = 1024;
    public static final int K_NOW = 0;
    public static final int K_CWND = 1;
    public static final int K_SSTHRESH = 2;
    public static final int K_STATE = 3;
    public static final int K_SRTT = 4;
    public static final int K_RTTVAR = 5;
    public static final int K_MIN_RTT = 6;
    public static final int K_REO_WND = 7;
    public static final int K_REO_MULT = 8;
    public static final int K_RTO = 9;
    public static final int K_SHIFT = 10;
    public static final int K_RACK_TX = 11;
    public static final int K_RACK_RTT = 12;
    public static final int K_TIMER = 13;
    public static final int K_TIMER_AT = 14;
    public static final int K_WRITTEN = 15;
    public static final int K_NEXT_NEW = 16;
    public static final int K_TX_COUNT = 17;
    public static final int K_INFLIGHT = 18;
    public static final int K_RETRANSMITS = 19;
    public static final int K_DSACKS = 20;
    public static final int K_UNDOS = 21;
    public static final int K_UNDO_RETRANS = 22;
    public static final int K_PRIOR_CWND = 23;
    public static final int K_PRIOR_SSTHRESH = 24;
    public static final int K_RECOVERY_POINT = 25;
    public static final int K_TLPS = 26;
    public static final int K_TLP_OUT = 27;
    public static final int K_RTOS = 28;
    public static final int K_LOSS_MARKS = 29;
    public static final int K_CUM_ACK = 30;
    public static final int K_DELIVERED = 31;
    public static final int K_COMPLETE = 32;
    public static final int K_ARM_TIME = 33;
    public static final int K_CNT = 34;
    public static final int K_PTO = 35;

    private static final int MIN_INIT_CWND = 1;
    private static final int MAX_INIT_CWND = 16;
    private static final int MIN_RTO = 4;
    private static final int MAX_INIT_RTO = 1000;
    private static final int MAX_BASE_RTO = 4000;
    private static final int MAX_SHIFT = 6;
    private static final int MIN_SSTHRESH = 2;
    private static final int MIN_PTO = 2;
    private static final int MAX_REO_MULT = 8;
    private static final int MAX_TICK = 10000;
    private static final int MAX_FIRES = 64;
    private static final int SENDS_UNIT = 256;
    private static final int EP_UNIT = 1048576;

    // The sender and the receiver share one copy of each byte: it never changes once written.
    private final int[] bytes = new int[MAX_SEGMENTS];
    private final boolean[] received = new boolean[MAX_SEGMENTS];

    private final int[] sends = new int[MAX_SEGMENTS];
    private final int[] last = new int[MAX_SEGMENTS];
    private final boolean[] delivered = new boolean[MAX_SEGMENTS];
    private final boolean[] lost = new boolean[MAX_SEGMENTS];
    private final int[] ep = new int[MAX_SEGMENTS];

    private final int[] txSeg = new int[MAX_TX];
    private final int[] txFlags = new int[MAX_TX];
    private final int[] txSentAt = new int[MAX_TX];

    private final int initRto;
    private int now = 0;
    private int cwnd;
    private int ssthresh = MAX_CWND;
    private int cnt = 0;
    private int state = OPEN;
    private int written = 0;
    private int nextNew = 0;
    private int txCount = 0;

    // A flag, not a reserved value, says that the estimates are none: once the
    // clock has wrapped, a sample may be any int.
    private boolean measured = false;
    private int srtt = 0;
    private int rttvar = 0;
    private int minRtt = 0;

    // -1 is none: an id is never negative.
    private int rackTx = -1;
    private int rackRtt = 0;
    private int reoMult = 1;
    private int shift = 0;
    private int armTime = 0;
    private boolean tlpOut = false;

    private int priorCwnd = 0;
    private int priorSsthresh = 0;
    private int undoRetrans = 0;
    private int recoveryPoint = 0;

    private int retransmits = 0;
    private int dsacks = 0;
    private int undos = 0;
    private int tlps = 0;
    private int rtos = 0;
    private int lossMarks = 0;

    public RackTlp(int initCwnd, int initRto) {
        this.cwnd = clamp(initCwnd, MIN_INIT_CWND, MAX_INIT_CWND);
        this.initRto = clamp(initRto, MIN_RTO, MAX_INIT_RTO);
    }

    public int write(int b) {
        if (written >= MAX_SEGMENTS) {
            return REFUSED;
        }
        int s = written;
        bytes[s] = b & 255;
        written++;
        sendAllowed();
        return s;
    }

    public int deliver(int t) {
        int answer = arrive(t);
        if (answer != REFUSED) {
            acknowledge(answer == DUPLICATE, txSeg[t]);
        }
        return answer;
    }

    public int deliverNoAck(int t) {
        return arrive(t);
    }

    public int tick(int n) {
        int target = now + clamp(n, 0, MAX_TICK);
        int fires = 0;
        while (fires < MAX_FIRES) {
            int kind = timerKind();
            int at = timerAt(kind);
            if (kind == NONE || at > target) {
                break;
            }
            now = larger(now, at);
            fire(kind);
            fires++;
        }
        now = target;
        return fires;
    }

    public int txInfo(int t) {
        return isId(t) ? txSeg[t] + txFlags[t] : -1;
    }

    public int txTime(int t) {
        return isId(t) ? txSentAt[t] : -1;
    }

    public int segment(int s) {
        if (s < 0 || s >= written) {
            return -1;
        }
        int info = sends[s] * SENDS_UNIT + ep[s] * EP_UNIT;
        info += sends[s] > 0 ? SEG_SENT : 0;
        info += delivered[s] ? SEG_DELIVERED : 0;
        info += lost[s] ? SEG_LOST : 0;
        info += received[s] ? SEG_RECEIVED : 0;
        return info;
    }

    public int recvByte(int i) {
        if (i < 0 || i >= MAX_SEGMENTS || !received[i]) {
            return -1;
        }
        return bytes[i];
    }

    public int stat(int key) {
        switch (key) {
            case K_NOW: return now;
            case K_CWND: return cwnd;
            case K_SSTHRESH: return ssthresh;
            case K_STATE: return state;
            case K_SRTT: return measured ? srtt : -1;
            case K_RTTVAR: return measured ? rttvar : -1;
            case K_MIN_RTT: return measured ? minRtt : -1;
            case K_REO_WND: return reoWnd();
            case K_REO_MULT: return reoMult;
            case K_RTO: return rto();
            case K_SHIFT: return shift;
            case K_RACK_TX: return rackTx;
            case K_RACK_RTT: return rackRtt;
            case K_TIMER: return timerKind();
            case K_TIMER_AT: return currentTimerAt();
            case K_WRITTEN: return written;
            case K_NEXT_NEW: return nextNew;
            case K_TX_COUNT: return txCount;
            case K_INFLIGHT: return inflight();
            case K_RETRANSMITS: return retransmits;
            case K_DSACKS: return dsacks;
            case K_UNDOS: return undos;
            case K_UNDO_RETRANS: return undoRetrans;
            case K_PRIOR_CWND: return priorCwnd;
            case K_PRIOR_SSTHRESH: return priorSsthresh;
            case K_RECOVERY_POINT: return recoveryPoint;
            case K_TLPS: return tlps;
            case K_TLP_OUT: return tlpOut ? 1 : 0;
            case K_RTOS: return rtos;
            case K_LOSS_MARKS: return lossMarks;
            case K_CUM_ACK: return cumAck();
            case K_DELIVERED: return deliveredCount();
            case K_COMPLETE: return deliveredCount() == written ? 1 : 0;
            case K_ARM_TIME: return armTime;
            case K_CNT: return cnt;
            case K_PTO: return measured ? pto() : -1;
            default: return 0;
        }
    }

    // ---- Derived values ----

    private boolean isId(int t) {
        return t >= 0 && t < txCount;
    }

    private boolean isOutstanding(int s) {
        return sends[s] > 0 && !delivered[s];
    }

    private boolean isCandidate(int s) {
        // While rackTx is none it is -1, and no id is below that.
        return isOutstanding(s) && !lost[s] && last[s] < rackTx;
    }

    private int inflight() {
        int count = 0;
        for (int s = 0; s < nextNew; s++) {
            if (isOutstanding(s) && !lost[s]) {
                count++;
            }
        }
        return count;
    }

    private int cumAck() {
        int s = 0;
        while (s < MAX_SEGMENTS && received[s]) {
            s++;
        }
        return s;
    }

    private int deliveredCount() {
        return deliveredBelow(MAX_SEGMENTS);
    }

    private int deliveredBelow(int bound) {
        int count = 0;
        for (int s = 0; s < bound && s < MAX_SEGMENTS; s++) {
            if (delivered[s]) {
                count++;
            }
        }
        return count;
    }

    private int reoWnd() {
        if (!measured) {
            return 0;
        }
        int wanted = (reoMult * minRtt) / 4;
        return wanted < srtt ? wanted : srtt;
    }

    private int rto() {
        int base = initRto;
        if (measured) {
            int margin = larger(1, 4 * rttvar);
            base = srtt + margin;
        }
        return clamp(base, MIN_RTO, MAX_BASE_RTO) << shift;
    }

    private int pto() {
        return larger(2 * srtt, MIN_PTO);
    }

    private int lossDeadline(int s) {
        return txSentAt[last[s]] + rackRtt + reoWnd();
    }

    // ---- The timer ----

    private int timerKind() {
        if (leastOutstanding() < 0) {
            return NONE;
        }
        if (leastCandidate() >= 0) {
            return REO;
        }
        if (measured && state == OPEN && !tlpOut && armTime + pto() <= rtoAt()) {
            return PTO;
        }
        return RTO;
    }

    private int timerAt(int kind) {
        switch (kind) {
            case REO: return reoAt();
            case PTO: return armTime + pto();
            case RTO: return rtoAt();
            default: return -1;
        }
    }

    private int currentTimerAt() {
        int kind = timerKind();
        return timerAt(kind);
    }

    private int leastOutstanding() {
        for (int s = 0; s < nextNew; s++) {
            if (isOutstanding(s)) {
                return s;
            }
        }
        return -1;
    }

    private int greatestOutstanding() {
        for (int s = nextNew - 1; s >= 0; s--) {
            if (isOutstanding(s)) {
                return s;
            }
        }
        return -1;
    }

    private int leastCandidate() {
        for (int s = 0; s < nextNew; s++) {
            if (isCandidate(s)) {
                return s;
            }
        }
        return -1;
    }

    private int reoAt() {
        boolean found = false;
        int least = 0;
        for (int s = 0; s < nextNew; s++) {
            if (isCandidate(s)) {
                int at = lossDeadline(s);
                least = !found || at < least ? at : least;
                found = true;
            }
        }
        return least;
    }

    private int rtoAt() {
        int wait = rto();
        boolean found = false;
        int least = 0;
        for (int s = 0; s < nextNew; s++) {
            if (isOutstanding(s)) {
                // Added before comparing, so that a wrapped sum counts as it stands.
                int at = txSentAt[last[s]] + wait;
                least = !found || at < least ? at : least;
                found = true;
            }
        }
        return least;
    }

    private void fire(int kind) {
        if (kind == REO) {
            detectLosses();
        } else if (kind == PTO) {
            probe();
        } else {
            timeOut();
        }
        sendAllowed();
    }

    private void probe() {
        tlps++;
        int s = nextNew < written ? nextNew : greatestOutstanding();
        int id = txCount;
        transmit(s);
        if (isId(id)) {
            txFlags[id] |= TX_TLP;
        }
        tlpOut = true;
    }

    private void timeOut() {
        rtos++;
        if (state == OPEN) {
            beginEpisode();
        }
        // A timeout within a loss episode must not shrink ssthresh once more.
        if (state != LOSS) {
            ssthresh = larger(cwnd / 2, MIN_SSTHRESH);
        }
        state = LOSS;
        cwnd = 1;
        cnt = 0;
        recoveryPoint = nextNew;
        for (int s = 0; s < nextNew; s++) {
            if (isOutstanding(s)) {
                lost[s] = true;
            }
        }
        shift = shift < MAX_SHIFT ? shift + 1 : MAX_SHIFT;
        tlpOut = false;
    }

    // ---- Sending ----

    private void transmit(int s) {
        if (txCount >= MAX_TX || s < 0 || s >= written) {
            return;
        }
        int t = txCount;
        boolean again = sends[s] > 0;
        txCount++;
        txSeg[t] = s;
        txSentAt[t] = now;
        txFlags[t] = again ? TX_RETX : 0;
        sends[s]++;
        last[s] = t;
        if (again) {
            noteRetransmission(s);
        } else {
            nextNew++;
            armTime = now;
        }
    }

    private void noteRetransmission(int s) {
        lost[s] = false;
        retransmits++;
        if (state != OPEN) {
            ep[s]++;
            undoRetrans++;
        }
    }

    private void sendAllowed() {
        // Each round makes one id, so the ids still free bound the rounds.
        for (int free = MAX_TX - txCount; free > 0; free--) {
            int s = nextToSend();
            if (s < 0 || inflight() >= cwnd) {
                return;
            }
            transmit(s);
        }
    }

    private int nextToSend() {
        for (int s = 0; s < nextNew; s++) {
            if (lost[s]) {
                return s;
            }
        }
        return nextNew < written ? nextNew : -1;
    }

    // ---- Loss episodes ----

    private void beginEpisode() {
        priorCwnd = cwnd;
        priorSsthresh = ssthresh;
        undoRetrans = 0;
        for (int s = 0; s < MAX_SEGMENTS; s++) {
            ep[s] = 0;
        }
    }

    private void detectLosses() {
        boolean any = false;
        for (int s = 0; s < nextNew; s++) {
            // Marking one segment moves no other one's deadline.
            if (isCandidate(s) && lossDeadline(s) <= now) {
                lost[s] = true;
                lossMarks++;
                any = true;
            }
        }
        if (any && state == OPEN) {
            beginEpisode();
            ssthresh = larger(cwnd / 2, MIN_SSTHRESH);
            cwnd = ssthresh;
            cnt = 0;
            state = RECOVERY;
            recoveryPoint = nextNew;
        }
    }

    private void undo() {
        cwnd = larger(cwnd, priorCwnd);
        ssthresh = larger(ssthresh, priorSsthresh);
        cnt = 0;
        state = OPEN;
        for (int s = 0; s < MAX_SEGMENTS; s++) {
            lost[s] = false;
        }
        undos++;
    }

    // ---- Arrivals and acknowledgements ----

    private int arrive(int t) {
        if (!isId(t) || (txFlags[t] & TX_ARRIVED) != 0) {
            return REFUSED;
        }
        int s = txSeg[t];
        txFlags[t] |= TX_ARRIVED;
        if (received[s]) {
            return DUPLICATE;
        }
        received[s] = true;
        return NEW_DATA;
    }

    private void acknowledge(boolean dup, int s0) {
        learnArrivals();
        if (dup) {
            learnDuplicate(s0);
        }
        if (state != OPEN && deliveredBelow(recoveryPoint) == recoveryPoint) {
            state = OPEN;
        }
        detectLosses();
        sendAllowed();
    }

    private void learnArrivals() {
        boolean any = false;
        for (int s = 0; s < nextNew; s++) {
            if (received[s] && !delivered[s]) {
                learnArrival(s);
                any = true;
            }
        }
        if (any) {
            shift = 0;
            tlpOut = false;
            armTime = now;
        }
    }

    private void learnArrival(int s) {
        delivered[s] = true;
        lost[s] = false;
        int r = now - txSentAt[last[s]];
        if (sends[s] == 1) {
            sample(r);
        }
        // So short a time says that an earlier transmission arrived, not the last one.
        boolean misleading = sends[s] > 1 && measured && r < minRtt;
        if (!misleading && last[s] > rackTx) {
            rackTx = last[s];
            rackRtt = r;
        }
        grow();
    }

    private void sample(int r) {
        if (!measured) {
            measured = true;
            srtt = r;
            rttvar = r / 2;
            minRtt = r;
            return;
        }
        int gap = srtt - r;
        int d = gap < 0 ? -gap : gap;
        rttvar = (3 * rttvar + d) / 4;
        srtt = (7 * srtt + r) / 8;
        minRtt = r < minRtt ? r : minRtt;
    }

    private void grow() {
        if (state == RECOVERY) {
            return;
        }
        if (cwnd < ssthresh) {
            cwnd++;
        } else {
            cnt++;
            if (cnt >= cwnd) {
                cwnd++;
                cnt = 0;
            }
        }
        if (cwnd > MAX_CWND) {
            cwnd = MAX_CWND;
        }
    }

    private void learnDuplicate(int s0) {
        dsacks++;
        reoMult = reoMult < MAX_REO_MULT ? reoMult + 1 : MAX_REO_MULT;
        if (state != OPEN && ep[s0] > 0) {
            ep[s0]--;
            undoRetrans--;
            if (undoRetrans == 0) {
                undo();
            }
        }
    }

    // ---- Small arithmetic ----

    private static int clamp(int x, int least, int greatest) {
        if (x < least) {
            return least;
        }
        return x > greatest ? greatest : x;
    }

    private static int larger(int x, int y) {
        return x > y ? x : y;
    }
}
