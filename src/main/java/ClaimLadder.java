/** Who pays first: contracts that refer to one another pay a loss rung by rung; the document is DOC.md. */
public final class ClaimLadder {
    public static final int NONE = -1, BAD = -2, STATE = -3, FULL = -4;
    /** There is no such number. */
    public static final long NO = Long.MIN_VALUE;

    private static final int ABSENT = -5;
    private static final int FAULT_BASE = -10;
    private static final int NOTHING = -11, CAST = -12, PLACE = -13, SIZE = -14;

    private static final int MAX_CONTRACTS = 6;
    private static final int MAX_LIMIT = 99, MAX_RETENTION = 20, MAX_LOSS = 300;
    private static final int MIN_QUOTA = 1, WHOLE_QUOTA = 100;
    private static final int PLAIN = 0, PART = 1, ESCAPE = 2, WHOLE = 3;
    private static final int MAX_ROWS = 8, MAX_SEEN = 5;
    private static final int MAX_AMOUNT = 99, MAX_BACK = 999;
    private static final int ODDS_STEP = 10, ODDS_LAST = 100;
    private static final int NO_LOSS_CAUSE = 99;
    private static final int JUDGE_BASE = 100;
    private static final int MAX_SIGN = 127, MAX_TEXT = 100, MAX_CLAUSES = 12, CLAUSE_NUMBERS = 3;
    private static final int TAPES = 6, MAX_TAPE = 60, NO_SORT = -1;
    private static final int BYTES = 0, SHORTS = 1, INTS = 2, LONGS = 3, BOOLEANS = 4;

    private final Told now;
    private final Told taken;
    private boolean isTaken;
    private final Ladder ladder;
    private final Setup trial;
    private final Ladder trialLadder;
    private final Script script;
    private final Tape[] tapes;

    public ClaimLadder() {
        now = new Told();
        taken = new Told();
        isTaken = false;
        ladder = new Ladder(now.setup);
        trial = new Setup();
        trialLadder = new Ladder(trial);
        script = new Script();
        tapes = new Tape[TAPES];
        for (int t = 0; t < TAPES; t++) {
            tapes[t] = new Tape();
        }
    }

    // ---- contracts

    public int contract(int kind, int limit, int retention) {
        return now.setup.addContract(kind, limit, retention);
    }

    public int renew(int contract, int what, int v) {
        return now.setup.change(contract, what, v);
    }

    public int refer(int a, int b, boolean isSo) {
        return now.setup.link(a, b, isSo);
    }

    public int loss(int n) {
        return now.setup.changeLoss(n);
    }

    public int of(int contract, int what) {
        if (!now.setup.isContract(contract)) {
            return NONE;
        }
        if (what >= 0 && what <= 3) {
            return now.setup.term(contract, what);
        }
        ladder.settle();
        switch (what) {
            case 4: return now.setup.refers[contract];
            case 5: return ladder.reach[contract] & ~(1 << contract);
            case 6: return ladder.ringBits[ladder.ringOf[contract]];
            case 7: return ladder.ringRung[ladder.ringOf[contract]];
            case 8: return ladder.ringLeft[ladder.ringOf[contract]];
            case 9: return ladder.paid[contract];
            default: return NONE;
        }
    }

    public int feed(int sign) {
        return script.append(sign);
    }

    public int read() {
        int fault = script.parse();
        script.clear();
        if (fault != ABSENT) {
            return FAULT_BASE - fault;
        }
        int done = 0;
        for (int row = 0; row < script.clauses; row++) {
            if (script.perform(row, now.setup) >= 0) {
                done++;
            }
        }
        return done;
    }

    // ---- the ladder

    public int ring(int k, int what) {
        ladder.settle();
        if (k < 0 || k >= ladder.rings) {
            return NONE;
        }
        switch (what) {
            case 0: return ladder.ringBits[k];
            case 1: return ladder.ringRung[k];
            case 2: return ladder.ringLeft[k];
            case 3: return ladder.ringPaid[k];
            default: return NONE;
        }
    }

    public int pays(int contract) {
        if (!now.setup.isContract(contract)) {
            return NONE;
        }
        ladder.settle();
        return ladder.paid[contract];
    }

    public int told(int what) {
        ladder.settle();
        switch (what) {
            case 0: return now.setup.size;
            case 1: return now.setup.lossNow;
            case 2: return ladder.paidInAll;
            case 3: return ladder.over;
            case 4: return ladder.rings;
            case 5: return ladder.ringsOfSeveral();
            case 6: return ladder.greatestRung();
            case 7: return ladder.payers();
            case 8: return now.setup.references();
            default: return NONE;
        }
    }

    public int why(int contract, int k) {
        if (!now.setup.isContract(contract) || k < 0) {
            return NONE;
        }
        ladder.settle();
        int reason = ladder.reason(contract);
        switch (k) {
            case 0: return reason;
            case 1: return ladder.cause(contract, reason);
            case 2: return ladder.causeBehind(contract, reason);
            default: return ABSENT;
        }
    }

    public int net(int contract, int n) {
        if (!now.setup.isContract(contract)) {
            return NONE;
        }
        if (n < 0 || n > MAX_BACK) {
            return BAD;
        }
        ladder.settle();
        ladder.giveBack(n);
        return ladder.paid[contract] - ladder.back[contract];
    }

    public long more(int contract) {
        if (!now.setup.isContract(contract)) {
            return NO;
        }
        ladder.settle();
        long before = ladder.paid[contract];
        ladder.payAt(now.setup.lossNow + 1);
        return ladder.paid[contract] - before;
    }

    public int from(int contract) {
        if (!now.setup.isContract(contract)) {
            return NONE;
        }
        ladder.build();
        for (int n = 0; n <= MAX_LOSS; n++) {
            ladder.payAt(n);
            if (ladder.paid[contract] > 0) {
                return n;
            }
        }
        return ABSENT;
    }

    // ---- seen, odds

    public int see(int contract, int n) {
        return addAmount(now.seen, contract, n);
    }

    public int fits(int what) {
        if (what != 0 && what != 1) {
            return NONE;
        }
        ladder.build();
        int many = 0;
        int least = ABSENT;
        for (int n = 0; n <= MAX_LOSS; n++) {
            ladder.payAt(n);
            if (ladder.firstOtherwise(now.seen) == ABSENT) {
                least = many == 0 ? n : least;
                many++;
            }
        }
        return what == 0 ? many : least;
    }

    public long odds(int contract, int part) {
        if (!now.setup.isContract(contract)) {
            return NO;
        }
        ladder.build();
        int cases = 0;
        int good = 0;
        for (int n = ODDS_STEP; n <= ODDS_LAST; n += ODDS_STEP) {
            ladder.payAt(n);
            cases++;
            good += ladder.paid[contract] > 0 ? 1 : 0;
        }
        return fractionPart(good, cases, part);
    }

    public long mean(int part) {
        ladder.settle();
        return fractionPart(ladder.paidInAll, ladder.payers(), part);
    }

    // ---- plans, books

    public int plan(int what, int n) {
        if (what == -1) {
            return now.steps.clear();
        }
        int refusal = planRefusal(what, n);
        if (refusal < 0) {
            return refusal;
        }
        return now.steps.add(what, n);
    }

    public int ends(int what) {
        trial.copyFrom(now.setup);
        for (int row = 0; row < now.steps.size; row++) {
            trial.undergo(now.steps.first[row], now.steps.second[row]);
        }
        trialLadder.settle();
        switch (what) {
            case 0: return trialLadder.paidInAll;
            case 1: return trialLadder.over;
            case 2: return trialLadder.rings;
            default: return NONE;
        }
    }

    public int book(int contract, int n) {
        return addAmount(now.entries, contract, n);
    }

    public int looked() {
        ladder.settle();
        return ladder.firstOtherwise(now.entries);
    }

    // ---- judging, the image, tapes

    public int judge(int tape, int i) {
        if (!isTape(tape)) {
            return NONE;
        }
        Tape row = tapes[tape];
        if (row.holds() && row.sort != LONGS) {
            return CAST;
        }
        int contracts = now.setup.size;
        if (contracts == 0) {
            return ABSENT;
        }
        if (!row.holds() || i < 0) {
            return JUDGE_BASE;
        }
        ladder.settle();
        for (int c = 0; c < contracts; c++) {
            // not i + c against the length: i may be near the greatest int
            if (i >= row.length - c) {
                return JUDGE_BASE + c;
            }
            if (row.items[i + c] != ladder.paid[c]) {
                return c;
            }
        }
        return ABSENT;
    }

    public int image() {
        taken.copyFrom(now);
        isTaken = true;
        return now.setup.size;
    }

    public int undo() {
        if (!isTaken) {
            return STATE;
        }
        now.copyFrom(taken);
        return now.setup.size;
    }

    public int count(int what) {
        switch (what) {
            case 0: return now.seen.size;
            case 1: return now.steps.size;
            case 2: return now.entries.size;
            case 3: return script.length;
            default: return BAD;
        }
    }

    public int tape(int tape, int sort, int n) {
        if (!isTape(tape)) {
            return NONE;
        }
        if (sort < NO_SORT || sort > BOOLEANS) {
            return BAD;
        }
        if (sort == NO_SORT) {
            tapes[tape].become(NO_SORT, 0);
            return 1;
        }
        if (n > MAX_TAPE) {
            return BAD;
        }
        if (n < 0) {
            return SIZE;
        }
        tapes[tape].become(sort, n);
        return 1;
    }

    public int item(int tape, int i, long v) {
        if (!isTape(tape)) {
            return NONE;
        }
        if (!tapes[tape].holds()) {
            return NOTHING;
        }
        if (!tapes[tape].hasPlace(i)) {
            return PLACE;
        }
        tapes[tape].items[i] = narrowed(tapes[tape].sort, v);
        return 1;
    }

    public long peek(int tape, int i) {
        if (!isTape(tape) || !tapes[tape].hasPlace(i)) {
            return NO;
        }
        return tapes[tape].items[i];
    }

    public int shift(int tape, int i, int other, int j, int n) {
        if (!isTape(tape) || !isTape(other)) {
            return NONE;
        }
        Tape source = tapes[tape];
        Tape target = tapes[other];
        if (!source.holds() || !target.holds()) {
            return NOTHING;
        }
        if (source.sort != target.sort) {
            return CAST;
        }
        if (!source.hasStretch(i, n) || !target.hasStretch(j, n)) {
            return PLACE;
        }
        System.arraycopy(source.items, i, target.items, j, n);
        return n;
    }

    private static boolean isTape(int tape) {
        return tape >= 0 && tape < TAPES;
    }

    private static boolean has(int bits, int c) {
        return (bits >> c & 1) != 0;
    }

    private static long narrowed(int sort, long v) {
        switch (sort) {
            case BYTES: return (byte) v;
            case SHORTS: return (short) v;
            case INTS: return (int) v;
            case BOOLEANS: return v != 0 ? 1 : 0;
            default: return v;
        }
    }

    private int addAmount(Rows rows, int contract, int n) {
        if (contract == -1) {
            return rows.clear();
        }
        if (!now.setup.isContract(contract)) {
            return NONE;
        }
        if (n < 0 || n > MAX_AMOUNT) {
            return BAD;
        }
        return rows.add(contract, n);
    }

    /** Below 0 if no such row may come to the plan, however many it has. */
    private int planRefusal(int what, int n) {
        switch (what) {
            case 0: return n < 0 || n > MAX_LOSS ? BAD : 0;
            case 1:
            case 2: return now.setup.isContract(n) ? 0 : NONE;
            case 3: return n < 0 || n > MAX_RETENTION ? BAD : 0;
            default: return NONE;
        }
    }

    private static long fractionPart(int above, int below, int part) {
        if (below <= 0 || part < 0 || part > 1) {
            return NO;
        }
        int divisor = commonDivisor(above, below);
        int asked = part == 0 ? above : below;
        return divisor <= 0 ? NO : asked / divisor;
    }

    private static int commonDivisor(int a, int b) {
        int x = a;
        int y = b;
        // the greater one at least halves in every second turn
        for (int turn = 0; turn < 100 && y != 0; turn++) {
            int rest = x % y;
            x = y;
            y = rest;
        }
        return x;
    }

    /** The contracts, what they refer to, and the loss. */
    private static final class Setup {
        final int[] kind;
        final int[] limit;
        final int[] retention;
        final int[] quota;
        final int[] refers;
        int size;
        int lossNow;

        Setup() {
            kind = new int[MAX_CONTRACTS];
            limit = new int[MAX_CONTRACTS];
            retention = new int[MAX_CONTRACTS];
            quota = new int[MAX_CONTRACTS];
            refers = new int[MAX_CONTRACTS];
        }

        boolean isContract(int c) {
            return c >= 0 && c < size;
        }

        int addContract(int k, int most, int kept) {
            if (!isTerm(0, k) || !isTerm(1, most) || !isTerm(2, kept)) {
                return BAD;
            }
            if (size >= MAX_CONTRACTS) {
                return FULL;
            }
            kind[size] = k;
            limit[size] = most;
            retention[size] = kept;
            quota[size] = WHOLE_QUOTA;
            refers[size] = 0;
            size++;
            return size - 1;
        }

        static boolean isTerm(int what, int v) {
            switch (what) {
                case 0: return v >= PLAIN && v <= WHOLE;
                case 1: return v >= 0 && v <= MAX_LIMIT;
                case 2: return v >= 0 && v <= MAX_RETENTION;
                case 3: return v >= MIN_QUOTA && v <= WHOLE_QUOTA;
                default: return false;
            }
        }

        int term(int c, int what) {
            if (!isContract(c)) {
                return NONE;
            }
            switch (what) {
                case 0: return kind[c];
                case 1: return limit[c];
                case 2: return retention[c];
                case 3: return quota[c];
                default: return NONE;
            }
        }

        int change(int c, int what, int v) {
            int before = term(c, what);
            if (before == NONE) {
                return NONE;
            }
            if (!isTerm(what, v)) {
                return BAD;
            }
            switch (what) {
                case 0: kind[c] = v; break;
                case 1: limit[c] = v; break;
                case 2: retention[c] = v; break;
                default: quota[c] = v; break;
            }
            return before;
        }

        int link(int a, int b, boolean isSo) {
            if (!isContract(a) || !isContract(b) || a == b) {
                return NONE;
            }
            int before = has(refers[a], b) ? 1 : 0;
            refers[a] = isSo ? refers[a] | 1 << b : refers[a] & ~(1 << b);
            return before;
        }

        int changeLoss(int n) {
            if (n < 0 || n > MAX_LOSS) {
                return BAD;
            }
            int before = lossNow;
            lossNow = n;
            return before;
        }

        int references() {
            int all = 0;
            for (int c = 0; c < size; c++) {
                all += Integer.bitCount(refers[c]);
            }
            return all;
        }

        /** One row of a plan happens. */
        void undergo(int what, int n) {
            if (what == 0) {
                changeLoss(n);
            } else if (what == 1) {
                change(n, 1, 0);
            } else if (what == 2 && isContract(n)) {
                refers[n] = 0;
            } else if (what == 3) {
                for (int c = 0; c < size; c++) {
                    change(c, 2, n);
                }
            }
        }

        void copyFrom(Setup other) {
            System.arraycopy(other.kind, 0, kind, 0, MAX_CONTRACTS);
            System.arraycopy(other.limit, 0, limit, 0, MAX_CONTRACTS);
            System.arraycopy(other.retention, 0, retention, 0, MAX_CONTRACTS);
            System.arraycopy(other.quota, 0, quota, 0, MAX_CONTRACTS);
            System.arraycopy(other.refers, 0, refers, 0, MAX_CONTRACTS);
            size = other.size;
            lossNow = other.lossNow;
        }
    }

    /** Rows of two numbers each that are told by hand. */
    private static final class Rows {
        final int most;
        final int[] first;
        final int[] second;
        int size;

        Rows(int most) {
            this.most = Math.min(most, MAX_ROWS);
            first = new int[MAX_ROWS];
            second = new int[MAX_ROWS];
        }

        int add(int a, int b) {
            if (size >= most) {
                return FULL;
            }
            first[size] = a;
            second[size] = b;
            size++;
            return size;
        }

        int clear() {
            size = 0;
            return 0;
        }

        void copyFrom(Rows other) {
            System.arraycopy(other.first, 0, first, 0, MAX_ROWS);
            System.arraycopy(other.second, 0, second, 0, MAX_ROWS);
            size = other.size;
        }
    }

    /** All that the image holds. */
    private static final class Told {
        final Setup setup;
        final Rows seen;
        final Rows steps;
        final Rows entries;

        Told() {
            setup = new Setup();
            seen = new Rows(MAX_SEEN);
            steps = new Rows(MAX_ROWS);
            entries = new Rows(MAX_ROWS);
        }

        void copyFrom(Told other) {
            setup.copyFrom(other.setup);
            seen.copyFrom(other.seen);
            steps.copyFrom(other.steps);
            entries.copyFrom(other.entries);
        }
    }

    /** The rings of one set-up by rungs, and what they pay; its rows are worked out anew for each question. */
    private static final class Ladder {
        final Setup setup;
        final int[] reach;
        final int[] ringWith;
        final int[] rungOf;
        final int[] ringOf;
        final int[] most;
        final int[] paid;
        final int[] back;
        final int[] ringFirst;
        final int[] ringBits;
        final int[] ringRung;
        final int[] ringLeft;
        final int[] ringPaid;
        int rings;
        int paidInAll;
        int over;

        Ladder(Setup setup) {
            this.setup = setup;
            reach = new int[MAX_CONTRACTS];
            ringWith = new int[MAX_CONTRACTS];
            rungOf = new int[MAX_CONTRACTS];
            ringOf = new int[MAX_CONTRACTS];
            most = new int[MAX_CONTRACTS];
            paid = new int[MAX_CONTRACTS];
            back = new int[MAX_CONTRACTS];
            ringFirst = new int[MAX_CONTRACTS];
            ringBits = new int[MAX_CONTRACTS];
            ringRung = new int[MAX_CONTRACTS];
            ringLeft = new int[MAX_CONTRACTS];
            ringPaid = new int[MAX_CONTRACTS];
        }

        void settle() {
            build();
            payAt(setup.lossNow);
        }

        void build() {
            findReach();
            findRings();
            findRungs();
            orderRings();
        }

        private void findReach() {
            for (int c = 0; c < setup.size; c++) {
                reach[c] = setup.refers[c];
            }
            for (int between = 0; between < setup.size; between++) {
                for (int c = 0; c < setup.size; c++) {
                    if (has(reach[c], between)) {
                        reach[c] |= reach[between];
                    }
                }
            }
        }

        private void findRings() {
            for (int c = 0; c < setup.size; c++) {
                int bits = 1 << c;
                for (int d = 0; d < setup.size; d++) {
                    if (has(reach[c], d) && has(reach[d], c)) {
                        bits |= 1 << d;
                    }
                }
                ringWith[c] = bits;
            }
        }

        /** A rung is at most one less than the number of contracts, so as many rounds settle all. */
        private void findRungs() {
            for (int c = 0; c < setup.size; c++) {
                rungOf[c] = 0;
            }
            for (int round = 0; round < setup.size; round++) {
                for (int c = 0; c < setup.size; c++) {
                    rungOf[c] = rungAbove(outside(ringWith[c]));
                }
            }
        }

        /** Bits of the contracts outside a ring to which one of it refers. */
        private int outside(int ring) {
            int bits = 0;
            for (int c = 0; c < setup.size; c++) {
                if (has(ring, c)) {
                    bits |= setup.refers[c];
                }
            }
            return bits & ~ring;
        }

        private int rungAbove(int bits) {
            int rung = 0;
            for (int c = 0; c < setup.size; c++) {
                if (has(bits, c)) {
                    rung = Math.max(rung, rungOf[c] + 1);
                }
            }
            return rung;
        }

        private void orderRings() {
            rings = 0;
            for (int rung = 0; rung < setup.size; rung++) {
                for (int c = 0; c < setup.size; c++) {
                    boolean isLeast = (ringWith[c] & (1 << c) - 1) == 0;
                    if (isLeast && rungOf[c] == rung && rings < MAX_CONTRACTS) {
                        ringFirst[rings] = c;
                        ringBits[rings] = ringWith[c];
                        ringRung[rings] = rung;
                        rings++;
                    }
                }
            }
            for (int k = 0; k < rings; k++) {
                for (int c = 0; c < setup.size; c++) {
                    if (has(ringBits[k], c)) {
                        ringOf[c] = k;
                    }
                }
            }
        }

        /** The rings that were built last pay this loss. */
        void payAt(int loss) {
            int left = loss;
            for (int k = 0; k < rings; k++) {
                ringLeft[k] = left;
                ringPaid[k] = isAlone(ringFirst[k]) ? payAlone(ringFirst[k], left) : payByTurns(ringBits[k], left);
                left -= ringPaid[k];
            }
            paidInAll = loss - left;
            over = left;
        }

        private int payAlone(int c, int left) {
            paid[c] = isEscaped(c) ? 0 : mostOf(c, left);
            return paid[c];
        }

        private int payByTurns(int bits, int left) {
            for (int c = 0; c < setup.size; c++) {
                if (has(bits, c)) {
                    most[c] = mostOf(c, left);
                }
            }
            return deal(left, bits, most, paid);
        }

        private boolean isAlone(int c) {
            return ringWith[c] == 1 << c;
        }

        /** All that one alone refers to stands on lower rungs, so that has been paid by now. */
        private boolean isEscaped(int c) {
            return setup.kind[c] == ESCAPE && isAlone(c) && firstPayer(setup.refers[c]) != ABSENT;
        }

        private int firstPayer(int bits) {
            for (int c = 0; c < setup.size; c++) {
                if (has(bits, c) && paid[c] > 0) {
                    return c;
                }
            }
            return ABSENT;
        }

        private int shareOf(int c, int left) {
            return setup.kind[c] == PART ? left * setup.quota[c] / WHOLE_QUOTA : left;
        }

        private int mostOf(int c, int left) {
            int share = shareOf(c, left);
            if (share <= setup.retention[c]) {
                return 0;
            }
            int wanted = setup.kind[c] == WHOLE ? left : share - setup.retention[c];
            return Math.min(wanted, setup.limit[c]);
        }

        /**
         * Deals an amount by ones, in turn by numbers, to those of bits that have not had their cap: how much
         * was dealt. Whole rounds are dealt at once, since nobody drops out till the least of the caps is had.
         */
        private int deal(int amount, int bits, int[] caps, int[] had) {
            for (int c = 0; c < setup.size; c++) {
                if (has(bits, c)) {
                    had[c] = 0;
                }
            }
            int rest = amount;
            // each turn closes one contract at least, or deals all the rest
            for (int turn = 0; turn < MAX_CONTRACTS && rest > 0; turn++) {
                int open = openOnes(bits, caps, had);
                int takers = Integer.bitCount(open);
                if (takers == 0) {
                    break;
                }
                int rounds = Math.min(leastRoom(open, caps, had), rest / takers);
                int ones = rounds == rest / takers ? rest % takers : 0;
                for (int c = 0; c < setup.size; c++) {
                    if (has(open, c)) {
                        int one = ones > 0 && had[c] + rounds < caps[c] ? 1 : 0;
                        had[c] += rounds + one;
                        rest -= rounds + one;
                        ones -= one;
                    }
                }
            }
            return amount - rest;
        }

        private int openOnes(int bits, int[] caps, int[] had) {
            int open = 0;
            for (int c = 0; c < setup.size; c++) {
                if (has(bits, c) && had[c] < caps[c]) {
                    open |= 1 << c;
                }
            }
            return open;
        }

        private int leastRoom(int open, int[] caps, int[] had) {
            int room = Integer.MAX_VALUE;
            for (int c = 0; c < setup.size; c++) {
                if (has(open, c)) {
                    room = Math.min(room, caps[c] - had[c]);
                }
            }
            return room;
        }

        void giveBack(int n) {
            int rest = n;
            for (int k = rings - 1; k >= 0; k--) {
                rest -= deal(rest, ringBits[k], paid, back);
            }
        }

        int ringsOfSeveral() {
            int several = 0;
            for (int k = 0; k < rings; k++) {
                several += Integer.bitCount(ringBits[k]) > 1 ? 1 : 0;
            }
            return several;
        }

        int greatestRung() {
            return rings == 0 ? ABSENT : ringRung[rings - 1];
        }

        int payers() {
            int all = 0;
            for (int c = 0; c < setup.size; c++) {
                all += paid[c] > 0 ? 1 : 0;
            }
            return all;
        }

        /** The number of the first row that is paid otherwise, or ABSENT. */
        int firstOtherwise(Rows rows) {
            for (int row = 0; row < rows.size; row++) {
                int c = rows.first[row];
                if (!setup.isContract(c) || paid[c] != rows.second[row]) {
                    return row;
                }
            }
            return ABSENT;
        }

        /** The number of why a contract pays no more. */
        int reason(int c) {
            int left = ringLeft[ringOf[c]];
            if (left == 0) {
                return 1;
            }
            if (paid[c] >= left) {
                return 0;
            }
            if (isEscaped(c)) {
                return 2;
            }
            if (shareOf(c, left) <= setup.retention[c]) {
                return 3;
            }
            if (paid[c] == setup.limit[c]) {
                return 4;
            }
            return isAlone(c) ? 6 : 5;
        }

        int cause(int c, int reason) {
            int left = ringLeft[ringOf[c]];
            switch (reason) {
                case 1: return lastPayerAhead(ringOf[c]);
                case 2: return firstPayer(setup.refers[c]);
                case 3: return shareOf(c, left);
                case 4: return setup.limit[c];
                case 5: return ringWith[c];
                case 6: return left - paid[c];
                default: return ABSENT;
            }
        }

        int causeBehind(int c, int reason) {
            switch (reason) {
                case 1:
                case 2:
                    int payer = cause(c, reason);
                    return setup.isContract(payer) ? paid[payer] : 0;
                case 3: return setup.retention[c];
                case 5: return ringPaid[ringOf[c]];
                default: return ABSENT;
            }
        }

        /** Where nothing is left and nobody ahead has paid, there was no loss. */
        private int lastPayerAhead(int place) {
            for (int k = place - 1; k >= 0; k--) {
                for (int c = setup.size - 1; c >= 0; c--) {
                    if (has(ringBits[k], c) && paid[c] > 0) {
                        return c;
                    }
                }
            }
            return NO_LOSS_CAUSE;
        }
    }

    /** The text of a set-up, and the clauses that were read from it last. */
    private static final class Script {
        final byte[] signs;
        final int[] letters;
        final int[] numbers;
        int length;
        int clauses;
        private int at;

        Script() {
            signs = new byte[MAX_TEXT];
            letters = new int[MAX_CLAUSES];
            numbers = new int[MAX_CLAUSES * CLAUSE_NUMBERS];
        }

        int append(int sign) {
            if (sign < 0 || sign > MAX_SIGN) {
                return BAD;
            }
            if (length >= MAX_TEXT) {
                return FULL;
            }
            signs[length] = (byte) sign;
            length++;
            return length;
        }

        void clear() {
            length = 0;
        }

        /** Reads all clauses: the place of the fault, or ABSENT. */
        int parse() {
            at = 0;
            clauses = 0;
            for (int row = 0; row < MAX_CLAUSES; row++) {
                if (!takeClause(row)) {
                    return at;
                }
                clauses++;
                if (at == length) {
                    return ABSENT;
                }
                // behind the last clause that may be, no text goes on
                if (clauses == MAX_CLAUSES || !takeSign(';')) {
                    return at;
                }
            }
            return at;
        }

        private boolean takeClause(int row) {
            int letter = at < length ? signs[at] : 0;
            int slot = row * CLAUSE_NUMBERS;
            letters[row] = letter;
            switch (letter) {
                case 'c':
                    at++;
                    return takeNumber(slot, 1) && takeNumber(slot + 1, 2)
                        && takeSign(',') && takeNumber(slot + 2, 2);
                case 'r':
                case 'n':
                    at++;
                    return takeNumber(slot, 1) && takeNumber(slot + 1, 1);
                case 'q':
                    at++;
                    return takeNumber(slot, 1) && takeNumber(slot + 1, 3);
                case 'l':
                    at++;
                    return takeNumber(slot, 3);
                default:
                    return false;
            }
        }

        private boolean takeSign(int sign) {
            if (at < length && signs[at] == sign) {
                at++;
                return true;
            }
            return false;
        }

        /** Takes one digit at least and as many as may be. */
        private boolean takeNumber(int slot, int digits) {
            int value = 0;
            int had = 0;
            for (int d = 0; d < digits && at < length && signs[at] >= '0' && signs[at] <= '9'; d++) {
                value = value * 10 + (signs[at] - '0');
                at++;
                had++;
            }
            if (had == 0 || slot < 0 || slot >= numbers.length) {
                return false;
            }
            numbers[slot] = value;
            return true;
        }

        /** Does one clause that was read: below 0 if it is refused. */
        int perform(int row, Setup setup) {
            if (row < 0 || row >= clauses) {
                return NONE;
            }
            int slot = row * CLAUSE_NUMBERS;
            int a = numbers[slot];
            int b = numbers[slot + 1];
            switch (letters[row]) {
                case 'c': return setup.addContract(a, b, numbers[slot + 2]);
                case 'r': return setup.link(a, b, true);
                case 'n': return setup.link(a, b, false);
                case 'q': return setup.change(a, 3, b);
                case 'l': return setup.changeLoss(a);
                default: return NONE;
            }
        }
    }

    /** A row of items of one sort; longs hold every sort, cut to its bits as they come. */
    private static final class Tape {
        final long[] items;
        int sort;
        int length;

        Tape() {
            items = new long[MAX_TAPE];
            sort = NO_SORT;
        }

        boolean holds() {
            return sort != NO_SORT;
        }

        void become(int newSort, int n) {
            sort = newSort;
            length = Math.max(0, Math.min(n, MAX_TAPE));
            for (int i = 0; i < MAX_TAPE; i++) {
                items[i] = 0;
            }
        }

        boolean hasPlace(int i) {
            return i >= 0 && i < length;
        }

        boolean hasStretch(int i, int n) {
            return i >= 0 && n >= 0 && n <= length && i <= length - n;
        }
    }
}
