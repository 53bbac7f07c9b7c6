import java.util.ArrayList;
import java.util.List;
import java.util.Random;
import java.util.TreeSet;
import java.util.regex.Matcher;
import java.util.regex.Pattern;

/** Runs of mixed calls, each answered by the class and by a slow model that keeps to the document's words. */
public final class ClaimLadderAgainstModel {
    private static final int RUNS = 3000, CALLS = 512;
    private static final String[] NAMES = {"contract", "renew", "refer", "loss", "of", "feed", "read", "ring", "pays",
        "told", "why", "net", "more", "from", "see", "fits", "odds", "mean", "plan", "ends", "book", "looked", "judge",
        "image", "undo", "count", "tape", "item", "peek", "shift"};

    public static void main(String[] args) {
        long[] asked = new long[NAMES.length];
        for (int run = 0; run < RUNS; run++) {
            Random random = new Random(run);
            ClaimLadder real = new ClaimLadder();
            Model model = new Model();
            List<String> story = new ArrayList<>();
            for (int call = 0; call < CALLS; call++) {
                int name = pick(random);
                String sign = name == 5 ? text(random) : "";
                long[] a = arguments(random, name, model);
                long got = name == 5 ? feed(real, sign) : ask(real, name, a);
                long want = name == 5 ? model.feed(sign) : model.answer(name, a);
                story.add(NAMES[name] + " " + java.util.Arrays.toString(a) + sign + " " + got);
                asked[name]++;
                if (got != want) {
                    System.out.println("run " + run + ", due is " + want + ":\n" + String.join("\n", story));
                    System.exit(1);
                }
            }
        }
        System.out.println(RUNS + " runs as the model answers; calls " + java.util.Arrays.toString(asked));
    }

    /** What changes a set-up comes seldom enough for questions to be asked of each. */
    private static int pick(Random random) {
        int name = random.nextInt(NAMES.length);
        if (name == 24 && random.nextInt(3) != 0) {
            return 9;
        }
        return random.nextInt(12) == 0 ? 2 : name;
    }

    private static long feed(ClaimLadder real, String text) {
        long last = 0;
        for (int i = 0; i < text.length(); i++) {
            last = real.feed(text.charAt(i));
        }
        return last;
    }

    private static String text(Random random) {
        StringBuilder text = new StringBuilder();
        int clauses = random.nextInt(8) == 0 ? 10 + random.nextInt(5) : 1 + random.nextInt(4);
        for (int n = 0; n < clauses; n++) {
            text.append(n == 0 ? "" : ";").append(clause(random));
        }
        if (random.nextInt(4) == 0) {
            int at = random.nextInt(text.length());
            text.setCharAt(at, "crnql;,0123456789 \0\u007f\u0080".charAt(random.nextInt(21)));
        }
        if (random.nextInt(8) == 0) {
            text.setLength(random.nextInt(text.length() + 1));
        }
        return text.toString();
    }

    private static String clause(Random random) {
        switch (random.nextInt(6)) {
            case 0: return "c" + random.nextInt(5) + random.nextInt(100) + "," + random.nextInt(23);
            case 1: return "n" + random.nextInt(7) + random.nextInt(7);
            case 2: return "q" + random.nextInt(6) + random.nextInt(105);
            case 3: return "l" + random.nextInt(320);
            default: return "r" + random.nextInt(6) + random.nextInt(6);
        }
    }

    private static int near(Random random, int least, int greatest) {
        int odd = random.nextInt(60);
        if (odd == 0) {
            return Integer.MIN_VALUE + random.nextInt(2);
        }
        if (odd == 1) {
            return Integer.MAX_VALUE - random.nextInt(2);
        }
        return odd < 6 ? least - 1 + random.nextInt(greatest - least + 3)
            : odd < 8 ? greatest + 1 : least + random.nextInt(greatest - least + 1);
    }

    private static int amount(Random random, Model model, long contract) {
        if (model.isContract(contract) && random.nextBoolean()) {
            return model.pay(model.loss)[(int) contract];
        }
        return near(random, 0, 99);
    }

    private static long[] arguments(Random random, int name, Model model) {
        int c = near(random, 0, Math.max(0, model.contracts.size() - 1));
        switch (name) {
            case 0: return new long[] {near(random, 0, 3), near(random, 0, random.nextBoolean() ? 99 : 12),
                near(random, 0, random.nextBoolean() ? 20 : 3)};
            case 1: {
                int what = near(random, 0, 3);
                int most = what == 0 ? 3 : what == 1 ? 99 : what == 2 ? 20 : 100;
                return new long[] {c, what, near(random, what == 3 ? 1 : 0, most)};
            }
            case 2: return new long[] {c, near(random, 0, 5), random.nextInt(3) == 0 ? 0 : 1};
            case 3: return new long[] {near(random, 0, random.nextBoolean() ? 300 : 40)};
            case 4: return new long[] {c, near(random, 0, 9)};
            case 7: return new long[] {near(random, 0, 5), near(random, 0, 3)};
            case 8: case 12: case 13: return new long[] {c};
            case 9: return new long[] {near(random, 0, 8)};
            case 10: return new long[] {c, near(random, 0, 3)};
            case 11: return new long[] {c, near(random, 0, random.nextBoolean() ? 999 : 50)};
            case 14: case 20: return new long[] {c, amount(random, model, c)};
            case 15: return new long[] {near(random, 0, 1)};
            case 16: return new long[] {c, near(random, 0, 1)};
            case 17: return new long[] {near(random, 0, 1)};
            case 18: {
                int what = near(random, 0, 3);
                return new long[] {what, what == 0 ? near(random, 0, 300) : what == 3 ? near(random, 0, 20) : c};
            }
            case 19: return new long[] {near(random, 0, 2)};
            case 22: return new long[] {near(random, 0, 5), near(random, 0, 5)};
            case 25: return new long[] {near(random, 0, 3)};
            case 26: return new long[] {near(random, 0, 5), random.nextBoolean() ? 3 : near(random, 0, 4),
                near(random, 0, random.nextBoolean() ? 60 : 8)};
            case 27: {
                int i = near(random, 0, 8);
                long v = random.nextBoolean() ? random.nextLong() : amount(random, model, i);
                return new long[] {near(random, 0, 5), i, v};
            }
            case 28: return new long[] {near(random, 0, 5), near(random, 0, 8)};
            case 29: return new long[] {near(random, 0, 5), near(random, 0, 6), near(random, 0, 5),
                near(random, 0, 6), near(random, 0, 6)};
            default: return new long[0];
        }
    }

    private static long ask(ClaimLadder x, int name, long[] v) {
        int[] a = new int[5];
        for (int i = 0; i < v.length; i++) {
            a[i] = (int) v[i];
        }
        switch (name) {
            case 0: return x.contract(a[0], a[1], a[2]);
            case 1: return x.renew(a[0], a[1], a[2]);
            case 2: return x.refer(a[0], a[1], a[2] != 0);
            case 3: return x.loss(a[0]);
            case 4: return x.of(a[0], a[1]);
            case 6: return x.read();
            case 7: return x.ring(a[0], a[1]);
            case 8: return x.pays(a[0]);
            case 9: return x.told(a[0]);
            case 10: return x.why(a[0], a[1]);
            case 11: return x.net(a[0], a[1]);
            case 12: return x.more(a[0]);
            case 13: return x.from(a[0]);
            case 14: return x.see(a[0], a[1]);
            case 15: return x.fits(a[0]);
            case 16: return x.odds(a[0], a[1]);
            case 17: return x.mean(a[0]);
            case 18: return x.plan(a[0], a[1]);
            case 19: return x.ends(a[0]);
            case 20: return x.book(a[0], a[1]);
            case 21: return x.looked();
            case 22: return x.judge(a[0], a[1]);
            case 23: return x.image();
            case 24: return x.undo();
            case 25: return x.count(a[0]);
            case 26: return x.tape(a[0], a[1], a[2]);
            case 27: return x.item(a[0], a[1], v[2]);
            case 28: return x.peek(a[0], a[1]);
            default: return x.shift(a[0], a[1], a[2], a[3], a[4]);
        }
    }

    /** A contract: kind, limit, retention, quota, and those to which it refers. */
    private static final class Contract {
        final int[] term = new int[4];
        final TreeSet<Integer> refers = new TreeSet<>();

        Contract copy() {
            Contract c = new Contract();
            System.arraycopy(term, 0, c.term, 0, 4);
            c.refers.addAll(refers);
            return c;
        }
    }

    private static final class Model {
        private static final Pattern TEXT;

        static {
            String clause = "(?:c[0-9][0-9]{1,2},[0-9]{1,2}|[rn][0-9][0-9]|q[0-9][0-9]{1,3}|l[0-9]{1,3})";
            TEXT = Pattern.compile(clause + "(?:;" + clause + "){0,11}");
        }

        List<Contract> contracts = new ArrayList<>();
        int loss = 0;
        List<long[]> seen = new ArrayList<>();
        List<long[]> plan = new ArrayList<>();
        List<long[]> book = new ArrayList<>();
        Model image = null;
        StringBuilder text = new StringBuilder();
        final Object[] tapes = new Object[6];

        Model copy() {
            Model m = new Model();
            for (Contract c : contracts) {
                m.contracts.add(c.copy());
            }
            m.loss = loss;
            m.seen.addAll(seen);
            m.plan.addAll(plan);
            m.book.addAll(book);
            return m;
        }

        boolean isContract(long c) {
            return c >= 0 && c < contracts.size();
        }

        private static boolean in(long v, int least, int greatest) {
            return least <= v && v <= greatest;
        }

        private static boolean isTerm(long what, long v) {
            return what == 0 ? in(v, 0, 3) : what == 1 ? in(v, 0, 99) : what == 2 ? in(v, 0, 20) : in(v, 1, 100);
        }

        boolean reaches(int a, int b) {
            TreeSet<Integer> known = new TreeSet<>(contracts.get(a).refers);
            List<Integer> open = new ArrayList<>(known);
            while (!open.isEmpty()) {
                for (int next : contracts.get(open.remove(0)).refers) {
                    if (known.add(next)) {
                        open.add(next);
                    }
                }
            }
            return known.contains(b);
        }

        TreeSet<Integer> ringOf(int c) {
            TreeSet<Integer> ring = new TreeSet<>();
            ring.add(c);
            for (int d = 0; d < contracts.size(); d++) {
                if (reaches(c, d) && reaches(d, c)) {
                    ring.add(d);
                }
            }
            return ring;
        }

        int rung(TreeSet<Integer> ring) {
            int rung = 0;
            for (int c : ring) {
                for (int d : contracts.get(c).refers) {
                    if (!ring.contains(d)) {
                        rung = Math.max(rung, 1 + rung(ringOf(d)));
                    }
                }
            }
            return rung;
        }

        List<TreeSet<Integer>> ladder() {
            List<TreeSet<Integer>> rings = new ArrayList<>();
            for (int c = 0; c < contracts.size(); c++) {
                TreeSet<Integer> ring = ringOf(c);
                if (ring.first() == c) {
                    rings.add(ring);
                }
            }
            rings.sort((a, b) -> rung(a) != rung(b) ? Integer.compare(rung(a), rung(b))
                : Integer.compare(a.first(), b.first()));
            return rings;
        }

        static int bits(Iterable<Integer> some) {
            int bits = 0;
            for (int c : some) {
                bits += (int) Math.pow(2, c);
            }
            return bits;
        }

        private static int plain(int left, int limit, int retention) {
            return Math.max(0, Math.min(limit, left - retention));
        }

        int quotaOf(int c, int left) {
            int[] t = contracts.get(c).term;
            return t[0] == 1 ? (int) Math.floor(left * t[3] / 100.0 + 1e-9) : left;
        }

        int asAlone(int c, int left) {
            int[] t = contracts.get(c).term;
            if (t[0] == 3) {
                return plain(left, t[1], t[2]) > 0 ? Math.min(left, t[1]) : 0;
            }
            return plain(quotaOf(c, left), t[1], t[2]);
        }

        private List<TreeSet<Integer>> kept = null;
        private String keptFor = "";

        /** The rings stay the same while nothing refers otherwise. */
        List<TreeSet<Integer>> rings() {
            StringBuilder now = new StringBuilder();
            for (Contract c : contracts) {
                now.append(c.refers).append('/');
            }
            if (kept == null || !keptFor.equals(now.toString())) {
                kept = ladder();
                keptFor = now.toString();
            }
            return kept;
        }

        int[] pay(int loss) {
            int[] pays = new int[contracts.size()];
            int left = loss;
            for (TreeSet<Integer> ring : rings()) {
                int paid = 0;
                if (ring.size() == 1) {
                    int c = ring.first();
                    boolean escapes = false;
                    for (int d : contracts.get(c).refers) {
                        escapes |= contracts.get(c).term[0] == 2 && pays[d] > 0;
                    }
                    pays[c] = escapes ? 0 : asAlone(c, left);
                    paid = pays[c];
                } else {
                    int[] most = new int[contracts.size()];
                    for (int c : ring) {
                        most[c] = asAlone(c, left);
                    }
                    paid = byTurns(ring, left, most, pays);
                }
                left -= paid;
            }
            return pays;
        }

        static int byTurns(TreeSet<Integer> ring, int amount, int[] most, int[] had) {
            int given = 0;
            boolean one = true;
            while (one) {
                one = false;
                for (int c : ring) {
                    if (given < amount && had[c] < most[c]) {
                        had[c]++;
                        given++;
                        one = true;
                    }
                }
            }
            return given;
        }

        static int sum(int[] row) {
            int sum = 0;
            for (int v : row) {
                sum += v;
            }
            return sum;
        }

        int left(TreeSet<Integer> ring) {
            int[] pays = pay(loss);
            int left = loss;
            for (TreeSet<Integer> r : rings()) {
                if (r.equals(ring)) {
                    break;
                }
                left -= paidBy(r, pays);
            }
            return left;
        }

        static int paidBy(TreeSet<Integer> ring, int[] pays) {
            int paid = 0;
            for (int c : ring) {
                paid += pays[c];
            }
            return paid;
        }

        static long payers(int[] pays) {
            long n = 0;
            for (int v : pays) {
                n += v > 0 ? 1 : 0;
            }
            return n;
        }

        /** The number, and one cause behind the other. */
        int[] why(int c) {
            TreeSet<Integer> ring = ringOf(c);
            int[] pays = pay(loss);
            int[] t = contracts.get(c).term;
            int left = left(ring);
            if (left == 0) {
                if (loss == 0) {
                    return new int[] {1, 99, 0};
                }
                int last = -1;
                for (TreeSet<Integer> r : rings()) {
                    if (r.equals(ring)) {
                        break;
                    }
                    for (int d : r) {
                        last = pays[d] > 0 ? d : last;
                    }
                }
                return new int[] {1, last, pays[last]};
            }
            if (pays[c] >= left) {
                return new int[] {0};
            }
            if (t[0] == 2 && ring.size() == 1) {
                for (int d : contracts.get(c).refers) {
                    if (pays[d] > 0) {
                        return new int[] {2, d, pays[d]};
                    }
                }
            }
            if (quotaOf(c, left) <= t[2]) {
                return new int[] {3, quotaOf(c, left), t[2]};
            }
            if (pays[c] == t[1]) {
                return new int[] {4, t[1]};
            }
            return ring.size() > 1 ? new int[] {5, bits(ring), paidBy(ring, pays)} : new int[] {6, left - pays[c]};
        }

        int net(int c, int n) {
            int[] pays = pay(loss);
            int[] back = new int[pays.length];
            int rest = n;
            List<TreeSet<Integer>> rings = rings();
            for (int k = rings.size() - 1; k >= 0; k--) {
                rest -= byTurns(rings.get(k), rest, pays, back);
            }
            return pays[c] - back[c];
        }

        static long lowest(long above, long below, long part) {
            if (part != 0 && part != 1) {
                return Long.MIN_VALUE;
            }
            for (long d = below; d > 1; d--) {
                if (above % d == 0 && below % d == 0) {
                    return part == 0 ? above / d : below / d;
                }
            }
            return part == 0 ? above : below;
        }

        long add(List<long[]> rows, int most, long a, long b) {
            if (rows.size() == most) {
                return -4;
            }
            rows.add(new long[] {a, b});
            return rows.size();
        }

        long amountRow(List<long[]> rows, int most, long c, long n) {
            if (c == -1) {
                rows.clear();
                return 0;
            }
            return !isContract(c) ? -1 : !in(n, 0, 99) ? -2 : add(rows, most, c, n);
        }

        static int firstOtherwise(List<long[]> rows, int[] pays) {
            for (int i = 0; i < rows.size(); i++) {
                if (pays[(int) rows.get(i)[0]] != rows.get(i)[1]) {
                    return i;
                }
            }
            return -5;
        }

        long fits(long what) {
            TreeSet<Integer> losses = new TreeSet<>();
            for (int n = 0; n <= 300; n++) {
                if (firstOtherwise(seen, pay(n)) == -5) {
                    losses.add(n);
                }
            }
            return what == 0 ? losses.size() : what == 1 ? losses.isEmpty() ? -5 : losses.first() : -1;
        }

        long planRow(long what, long n) {
            if (what == -1) {
                plan.clear();
                return 0;
            }
            if (!in(what, 0, 3) || (what == 1 || what == 2) && !isContract(n)) {
                return -1;
            }
            if (what == 0 && !in(n, 0, 300) || what == 3 && !in(n, 0, 20)) {
                return -2;
            }
            return add(plan, 8, what, n);
        }

        long ends(long what) {
            Model m = copy();
            for (long[] row : plan) {
                int n = (int) row[1];
                if (row[0] == 0) {
                    m.loss = n;
                } else if (row[0] == 1) {
                    m.contracts.get(n).term[1] = 0;
                } else if (row[0] == 2) {
                    m.contracts.get(n).refers.clear();
                } else {
                    m.contracts.forEach(c -> c.term[2] = n);
                }
            }
            int paid = sum(m.pay(m.loss));
            return what == 0 ? paid : what == 1 ? m.loss - paid : what == 2 ? m.ladder().size() : -1;
        }

        long feed(String more) {
            long last = 0;
            for (char sign : more.toCharArray()) {
                last = sign > 127 ? -2 : text.length() == 100 ? -4 : text.append(sign).length();
            }
            return last;
        }

        long read() {
            String t = text.toString();
            text = new StringBuilder();
            if (!TEXT.matcher(t).matches()) {
                for (int at = 0; at < t.length(); at++) {
                    Matcher m = TEXT.matcher(t.substring(0, at + 1));
                    if (!m.matches() && !m.hitEnd()) {
                        return -10 - at;
                    }
                }
                return -10 - t.length();
            }
            int done = 0;
            for (String clause : t.split(";")) {
                done += perform(clause) >= 0 ? 1 : 0;
            }
            return done;
        }

        private long perform(String clause) {
            long a = clause.charAt(0) == 'l' ? Long.parseLong(clause.substring(1)) : clause.charAt(1) - '0';
            if (clause.charAt(0) == 'c') {
                String[] parts = clause.substring(2).split(",");
                return answer(0, new long[] {a, Long.parseLong(parts[0]), Long.parseLong(parts[1])});
            }
            if (clause.charAt(0) == 'l') {
                return answer(3, new long[] {a});
            }
            long b = Long.parseLong(clause.substring(2));
            if (clause.charAt(0) == 'q') {
                return answer(1, new long[] {a, 3, b});
            }
            return answer(2, new long[] {a, b, clause.charAt(0) == 'r' ? 1 : 0});
        }

        private long contract(long[] a) {
            if (!isTerm(0, a[0]) || !isTerm(1, a[1]) || !isTerm(2, a[2])) {
                return -2;
            }
            if (contracts.size() == 6) {
                return -4;
            }
            Contract c = new Contract();
            for (int i = 0; i < 3; i++) {
                c.term[i] = (int) a[i];
            }
            c.term[3] = 100;
            contracts.add(c);
            return contracts.size() - 1;
        }

        private long of(int c, long what) {
            TreeSet<Integer> reached = new TreeSet<>();
            for (int d = 0; d < contracts.size(); d++) {
                if (d != c && reaches(c, d)) {
                    reached.add(d);
                }
            }
            if (in(what, 0, 3)) {
                return contracts.get(c).term[(int) what];
            }
            return what == 4 ? bits(contracts.get(c).refers) : what == 5 ? bits(reached) : what == 6 ? bits(ringOf(c))
                : what == 7 ? rung(ringOf(c)) : what == 8 ? left(ringOf(c)) : what == 9 ? pay(loss)[c] : -1;
        }

        private long told(long what) {
            int[] pays = pay(loss);
            List<TreeSet<Integer>> rings = ladder();
            if (!in(what, 0, 8)) {
                return -1;
            }
            switch ((int) what) {
                case 0: return contracts.size();
                case 1: return loss;
                case 2: return sum(pays);
                case 3: return loss - sum(pays);
                case 4: return rings.size();
                case 5: return rings.stream().filter(r -> r.size() > 1).count();
                case 6: return rings.stream().mapToInt(this::rung).max().orElse(-5);
                case 7: return payers(pays);
                default: return contracts.stream().mapToInt(c -> c.refers.size()).sum();
            }
        }

        private long ring(long k, long what) {
            List<TreeSet<Integer>> rings = ladder();
            if (k < 0 || k >= rings.size()) {
                return -1;
            }
            TreeSet<Integer> r = rings.get((int) k);
            return what == 0 ? bits(r) : what == 1 ? rung(r) : what == 2 ? left(r)
                : what == 3 ? paidBy(r, pay(loss)) : -1;
        }

        private long from(int c) {
            for (int n = 0; n <= 300; n++) {
                if (pay(n)[c] > 0) {
                    return n;
                }
            }
            return -5;
        }

        private long odds(int c, long part) {
            int good = 0;
            for (int n = 10; n <= 100; n += 10) {
                good += pay(n)[c] > 0 ? 1 : 0;
            }
            return lowest(good, 10, part);
        }

        long answer(int name, long[] a) {
            boolean first = a.length > 0 && isContract(a[0]);
            int c = first ? (int) a[0] : 0;
            switch (name) {
                case 0: return contract(a);
                case 1: {
                    if (!first || !in(a[1], 0, 3)) {
                        return -1;
                    }
                    if (!isTerm(a[1], a[2])) {
                        return -2;
                    }
                    int was = contracts.get(c).term[(int) a[1]];
                    contracts.get(c).term[(int) a[1]] = (int) a[2];
                    return was;
                }
                case 2: {
                    if (!first || !isContract(a[1]) || a[0] == a[1]) {
                        return -1;
                    }
                    TreeSet<Integer> refers = contracts.get(c).refers;
                    int d = (int) a[1];
                    return (a[2] != 0 ? !refers.add(d) : refers.remove(d)) ? 1 : 0;
                }
                case 3: {
                    int was = loss;
                    loss = in(a[0], 0, 300) ? (int) a[0] : loss;
                    return in(a[0], 0, 300) ? was : -2;
                }
                case 4: return first ? of(c, a[1]) : -1;
                case 6: return read();
                case 7: return ring(a[0], a[1]);
                case 8: return first ? pay(loss)[c] : -1;
                case 9: return told(a[0]);
                case 10: {
                    if (!first || a[1] < 0) {
                        return -1;
                    }
                    int[] why = why(c);
                    return a[1] < why.length ? why[(int) a[1]] : -5;
                }
                case 11: return !first ? -1 : in(a[1], 0, 999) ? net(c, (int) a[1]) : -2;
                case 12: return first ? pay(loss + 1)[c] - pay(loss)[c] : Long.MIN_VALUE;
                case 13: return first ? from(c) : -1;
                case 14: return amountRow(seen, 5, a[0], a[1]);
                case 15: return fits(a[0]);
                case 16: return first ? odds(c, a[1]) : Long.MIN_VALUE;
                case 17: return payers(pay(loss)) == 0 ? Long.MIN_VALUE
                    : lowest(sum(pay(loss)), payers(pay(loss)), a[0]);
                case 18: return planRow(a[0], a[1]);
                case 19: return ends(a[0]);
                case 20: return amountRow(book, 8, a[0], a[1]);
                case 21: return firstOtherwise(book, pay(loss));
                case 23:
                    image = copy();
                    return contracts.size();
                case 24: return undo();
                case 25: return !in(a[0], 0, 3) ? -2 : a[0] == 0 ? seen.size() : a[0] == 1 ? plan.size()
                    : a[0] == 2 ? book.size() : text.length();
                default: return tapes(name, a);
            }
        }

        private long undo() {
            if (image == null) {
                return -3;
            }
            Model m = image.copy();
            contracts = m.contracts;
            loss = m.loss;
            seen = m.seen;
            plan = m.plan;
            book = m.book;
            return contracts.size();
        }

        private static int length(Object row) {
            return java.lang.reflect.Array.getLength(row);
        }

        private long tapes(int name, long[] a) {
            if (!in(a[0], 0, 5)) {
                return name == 28 ? Long.MIN_VALUE : -1;
            }
            int t = (int) a[0];
            Object row = tapes[t];
            switch (name) {
                case 22: return judge(row, a[1]);
                case 26: return make(t, a[1], a[2]);
                case 27:
                    return row == null ? -11 : !in(a[1], 0, length(row) - 1) ? -13 : put(row, (int) a[1], a[2]);
                case 28:
                    return row == null || !in(a[1], 0, length(row) - 1) ? Long.MIN_VALUE : get(row, (int) a[1]);
                default: return shift(row, a);
            }
        }

        private long shift(Object row, long[] a) {
            if (!in(a[2], 0, 5)) {
                return -1;
            }
            Object other = tapes[(int) a[2]];
            if (row == null || other == null) {
                return -11;
            }
            if (row.getClass() != other.getClass()) {
                return -12;
            }
            if (a[4] < 0 || a[1] < 0 || a[3] < 0 || a[1] + a[4] > length(row) || a[3] + a[4] > length(other)) {
                return -13;
            }
            System.arraycopy(row, (int) a[1], other, (int) a[3], (int) a[4]);
            return a[4];
        }

        private long judge(Object row, long i) {
            if (row != null && !(row instanceof long[])) {
                return -12;
            }
            if (contracts.isEmpty()) {
                return -5;
            }
            if (row == null || i < 0) {
                return 100;
            }
            int[] pays = pay(loss);
            for (int c = 0; c < pays.length; c++) {
                if (i + c >= length(row)) {
                    return 100 + c;
                }
                if (((long[]) row)[(int) i + c] != pays[c]) {
                    return c;
                }
            }
            return -5;
        }

        private long make(int t, long sort, long n) {
            if (!in(sort, -1, 4) || sort != -1 && n > 60) {
                return -2;
            }
            if (sort != -1 && n < 0) {
                return -14;
            }
            int size = sort == -1 ? 0 : (int) n;
            Object[] rows = {null, new byte[size], new short[size], new int[size], new long[size], new boolean[size]};
            tapes[t] = rows[(int) sort + 1];
            return 1;
        }

        private static long put(Object row, int i, long v) {
            if (row instanceof byte[]) {
                ((byte[]) row)[i] = (byte) v;
            } else if (row instanceof short[]) {
                ((short[]) row)[i] = (short) v;
            } else if (row instanceof int[]) {
                ((int[]) row)[i] = (int) v;
            } else if (row instanceof long[]) {
                ((long[]) row)[i] = v;
            } else {
                ((boolean[]) row)[i] = v != 0;
            }
            return 1;
        }

        private static long get(Object row, int i) {
            if (row instanceof boolean[]) {
                return ((boolean[]) row)[i] ? 1 : 0;
            }
            return java.lang.reflect.Array.getLong(row, i);
        }
    }
}
