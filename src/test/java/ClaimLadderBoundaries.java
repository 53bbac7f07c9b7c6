import java.util.ArrayList;
import java.util.Arrays;
import java.util.List;

/**
 * Every sentence of the document that names a boundary (too small, too large, empty, full, a wrap-around, a refused
 * call), each with a test of its own: says(..) quotes the sentence, what stands under it looks at both its sides.
 */
public final class ClaimLadderBoundaries {
    private static final int NONE = -1, BAD = -2, STATE = -3, FULL = -4, ABSENT = -5;
    private static final int NOTHING = -11, CAST = -12, PLACE = -13, SIZE = -14;
    private static final int LEAST = Integer.MIN_VALUE, GREATEST = Integer.MAX_VALUE;
    private static final long NO = Long.MIN_VALUE;
    private static final int PLAIN = 0, PART = 1, ESCAPE = 2, WHOLE = 3;
    private static final int BYTES = 0, SHORTS = 1, INTS = 2, LONGS = 3, BOOLEANS = 4;
    private static final int PROMISES = 31;

    private static final boolean[] tested = new boolean[PROMISES + 1];
    private static int promise = 0;
    private static String sentence = "";
    private static int sentences = 0;
    private static int looks = 0;
    private static int wrong = 0;

    public static void main(String[] args) {
        newObject();
        contractTests();
        renewTests();
        referTests();
        lossTests();
        ofTests();
        feedTests();
        readTests();
        ringTests();
        paysTests();
        toldTests();
        whyTests();
        netTests();
        moreTests();
        fromTests();
        seeTests();
        fitsTests();
        oddsTests();
        meanTests();
        planTests();
        endsTests();
        bookTests();
        lookedTests();
        judgeTests();
        imageTests();
        undoTests();
        countTests();
        tapeTests();
        itemTests();
        peekTests();
        shiftTests();
        askedTests();
        askedFirstTests();
        for (int p = 1; p <= PROMISES; p++) {
            promise = p;
            due("a boundary is tested", tested[p] ? 1 : 0, 1);
        }
        System.out.println(sentences + " boundaries, " + looks + " answers looked at, " + wrong + " not as due");
        if (wrong != 0) {
            System.exit(1);
        }
    }

    // ---- how a boundary is told

    private static void says(int number, String words) {
        promise = number;
        sentence = words;
        sentences++;
        tested[number] = true;
    }

    private static void due(String call, long got, long want) {
        looks++;
        if (got != want) {
            wrong++;
            System.out.println("promise " + promise + " (" + sentence + "): " + call + " answered " + got
                + ", due is " + want);
        }
    }

    private static void dueRow(String calls, long[] got, long... want) {
        looks++;
        if (!Arrays.equals(got, want)) {
            wrong++;
            System.out.println("promise " + promise + " (" + sentence + "): " + calls + " answered "
                + Arrays.toString(got) + ", due are " + Arrays.toString(want));
        }
    }

    private interface Call {
        long on(ClaimLadder x);
    }

    /** A refused call answers so, and leaves its object like one that never had the call. */
    private static void refused(String call, long want, Call c) {
        ClaimLadder x = busy();
        due(call, c.on(x), want);
        sameStory(call, x, busy());
    }

    /** Likewise where nothing more fits in. */
    private static void refusedFull(String call, long want, Call c) {
        ClaimLadder x = full();
        due("full: " + call, c.on(x), want);
        sameStory("full: " + call, x, full());
    }

    private static void sameStory(String call, ClaimLadder x, ClaimLadder untouched) {
        dueRow(call + " (what is asked afterwards)", story(x), story(untouched));
    }

    /** Room is left everywhere; contracts 0 to 3, tapes 0 to 4, tape 5 holds nothing. */
    private static ClaimLadder busy() {
        ClaimLadder x = new ClaimLadder();
        read(x, "c07,1;c016,0;r01;l9");
        x.see(1, 9);
        x.plan(1, 1);
        x.book(0, 3);
        x.image();
        read(x, "c112,3;c225,2;q250;r12;r21;n01;r30;l60");
        x.renew(0, 1, 30);
        x.see(0, 30);
        x.plan(0, 200);
        x.plan(3, 4);
        x.book(1, 16);
        x.book(3, 0);
        for (int t = 0; t < 5; t++) {
            x.tape(t, t, t == BOOLEANS ? 1 : 3);
            x.item(t, 0, 5 + t);
        }
        x.item(3, 2, -9);
        feed(x, "l77");
        return x;
    }

    /** No contract, row or sign more fits in. */
    private static ClaimLadder full() {
        ClaimLadder x = busy();
        read(x, "");
        x.contract(PLAIN, 5, 0);
        x.contract(WHOLE, 40, 20);
        for (int n = 0; n < 3; n++) {
            x.see(0, 30);
        }
        for (int n = 0; n < 5; n++) {
            x.plan(0, 100 + n);
            x.book(5, n);
        }
        feed(x, "l".repeat(100));
        return x;
    }

    /** All that tells one state from another, of what is now, behind the text, and behind the image. */
    private static long[] story(ClaimLadder x) {
        List<Long> all = new ArrayList<>();
        tellState(x, all);
        all.add((long) x.read());
        tellState(x, all);
        all.add((long) x.undo());
        tellState(x, all);
        return all.stream().mapToLong(v -> v).toArray();
    }

    private static void tellState(ClaimLadder x, List<Long> all) {
        int contracts = x.told(0);
        all.add((long) contracts);
        all.add((long) x.told(1));
        for (int c = 0; c < contracts; c++) {
            for (int what = 0; what < 5; what++) {
                all.add((long) x.of(c, what));
            }
        }
        for (int what = 0; what < 4; what++) {
            all.add((long) x.count(what));
        }
        all.add((long) x.fits(0));
        all.add((long) x.fits(1));
        all.add((long) x.ends(0));
        all.add((long) x.ends(1));
        all.add((long) x.looked());
        for (int t = 0; t < 6; t++) {
            for (int i = 0; i < 4; i++) {
                all.add(x.peek(t, i));
            }
            all.add((long) x.judge(t, 0));
        }
    }

    private static void feed(ClaimLadder x, String text) {
        for (int i = 0; i < text.length(); i++) {
            x.feed(text.charAt(i));
        }
    }

    private static int read(ClaimLadder x, String text) {
        feed(x, text);
        return x.read();
    }

    /** A new object with this set-up, all of whose clauses are done. */
    private static ClaimLadder with(String text) {
        ClaimLadder x = new ClaimLadder();
        due("read of " + text, read(x, text), text.split(";").length);
        return x;
    }

    private static ClaimLadder withLoss(String text, int loss) {
        ClaimLadder x = with(text);
        due("loss(" + loss + ")", x.loss(loss), 0);
        return x;
    }

    private interface Each {
        long of(int n);
    }

    private static long[] row(int many, Each each) {
        long[] row = new long[many];
        for (int n = 0; n < many; n++) {
            row[n] = each.of(n);
        }
        return row;
    }

    private static long[] paid(ClaimLadder x) {
        return row(x.told(0), x::pays);
    }

    private static long[] paidBy(ClaimLadder x, int loss) {
        x.loss(loss);
        return paid(x);
    }

    private static long[] terms(ClaimLadder x, int c) {
        return row(5, what -> x.of(c, what));
    }

    private static long[] why(ClaimLadder x, int c) {
        return row(4, k -> x.why(c, k));
    }

    private static long[] nets(ClaimLadder x, int n) {
        return row(x.told(0), c -> x.net(c, n));
    }

    private static long[] ends(ClaimLadder x) {
        return row(3, x::ends);
    }

    private static long[] odds(ClaimLadder x, int c) {
        return row(2, part -> x.odds(c, part));
    }

    private static long[] mean(ClaimLadder x) {
        return row(2, x::mean);
    }

    private static long[] items(ClaimLadder x, int tape, int many) {
        return row(many, i -> x.peek(tape, i));
    }

    /** Numbers that no contract of busy() has, bits beyond an int's and its ends among them. */
    private static final int[] STRANGERS = {-1, 4, 5, 6, 7, 31, 32, 33, 64, -32, LEAST, LEAST + 1, GREATEST};
    private static final int[] NO_TAPES = {-1, 6, 7, 32, 64, LEAST, GREATEST};

    // ---- promise 1

    private static void newObject() {
        ClaimLadder x = new ClaimLadder();
        says(1, "No CONTRACTS");
        due("told(0)", x.told(0), 0);
        due("pays(0)", x.pays(0), NONE);
        due("image()", new ClaimLadder().image(), 0);
        says(1, "LOSS 0.");
        due("told(1)", x.told(1), 0);
        due("loss(1)", new ClaimLadder().loss(1), 0);
        says(1, "TAPES 0 .. 5 hold nothing (at first)");
        for (int t = 0; t < 6; t++) {
            due("item(" + t + ", 0, 1)", x.item(t, 0, 1), NOTHING);
        }
        says(1, "how many");
        dueRow("count", row(4, x::count), 0, 0, 0, 0);
        says(1, "STATE: there is none");
        due("undo()", x.undo(), STATE);
        says(1, "An object");
        ClaimLadder other = new ClaimLadder();
        read(x, "c01,1;l5");
        x.image();
        x.see(0, 0);
        x.tape(0, LONGS, 1);
        dueRow("of another object", new long[] {other.told(0), other.told(1), other.count(0), other.undo(),
            other.peek(0, 0)}, 0, 0, 0, STATE, NO);
        says(1, "NO = Long.MIN_VALUE");
        dueRow("the constants", new long[] {ClaimLadder.NONE, ClaimLadder.BAD, ClaimLadder.STATE, ClaimLadder.FULL,
            ClaimLadder.NO}, -1, -2, -3, -4, Long.MIN_VALUE);
    }

    // ---- promise 2

    private static void contractTests() {
        says(2, "each of a KIND (0 .. 3)");
        for (int kind : new int[] {-1, 4, 5, LEAST, GREATEST}) {
            refused("contract(" + kind + ", 1, 1)", BAD, x -> x.contract(kind, 1, 1));
        }
        for (int kind = 0; kind < 4; kind++) {
            ClaimLadder x = new ClaimLadder();
            due("contract(" + kind + ", 1, 1)", x.contract(kind, 1, 1), 0);
            due("of(0, 0)", x.of(0, 0), kind);
        }
        says(2, "with a LIMIT (0 .. 99)");
        for (int limit : new int[] {-1, 100, 101, LEAST, GREATEST}) {
            refused("contract(0, " + limit + ", 1)", BAD, x -> x.contract(0, limit, 1));
        }
        for (int limit : new int[] {0, 1, 98, 99}) {
            ClaimLadder x = new ClaimLadder();
            due("contract(0, " + limit + ", 1)", x.contract(0, limit, 1), 0);
            due("of(0, 1)", x.of(0, 1), limit);
        }
        says(2, "a RETENTION (0 .. 20)");
        for (int retention : new int[] {-1, 21, 22, 99, LEAST, GREATEST}) {
            refused("contract(0, 1, " + retention + ")", BAD, x -> x.contract(0, 1, retention));
        }
        for (int retention : new int[] {0, 1, 19, 20}) {
            ClaimLadder x = new ClaimLadder();
            due("contract(0, 1, " + retention + ")", x.contract(0, 1, retention), 0);
            due("of(0, 2)", x.of(0, 2), retention);
        }
        contractNumbers();
    }

    private static void contractNumbers() {
        says(2, "CONTRACTS 0 .. 5, as they come");
        ClaimLadder x = new ClaimLadder();
        dueRow("six contracts", row(6, c -> x.contract(c % 4, c, c)), 0, 1, 2, 3, 4, 5);
        dueRow("their limits", row(6, c -> x.of(c, 1)), 0, 1, 2, 3, 4, 5);
        says(2, "FULL: 6.");
        due("told(0)", x.told(0), 6);
        due("the seventh", x.contract(0, 0, 0), FULL);
        due("told(0)", x.told(0), 6);
        refusedFull("contract(0, 0, 0)", FULL, y -> y.contract(0, 0, 0));
        refusedFull("contract(3, 99, 20)", FULL, y -> y.contract(3, 99, 20));
        says(2, "BAD: kind, limit, retention; FULL: 6.");
        refusedFull("contract(4, 0, 0)", BAD, y -> y.contract(4, 0, 0));
        refusedFull("contract(0, 100, 0)", BAD, y -> y.contract(0, 100, 0));
        refusedFull("contract(0, 0, 21)", BAD, y -> y.contract(0, 0, 21));
        says(2, "a QUOTA (1 .. 100 of a hundred; 100 at first)");
        dueRow("their quotas", row(6, c -> x.of(c, 3)), 100, 100, 100, 100, 100, 100);
        says(2, "each REFERS to some others (to none, as it comes)");
        dueRow("to which they refer", row(6, c -> x.of(c, 4)), 0, 0, 0, 0, 0, 0);
        due("told(8)", x.told(8), 0);
        says(2, "A CONTRACT: its number.");
        ClaimLadder y = with("c01,1");
        y.image();
        y.contract(2, 50, 9);
        y.renew(1, 3, 7);
        y.refer(1, 0, true);
        y.refer(0, 1, true);
        y.undo();
        due("one comes where another was undone", y.contract(0, 3, 2), 1);
        dueRow("it has nothing of that one", terms(y, 1), 0, 3, 2, 100, 0);
        due("of(0, 4)", y.of(0, 4), 0);
    }

    // ---- promise 3

    private static void renewTests() {
        int[] least = {0, 0, 0, 1};
        int[] greatest = {3, 99, 20, 100};
        String[] words = {"KIND (0 .. 3)", "LIMIT (0 .. 99)", "RETENTION (0 .. 20)", "QUOTA (1 .. 100 of a hundred"};
        for (int w = 0; w < 4; w++) {
            int what = w;
            says(3, words[w]);
            for (int v : new int[] {least[w] - 1, greatest[w] + 1, LEAST, GREATEST}) {
                refused("renew(1, " + w + ", " + v + ")", BAD, x -> x.renew(1, what, v));
                refusedFull("renew(5, " + w + ", " + v + ")", BAD, x -> x.renew(5, what, v));
            }
            ClaimLadder x = full();
            int was = x.of(5, w);
            due("renew to the least", x.renew(5, w, least[w]), was);
            due("what it is", x.of(5, w), least[w]);
            due("renew to the greatest", x.renew(5, w, greatest[w]), least[w]);
            due("what it is", x.of(5, w), greatest[w]);
            due("renew to the same", x.renew(5, w, greatest[w]), greatest[w]);
        }
        says(3, "NONE: contract");
        for (int c : STRANGERS) {
            refused("renew(" + c + ", 0, 0)", NONE, x -> x.renew(c, 0, 0));
        }
        due("without contracts", new ClaimLadder().renew(0, 1, 1), NONE);
        says(3, "NONE: contract, what");
        for (int what : new int[] {-1, 4, 5, 9, LEAST, GREATEST}) {
            refused("renew(0, " + what + ", 1)", NONE, x -> x.renew(0, what, 1));
        }
        says(3, "NONE: contract, what; BAD: v.");
        refused("renew(4, 0, 4)", NONE, x -> x.renew(4, 0, 4));
        refused("renew(0, 4, -1)", NONE, x -> x.renew(0, 4, -1));
        refused("renew(0, -1, 999)", NONE, x -> x.renew(0, -1, 999));
        says(3, "Of a CONTRACT what");
        ClaimLadder x = full();
        x.renew(2, 1, 44);
        dueRow("nothing else of it", terms(x, 2), PART, 44, 3, 50, 2);
        dueRow("nor of its neighbours", row(6, c -> c == 2 ? 0 : x.of(c, 1)), 30, 16, 0, 25, 5, 40);
    }

    // ---- promise 4

    private static void referTests() {
        says(4, "A CONTRACT REFERS to another one, or doesn't: what it was (1, 0).");
        ClaimLadder x = full();
        due("refer(5, 0, true)", x.refer(5, 0, true), 0);
        due("refer(5, 0, true) again", x.refer(5, 0, true), 1);
        due("of(5, 4)", x.of(5, 4), 1);
        due("of(0, 4)", x.of(0, 4), 0);
        due("refer(5, 0, false)", x.refer(5, 0, false), 1);
        due("refer(5, 0, false) again", x.refer(5, 0, false), 0);
        due("of(5, 4)", x.of(5, 4), 0);
        says(4, "each REFERS to some others");
        for (int a = 0; a < 6; a++) {
            for (int b = 0; b < 6; b++) {
                x.refer(a, b, true);
            }
        }
        dueRow("each to all others", row(6, c -> x.of(c, 4)), 62, 61, 59, 55, 47, 31);
        x.refer(2, 5, false);
        dueRow("2 to 5 no more", row(6, c -> x.of(c, 4)), 62, 61, 27, 55, 47, 31);
        says(4, "Where two CONTRACTS are told, one twice is NONE.");
        for (int c = 0; c < 4; c++) {
            int both = c;
            refused("refer(" + c + ", " + c + ", true)", NONE, y -> y.refer(both, both, true));
            refused("refer(" + c + ", " + c + ", false)", NONE, y -> y.refer(both, both, false));
        }
        says(4, "NONE.");
        for (int c : STRANGERS) {
            refused("refer(" + c + ", 0, true)", NONE, y -> y.refer(c, 0, true));
            refused("refer(0, " + c + ", true)", NONE, y -> y.refer(0, c, true));
            refused("refer(3, " + c + ", false)", NONE, y -> y.refer(3, c, false));
            refused("refer(" + c + ", " + c + ", true)", NONE, y -> y.refer(c, c, true));
        }
        refusedFull("refer(5, 6, true)", NONE, y -> y.refer(5, 6, true));
        due("without contracts", new ClaimLadder().refer(0, 1, true), NONE);
    }

    // ---- promise 5

    private static void lossTests() {
        says(5, "LOSS: 0 .. 300 (0 at first).");
        ClaimLadder x = new ClaimLadder();
        dueRow("0, 300, 299, 1, 0", new long[] {x.loss(0), x.loss(300), x.loss(299), x.loss(1), x.loss(0), x.told(1)},
            0, 0, 300, 299, 1, 0);
        says(5, "LOSS becomes n: what it was. BAD.");
        for (int n : new int[] {-1, 301, 302, LEAST, GREATEST}) {
            refused("loss(" + n + ")", BAD, y -> y.loss(n));
        }
    }

    // ---- promise 6

    private static void ofTests() {
        says(6, "9 what it PAYS. NONE.");
        for (int what : new int[] {-1, 10, 11, LEAST, GREATEST}) {
            refused("of(0, " + what + ")", NONE, x -> x.of(0, what));
        }
        for (int c : STRANGERS) {
            for (int what = 0; what < 10; what++) {
                int asked = what;
                due("of(" + c + ", " + what + ")", busy().of(c, asked), NONE);
            }
        }
        due("without contracts", new ClaimLadder().of(0, 9), NONE);
        due("one behind the last of six", full().of(6, 0), NONE);
        reaches();
        rings();
        rungs();
        lefts();
    }

    private static void reaches() {
        says(6, "One REACHES another one, if it REFERS to that, or to one that REACHES that.");
        ClaimLadder x = with("c01,0;c01,0;c01,0;c01,0;c01,0;c01,0;r05;r51;r14;r42;r23");
        dueRow("five steps", row(6, c -> x.of(c, 5)), 62, 28, 8, 0, 12, 30);
        dueRow("to which they refer", row(6, c -> x.of(c, 4)), 32, 16, 8, 0, 4, 2);
        x.refer(1, 4, false);
        dueRow("a step is missing", row(6, c -> x.of(c, 5)), 34, 0, 8, 0, 12, 2);
        says(6, "5 that it REACHES (without itself)");
        ClaimLadder y = with("c01,0;c01,0;c01,0;r01;r12;r20");
        dueRow("a ring", row(3, c -> y.of(c, 5)), 6, 5, 3);
        due("one alone", with("c01,0").of(0, 5), 0);
    }

    private static void rings() {
        says(6, "RING of a CONTRACT: that one, and all others that it REACHES and that REACH it.");
        due("one alone", with("c01,0").of(0, 6), 1);
        ClaimLadder x = with("c01,0;c01,0;c01,0;c01,0;c01,0;c01,0;r05;r50;r13;r31;r10");
        dueRow("it reaches, but isn't reached", row(6, c -> x.of(c, 6)), 33, 10, 4, 10, 16, 33);
        x.refer(5, 3, true);
        dueRow("both now", row(6, c -> x.of(c, 6)), 43, 43, 4, 43, 16, 43);
        x.refer(3, 1, false);
        dueRow("through none any more", row(6, c -> x.of(c, 6)), 33, 2, 4, 8, 16, 33);
        ClaimLadder y = with("c01,0;c01,0;c01,0;c01,0;c01,0;c01,0;r01;r12;r23;r34;r45");
        y.refer(5, 0, true);
        dueRow("a ring of six", row(6, c -> y.of(c, 6)), 63, 63, 63, 63, 63, 63);
    }

    private static void rungs() {
        says(6, "RUNG of a RING: 0, if none of it REFERS to one outside");
        ClaimLadder x = with("c01,0;c01,0;c01,0;c01,0;c01,0;c01,0;r01;r10");
        dueRow("a ring refers to itself alone", row(6, c -> x.of(c, 7)), 0, 0, 0, 0, 0, 0);
        says(6, "else 1 more than the greatest RUNG of those (RINGS) to which it REFERS so");
        // 1 of the ring refers to 2 (rung 0), 0 of it to 3, which is behind 4, which is behind 5
        due("more of it", read(x, "r34;r45;r12"), 3);
        dueRow("one of a ring is enough", row(6, c -> x.of(c, 7)), 1, 1, 0, 2, 1, 0);
        x.refer(0, 3, true);
        dueRow("the greatest", row(6, c -> x.of(c, 7)), 3, 3, 0, 2, 1, 0);
        x.refer(0, 2, true);
        dueRow("two of a ring to the same one", row(6, c -> x.of(c, 7)), 3, 3, 0, 2, 1, 0);
        x.refer(3, 4, false);
        dueRow("another is the greatest", row(6, c -> x.of(c, 7)), 1, 1, 0, 0, 1, 0);
        ClaimLadder y = with("c01,0;c01,0;c01,0;c01,0;c01,0;c01,0;r01;r12;r23;r34;r45");
        dueRow("as high as it gets", row(6, c -> y.of(c, 7)), 5, 4, 3, 2, 1, 0);
        dueRow("of the ring, not of itself", new long[] {y.refer(0, 5, true), y.of(0, 7)}, 0, 5);
        ClaimLadder z = with("c01,0;c01,0;c01,0;c01,0;r01;r10;r02;r12");
        dueRow("two of a ring to one alone", row(4, c -> z.of(c, 7)), 1, 1, 0, 0);
        due("all of a ring to one alone", read(z, "r03;r30;r32"), 3);
        dueRow("all of a ring to one alone", row(4, c -> z.of(c, 7)), 1, 1, 0, 1);
    }

    private static void lefts() {
        says(6, "LEFT of a RING: LOSS less all that RINGS ahead of it PAY.");
        ClaimLadder x = with("c010,0;c020,0;c05,0;c01,0;r01;r21;r12;l100");
        dueRow("0 stands on a later place", row(4, c -> x.of(c, 8)), 74, 100, 100, 75);
        dueRow("what they pay", row(4, c -> x.of(c, 9)), 10, 20, 5, 1);
        x.loss(0);
        dueRow("no loss", row(4, c -> x.of(c, 8)), 0, 0, 0, 0);
        x.loss(25);
        dueRow("the first takes all", row(4, c -> x.of(c, 8)), 0, 25, 25, 0);
        x.refer(0, 1, false);
        dueRow("0 stands on the first place", row(4, c -> x.of(c, 8)), 25, 15, 15, 0);
    }

    // ---- promise 7

    private static void feedTests() {
        says(7, "A sign (0 .. 127) comes behind THE TEXT's: how many it has.");
        ClaimLadder x = new ClaimLadder();
        due("feed(0)", x.feed(0), 1);
        due("feed(127)", x.feed(127), 2);
        says(7, "BAD");
        for (int sign : new int[] {-1, 128, 129, 255, 256 + 'l', -256 + 'l', LEAST, GREATEST}) {
            refused("feed(" + sign + ")", BAD, y -> y.feed(sign));
        }
        says(7, "THE TEXT (bytes, 100 at most)");
        for (int n = 3; n < 100; n++) {
            due("feed, the " + n + "th", x.feed('l'), n);
        }
        due("the 100th", x.feed('l'), 100);
        says(7, "BAD; FULL.");
        due("the 101st", x.feed('l'), FULL);
        due("count(3)", x.count(3), 100);
        refusedFull("feed('l')", FULL, y -> y.feed('l'));
        refusedFull("feed(0)", FULL, y -> y.feed(0));
        refusedFull("feed(127)", FULL, y -> y.feed(127));
        refusedFull("feed(128)", BAD, y -> y.feed(128));
        refusedFull("feed(-1)", BAD, y -> y.feed(-1));
        says(7, "how many it has");
        x.read();
        due("feed behind read", x.feed('l'), 1);
    }

    // ---- promise 8

    private static void fault(String text, int place) {
        ClaimLadder x = new ClaimLadder();
        due("read of '" + text + "'", read(x, text), -10 - place);
        due("count(3) behind '" + text + "'", x.count(3), 0);
        dueRow("told behind '" + text + "'", new long[] {x.told(0), x.told(1)}, 0, 0);
    }

    private static void readTests() {
        readEmptiesTheText();
        readClauses();
        readLengths();
        readFaults();
        readEndsTooEarly();
        readRefusals();
    }

    private static void readEmptiesTheText() {
        says(8, "THE TEXT, which is empty then (by a FAULT, too)");
        ClaimLadder x = new ClaimLadder();
        due("a good one", read(x, "l5"), 1);
        due("count(3)", x.count(3), 0);
        due("once more", x.read(), -10);
        due("told(1)", x.told(1), 5);
        due("a fault", read(x, "l5x"), -12);
        due("count(3)", x.count(3), 0);
        due("a good one behind it", read(x, "l6"), 1);
        says(8, "-10 less the FAULT OF THE TEXT");
        due("an empty one", x.read(), -10);
        refused("read of a text that is spoilt", -13, y -> {
            y.feed('x');
            long answer = y.read();
            feed(y, "l77");
            return answer;
        });
    }

    private static void readClauses() {
        says(8, "CLAUSES, 1 to 12, with ; between");
        due("one", read(new ClaimLadder(), "l5"), 1);
        ClaimLadder x = new ClaimLadder();
        due("twelve", read(x, "l1;l2;l3;l4;l5;l6;l7;l8;l9;l10;l11;l12"), 12);
        due("told(1)", x.told(1), 12);
        String eleven = "c099,20;".repeat(11);
        due("twelve of the longest", read(new ClaimLadder(), eleven + "c099,20"), 6);
        fault(eleven + "c099,20;", 95);
        fault(eleven + "c099,20;c09", 95);
        fault("l1;l2;l3;l4;l5;l6;l7;l8;l9;l1;l2;l3;l4", 35);
        fault("l1;l2;l3;l4;l5;l6;l7;l8;l9;l1;l2;l3;", 35);
        fault("", 0);
        fault("l1l2", 2);
        fault("r01r10", 3);
        fault("c01,20l5", 6);
        fault("q0100l5", 5);
        fault("l1;;l2", 3);
        fault(";", 0);
        fault(";l1", 0);
        says(8, "THE TEXT (bytes, 100 at most)");
        fault("l1;".repeat(33) + "l", 35);
        fault("l1;l2;l3;l4;l5;l6;l7;l8;l9;l1;l2;l" + "1".repeat(66), 37);
    }

    private static void readLengths() {
        says(8, "KIND, i, j: a digit each");
        ClaimLadder x = new ClaimLadder();
        due("each the greatest", read(x, "c30,0;c01,0;r91;n19;q91"), 2);
        due("kind", x.of(0, 0), 3);
        fault("c12,3,4", 5);
        fault("r012", 3);
        fault("n012", 3);
        says(8, "LIMIT, RETENTION: 1 or 2 digits");
        due("1 and 1", read(x, "c07,8"), 1);
        dueRow("them", terms(x, 2), 0, 7, 8, 100, 0);
        due("2 and 2", read(x, "c199,20"), 1);
        dueRow("them", terms(x, 3), 1, 99, 20, 100, 0);
        due("noughts ahead", read(x, "c207,08"), 1);
        dueRow("them", terms(x, 4), 2, 7, 8, 100, 0);
        fault("c0,5", 2);
        fault("c0123,5", 4);
        fault("c012,", 5);
        fault("c012,;", 5);
        fault("c012,123", 7);
        says(8, "QUOTA, LOSS: 1 to 3");
        due("quotas", read(x, "q17;q299;q3100;q4001"), 4);
        dueRow("them", row(5, c -> x.of(c, 3)), 100, 7, 99, 100, 1);
        due("losses", read(x, "l0"), 1);
        due("told(1)", x.told(1), 0);
        due("losses", read(x, "l99"), 1);
        due("told(1)", x.told(1), 99);
        due("losses", read(x, "l300"), 1);
        due("told(1)", x.told(1), 300);
        due("losses", read(x, "l005"), 1);
        due("told(1)", x.told(1), 5);
        fault("q0", 2);
        fault("q0;", 2);
        fault("q00100", 5);
        fault("l;", 1);
        fault("l0300", 4);
    }

    private static void readFaults() {
        says(8, "Nothing else stands between (no blanks).");
        fault(" l1", 0);
        fault("l 1", 1);
        fault("l1 ", 2);
        fault("l1; l2", 3);
        fault("c 012,3", 1);
        fault("c0 12,3", 2);
        fault("c01 2,3", 3);
        fault("c012 ,3", 4);
        fault("c012, 3", 5);
        fault("c012,3 ", 6);
        fault("r0 1", 2);
        fault("l1\n", 2);
        fault("l1\0", 2);
        says(8, "the place of the first byte with which none begins so");
        fault("x", 0);
        fault("L1", 0);
        fault("C01,1", 0);
        fault("a01", 0);
        fault("1", 0);
        fault(",", 0);
        fault("\0", 0);
        fault("\u007f", 0);
        fault("l-1", 1);
        fault("l+1", 1);
        fault("l/", 1);
        fault("l:", 1);
        fault("l1/", 2);
        fault("l1:", 2);
        fault("l1,l2", 2);
        fault("cl", 1);
        fault("c0,", 2);
        fault("c01;1", 3);
        fault("c01.1", 3);
        fault("c012;1", 4);
        fault("c01,1,", 5);
        fault("r;", 1);
        fault("r0,1", 2);
        fault("n,", 1);
        fault("n0x", 2);
        fault("q,", 1);
        fault("q0,5", 2);
        fault("r01,", 3);
        fault("q01,", 3);
        says(8, "Without it they are done");
        fault("c05,1;c06,2;l9;x", 15);
        fault("c05,1;l9;l9;", 12);
        fault("l9;x;y", 3);
    }

    private static void readEndsTooEarly() {
        says(8, "the end of THE TEXT, if it ends too early");
        String eleven = "l1;".repeat(11);
        for (String text : new String[] {"", "c", "c0", "c01,", "c012,", "r", "r0", "n", "n0", "q", "q0", "l", "l1;",
            "c01,1;", "c01", "c012", "l1;l2;c", eleven, eleven + "q0"}) {
            fault(text, text.length());
        }
        says(8, "if it ends too early");
        ClaimLadder x = new ClaimLadder();
        for (String[] two : new String[][] {{"c012,34", "c0"}, {"c012,34", "c012"}, {"c012,34", "c012,"},
            {"r01", "r0"}, {"q0100", "q0"}, {"l1;l2", "l1;"}, {"l100", "l"}}) {
            read(x, two[0]);
            due("'" + two[1] + "' behind '" + two[0] + "'", read(x, two[1]), -10 - two[1].length());
        }
        read(x, "l1;l2");
        due("'l3' behind 'l1;l2'", read(x, "l3"), 1);
        read(x, "l100");
        due("'l1' behind 'l100'", read(x, "l1"), 1);
        due("told(1)", x.told(1), 1);
    }

    private static void readRefusals() {
        says(8, "those that would be refused aren't");
        for (String clause : new String[] {"c41,1", "c91,1", "c01,21", "c01,99", "r00", "r33", "r04", "r40", "r99",
            "n00", "n04", "n40", "q00", "q0101", "q0999", "q450", "q000", "l301", "l999"}) {
            ClaimLadder x = busy();
            x.read();
            ClaimLadder untouched = busy();
            untouched.read();
            due("read of '" + clause + "'", read(x, clause), 0);
            sameStory("read of '" + clause + "'", x, untouched);
        }
        ClaimLadder x = full();
        x.read();
        due("a seventh contract", read(x, "c01,1"), 0);
        due("told(0)", x.told(0), 6);
        says(8, "how many CLAUSES were done");
        ClaimLadder y = new ClaimLadder();
        due("the others are done", read(y, "l301;l7;q050;c05,1;q050;r01;c06,2;r01;n01;n01;r10"), 8);
        dueRow("told", new long[] {y.told(0), y.told(1), y.told(8), y.of(0, 3), y.of(1, 4)}, 2, 7, 1, 50, 1);
        says(8, "Without it they are done, one behind the other");
        due("the later one holds", read(y, "l5;l6;r01;n01;n10;r10;q17;q18"), 8);
        dueRow("told", new long[] {y.told(1), y.of(0, 4), y.of(1, 4), y.of(1, 3)}, 6, 0, 1, 8);
        due("one that was there already", read(y, "r10;l6;q18"), 3);
    }

    // ---- promise 9

    private static void ringTests() {
        says(9, "Of the k-th RING (from 0) of THE LADDER");
        ClaimLadder x = with("c010,0;c020,0;c015,5;c07,0;c09,0;c01,0;r12;r21;r03;r40;r52;l100");
        dueRow("the first", row(4, what -> x.ring(0, what)), 6, 0, 100, 35);
        dueRow("the last", row(4, what -> x.ring(4, what)), 16, 2, 47, 9);
        says(9, "NONE.");
        for (int k : new int[] {-1, 5, 6, 7, 32, LEAST, GREATEST}) {
            dueRow("ring " + k, row(4, what -> x.ring(k, what)), NONE, NONE, NONE, NONE);
        }
        for (int what : new int[] {-1, 4, 5, LEAST, GREATEST}) {
            due("ring(0, " + what + ")", x.ring(0, what), NONE);
            due("ring(5, " + what + ")", x.ring(5, what), NONE);
        }
        due("without contracts", new ClaimLadder().ring(0, 0), NONE);
        due("one: the first", with("c01,0").ring(0, 0), 1);
        due("one: a second", with("c01,0").ring(1, 0), NONE);
        says(9, "what 0 BITS, 1 RUNG, 2 LEFT, 3 what it PAYS");
        ClaimLadder six = with("c01,0;c01,0;c01,0;c01,0;c01,0;c01,0;l3");
        dueRow("the sixth of six", row(4, what -> six.ring(5, what)), 32, 0, 0, 0);
        due("a seventh", six.ring(6, 0), NONE);
        says(9, "RINGS by RUNG, the least first");
        ClaimLadder down = with("c01,0;c01,0;c01,0;c01,0;c01,0;c01,0;r01;r12;r23;r34;r45");
        dueRow("bits", row(6, k -> down.ring(k, 0)), 32, 16, 8, 4, 2, 1);
        dueRow("rungs", row(6, k -> down.ring(k, 1)), 0, 1, 2, 3, 4, 5);
        says(9, "of one RUNG by the least CONTRACT in it");
        ClaimLadder two = with("c01,0;c01,0;c01,0;c01,0;c01,0;c01,0;r05;r50;r14;r41;r23;r32");
        dueRow("three rings of two", row(4, k -> two.ring(k, 0)), 33, 18, 12, NONE);
        two.refer(0, 3, true);
        dueRow("the first one goes up", row(4, k -> two.ring(k, 0)), 18, 12, 33, NONE);
        two.refer(3, 0, true);
        dueRow("two of them are one", row(4, k -> two.ring(k, 0)), 45, 18, NONE, NONE);
        ClaimLadder pair = with("c01,0;c01,0;c01,0;r20;r21;r01");
        dueRow("1, 0, 2", row(3, k -> pair.ring(k, 0)), 2, 1, 4);
    }

    // ---- promise 10

    private static void paysBy(ClaimLadder x, int[] losses, int[] want) {
        for (int n = 0; n < losses.length; n++) {
            x.loss(losses[n]);
            due("pays(0) by loss " + losses[n], x.pays(0), want[n]);
        }
    }

    private static void paysTests() {
        says(10, "NONE.");
        for (int c : STRANGERS) {
            due("pays(" + c + ")", busy().pays(c), NONE);
        }
        due("without contracts", new ClaimLadder().pays(0), NONE);
        due("six: the last", full().pays(6), NONE);
        paysPlain();
        paysPart();
        paysEscape();
        paysWhole();
        paysRings();
        paysRingKinds();
    }

    private static void paysPlain() {
        says(10, "0 PLAIN: LEFT less RETENTION");
        ClaimLadder x = with("c030,5");
        paysBy(x, new int[] {6, 7, 34}, new int[] {1, 2, 29});
        says(10, "LIMIT at most");
        paysBy(x, new int[] {35, 36, 299, 300}, new int[] {30, 30, 30, 30});
        ClaimLadder greatest = with("c099,20");
        paysBy(greatest, new int[] {20, 21, 118, 119, 120, 300}, new int[] {0, 1, 98, 99, 99, 99});
        paysBy(with("c00,0"), new int[] {0, 1, 300}, new int[] {0, 0, 0});
        paysBy(with("c01,0"), new int[] {0, 1, 2}, new int[] {0, 1, 1});
        says(10, "0 at least");
        paysBy(x, new int[] {0, 1, 4, 5}, new int[] {0, 0, 0, 0});
        says(10, "QUOTA");
        x.renew(0, 3, 1);
        paysBy(x, new int[] {6, 300}, new int[] {1, 30});
        x.renew(0, 0, ESCAPE);
        paysBy(x, new int[] {6, 300}, new int[] {1, 30});
        x.renew(0, 0, WHOLE);
        paysBy(x, new int[] {6, 300}, new int[] {6, 30});
    }

    private static void paysPart() {
        says(10, "LEFT times that by 100, cut");
        ClaimLadder x = with("c199,0;q01");
        paysBy(x, new int[] {0, 1, 99, 100, 199, 200, 300}, new int[] {0, 0, 0, 1, 1, 2, 3});
        x.renew(0, 3, 99);
        paysBy(x, new int[] {1, 2, 50, 99, 100, 101}, new int[] {0, 1, 49, 98, 99, 99});
        x.renew(0, 3, 67);
        paysBy(x, new int[] {1, 2, 3, 149}, new int[] {0, 1, 2, 99});
        says(10, "1 PART, over PLAIN: of LEFT its QUOTA");
        x.renew(0, 3, 100);
        paysBy(x, new int[] {1, 99, 100}, new int[] {1, 99, 99});
        ClaimLadder y = with("c110,5;q050");
        // its retention is off its share, not its share off what is left behind it
        paysBy(y, new int[] {10, 11, 12, 13, 29, 30, 32, 300}, new int[] {0, 0, 1, 1, 9, 10, 10, 10});
    }

    private static void paysEscape() {
        says(10, "2 ESCAPE, over PLAIN: 0, if one to which it REFERS (itself) PAYS more than 0");
        ClaimLadder x = with("c21,0;c01,0;c01,0;r01;r02");
        dueRow("all 0", paidBy(x, 0), 0, 0, 0);
        dueRow("1 is more than 0", paidBy(x, 1), 0, 1, 0);
        x.renew(1, 1, 0);
        dueRow("another pays 1", paidBy(x, 9), 0, 0, 1);
        x.renew(2, 1, 0);
        dueRow("both pay 0", paidBy(x, 9), 1, 0, 0);
        says(10, "else as PLAIN");
        ClaimLadder y = with("c230,5");
        paysBy(y, new int[] {0, 5, 6, 35, 36}, new int[] {0, 0, 1, 30, 30});
        says(10, "to which it REFERS (itself)");
        ClaimLadder z = with("c01,0;c00,0;c29,0;r10;r21;l10");
        dueRow("it reaches one that pays", paid(z), 1, 0, 9);
        z.refer(2, 0, true);
        dueRow("it refers to that", paid(z), 1, 0, 0);
        z.refer(2, 0, false);
        z.refer(2, 1, false);
        z.refer(0, 2, true);
        dueRow("that refers to it", paid(z), 1, 0, 9);
        says(10, "PAYS more than 0");
        ClaimLadder chain = with("c25,0;c26,0;c27,0;r10;r21;l99");
        dueRow("an escaped one lets the next pay", paid(chain), 5, 0, 7);
        ClaimLadder plain = with("c25,0;c06,0;c15,0;c37,0;r10;r20;r30;l99");
        dueRow("others don't escape", paid(plain), 5, 6, 5, 7);
    }

    private static void paysWhole() {
        says(10, "3 WHOLE, over PLAIN: if PLAIN were more than 0, LEFT, LIMIT at most; else 0");
        ClaimLadder x = with("c330,5");
        paysBy(x, new int[] {0, 1, 5, 6, 7, 29, 30, 31, 300}, new int[] {0, 0, 0, 6, 7, 29, 30, 30, 30});
        paysBy(with("c30,5"), new int[] {5, 6, 300}, new int[] {0, 0, 0});
        paysBy(with("c31,0"), new int[] {0, 1, 2}, new int[] {0, 1, 1});
        paysBy(with("c399,20"), new int[] {20, 21, 99, 100}, new int[] {0, 21, 99, 99});
        paysBy(with("c310,20"), new int[] {20, 21}, new int[] {0, 10});
    }

    private static void paysRings() {
        says(10, "these pay LEFT by ones, in turn by numbers, round and round");
        ClaimLadder x = with("c05,0;c05,0;c05,0;r02;r21;r10");
        dueRow("0", paidBy(x, 0), 0, 0, 0);
        dueRow("1", paidBy(x, 1), 1, 0, 0);
        dueRow("2", paidBy(x, 2), 1, 1, 0);
        dueRow("3", paidBy(x, 3), 1, 1, 1);
        dueRow("4", paidBy(x, 4), 2, 1, 1);
        dueRow("14", paidBy(x, 14), 5, 5, 4);
        says(10, "till all of LEFT is paid or all have");
        dueRow("15", paidBy(x, 15), 5, 5, 5);
        dueRow("16", paidBy(x, 16), 5, 5, 5);
        due("over", x.told(3), 1);
        dueRow("300", paidBy(x, 300), 5, 5, 5);
        says(10, "but those that have paid their MOST");
        ClaimLadder y = with("c01,0;c00,0;c05,0;c03,0;r01;r12;r23;r30");
        dueRow("1", paidBy(y, 1), 1, 0, 0, 0);
        dueRow("2", paidBy(y, 2), 1, 0, 1, 0);
        dueRow("3", paidBy(y, 3), 1, 0, 1, 1);
        dueRow("4", paidBy(y, 4), 1, 0, 2, 1);
        dueRow("7", paidBy(y, 7), 1, 0, 3, 3);
        dueRow("8", paidBy(y, 8), 1, 0, 4, 3);
        dueRow("9", paidBy(y, 9), 1, 0, 5, 3);
        dueRow("10", paidBy(y, 10), 1, 0, 5, 3);
        ClaimLadder none = with("c00,0;c00,0;r01;r10;l50");
        dueRow("none has a most", paid(none), 0, 0);
        ClaimLadder unlike = with("c06,0;c01,0;c04,0;c02,0;c05,0;c03,0;r01;r12;r23;r34;r45");
        unlike.refer(5, 0, true);
        dueRow("one drops out behind each round, 20", paidBy(unlike, 20), 5, 1, 4, 2, 5, 3);
        dueRow("one drops out behind each round, 21", paidBy(unlike, 21), 6, 1, 4, 2, 5, 3);
        dueRow("one drops out behind each round, 300", paidBy(unlike, 300), 6, 1, 4, 2, 5, 3);
        ClaimLadder six = with("c099,0;c099,0;c099,0;c099,0;c099,0;c099,0;r01;r12;r23;r34;r45");
        six.refer(5, 0, true);
        dueRow("six, 300", paidBy(six, 300), 50, 50, 50, 50, 50, 50);
        dueRow("six, 299", paidBy(six, 299), 50, 50, 50, 50, 50, 49);
        dueRow("six, 295", paidBy(six, 295), 50, 49, 49, 49, 49, 49);
        says(10, "RINGS pay by THE LADDER, one behind the other");
        ClaimLadder two = with("c02,0;c09,0;c02,0;c09,0;r02;r20;r13;r31;r10;l7");
        dueRow("two rings", paid(two), 2, 2, 2, 1);
        dueRow("nothing is left for the second", paidBy(two, 4), 2, 0, 2, 0);
        dueRow("one is left for the second", paidBy(two, 5), 2, 1, 2, 0);
    }

    private static void paysRingKinds() {
        says(10, "each one's MOST is what it would PAY so, were it alone (with this LEFT");
        ClaimLadder x = with("c09,3;c19,1;c39,3;q150;r01;r12;r20");
        dueRow("3: plain 0, part 0, whole 0", paidBy(x, 3), 0, 0, 0);
        dueRow("4: plain 1, part 1, whole 4", paidBy(x, 4), 1, 1, 2);
        dueRow("5: plain 2, part 1, whole 5", paidBy(x, 5), 2, 1, 2);
        dueRow("6: plain 3, part 2, whole 6", paidBy(x, 6), 2, 2, 2);
        dueRow("28", paidBy(x, 28), 9, 9, 9);
        x.renew(1, 3, 1);
        dueRow("28: part 0", paidBy(x, 28), 9, 0, 9);
        says(10, "of ESCAPE: as PLAIN");
        ClaimLadder y = with("c29,1;c09,0;c02,0;r01;r10;r02");
        dueRow("others of its ring pay", paidBy(y, 9), 4, 3, 2);
        due("one ahead to which it refers pays", y.of(0, 8), 7);
        dueRow("by its retention", paidBy(y, 3), 0, 1, 2);
        dueRow("above it", paidBy(y, 4), 1, 1, 2);
        says(10, "A CONTRACT that is a RING alone PAYS by its KIND");
        y.refer(1, 0, false);
        dueRow("alone it escapes", paidBy(y, 15), 0, 9, 2);
        dueRow("alone it pays by none that does", new long[] {y.renew(1, 1, 0), y.renew(2, 1, 0), y.pays(0)}, 9, 2, 9);
    }

    // ---- promise 11

    private static void toldTests() {
        says(11, "8 how many REFERENCES there are. NONE.");
        for (int what : new int[] {-1, 9, 10, LEAST, GREATEST}) {
            due("told(" + what + ")", busy().told(what), NONE);
            due("told(" + what + ") without contracts", new ClaimLadder().told(what), NONE);
        }
        says(11, "6 the greatest RUNG (-5: no RINGS)");
        due("none", new ClaimLadder().told(6), ABSENT);
        due("one", with("c01,0").told(6), 0);
        due("a ring of two", with("c01,0;c01,0;r01;r10").told(6), 0);
        due("the greatest isn't the last contract's", with("c01,0;c01,0;c01,0;r01").told(6), 1);
        due("as high as it gets", with("c01,0;c01,0;c01,0;c01,0;c01,0;c01,0;r01;r12;r23;r34;r45").told(6), 5);
        says(11, "4 RINGS, 5 RINGS of several");
        dueRow("none", row(2, n -> new ClaimLadder().told(4 + n)), 0, 0);
        dueRow("one alone", row(2, n -> with("c01,0").told(4 + n)), 1, 0);
        dueRow("one of two", row(2, n -> with("c01,0;c01,0;r01;r10").told(4 + n)), 1, 1);
        dueRow("one of two, one alone", row(2, n -> with("c01,0;c01,0;c01,0;r01;r10").told(4 + n)), 2, 1);
        dueRow("three of two", row(2, n -> with("c01,0;c01,0;c01,0;c01,0;c01,0;c01,0;r05;r50;r14;r41;r23;r32")
            .told(4 + n)), 3, 3);
        dueRow("six alone", row(2, n -> with("c01,0;c01,0;c01,0;c01,0;c01,0;c01,0").told(4 + n)), 6, 0);
        says(11, "7 how many PAY more than 0");
        ClaimLadder x = with("c01,0;c00,0;c09,0;c09,0");
        due("no loss", x.told(7), 0);
        x.loss(1);
        due("1 is more than 0", x.told(7), 1);
        x.loss(2);
        due("two", x.told(7), 2);
        x.loss(300);
        due("three", x.told(7), 3);
        says(11, "OVER: LOSS less all that is PAID");
        dueRow("paid, over", new long[] {x.told(2), x.told(3)}, 19, 281);
        x.loss(19);
        dueRow("nothing is over", new long[] {x.told(2), x.told(3)}, 19, 0);
        x.loss(20);
        dueRow("1 is over", new long[] {x.told(2), x.told(3)}, 19, 1);
        x.loss(0);
        dueRow("no loss", new long[] {x.told(2), x.told(3)}, 0, 0);
        ClaimLadder none = new ClaimLadder();
        none.loss(300);
        dueRow("no contracts", new long[] {none.told(2), none.told(3)}, 0, 300);
        says(11, "8 how many REFERENCES there are");
        ClaimLadder six = with("c01,0;c01,0;c01,0;c01,0;c01,0;c01,0");
        due("none", six.told(8), 0);
        for (int n = 0; n < 36; n++) {
            six.refer(n / 6, n % 6, true);
        }
        due("each to all others", six.told(8), 30);
        due("both ways are two", with("c01,0;c01,0;r01;r10").told(8), 2);
    }

    // ---- promise 12

    private static void whyTests() {
        says(12, "NONE: contract");
        for (int c : STRANGERS) {
            due("why(" + c + ", 0)", busy().why(c, 0), NONE);
            due("why(" + c + ", 3)", busy().why(c, 3), NONE);
        }
        due("without contracts", new ClaimLadder().why(0, 0), NONE);
        says(12, "NONE: contract, k is below 0.");
        for (int k : new int[] {-1, -2, LEAST}) {
            due("why(0, " + k + ")", busy().why(0, k), NONE);
        }
        says(12, "-5: there is none such (k 1 or more)");
        for (int k : new int[] {3, 4, 5, 100, GREATEST}) {
            due("why(0, " + k + ")", busy().why(0, k), ABSENT);
        }
        whyNothingLeft();
        whyAllPaid();
        whyEscape();
        whyRetention();
        whyLimit();
        whyRing();
        whyElse();
    }

    private static void whyNothingLeft() {
        says(12, "if LEFT of its RING is 0: 1");
        ClaimLadder x = with("c05,0;c05,0;c05,0");
        x.loss(10);
        dueRow("0 is left", why(x, 2), 1, 1, 5, ABSENT);
        x.loss(11);
        dueRow("1 is left", why(x, 2), 0, ABSENT, ABSENT, ABSENT);
        says(12, "or 99, if LOSS is 0; this has as CAUSE what that one PAYS, or 0");
        x.loss(0);
        dueRow("no loss, the first", why(x, 0), 1, 99, 0, ABSENT);
        dueRow("no loss, the last", why(x, 2), 1, 99, 0, ABSENT);
        x.loss(1);
        dueRow("loss 1, the last", why(x, 2), 1, 0, 1, ABSENT);
        dueRow("no loss, a ring", why(with("c05,0;c05,0;r01;r10"), 1), 1, 99, 0, ABSENT);
        dueRow("no loss, an escape with limit 0", why(with("c20,20"), 0), 1, 99, 0, ABSENT);
        says(12, "the last CONTRACT ahead, by THE LADDER, in a RING by numbers, that PAYS more than 0");
        ClaimLadder y = with("c05,0;c09,0;c05,0;c05,0;r01;r12");
        y.loss(15);
        // the ladder: 2, 3, 1, 0
        dueRow("by the ladder", why(y, 0), 1, 1, 5, ABSENT);
        dueRow("its own ring isn't ahead", why(y, 1), 0, ABSENT, ABSENT, ABSENT);
        y.loss(10);
        dueRow("one behind the other", why(y, 0), 1, 3, 5, ABSENT);
        dueRow("not the one that pays nothing", why(y, 1), 1, 3, 5, ABSENT);
        y.loss(5);
        dueRow("nor two", why(y, 0), 1, 2, 5, ABSENT);
        ClaimLadder ring = with("c09,0;c09,0;c00,0;c09,0;r01;r12;r20;r32;l3");
        dueRow("in a ring the last by numbers that pays", why(ring, 3), 1, 1, 1, ABSENT);
        ring.loss(1);
        dueRow("only the first of the ring pays", why(ring, 3), 1, 0, 1, ABSENT);
        ClaimLadder six = withLoss("c05,0;c05,0;c05,0;c05,0;c05,0;c05,0", 25);
        dueRow("the sixth of six", why(six, 5), 1, 4, 5, ABSENT);
        six.loss(1);
        dueRow("the sixth of six, by the first", why(six, 5), 1, 0, 1, ABSENT);
    }

    private static void whyAllPaid() {
        says(12, "else, if it PAYS less than LEFT");
        ClaimLadder x = with("c05,0");
        x.loss(4);
        dueRow("less than its limit, all", why(x, 0), 0, ABSENT, ABSENT, ABSENT);
        x.loss(5);
        dueRow("its limit, all", why(x, 0), 0, ABSENT, ABSENT, ABSENT);
        x.loss(6);
        dueRow("one less", why(x, 0), 4, 5, ABSENT, ABSENT);
        says(12, "Of WHY k 0 the number (0: none)");
        dueRow("a whole one pays all", why(withLoss("c39,3", 4), 0), 0, ABSENT, ABSENT, ABSENT);
        dueRow("one of a ring pays all", why(withLoss("c09,0;c00,0;r01;r10", 9), 0), 0, ABSENT, ABSENT, ABSENT);
        dueRow("a part of a hundred pays all", why(withLoss("c19,0", 9), 0), 0, ABSENT, ABSENT, ABSENT);
    }

    private static void whyEscape() {
        says(12, "2 it is of KIND ESCAPE, alone, and one to which it REFERS PAYS");
        ClaimLadder x = with("c05,0;c06,0;c29,9;r20;r21");
        x.loss(20);
        dueRow("ahead of its retention; the least", why(x, 2), 2, 0, 5, ABSENT);
        x.renew(2, 1, 0);
        x.renew(2, 2, 0);
        dueRow("ahead of its limit", why(x, 2), 2, 0, 5, ABSENT);
        x.renew(0, 1, 0);
        says(12, "CAUSE: the least such; this: what that PAYS");
        dueRow("the least that pays", why(x, 2), 2, 1, 6, ABSENT);
        x.renew(1, 1, 1);
        dueRow("that pays 1", why(x, 2), 2, 1, 1, ABSENT);
        says(12, "one to which it REFERS PAYS");
        x.renew(1, 1, 0);
        dueRow("none pays", why(x, 2), 4, 0, ABSENT, ABSENT);
        x.renew(2, 2, 20);
        dueRow("none pays", why(x, 2), 3, 20, 20, ABSENT);
        ClaimLadder y = with("c05,0;c00,0;c29,2;r10;r21;l20");
        dueRow("it only reaches one that pays", why(y, 2), 4, 9, ABSENT, ABSENT);
        says(12, "of KIND ESCAPE");
        for (int kind : new int[] {PLAIN, PART, WHOLE}) {
            ClaimLadder z = with("c05,0;c29,2;r10;l20");
            z.renew(1, 0, kind);
            dueRow("kind " + kind, why(z, 1), 4, 9, ABSENT, ABSENT);
        }
        says(12, "alone");
        ClaimLadder ring = with("c05,0;c29,0;c09,0;r10;r12;r21;l25");
        dueRow("in a ring, its limit", why(ring, 1), 4, 9, ABSENT, ABSENT);
        ring.loss(10);
        dueRow("in a ring", why(ring, 1), 5, 6, 5, ABSENT);
    }

    private static void whyRetention() {
        says(12, "3 LEFT (by PART: its QUOTA) isn't above RETENTION (CAUSE: that; this: RETENTION)");
        ClaimLadder x = with("c030,5");
        x.loss(1);
        dueRow("below", why(x, 0), 3, 1, 5, ABSENT);
        x.loss(5);
        dueRow("alike", why(x, 0), 3, 5, 5, ABSENT);
        x.loss(6);
        dueRow("above", why(x, 0), 6, 5, ABSENT, ABSENT);
        x.renew(0, 0, WHOLE);
        x.loss(5);
        dueRow("whole, alike", why(x, 0), 3, 5, 5, ABSENT);
        x.loss(6);
        dueRow("whole, above", why(x, 0), 0, ABSENT, ABSENT, ABSENT);
        says(12, "by PART: its QUOTA");
        ClaimLadder y = with("c130,2;q050");
        y.loss(5);
        dueRow("alike", why(y, 0), 3, 2, 2, ABSENT);
        y.loss(6);
        dueRow("above", why(y, 0), 6, 5, ABSENT, ABSENT);
        y.renew(0, 2, 0);
        y.loss(1);
        dueRow("0 isn't above 0", why(y, 0), 3, 0, 0, ABSENT);
        y.renew(0, 0, PLAIN);
        dueRow("no quota by plain", why(y, 0), 0, ABSENT, ABSENT, ABSENT);
        says(12, "the first of");
        dueRow("3 goes ahead of 4", why(withLoss("c00,5", 5), 0), 3, 5, 5, ABSENT);
        dueRow("4 behind it", why(withLoss("c00,5", 6), 0), 4, 0, ABSENT, ABSENT);
        ClaimLadder ring = with("c09,3;c09,0;r01;r10;l3");
        dueRow("3 goes ahead of 5", why(ring, 0), 3, 3, 3, ABSENT);
        ring.loss(4);
        dueRow("5 behind it", why(ring, 0), 5, 3, 4, ABSENT);
        ClaimLadder part = with("c19,3;c09,0;q050;r01;r10;l7");
        dueRow("3 in a ring, by part", why(part, 0), 3, 3, 3, ABSENT);
        part.loss(8);
        dueRow("5 behind it", why(part, 0), 5, 3, 8, ABSENT);
    }

    private static void whyLimit() {
        says(12, "4 it PAYS its LIMIT (CAUSE: LIMIT)");
        ClaimLadder x = with("c030,5");
        x.loss(34);
        dueRow("one below it", why(x, 0), 6, 5, ABSENT, ABSENT);
        x.loss(35);
        dueRow("it, all above its retention", why(x, 0), 4, 30, ABSENT, ABSENT);
        x.loss(300);
        dueRow("it, by far", why(x, 0), 4, 30, ABSENT, ABSENT);
        dueRow("limit 0", why(withLoss("c00,0", 1), 0), 4, 0, ABSENT, ABSENT);
        dueRow("part", why(withLoss("c15,0;q050", 10), 0), 4, 5, ABSENT, ABSENT);
        dueRow("part, one below it", why(withLoss("c15,0;q050", 9), 0), 6, 5, ABSENT, ABSENT);
        dueRow("whole", why(withLoss("c35,0", 6), 0), 4, 5, ABSENT, ABSENT);
        says(12, "the first of");
        ClaimLadder ring = with("c05,0;c09,0;r01;r10;l11");
        dueRow("4 goes ahead of 5", why(ring, 0), 4, 5, ABSENT, ABSENT);
        ring.loss(8);
        dueRow("5 behind it", why(ring, 0), 5, 3, 8, ABSENT);
    }

    private static void whyRing() {
        says(12, "5 it is in a RING of several (CAUSE: BITS of it");
        ClaimLadder x = with("c09,0;c09,0;c09,0;c09,0;c09,0;c09,0;r05;r50;r21;r12;l2");
        dueRow("0 and 5", why(x, 0), 5, 33, 2, ABSENT);
        dueRow("5 and 0", why(x, 5), 5, 33, 2, ABSENT);
        x.loss(20);
        dueRow("1 and 2", why(x, 2), 5, 6, 2, ABSENT);
        says(12, "this: what the RING PAYS");
        x.refer(1, 5, true);
        x.loss(300);
        // nobody pays all: each its limit
        dueRow("its limit", why(x, 0), 4, 9, ABSENT, ABSENT);
        ClaimLadder part = with("c19,0;c09,9;c03,0;q050;r01;r12;r20;l10");
        // most 5, 1, 3: 9 of 10
        dueRow("not all of what is left", why(part, 0), 5, 7, 9, ABSENT);
        dueRow("not all of what is left", why(part, 1), 5, 7, 9, ABSENT);
    }

    private static void whyElse() {
        says(12, "6 else (CAUSE: what it PAYS less)");
        dueRow("1 less", why(withLoss("c09,1", 5), 0), 6, 1, ABSENT, ABSENT);
        dueRow("its retention and its quota", why(withLoss("c199,3;q010", 100), 0), 6, 93, ABSENT, ABSENT);
        dueRow("an escape", why(withLoss("c29,1", 5), 0), 6, 1, ABSENT, ABSENT);
        ClaimLadder second = with("c04,0;c09,2;l10");
        dueRow("less than what is left, not than the loss", why(second, 1), 6, 2, ABSENT, ABSENT);
    }

    // ---- promise 13

    private static void netTests() {
        says(13, "NET of a CONTRACT, if n (0 .. 999) come BACK.");
        for (int n : new int[] {-1, 1000, 1001, LEAST, GREATEST}) {
            due("net(0, " + n + ")", busy().net(0, n), BAD);
        }
        says(13, "NONE; BAD.");
        for (int c : STRANGERS) {
            due("net(" + c + ", 0)", busy().net(c, 0), NONE);
            due("net(" + c + ", 1000)", busy().net(c, 1000), NONE);
        }
        due("without contracts", new ClaimLadder().net(0, 0), NONE);
        says(13, "all, if n is more");
        ClaimLadder x = with("c04,0;c03,0;c02,0;l100");
        dueRow("0", nets(x, 0), 4, 3, 2);
        dueRow("8", nets(x, 8), 1, 0, 0);
        dueRow("9, all", nets(x, 9), 0, 0, 0);
        dueRow("10", nets(x, 10), 0, 0, 0);
        dueRow("999", nets(x, 999), 0, 0, 0);
        says(13, "to RINGS from the last one of THE LADDER on");
        dueRow("1", nets(x, 1), 4, 3, 1);
        dueRow("2", nets(x, 2), 4, 3, 0);
        dueRow("3", nets(x, 3), 4, 2, 0);
        x.refer(0, 1, true);
        dueRow("1, 0 is the last", nets(x, 1), 3, 3, 2);
        dueRow("5, 0 is the last", nets(x, 5), 0, 3, 1);
        says(13, "in a RING by ones, to each in turn by numbers, round and round, that has not had back all it PAYS");
        ClaimLadder ring = with("c04,0;c01,0;c00,0;c03,0;r01;r12;r23;r30;l100");
        dueRow("0", nets(ring, 0), 4, 1, 0, 3);
        dueRow("1", nets(ring, 1), 3, 1, 0, 3);
        dueRow("2", nets(ring, 2), 3, 0, 0, 3);
        dueRow("3", nets(ring, 3), 3, 0, 0, 2);
        dueRow("4", nets(ring, 4), 2, 0, 0, 2);
        dueRow("7", nets(ring, 7), 1, 0, 0, 0);
        dueRow("8", nets(ring, 8), 0, 0, 0, 0);
        dueRow("9", nets(ring, 9), 0, 0, 0, 0);
        ring.loss(0);
        dueRow("nothing is paid", nets(ring, 5), 0, 0, 0, 0);
        ClaimLadder none = with("c09,9;l5");
        dueRow("one pays nothing", nets(none, 3), 0);
        ClaimLadder unlike = with("c06,0;c01,0;c04,0;c02,0;c05,0;c03,0;r01;r12;r23;r34;r45");
        unlike.refer(5, 0, true);
        unlike.loss(300);
        dueRow("six of a ring, 20", nets(unlike, 20), 1, 0, 0, 0, 0, 0);
        dueRow("six of a ring, 21", nets(unlike, 21), 0, 0, 0, 0, 0, 0);
        ClaimLadder six = withLoss("c099,0;c099,0;c099,0;c01,0;c01,0;c01,0", 300);
        dueRow("six rings, 2", nets(six, 2), 99, 99, 99, 1, 0, 0);
        dueRow("299 of 300", nets(six, 299), 1, 0, 0, 0, 0, 0);
        dueRow("300 of 300", nets(six, 300), 0, 0, 0, 0, 0, 0);
    }

    // ---- promise 14

    private static void moreTests() {
        says(14, "NO: contract.");
        for (int c : STRANGERS) {
            due("more(" + c + ")", busy().more(c), NO);
        }
        due("without contracts", new ClaimLadder().more(0), NO);
        says(14, "were LOSS 1 more (also 301)");
        ClaimLadder x = withLoss("c099,0;c099,0;c099,0;c04,0", 300);
        dueRow("301", row(4, x::more), 0, 0, 0, 1);
        x.renew(3, 1, 3);
        dueRow("nothing more", row(4, x::more), 0, 0, 0, 0);
        due("told(1)", x.told(1), 300);
        says(14, "what one would PAY, were LOSS 1 more");
        ClaimLadder y = with("c05,2;c39,6");
        dueRow("of 0", row(2, y::more), 0, 0);
        y.loss(2);
        dueRow("of its retention", row(2, y::more), 1, 0);
        y.loss(6);
        dueRow("of 6", row(2, y::more), 1, 0);
        y.loss(7);
        dueRow("its limit", row(2, y::more), 0, 0);
        y.loss(11);
        dueRow("a leap from nothing", row(2, y::more), 0, 7);
        says(14, "less what it PAYS");
        ClaimLadder escape = with("c09,3;c29,0;r10;l3");
        dueRow("it escapes by 1 more", row(2, escape::more), 1, -3);
        ClaimLadder greatest = with("c099,20;c099,0;c299,0;r20;l119");
        dueRow("told", row(3, greatest::more), 0, 1, 0);
    }

    // ---- promise 15

    private static void fromTests() {
        says(15, "NONE.");
        for (int c : STRANGERS) {
            due("from(" + c + ")", busy().from(c), NONE);
        }
        due("without contracts", new ClaimLadder().from(0), NONE);
        says(15, "the least LOSS 0 .. 300 by which it PAYS more than 0 (-5: none)");
        ClaimLadder x = with("c099,0;c099,0;c099,0;c01,2");
        dueRow("the last by 300", row(4, x::from), 1, 100, 199, 300);
        x.renew(3, 2, 3);
        due("it would by 301", x.from(3), ABSENT);
        x.renew(3, 2, 0);
        x.renew(3, 1, 0);
        due("never", x.from(3), ABSENT);
        says(15, "-5: none");
        due("limit 0", with("c00,0").from(0), ABSENT);
        due("part of 1", with("c11,2;q01").from(0), 300);
        due("part of 1", with("c11,3;q01").from(0), ABSENT);
        due("an escape", with("c01,0;c21,0;r10").from(1), ABSENT);
        says(15, "the least");
        due("it pays by 1, not by 5", with("c01,4;c21,0;r10").from(1), 1);
        ClaimLadder y = withLoss("c01,5", 300);
        due("whatever the loss is now", y.from(0), 6);
        due("told(1)", y.told(1), 300);
    }

    // ---- promise 16

    private static void seeTests() {
        says(16, "BAD: n (0 .. 99)");
        for (int n : new int[] {-1, 100, 101, LEAST, GREATEST}) {
            refused("see(0, " + n + ")", BAD, x -> x.see(0, n));
        }
        ClaimLadder x = with("c099,0");
        due("see(0, 0)", x.see(0, 0), 1);
        due("see(0, 99)", x.see(0, 99), 2);
        says(16, "NONE: contract");
        for (int c : STRANGERS) {
            if (c != -1) {
                refused("see(" + c + ", 0)", NONE, y -> y.see(c, 0));
                refused("see(" + c + ", 100)", NONE, y -> y.see(c, 100));
            }
        }
        due("without contracts", new ClaimLadder().see(0, 0), NONE);
        says(16, "FULL: 5.");
        dueRow("the third to the fifth", row(3, n -> x.see(0, n)), 3, 4, 5);
        due("the sixth", x.see(0, 0), FULL);
        due("count(0)", x.count(0), 5);
        refusedFull("see(0, 0)", FULL, y -> y.see(0, 0));
        says(16, "NONE: contract; BAD: n (0 .. 99); FULL: 5.");
        refusedFull("see(0, 100)", BAD, y -> y.see(0, 100));
        refusedFull("see(0, -1)", BAD, y -> y.see(0, -1));
        refusedFull("see(6, 0)", NONE, y -> y.see(6, 0));
        says(16, "contract -1: none then, 0, whatever the rest is");
        for (int n : new int[] {0, -1, 100, LEAST, GREATEST}) {
            ClaimLadder y = full();
            due("see(-1, " + n + ")", y.see(-1, n), 0);
            dueRow("count", row(3, y::count), 0, 8, 8);
            due("then", y.see(0, 30), 1);
        }
        due("of a new object", new ClaimLadder().see(-1, 0), 0);
        says(16, "how many there are");
        ClaimLadder z = with("c09,0");
        dueRow("the same one twice", row(2, n -> z.see(0, 4)), 1, 2);
    }

    // ---- promise 17

    private static void fitsTests() {
        says(17, "what 0 how many, 1 the least; -5. NONE.");
        for (int what : new int[] {-1, 2, 3, LEAST, GREATEST}) {
            due("fits(" + what + ")", busy().fits(what), NONE);
            due("fits(" + what + ") of a new object", new ClaimLadder().fits(what), NONE);
        }
        says(17, "how many LOSSES 0 .. 300 there are by which all of SEEN were so");
        dueRow("none seen, no contracts", row(2, new ClaimLadder()::fits), 301, 0);
        ClaimLadder x = with("c099,0;c099,0;c099,0;c01,2");
        dueRow("none seen", row(2, x::fits), 301, 0);
        x.see(3, 1);
        dueRow("300 alone", row(2, x::fits), 1, 300);
        x.see(-1, 0);
        x.see(0, 0);
        dueRow("0 alone", row(2, x::fits), 1, 0);
        x.see(-1, 0);
        x.see(3, 0);
        dueRow("all but 300", row(2, x::fits), 300, 0);
        x.see(-1, 0);
        x.see(0, 99);
        dueRow("99 and more", row(2, x::fits), 202, 99);
        says(17, "the least (-5: none)");
        x.see(0, 98);
        dueRow("not both", row(2, x::fits), 0, ABSENT);
        says(17, "all of SEEN");
        ClaimLadder y = with("c09,0;c09,0");
        y.see(0, 9);
        y.see(0, 9);
        y.see(1, 5);
        y.see(1, 5);
        dueRow("four of them", row(2, y::fits), 1, 14);
        y.see(1, 6);
        dueRow("the fifth otherwise", row(2, y::fits), 0, ABSENT);
        says(17, "LOSSES 0 .. 300");
        ClaimLadder z = withLoss("c09,0;c29,0;c09,3;r10", 7);
        z.see(1, 0);
        dueRow("whatever the loss is now", row(2, z::fits), 301, 0);
        due("told(1)", z.told(1), 7);
    }

    // ---- promise 18

    private static void oddsTests() {
        says(18, "NO: contract, part.");
        for (int c : STRANGERS) {
            dueRow("odds(" + c + ", ..)", odds(busy(), c), NO, NO);
        }
        for (int part : new int[] {-1, 2, 3, LEAST, GREATEST}) {
            due("odds(0, " + part + ")", busy().odds(0, part), NO);
        }
        dueRow("without contracts", odds(new ClaimLadder(), 0), NO, NO);
        says(18, "were LOSS 10, 20, .. 100, each alike likely");
        ClaimLadder x = with("c01,9");
        dueRow("by 10 on", odds(x, 0), 1, 1);
        x.renew(0, 2, 10);
        dueRow("not by 10", odds(x, 0), 9, 10);
        ClaimLadder y = with("c399,20;c01,0");
        // 0 pays all from 21 to 99: 1 pays by 10, 20 and 100
        dueRow("10, 20, 100", odds(y, 1), 3, 10);
        y.renew(1, 2, 1);
        dueRow("100 leaves 1", odds(y, 1), 1, 5);
        y.renew(1, 2, 0);
        y.renew(0, 2, 0);
        dueRow("100 alone", odds(y, 1), 1, 10);
        y.renew(1, 2, 1);
        dueRow("from 101 on", odds(y, 1), 0, 1);
        says(18, "a fraction in lowest terms");
        ClaimLadder z = with("c099,0;c01,0");
        long[][] want = {{1, 1}, {9, 10}, {4, 5}, {7, 10}, {3, 5}, {1, 2}, {2, 5}, {3, 10}, {1, 5}, {1, 10}};
        for (int n = 0; n < 10; n++) {
            z.renew(0, 1, 10 * n);
            dueRow(10 - n + " of 10", odds(z, 1), want[n]);
        }
        z.renew(1, 1, 0);
        dueRow("never", odds(z, 1), 0, 1);
        says(18, "how likely it PAYS more than 0");
        ClaimLadder w = withLoss("c01,0", 0);
        dueRow("1 is more than 0, whatever the loss is now", odds(w, 0), 1, 1);
        due("told(1)", w.told(1), 0);
    }

    // ---- promise 19

    private static void meanTests() {
        says(19, "part likewise. NO.");
        for (int part : new int[] {-1, 2, 3, LEAST, GREATEST}) {
            due("mean(" + part + ")", busy().mean(part), NO);
        }
        says(19, "NO: none");
        dueRow("no contracts", mean(new ClaimLadder()), NO, NO);
        dueRow("no loss", mean(with("c01,0")), NO, NO);
        dueRow("none pays", mean(withLoss("c00,0;c09,9", 9)), NO, NO);
        dueRow("one pays 1", mean(withLoss("c00,0;c09,8", 9)), 1, 1);
        says(19, "all that is PAID by how many PAY more than 0");
        dueRow("those that pay 0 don't count", mean(withLoss("c05,0;c00,0;c02,0;c09,0", 7)), 7, 2);
        says(19, "a fraction in lowest terms");
        dueRow("6 by 2", mean(withLoss("c05,0;c01,0", 9)), 3, 1);
        dueRow("10 by 4", mean(withLoss("c07,0;c01,0;c01,0;c01,0", 99)), 5, 2);
        dueRow("15 by 6", mean(withLoss("c010,0;c01,0;c01,0;c01,0;c01,0;c01,0", 99)), 5, 2);
        dueRow("14 by 6", mean(withLoss("c09,0;c01,0;c01,0;c01,0;c01,0;c01,0", 99)), 7, 3);
        dueRow("300 by 4", mean(withLoss("c099,0;c099,0;c099,0;c099,0", 300)), 75, 1);
        dueRow("13 by 6", mean(withLoss("c08,0;c01,0;c01,0;c01,0;c01,0;c01,0", 99)), 13, 6);
    }

    // ---- promise 20

    private static void planTests() {
        says(20, "NONE: what (0 .. 3)");
        for (int what : new int[] {-2, 4, 5, LEAST, GREATEST}) {
            refused("plan(" + what + ", 0)", NONE, x -> x.plan(what, 0));
            refused("plan(" + what + ", 999)", NONE, x -> x.plan(what, 999));
        }
        says(20, "NONE: what (0 .. 3), CONTRACT n");
        for (int c : STRANGERS) {
            refused("plan(1, " + c + ")", NONE, x -> x.plan(1, c));
            refused("plan(2, " + c + ")", NONE, x -> x.plan(2, c));
        }
        due("without contracts", new ClaimLadder().plan(1, 0), NONE);
        due("without contracts", new ClaimLadder().plan(2, 0), NONE);
        says(20, "BAD: LOSS");
        for (int n : new int[] {-1, 301, LEAST, GREATEST}) {
            refused("plan(0, " + n + ")", BAD, x -> x.plan(0, n));
        }
        says(20, "BAD: LOSS, RETENTION n");
        for (int n : new int[] {-1, 21, 22, LEAST, GREATEST}) {
            refused("plan(3, " + n + ")", BAD, x -> x.plan(3, n));
        }
        says(20, "A row comes to the PLAN: how many there are");
        ClaimLadder x = full();
        x.plan(-1, 0);
        int[][] good = {{0, 0}, {0, 300}, {1, 0}, {1, 5}, {2, 0}, {2, 5}, {3, 0}};
        dueRow("the ends of each", row(7, n -> x.plan(good[n][0], good[n][1])), 1, 2, 3, 4, 5, 6, 7);
        says(20, "FULL: 8.");
        due("the eighth", x.plan(3, 20), 8);
        due("the ninth", x.plan(0, 0), FULL);
        due("count(1)", x.count(1), 8);
        for (int what = 0; what < 4; what++) {
            int kind = what;
            refusedFull("plan(" + what + ", 0)", FULL, y -> y.plan(kind, 0));
        }
        says(20, "NONE: what (0 .. 3), CONTRACT n; BAD: LOSS, RETENTION n; FULL: 8.");
        refusedFull("plan(4, 0)", NONE, y -> y.plan(4, 0));
        refusedFull("plan(1, 6)", NONE, y -> y.plan(1, 6));
        refusedFull("plan(2, -1)", NONE, y -> y.plan(2, -1));
        refusedFull("plan(0, 301)", BAD, y -> y.plan(0, 301));
        refusedFull("plan(3, 21)", BAD, y -> y.plan(3, 21));
        says(20, "what -1: it is empty then, 0, whatever the rest is");
        for (int n : new int[] {0, -1, 301, LEAST, GREATEST}) {
            ClaimLadder y = full();
            due("plan(-1, " + n + ")", y.plan(-1, n), 0);
            dueRow("count", row(3, y::count), 5, 0, 8);
            due("then", y.plan(0, 5), 1);
        }
        due("of a new object", new ClaimLadder().plan(-1, 0), 0);
        due("a loss without contracts", new ClaimLadder().plan(0, 300), 1);
        due("a retention without contracts", new ClaimLadder().plan(3, 20), 1);
    }

    // ---- promise 21

    private static void endsTests() {
        says(21, "what 0 PAID, 1 OVER, 2 RINGS. NONE.");
        for (int what : new int[] {-1, 3, 4, LEAST, GREATEST}) {
            due("ends(" + what + ")", busy().ends(what), NONE);
            due("ends(" + what + ") of a new object", new ClaimLadder().ends(what), NONE);
        }
        says(21, "ENDS, behind all of it");
        dueRow("no contracts, no plan", ends(new ClaimLadder()), 0, 0, 0);
        ClaimLadder none = new ClaimLadder();
        none.plan(0, 300);
        none.plan(3, 20);
        dueRow("no contracts", ends(none), 0, 300, 0);
        dueRow("an empty plan", ends(withLoss("c05,0;c05,0;r01;r10", 12)), 10, 2, 1);
        says(21, "0 LOSS is n");
        ClaimLadder x = withLoss("c05,2;c09,0;r01;r10", 10);
        x.plan(0, 0);
        dueRow("0", ends(x), 0, 0, 1);
        x.plan(0, 300);
        dueRow("300, the later row holds", ends(x), 14, 286, 1);
        says(21, "1 LIMIT of CONTRACT n is 0");
        x.plan(1, 1);
        dueRow("of the last one", ends(x), 5, 295, 1);
        x.plan(1, 0);
        dueRow("of the first one, too", ends(x), 0, 300, 1);
        says(21, "2 CONTRACT n REFERS to none any more");
        x.plan(2, 1);
        dueRow("the ring falls apart", ends(x), 0, 300, 2);
        ClaimLadder star = withLoss("c05,0;c05,0;c25,0;r20;r21", 99);
        star.plan(2, 0);
        star.plan(2, 1);
        dueRow("others still refer to them", ends(star), 10, 89, 3);
        star.plan(2, 2);
        dueRow("to none of several", ends(star), 15, 84, 3);
        says(21, "3 all RETENTIONS are n");
        ClaimLadder pair = withLoss("c05,9;c05,9;r01", 9);
        for (int n = 9; n >= 0; n--) {
            pair.plan(-1, 0);
            pair.plan(3, n);
            dueRow("retentions " + n, ends(pair), 9 - n, n, 2);
        }
        ClaimLadder six = withLoss("c05,0;c05,1;c05,2;c05,3;c05,4;c05,20", 30);
        dueRow("no plan", ends(six), 25, 5, 6);
        six.plan(3, 0);
        dueRow("0", ends(six), 30, 0, 6);
        six.plan(3, 20);
        dueRow("20", ends(six), 10, 20, 6);
        six.plan(0, 24);
        dueRow("20 of 24", ends(six), 4, 20, 6);
        six.plan(3, 19);
        dueRow("19 of 24", ends(six), 5, 19, 6);
        says(21, "behind all of it");
        for (int n = 0; n < 4; n++) {
            six.plan(0, 21 + n);
        }
        dueRow("the eighth row", ends(six), 5, 19, 6);
        six.plan(0, 300);
        dueRow("a ninth isn't there", ends(six), 5, 19, 6);
        dueRow("nothing has changed", new long[] {six.told(1), six.of(0, 2), six.of(5, 2), six.count(1)},
            30, 0, 20, 8);
        ClaimLadder most = withLoss("c05,0", 300);
        most.plan(0, 0);
        dueRow("loss 300 ends as 0, and stays", new long[] {most.ends(0), most.ends(1), most.told(1)}, 0, 0, 300);
    }

    // ---- promise 22

    private static void bookTests() {
        says(22, "amounts (0 .. 99; 8 rows at most)");
        for (int n : new int[] {-1, 100, 101, LEAST, GREATEST}) {
            refused("book(0, " + n + ")", BAD, x -> x.book(0, n));
        }
        ClaimLadder x = with("c099,0");
        due("book(0, 0)", x.book(0, 0), 1);
        due("book(0, 99)", x.book(0, 99), 2);
        says(22, "NONE: contract");
        for (int c : STRANGERS) {
            if (c != -1) {
                refused("book(" + c + ", 0)", NONE, y -> y.book(c, 0));
                refused("book(" + c + ", 100)", NONE, y -> y.book(c, 100));
            }
        }
        due("without contracts", new ClaimLadder().book(0, 0), NONE);
        says(22, "FULL: 8.");
        dueRow("the third to the eighth", row(6, n -> x.book(0, n)), 3, 4, 5, 6, 7, 8);
        due("the ninth", x.book(0, 0), FULL);
        due("count(2)", x.count(2), 8);
        refusedFull("book(0, 0)", FULL, y -> y.book(0, 0));
        says(22, "NONE: contract; BAD: n; FULL: 8.");
        refusedFull("book(0, 100)", BAD, y -> y.book(0, 100));
        refusedFull("book(0, -1)", BAD, y -> y.book(0, -1));
        refusedFull("book(6, 0)", NONE, y -> y.book(6, 0));
        says(22, "contract -1: it is empty then, 0, whatever the rest is");
        for (int n : new int[] {0, -1, 100, LEAST, GREATEST}) {
            ClaimLadder y = full();
            due("book(-1, " + n + ")", y.book(-1, n), 0);
            dueRow("count", row(3, y::count), 5, 8, 0);
            due("then", y.book(0, 30), 1);
        }
        due("of a new object", new ClaimLadder().book(-1, 0), 0);
    }

    // ---- promise 23

    private static void lookedTests() {
        says(23, "LOOKED at; -5.");
        due("no contracts", new ClaimLadder().looked(), ABSENT);
        ClaimLadder x = withLoss("c05,0;c09,0", 8);
        due("an empty book", x.looked(), ABSENT);
        says(23, "the number (from 0) of the first of these rows that is PAID otherwise (-5: none)");
        x.book(0, 4);
        due("the first", x.looked(), 0);
        x.book(-1, 0);
        x.book(0, 6);
        due("the first, by one more", x.looked(), 0);
        x.book(-1, 0);
        for (int n = 0; n < 7; n++) {
            x.book(n % 2, n % 2 == 0 ? 5 : 3);
        }
        due("seven as paid", x.looked(), ABSENT);
        x.book(1, 4);
        due("the eighth", x.looked(), 7);
        x.loss(9);
        due("the first otherwise", x.looked(), 1);
        x.loss(0);
        due("none is paid", x.looked(), 0);
        ClaimLadder y = with("c05,0");
        y.book(0, 0);
        due("0 is paid by loss 0", y.looked(), ABSENT);
        ClaimLadder z = withLoss("c099,0", 300);
        z.book(0, 99);
        due("99", z.looked(), ABSENT);
    }

    // ---- promise 24

    private static ClaimLadder judged() {
        ClaimLadder x = with("c030,5;c010,0;c05,0;l100");
        x.tape(0, LONGS, 5);
        x.item(0, 1, 30);
        x.item(0, 2, 10);
        x.item(0, 3, 5);
        x.item(0, 4, 30);
        return x;
    }

    private static void judgeTests() {
        says(24, "NONE: tape");
        for (int t : NO_TAPES) {
            due("judge(" + t + ", 0)", judged().judge(t, 0), NONE);
            due("judge(" + t + ", 0) without contracts", new ClaimLadder().judge(t, 0), NONE);
        }
        says(24, "CAST: it is no row of longs.");
        for (int sort : new int[] {BYTES, SHORTS, INTS, BOOLEANS}) {
            for (int n : new int[] {0, 3, 60}) {
                ClaimLadder x = judged();
                x.tape(5, sort, n);
                due("sort " + sort, x.judge(5, 0), CAST);
                due("sort " + sort + ", below 0", x.judge(5, -1), CAST);
            }
        }
        says(24, "-5: no CONTRACTS, also if it holds nothing; NONE, CAST go ahead of that");
        ClaimLadder none = new ClaimLadder();
        due("it holds nothing", none.judge(5, 0), ABSENT);
        due("it holds nothing, below 0", none.judge(5, -1), ABSENT);
        none.tape(0, LONGS, 0);
        none.tape(1, INTS, 0);
        none.tape(2, LONGS, 2);
        dueRow("longs, none of them", row(2, i -> none.judge(0, i - 1)), ABSENT, ABSENT);
        due("ints", none.judge(1, 0), CAST);
        dueRow("longs", row(5, i -> none.judge(2, i - 1)), ABSENT, ABSENT, ABSENT, ABSENT, ABSENT);
        judgeRows();
    }

    private static void judgeRows() {
        says(24, "the first CONTRACT that PAYS otherwise; -5: none");
        ClaimLadder x = judged();
        due("the first", x.judge(0, 0), 0);
        due("all so", x.judge(0, 1), ABSENT);
        x.item(0, 3, 4);
        due("the last", x.judge(0, 1), 2);
        x.item(0, 3, 5);
        for (long v : new long[] {30 + (1L << 32), -30, 30 + (1L << 63), NO, Long.MAX_VALUE, 30L - 256}) {
            x.item(0, 1, v);
            due(v + " isn't 30", x.judge(0, 1), 0);
        }
        x.item(0, 1, 30);
        says(24, "100 and how many were looked at, if the row ends ahead of that");
        x.item(0, 2, 30);
        x.item(0, 3, 10);
        x.item(0, 4, 5);
        due("it ends with the last", x.judge(0, 2), ABSENT);
        x.item(0, 3, 30);
        x.item(0, 4, 10);
        due("behind two", x.judge(0, 3), 102);
        x.item(0, 4, 9);
        due("the last item is otherwise", x.judge(0, 3), 1);
        x.item(0, 4, 30);
        due("behind one", x.judge(0, 4), 101);
        x.item(0, 4, 29);
        due("the last item is otherwise", x.judge(0, 4), 0);
        due("at the end", x.judge(0, 5), 100);
        for (int i : new int[] {6, 60, 61, GREATEST - 1, GREATEST}) {
            due("beyond the end, " + i, x.judge(0, i), 100);
        }
        x.tape(1, LONGS, 0);
        due("a row of none", x.judge(1, 0), 100);
        ClaimLadder six = withLoss("c01,0;c01,0;c01,0;c01,0;c01,0;c01,0", 6);
        six.tape(5, LONGS, 60);
        for (int i = 54; i < 60; i++) {
            six.item(5, i, 1);
        }
        dueRow("at the end of the longest", row(7, n -> six.judge(5, 54 + n)), ABSENT, 105, 104, 103, 102, 101, 100);
        says(24, "or the place is below 0, or the TAPE holds nothing");
        for (int i : new int[] {-1, -2, -60, LEAST, LEAST + 5}) {
            due("judge(0, " + i + ")", x.judge(0, i), 100);
            due("it holds nothing, " + i, x.judge(5, i), 100);
        }
        due("it holds nothing", x.judge(5, 0), 100);
        x.tape(0, -1, 0);
        due("it holds nothing any more", x.judge(0, 0), 100);
    }

    // ---- promise 25

    private static void imageTests() {
        says(25, "THE IMAGE is taken: how many CONTRACTS there are.");
        due("of none", new ClaimLadder().image(), 0);
        due("of one", with("c01,0").image(), 1);
        due("of six", full().image(), 6);
        says(25, "THE IMAGE: CONTRACTS, REFERENCES, LOSS, SEEN, the PLAN, the BOOK.");
        ClaimLadder x = full();
        x.renew(5, 3, 9);
        x.refer(5, 4, true);
        x.book(-1, 0);
        long[] pays = paid(x);
        for (int n = 0; n < 8; n++) {
            x.book(n % 6, n == 7 ? 98 : (int) pays[n % 6]);
        }
        x.plan(-1, 0);
        for (int n = 0; n < 7; n++) {
            x.plan(0, 290 + n);
        }
        x.plan(1, 5);
        x.see(-1, 0);
        for (int n = 0; n < 5; n++) {
            x.see(n == 4 ? 5 : 0, n == 4 ? 0 : 30);
        }
        List<Long> before = new ArrayList<>();
        tellState(x, before);
        due("image()", x.image(), 6);
        for (int c = 0; c < 6; c++) {
            x.renew(c, 0, 3 - x.of(c, 0));
            x.renew(c, 1, 99 - x.of(c, 1));
            x.renew(c, 2, 20 - x.of(c, 2));
            x.renew(c, 3, 101 - x.of(c, 3));
            for (int d = 0; d < 6; d++) {
                x.refer(c, d, (x.of(c, 4) >> d & 1) == 0);
            }
        }
        x.loss(299);
        x.see(-1, 0);
        x.plan(-1, 0);
        x.book(-1, 0);
        for (int n = 0; n < 8; n++) {
            x.see(1, n);
            x.plan(3, n);
            x.book(2, 90 + n);
        }
        due("undo()", x.undo(), 6);
        List<Long> behind = new ArrayList<>();
        tellState(x, behind);
        dueRow("all of it, to the last row", behind.stream().mapToLong(v -> v).toArray(),
            before.stream().mapToLong(v -> v).toArray());
        due("the eighth of the book", x.looked(), 7);
        says(25, "is taken");
        ClaimLadder y = with("c01,0;l1");
        y.image();
        read(y, "c02,0;l2");
        due("another one", y.image(), 2);
        read(y, "c03,0;l3");
        due("undo()", y.undo(), 2);
        due("the later one holds", y.told(1), 2);
    }

    // ---- promise 26

    private static void undoTests() {
        says(26, "STATE: there is none.");
        due("a new object", new ClaimLadder().undo(), STATE);
        ClaimLadder x = with("c05,1;l9");
        x.see(0, 4);
        x.plan(0, 5);
        x.book(0, 6);
        due("undo()", x.undo(), STATE);
        dueRow("nothing has changed", new long[] {x.told(0), x.told(1), x.count(0), x.count(1), x.count(2)},
            1, 9, 1, 1, 1);
        says(26, "All is as THE IMAGE");
        ClaimLadder empty = new ClaimLadder();
        empty.image();
        read(empty, "c05,1;c05,1;r01;l9");
        empty.see(0, 4);
        empty.plan(0, 5);
        empty.book(0, 6);
        due("to none", empty.undo(), 0);
        dueRow("all is empty", new long[] {empty.told(0), empty.told(1), empty.told(8), empty.count(0),
            empty.count(1), empty.count(2), empty.pays(0), empty.fits(0)}, 0, 0, 0, 0, 0, 0, NONE, 301);
        says(26, "THE TEXT and the TAPES stay as they are");
        ClaimLadder y = with("c05,1;l9");
        feed(y, "l");
        y.tape(0, INTS, 2);
        y.item(0, 0, 3);
        y.tape(1, BYTES, 1);
        y.image();
        feed(y, "42");
        y.item(0, 0, 4);
        y.tape(1, -1, 0);
        y.tape(2, LONGS, 3);
        due("undo()", y.undo(), 1);
        due("the text", y.count(3), 3);
        dueRow("the tapes", new long[] {y.peek(0, 0), y.peek(1, 0), y.peek(2, 2), y.peek(2, 3)}, 4, NO, 0, NO);
        due("the text is read", y.read(), 1);
        due("told(1)", y.told(1), 42);
        says(26, "All is as THE IMAGE");
        due("it comes again", y.undo(), 1);
        due("told(1)", y.told(1), 9);
        y.renew(0, 1, 77);
        y.see(0, 1);
        due("it stays as it was taken", y.undo(), 1);
        dueRow("it stays as it was taken", new long[] {y.of(0, 1), y.count(0)}, 5, 0);
        says(26, "how many CONTRACTS");
        ClaimLadder six = full();
        due("fewer than there are", six.undo(), 2);
        due("the others are gone", six.pays(2), NONE);
        due("the number is free again", six.contract(0, 0, 0), 2);
    }

    // ---- promise 27

    private static void countTests() {
        says(27, "How many: 0 SEEN, 1 of the PLAN, 2 of the BOOK, 3 bytes of THE TEXT. BAD.");
        for (int what : new int[] {-1, 4, 5, LEAST, GREATEST}) {
            due("count(" + what + ")", full().count(what), BAD);
            due("count(" + what + ") of a new object", new ClaimLadder().count(what), BAD);
        }
        says(27, "How many");
        dueRow("none", row(4, new ClaimLadder()::count), 0, 0, 0, 0);
        dueRow("some", row(4, busy()::count), 2, 3, 3, 3);
        dueRow("full", row(4, full()::count), 5, 8, 8, 100);
        ClaimLadder x = full();
        x.see(-1, 0);
        x.plan(-1, 0);
        x.book(-1, 0);
        x.read();
        dueRow("empty again", row(4, x::count), 0, 0, 0, 0);
    }

    // ---- promise 28

    private static void tapeTests() {
        says(28, "NONE: tape");
        for (int t : NO_TAPES) {
            refused("tape(" + t + ", 0, 0)", NONE, x -> x.tape(t, 0, 0));
            refused("tape(" + t + ", 5, 61)", NONE, x -> x.tape(t, 5, 61));
            refused("tape(" + t + ", -1, -1)", NONE, x -> x.tape(t, -1, -1));
        }
        says(28, "BAD: sort");
        for (int sort : new int[] {-2, 5, 6, LEAST, GREATEST}) {
            refused("tape(3, " + sort + ", 1)", BAD, x -> x.tape(3, sort, 1));
            refused("tape(5, " + sort + ", -1)", BAD, x -> x.tape(5, sort, -1));
        }
        says(28, "n above 60");
        for (int n : new int[] {61, 62, GREATEST}) {
            for (int sort = 0; sort < 5; sort++) {
                int s = sort;
                refused("tape(3, " + sort + ", " + n + ")", BAD, x -> x.tape(3, s, n));
            }
        }
        says(28, "SIZE (-14): a size below 0");
        for (int n : new int[] {-1, -2, LEAST}) {
            for (int sort = 0; sort < 5; sort++) {
                int s = sort;
                refused("tape(3, " + sort + ", " + n + ")", SIZE, x -> x.tape(3, s, n));
                refused("tape(5, " + sort + ", " + n + ")", SIZE, x -> x.tape(5, s, n));
            }
        }
        tapeRows();
    }

    private static void tapeRows() {
        says(28, "A TAPE becomes a row of n (0 .. 60) of a sort, all 0");
        for (int sort = 0; sort < 5; sort++) {
            for (int t = 0; t < 6; t++) {
                ClaimLadder x = new ClaimLadder();
                due("60 of sort " + sort, x.tape(t, sort, 60), 1);
                dueRow("all 0", items(x, t, 60), new long[60]);
                due("none behind them", x.peek(t, 60), NO);
                due("the last one", x.item(t, 59, 1), 1);
                due("the first one", x.item(t, 0, 1), 1);
                due("60 anew", x.tape(t, sort, 60), 1);
                dueRow("all 0 again", items(x, t, 60), new long[60]);
                due("none of sort " + sort, x.tape(t, sort, 0), 1);
                due("none there", x.peek(t, 0), NO);
                due("none there", x.item(t, 0, 1), PLACE);
                due("one of sort " + sort, x.tape(t, sort, 1), 1);
                dueRow("one, 0", items(x, t, 2), 0, NO);
            }
        }
        says(28, "or holds nothing (sort -1: n does not matter): 1");
        for (int n : new int[] {0, 1, 60, 61, -1, LEAST, GREATEST}) {
            ClaimLadder x = busy();
            due("tape(3, -1, " + n + ")", x.tape(3, -1, n), 1);
            dueRow("nothing", new long[] {x.peek(3, 0), x.item(3, 0, 1)}, NO, NOTHING);
            due("tape(5, -1, " + n + ")", x.tape(5, -1, n), 1);
            due("nothing, still", x.item(5, 0, 1), NOTHING);
        }
        says(28, "A TAPE becomes a row");
        ClaimLadder x = busy();
        x.tape(2, LONGS, 2);
        dueRow("the others stay", new long[] {x.peek(1, 0), x.peek(2, 0), x.peek(3, 0)}, 6, 0, 8);
        x.item(2, 1, Long.MAX_VALUE);
        due("of another sort now", x.peek(2, 1), Long.MAX_VALUE);
        x.tape(2, BYTES, 2);
        x.item(2, 1, 300);
        due("of another sort again", x.peek(2, 1), 44);
        due("longs no more", x.judge(2, 0), CAST);
    }

    // ---- promise 29

    private static void itemTests() {
        says(29, "NONE");
        for (int t : NO_TAPES) {
            refused("item(" + t + ", 0, 1)", NONE, x -> x.item(t, 0, 1));
            refused("item(" + t + ", -1, 1)", NONE, x -> x.item(t, -1, 1));
        }
        says(29, "NOTHING (-11): nothing is there");
        for (int i : new int[] {0, 1, -1, 60, LEAST, GREATEST}) {
            refused("item(5, " + i + ", 1)", NOTHING, x -> x.item(5, i, 1));
        }
        says(29, "PLACE (-13): no such place");
        for (int i : new int[] {-1, 3, 4, 59, 60, LEAST, GREATEST}) {
            for (int t = 0; t < 4; t++) {
                int tape = t;
                refused("item(" + t + ", " + i + ", 1)", PLACE, x -> x.item(tape, i, 1));
            }
        }
        refused("item(4, 1, 1)", PLACE, x -> x.item(4, 1, 1));
        ClaimLadder x = new ClaimLadder();
        x.tape(0, LONGS, 60);
        dueRow("the first and the last", new long[] {x.item(0, 0, 7), x.item(0, 59, 8), x.peek(0, 0), x.peek(0, 59),
            x.peek(0, 1), x.peek(0, 58)}, 1, 1, 7, 8, 0, 0);
        itemBits();
    }

    /** What is put into an item of a sort, and what it is then. */
    private static void put(int sort, long... pairs) {
        ClaimLadder x = new ClaimLadder();
        x.tape(0, sort, 3);
        for (int i = 0; i < pairs.length; i += 2) {
            due("item of sort " + sort + " becomes " + pairs[i], x.item(0, 1, pairs[i]), 1);
            dueRow("then", items(x, 0, 3), 0, pairs[i + 1], 0);
        }
    }

    private static void itemBits() {
        says(29, "its lowest bits, as many as an item has");
        put(BYTES, 0, 0, 1, 1, 127, 127, 128, -128, 129, -127, 255, -1, 256, 0, 257, 1, -1, -1, -128, -128, -129, 127,
            -256, 0, 0x1234567890ABCD80L, -128, Long.MAX_VALUE, -1, Long.MIN_VALUE, 0);
        put(SHORTS, 128, 128, 32767, 32767, 32768, -32768, 65535, -1, 65536, 0, 65537, 1, -32768, -32768,
            -32769, 32767, 0x1234567890ABCDEFL, (short) 0xCDEF, Long.MAX_VALUE, -1, Long.MIN_VALUE, 0);
        put(INTS, 32768, 32768, GREATEST, GREATEST, 1L + GREATEST, LEAST, 0xFFFFFFFFL, -1, 1L << 32, 0,
            (1L << 32) + 1, 1, LEAST, LEAST, -1L + LEAST, GREATEST, 0x1234567890ABCDEFL, 0x90ABCDEF,
            Long.MAX_VALUE, -1, Long.MIN_VALUE, 0);
        put(LONGS, 1L + GREATEST, 1L + GREATEST, -1L + LEAST, -1L + LEAST, 1L << 32, 1L << 32, Long.MAX_VALUE,
            Long.MAX_VALUE, Long.MIN_VALUE, Long.MIN_VALUE, 0, 0);
        says(29, "booleans: whether v is not 0");
        put(BOOLEANS, 1, 1, 0, 0, 2, 1, -1, 1, 256, 1, 65536, 1, 1L << 32, 1, Long.MIN_VALUE, 1, Long.MAX_VALUE, 1,
            0, 0);
    }

    // ---- promise 30

    private static void peekTests() {
        says(30, "NO: no such TAPE");
        for (int t : NO_TAPES) {
            due("peek(" + t + ", 0)", busy().peek(t, 0), NO);
        }
        says(30, "NO: no such TAPE, nothing there");
        for (int i : new int[] {0, -1, 1, LEAST, GREATEST}) {
            due("peek(5, " + i + ")", busy().peek(5, i), NO);
            due("peek(0, " + i + ") of a new object", new ClaimLadder().peek(0, i), NO);
        }
        says(30, "no such place");
        for (int t = 0; t < 4; t++) {
            for (int i : new int[] {-1, 3, 4, 59, 60, LEAST, GREATEST}) {
                due("peek(" + t + ", " + i + ")", busy().peek(t, i), NO);
            }
        }
        ClaimLadder x = busy();
        x.tape(0, LONGS, 3);
        for (int i = 0; i < 3; i++) {
            x.item(0, i, 9);
        }
        x.tape(0, LONGS, 2);
        dueRow("a row that was longer", items(x, 0, 3), 0, 0, NO);
        x.tape(0, LONGS, 60);
        x.item(0, 59, 4);
        due("the last of the longest", x.peek(0, 59), 4);
        due("behind it", x.peek(0, 60), NO);
    }

    // ---- promise 31

    /** Tapes 0 and 1 are rows of five and three of a sort, 2 holds one of longs, 3 one of ints. */
    private static ClaimLadder rows(int sort) {
        ClaimLadder x = new ClaimLadder();
        x.tape(0, sort, 5);
        x.tape(1, sort, 3);
        x.tape(2, LONGS, 1);
        x.tape(3, INTS, 1);
        for (int i = 0; i < 5; i++) {
            x.item(0, i, sort == BOOLEANS ? i % 2 : i + 1);
        }
        return x;
    }

    private static void shiftRefused(String call, long want, Call c) {
        ClaimLadder x = rows(LONGS);
        due(call, c.on(x), want);
        dueRow("all stays", new long[] {x.peek(0, 0), x.peek(0, 1), x.peek(0, 2), x.peek(0, 3), x.peek(0, 4),
            x.peek(1, 0), x.peek(1, 1), x.peek(1, 2), x.peek(2, 0), x.peek(3, 0), x.peek(4, 0)},
            1, 2, 3, 4, 5, 0, 0, 0, 0, 0, NO);
        due("all stays", x.judge(3, 0), CAST);
    }

    private static void shiftTests() {
        says(31, "NONE: tapes");
        for (int t : NO_TAPES) {
            shiftRefused("shift(" + t + ", 0, 0, 0, 0)", NONE, x -> x.shift(t, 0, 0, 0, 0));
            shiftRefused("shift(0, 0, " + t + ", 0, 0)", NONE, x -> x.shift(0, 0, t, 0, 0));
            shiftRefused("shift(4, 0, " + t + ", -1, 0)", NONE, x -> x.shift(4, 0, t, -1, 0));
            shiftRefused("shift(" + t + ", 0, 4, 0, -1)", NONE, x -> x.shift(t, 0, 4, 0, -1));
            shiftRefused("shift(" + t + ", 0, " + t + ", 0, 0)", NONE, x -> x.shift(t, 0, t, 0, 0));
        }
        says(31, "NOTHING");
        shiftRefused("from nothing", NOTHING, x -> x.shift(4, 0, 0, 0, 0));
        shiftRefused("to nothing", NOTHING, x -> x.shift(0, 0, 4, 0, 0));
        shiftRefused("from nothing to it", NOTHING, x -> x.shift(4, 0, 4, 0, 0));
        shiftRefused("from nothing to nothing", NOTHING, x -> x.shift(5, 0, 4, 0, 1));
        shiftRefused("ahead of places", NOTHING, x -> x.shift(4, -1, 0, -1, -1));
        shiftRefused("ahead of places", NOTHING, x -> x.shift(0, 9, 4, 9, 9));
        shiftRefused("ahead of sorts", NOTHING, x -> x.shift(3, 0, 4, 0, 0));
        says(31, "CAST: of unlike sorts");
        shiftRefused("longs to ints", CAST, x -> x.shift(0, 0, 3, 0, 1));
        shiftRefused("ints to longs", CAST, x -> x.shift(3, 0, 0, 0, 1));
        shiftRefused("none of them", CAST, x -> x.shift(3, 0, 0, 0, 0));
        shiftRefused("ahead of places", CAST, x -> x.shift(3, -1, 0, 9, -1));
        for (int a = 0; a < 5; a++) {
            for (int b = 0; b < 5; b++) {
                ClaimLadder x = new ClaimLadder();
                x.tape(0, a, 2);
                x.tape(1, b, 2);
                x.item(0, 0, 1);
                due("sort " + a + " to " + b, x.shift(0, 0, 1, 1, 1), a == b ? 1 : CAST);
                dueRow("then", items(x, 1, 2), 0, a == b ? 1 : 0);
            }
        }
        shiftPlaces();
        shiftOverlaps();
    }

    private static void shiftPlaces() {
        says(31, "PLACE: n, i or j is below 0");
        for (int v : new int[] {-1, -2, LEAST, LEAST + 1}) {
            shiftRefused("n " + v, PLACE, x -> x.shift(0, 0, 1, 0, v));
            shiftRefused("i " + v, PLACE, x -> x.shift(0, v, 1, 0, 1));
            shiftRefused("j " + v, PLACE, x -> x.shift(0, 0, 1, v, 1));
            shiftRefused("i " + v + ", n 0", PLACE, x -> x.shift(0, v, 1, 0, 0));
            shiftRefused("j " + v + ", n 0", PLACE, x -> x.shift(0, 0, 1, v, 0));
            shiftRefused("all " + v, PLACE, x -> x.shift(0, v, 1, v, v));
        }
        shiftRefused("n -1, places within", PLACE, x -> x.shift(0, 2, 1, 2, -1));
        shiftRefused("the same tape, n -1", PLACE, x -> x.shift(0, 2, 0, 2, -1));
        says(31, "or beyond either's end");
        shiftRefused("i + n is one beyond", PLACE, x -> x.shift(0, 3, 1, 0, 3));
        shiftRefused("j + n is one beyond", PLACE, x -> x.shift(0, 0, 1, 1, 3));
        shiftRefused("n is one beyond the other", PLACE, x -> x.shift(0, 0, 1, 0, 4));
        shiftRefused("n is one beyond the first", PLACE, x -> x.shift(1, 0, 0, 0, 4));
        shiftRefused("i is one beyond, n 0", PLACE, x -> x.shift(0, 6, 1, 0, 0));
        shiftRefused("j is one beyond, n 0", PLACE, x -> x.shift(0, 0, 1, 4, 0));
        for (int v : new int[] {GREATEST, GREATEST - 1, 61}) {
            shiftRefused("n " + v, PLACE, x -> x.shift(0, 0, 1, 0, v));
            shiftRefused("n " + v + ", places 1", PLACE, x -> x.shift(0, 1, 1, 1, v));
            shiftRefused("i " + v, PLACE, x -> x.shift(0, v, 1, 0, 1));
            shiftRefused("j " + v, PLACE, x -> x.shift(0, 0, 1, v, 1));
            shiftRefused("all " + v, PLACE, x -> x.shift(0, v, 1, v, v));
        }
        says(31, "n items of a TAPE from i on come to another one (or the same) from j on");
        ClaimLadder x = rows(LONGS);
        due("none", x.shift(0, 0, 1, 0, 0), 0);
        due("none, at both ends", x.shift(0, 5, 1, 3, 0), 0);
        dueRow("none came", items(x, 1, 3), 0, 0, 0);
        due("up to both ends", x.shift(0, 2, 1, 0, 3), 3);
        dueRow("they came", items(x, 1, 3), 3, 4, 5);
        due("one, from end to end", x.shift(0, 4, 1, 2, 1), 1);
        due("one, from start to end", x.shift(0, 0, 1, 2, 1), 1);
        dueRow("they came", items(x, 1, 3), 3, 4, 1);
        dueRow("those they come from stay", items(x, 0, 5), 1, 2, 3, 4, 5);
        ClaimLadder none = new ClaimLadder();
        none.tape(0, LONGS, 0);
        none.tape(1, LONGS, 0);
        due("rows of none", none.shift(0, 0, 1, 0, 0), 0);
        due("one of rows of none", none.shift(0, 0, 1, 0, 1), PLACE);
        ClaimLadder longest = new ClaimLadder();
        longest.tape(5, BYTES, 60);
        longest.tape(0, BYTES, 60);
        longest.item(5, 0, 3);
        longest.item(5, 59, 4);
        due("60", longest.shift(5, 0, 0, 0, 60), 60);
        dueRow("the first and the last", new long[] {longest.peek(0, 0), longest.peek(0, 59)}, 3, 4);
        due("61", longest.shift(5, 0, 0, 0, 61), PLACE);
    }

    private static void shiftOverlaps() {
        says(31, "as they all were before");
        for (int sort : new int[] {BYTES, SHORTS, INTS, LONGS}) {
            ClaimLadder up = rows(sort);
            due("up", up.shift(0, 0, 0, 1, 4), 4);
            dueRow("up", items(up, 0, 5), 1, 1, 2, 3, 4);
            ClaimLadder down = rows(sort);
            due("down", down.shift(0, 1, 0, 0, 4), 4);
            dueRow("down", items(down, 0, 5), 2, 3, 4, 5, 5);
            ClaimLadder same = rows(sort);
            due("to where they are", same.shift(0, 0, 0, 0, 5), 5);
            dueRow("to where they are", items(same, 0, 5), 1, 2, 3, 4, 5);
            ClaimLadder apart = rows(sort);
            due("apart", apart.shift(0, 0, 0, 3, 2), 2);
            dueRow("apart", items(apart, 0, 5), 1, 2, 3, 1, 2);
        }
        ClaimLadder booleans = rows(BOOLEANS);
        due("up", booleans.shift(0, 1, 0, 2, 3), 3);
        dueRow("up", items(booleans, 0, 5), 0, 1, 1, 0, 1);
    }

    // ---- what is asked

    private static void asked(int number, String call, Call c) {
        says(number, "what is asked changes nothing");
        ClaimLadder x = busy();
        c.on(x);
        sameStory(call, x, busy());
        ClaimLadder y = full();
        c.on(y);
        sameStory("full: " + call, y, full());
    }

    private static void askedTests() {
        for (int n = -1; n < 10; n++) {
            int k = n;
            asked(6, "of(1, " + n + ")", x -> x.of(1, k));
            asked(9, "ring(" + n + ", 3)", x -> x.ring(k, 3));
            asked(10, "pays(" + n + ")", x -> x.pays(k));
            asked(11, "told(" + n + ")", x -> x.told(k));
            asked(12, "why(1, " + n + ")", x -> x.why(1, k));
            asked(13, "net(0, " + n + ")", x -> x.net(0, 100 * k));
            asked(14, "more(" + n + ")", x -> x.more(k));
            asked(15, "from(" + n + ")", x -> x.from(k));
            asked(17, "fits(" + n + ")", x -> x.fits(k));
            asked(18, "odds(0, " + n + ")", x -> x.odds(0, k));
            asked(19, "mean(" + n + ")", x -> x.mean(k));
            asked(21, "ends(" + n + ")", x -> x.ends(k));
            asked(24, "judge(3, " + n + ")", x -> x.judge(3, k));
            asked(27, "count(" + n + ")", x -> x.count(k));
            asked(30, "peek(3, " + n + ")", x -> x.peek(3, k));
        }
        asked(23, "looked()", ClaimLadder::looked);
    }

    /** Nothing of an earlier state is in an answer, whichever question comes first behind a change. */
    private static void askedFirst(int number, String call, long want, Call c) {
        says(number, "What a CONTRACT PAYS");
        ClaimLadder x = withLoss("c05,0;c09,0;c09,0;c09,0;r02;r20;r13", 300);
        x.tape(0, LONGS, 4);
        x.item(0, 0, 5);
        x.book(0, 5);
        x.see(0, 2);
        x.plan(3, 1);
        c.on(x);
        x.refer(2, 0, false);
        x.loss(13);
        // the ladder: 2 pays 9, 3 pays 4, nothing is left for 0 and 1
        due(call + " behind a change", c.on(x), want);
    }

    private static void askedFirstTests() {
        askedFirst(6, "of(3, 9)", 4, x -> x.of(3, 9));
        askedFirst(6, "of(0, 8)", 0, x -> x.of(0, 8));
        askedFirst(6, "of(0, 7)", 1, x -> x.of(0, 7));
        askedFirst(6, "of(2, 5)", 0, x -> x.of(2, 5));
        askedFirst(9, "ring(1, 3)", 4, x -> x.ring(1, 3));
        askedFirst(9, "ring(3, 0)", 2, x -> x.ring(3, 0));
        askedFirst(10, "pays(3)", 4, x -> x.pays(3));
        askedFirst(11, "told(2)", 13, x -> x.told(2));
        askedFirst(11, "told(4)", 4, x -> x.told(4));
        askedFirst(11, "told(7)", 2, x -> x.told(7));
        askedFirst(12, "why(0, 1)", 3, x -> x.why(0, 1));
        askedFirst(13, "net(3, 1)", 3, x -> x.net(3, 1));
        askedFirst(14, "more(3)", 1, x -> x.more(3));
        askedFirst(15, "from(0)", 19, x -> x.from(0));
        askedFirst(17, "fits(1)", 20, x -> x.fits(1));
        askedFirst(18, "odds(1, 0)", 4, x -> x.odds(1, 0));
        askedFirst(19, "mean(0)", 13, x -> x.mean(0));
        askedFirst(21, "ends(0)", 12, x -> x.ends(0));
        askedFirst(23, "looked()", 0, x -> x.looked());
        askedFirst(24, "judge(0, 0)", 0, x -> x.judge(0, 0));
    }
}
