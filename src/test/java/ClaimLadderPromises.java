/** Each promise by hand: ordinary inputs, the edges that the document names, wrong inputs. */
public final class ClaimLadderPromises {
    private static final int NONE = -1, BAD = -2, STATE = -3, FULL = -4, ABSENT = -5;
    private static final int NOTHING = -11, CAST = -12, PLACE = -13, SIZE = -14;
    private static final int LEAST = Integer.MIN_VALUE, GREATEST = Integer.MAX_VALUE;
    private static final int PLAIN = 0, PART = 1, ESCAPE = 2, WHOLE = 3;

    private static int looks = 0;
    private static int wrong = 0;

    private static void due(int promise, String call, long got, long want) {
        looks++;
        if (got != want) {
            wrong++;
            System.out.println("promise " + promise + ": " + call + " answered " + got + ", due is " + want);
        }
    }

    private static void dueRow(int promise, String calls, long[] got, long... want) {
        for (int i = 0; i < want.length; i++) {
            due(promise, calls + " [" + i + "]", i < got.length ? got[i] : ClaimLadder.NO + 1, want[i]);
        }
    }

    private static int read(ClaimLadder x, String text) {
        for (int i = 0; i < text.length(); i++) {
            x.feed(text.charAt(i));
        }
        return x.read();
    }

    private static ClaimLadder with(String text) {
        ClaimLadder x = new ClaimLadder();
        int done = read(x, text);
        due(8, "read of " + text, done, text.split(";").length);
        return x;
    }

    private static long[] paid(ClaimLadder x) {
        long[] row = new long[x.told(0)];
        for (int c = 0; c < row.length; c++) {
            row[c] = x.pays(c);
        }
        return row;
    }

    private static long[] reasons(ClaimLadder x, int contract) {
        return new long[] {x.why(contract, 0), x.why(contract, 1), x.why(contract, 2), x.why(contract, 3)};
    }

    private static long[] nets(ClaimLadder x, int n) {
        long[] row = new long[x.told(0)];
        for (int c = 0; c < row.length; c++) {
            row[c] = x.net(c, n);
        }
        return row;
    }

    private static long[] ringOf(ClaimLadder x, int k) {
        return new long[] {x.ring(k, 0), x.ring(k, 1), x.ring(k, 2), x.ring(k, 3)};
    }

    private static long[] odds(ClaimLadder x, int contract) {
        return new long[] {x.odds(contract, 0), x.odds(contract, 1)};
    }

    public static void main(String[] args) {
        newObject();
        contract();
        renew();
        refer();
        loss();
        of();
        ofRings();
        feed();
        read();
        readFaults();
        ring();
        paysByKind();
        paysInRings();
        told();
        whyAlone();
        whyInRings();
        net();
        more();
        from();
        see();
        fits();
        odds();
        mean();
        plan();
        ends();
        book();
        looked();
        judge();
        imageAndUndo();
        count();
        tape();
        item();
        peek();
        shift();
        shiftRefusals();
        sixContracts();
        onesAndFirsts();
        System.out.println(looks + " answers looked at, " + wrong + " not as due");
        if (wrong != 0) {
            System.exit(1);
        }
    }

    private static void newObject() {
        ClaimLadder x = new ClaimLadder();
        due(1, "told(0)", x.told(0), 0);
        due(1, "told(1)", x.told(1), 0);
        due(1, "told(4)", x.told(4), 0);
        due(1, "pays(0)", x.pays(0), NONE);
        due(1, "undo()", x.undo(), STATE);
        for (int what = 0; what < 4; what++) {
            due(1, "count(" + what + ")", x.count(what), 0);
        }
        for (int t = 0; t < 6; t++) {
            due(1, "item(" + t + ", 0, 0)", x.item(t, 0, 0), NOTHING);
        }
        due(1, "NO", ClaimLadder.NO, Long.MIN_VALUE);
        due(1, "NONE", ClaimLadder.NONE, NONE);
        due(1, "BAD", ClaimLadder.BAD, BAD);
        due(1, "STATE", ClaimLadder.STATE, STATE);
        due(1, "FULL", ClaimLadder.FULL, FULL);
        ClaimLadder y = new ClaimLadder();
        x.contract(0, 1, 1);
        due(1, "another one's told(0)", y.told(0), 0);
    }

    private static void contract() {
        ClaimLadder x = new ClaimLadder();
        int[][] bad = {{-1, 0, 0}, {4, 0, 0}, {0, -1, 0}, {0, 100, 0}, {0, 0, -1}, {0, 0, 21},
            {LEAST, 0, 0}, {GREATEST, 0, 0}, {0, LEAST, 0}, {0, GREATEST, 0}, {0, 0, LEAST}, {0, 0, GREATEST}};
        for (int[] b : bad) {
            due(2, "contract, bad", x.contract(b[0], b[1], b[2]), BAD);
        }
        due(2, "told(0)", x.told(0), 0);
        due(2, "contract(0, 0, 0)", x.contract(0, 0, 0), 0);
        due(2, "contract(3, 99, 20)", x.contract(3, 99, 20), 1);
        due(2, "contract(1, 7, 8)", x.contract(1, 7, 8), 2);
        due(2, "kind", x.of(2, 0), 1);
        due(2, "limit", x.of(2, 1), 7);
        due(2, "retention", x.of(2, 2), 8);
        due(2, "quota", x.of(2, 3), 100);
        due(2, "refers", x.of(2, 4), 0);
        for (int c = 3; c < 6; c++) {
            due(2, "contract " + c, x.contract(2, 1, 1), c);
        }
        due(2, "the seventh", x.contract(0, 0, 0), FULL);
        due(2, "a bad seventh", x.contract(4, 0, 0), BAD);
        due(2, "told(0)", x.told(0), 6);
    }

    private static void renew() {
        ClaimLadder x = with("c030,5;c140,2");
        due(3, "kind", x.renew(0, 0, 3), 0);
        due(3, "kind again", x.renew(0, 0, 1), 3);
        due(3, "limit", x.renew(0, 1, 99), 30);
        due(3, "retention", x.renew(0, 2, 20), 5);
        due(3, "quota", x.renew(0, 3, 1), 100);
        due(3, "quota again", x.renew(0, 3, 100), 1);
        dueRow(3, "of", new long[] {x.of(0, 0), x.of(0, 1), x.of(0, 2), x.of(0, 3)}, 1, 99, 20, 100);
        dueRow(3, "of the other", new long[] {x.of(1, 0), x.of(1, 1), x.of(1, 2), x.of(1, 3)}, 1, 40, 2, 100);
        int[][] bad = {{0, -1}, {0, 4}, {1, -1}, {1, 100}, {2, -1}, {2, 21}, {3, 0}, {3, 101}, {3, LEAST}};
        for (int[] b : bad) {
            due(3, "renew(0, " + b[0] + ", " + b[1] + ")", x.renew(0, b[0], b[1]), BAD);
        }
        due(3, "no contract", x.renew(2, 0, 0), NONE);
        due(3, "no contract", x.renew(-1, 0, 99), NONE);
        due(3, "no such what", x.renew(0, 4, 0), NONE);
        due(3, "no such what", x.renew(0, -1, 0), NONE);
        dueRow(3, "of", new long[] {x.of(0, 0), x.of(0, 1), x.of(0, 2), x.of(0, 3)}, 1, 99, 20, 100);
    }

    private static void refer() {
        ClaimLadder x = with("c030,5;c140,2");
        due(4, "refer(0, 1, true)", x.refer(0, 1, true), 0);
        due(4, "refer(0, 1, true)", x.refer(0, 1, true), 1);
        due(4, "of(0, 4)", x.of(0, 4), 2);
        due(4, "of(1, 4)", x.of(1, 4), 0);
        due(4, "refer(0, 1, false)", x.refer(0, 1, false), 1);
        due(4, "refer(0, 1, false)", x.refer(0, 1, false), 0);
        due(4, "of(0, 4)", x.of(0, 4), 0);
        due(4, "one twice", x.refer(0, 0, true), NONE);
        due(4, "no contract", x.refer(0, 2, true), NONE);
        due(4, "no contract", x.refer(2, 0, true), NONE);
        due(4, "no contract", x.refer(-1, 0, true), NONE);
        due(4, "no contract", x.refer(0, GREATEST, true), NONE);
        due(4, "told(8)", x.told(8), 0);
    }

    private static void loss() {
        ClaimLadder x = new ClaimLadder();
        due(5, "loss(300)", x.loss(300), 0);
        due(5, "loss(0)", x.loss(0), 300);
        due(5, "loss(7)", x.loss(7), 0);
        due(5, "loss(-1)", x.loss(-1), BAD);
        due(5, "loss(301)", x.loss(301), BAD);
        due(5, "loss(least)", x.loss(LEAST), BAD);
        due(5, "told(1)", x.told(1), 7);
    }

    private static void of() {
        ClaimLadder x = with("c030,5;c140,2;c325,0;q150;r10;r21;l100");
        long[] got = new long[10];
        for (int what = 0; what < 10; what++) {
            got[what] = x.of(1, what);
        }
        // left 70, of it 35, less 2
        dueRow(6, "of(1, ..)", got, 1, 40, 2, 50, 1, 1, 2, 1, 70, 33);
        due(6, "reaches by another", x.of(2, 5), 3);
        due(6, "rung", x.of(2, 7), 2);
        due(6, "no contract", x.of(3, 0), NONE);
        due(6, "no contract", x.of(-1, 9), NONE);
        due(6, "no such what", x.of(0, 10), NONE);
        due(6, "no such what", x.of(0, -1), NONE);
    }

    private static void ofRings() {
        // 0 and 5 a ring through 3; 1 refers into it; 2 refers to 1 and to it; 4 stands apart
        ClaimLadder x = with("c010,0;c010,0;c010,0;c010,0;c010,0;c010,0;r03;r35;r50");
        due(6, "more of it", read(x, "r15;r21;r20"), 3);
        dueRow(6, "reach", new long[] {x.of(0, 5), x.of(1, 5), x.of(2, 5), x.of(3, 5), x.of(4, 5), x.of(5, 5)},
            0b101000, 0b101001, 0b101011, 0b100001, 0, 0b001001);
        dueRow(6, "rings", new long[] {x.of(0, 6), x.of(1, 6), x.of(2, 6), x.of(3, 6), x.of(4, 6), x.of(5, 6)},
            0b101001, 2, 4, 0b101001, 16, 0b101001);
        dueRow(6, "rungs", new long[] {x.of(0, 7), x.of(1, 7), x.of(2, 7), x.of(3, 7), x.of(4, 7), x.of(5, 7)},
            0, 1, 2, 0, 0, 0);
    }

    private static void feed() {
        ClaimLadder x = new ClaimLadder();
        due(7, "feed(-1)", x.feed(-1), BAD);
        due(7, "feed(128)", x.feed(128), BAD);
        due(7, "feed(greatest)", x.feed(GREATEST), BAD);
        due(7, "feed(0)", x.feed(0), 1);
        due(7, "feed(127)", x.feed(127), 2);
        for (int n = 3; n <= 100; n++) {
            due(7, "feed, the " + n + "th", x.feed('l'), n);
        }
        due(7, "the 101st", x.feed('l'), FULL);
        due(7, "a bad 101st", x.feed(128), BAD);
        due(7, "count(3)", x.count(3), 100);
    }

    private static void read() {
        ClaimLadder x = new ClaimLadder();
        due(8, "a set-up", read(x, "c030,5;c140,02;q1050;r01;l100"), 5);
        due(8, "is empty then", x.count(3), 0);
        dueRow(8, "told", new long[] {x.told(0), x.told(1), x.of(1, 1), x.of(1, 2), x.of(1, 3), x.of(0, 4)},
            2, 100, 40, 2, 50, 2);
        due(8, "n", read(x, "n01"), 1);
        due(8, "told(8)", x.told(8), 0);
        due(8, "n of none", read(x, "n01"), 1);
        due(8, "those refused", read(x, "c91,1;c01,21;q00;q0101;q9100;l301;r00;r02;n20;l7"), 1);
        due(8, "told(1)", x.told(1), 7);
        due(8, "a contract is there for what follows", read(x, "r02;c05,0;r02"), 2);
        due(8, "six at most", read(x, "c01,0;c01,0;c01,0;c01,0;l0"), 4);
        due(8, "told(0)", x.told(0), 6);
        due(8, "leading noughts", read(x, "l007"), 1);
        due(8, "told(1)", x.told(1), 7);
        due(8, "twelve", read(x, "l1;l2;l3;l4;l5;l6;l7;l8;l9;l10;l11;l12"), 12);
        due(8, "told(1)", x.told(1), 12);
    }

    private static void readFaults() {
        String[] texts = {"", "x", "c", "c0", "c03", "c030", "c030,", "c0301", "c030,512", "c030,5;", "c030,5;;",
            "c030,5 ", " l1", "r", "r0", "r012", "n", "n0;", "q", "q0", "q0;", "q01000", "l", "l;", "l1000", "l-1",
            "cx", "c0,5", "c0x", "c05,x", "l1,l2", "L1", "l1;x", "l1:l2", "\0", "r0x", "q0x", "n0x"};
        int[] places = {0, 0, 1, 2, 3, 4, 5, 4, 7, 7, 7,
            6, 0, 1, 2, 3, 1, 2, 1, 2, 2, 5, 1, 1, 4, 1,
            1, 2, 2, 4, 2, 0, 3, 2, 0, 2, 2, 2};
        ClaimLadder x = new ClaimLadder();
        for (int i = 0; i < texts.length; i++) {
            due(8, "fault of '" + texts[i] + "'", read(x, texts[i]), -10 - places[i]);
            due(8, "text is empty behind '" + texts[i] + "'", x.count(3), 0);
        }
        String[] longer = {"c030,5;l1", "l1;l22", "q0100", "r01;", "l100"};
        String[] shorter = {"c030", "l1;", "q0", "r0", "l"};
        int[] ends = {4, 3, 2, 2, 1};
        for (int i = 0; i < longer.length; i++) {
            ClaimLadder y = new ClaimLadder();
            read(y, longer[i]);
            due(8, "'" + shorter[i] + "' behind '" + longer[i] + "'", read(y, shorter[i]), -10 - ends[i]);
        }
        due(8, "a thirteenth", read(x, "l1;l2;l3;l4;l5;l6;l7;l8;l9;l1;l2;l3;l4"), -45);
        due(8, "a sign behind the twelfth", read(x, "l1;l2;l3;l4;l5;l6;l7;l8;l9;l1;l2;l3;"), -45);
        dueRow(8, "nothing was done", new long[] {x.told(0), x.told(1)}, 0, 0);
    }

    private static void ring() {
        // rung 0: {1, 2} and {3}; rung 1: {0}; rung 2: {4}
        ClaimLadder x = with("c010,0;c020,0;c015,5;c07,0;c09,0;r12;r21;r03;r40;l100");
        dueRow(9, "ring 0", ringOf(x, 0), 6, 0, 100, 35);
        dueRow(9, "ring 1", ringOf(x, 1), 8, 0, 65, 7);
        dueRow(9, "ring 2", ringOf(x, 2), 1, 1, 58, 10);
        dueRow(9, "ring 3", ringOf(x, 3), 16, 2, 48, 9);
        dueRow(9, "no ring", ringOf(x, 4), NONE, NONE, NONE, NONE);
        dueRow(9, "no ring", ringOf(x, -1), NONE, NONE, NONE, NONE);
        due(9, "no such what", x.ring(0, 4), NONE);
        due(9, "no such what", x.ring(0, -1), NONE);
        due(9, "two to one", x.refer(3, 2, true), 0);
        dueRow(9, "ring 1", ringOf(x, 1), 8, 1, 65, 7);
        dueRow(9, "ring 2", ringOf(x, 2), 1, 2, 58, 10);
    }

    private static void paysByKind() {
        ClaimLadder x = with("c030,5");
        int[][] plain = {{0, 0}, {5, 0}, {6, 1}, {34, 29}, {35, 30}, {36, 30}, {300, 30}};
        lossesPaid(x, plain);
        x.renew(0, 0, PART);
        x.renew(0, 3, 33);
        // 18 times 33 is 594, cut to 5
        lossesPaid(x, new int[][] {{15, 0}, {18, 0}, {19, 1}, {100, 28}, {109, 30}, {300, 30}});
        x.renew(0, 0, ESCAPE);
        lossesPaid(x, plain);
        x.renew(0, 0, WHOLE);
        lossesPaid(x, new int[][] {{0, 0}, {5, 0}, {6, 6}, {29, 29}, {30, 30}, {31, 30}, {300, 30}});
        x.renew(0, 1, 0);
        lossesPaid(x, new int[][] {{6, 0}, {300, 0}});
        x.renew(0, 0, PLAIN);
        lossesPaid(x, new int[][] {{6, 0}, {300, 0}});
        due(10, "no contract", x.pays(1), NONE);
        due(10, "no contract", x.pays(-1), NONE);

        ClaimLadder y = with("c010,5;c210,0;c210,0;r10;r21;l100");
        dueRow(10, "an escape looks at what it refers to itself", paid(y), 10, 0, 10);
        y.loss(5);
        dueRow(10, "one that pays nothing lets no escape", paid(y), 0, 5, 0);
        y.refer(2, 0, true);
        y.loss(100);
        dueRow(10, "one of two is enough", paid(y), 10, 0, 0);
    }

    private static void lossesPaid(ClaimLadder x, int[][] rows) {
        for (int[] row : rows) {
            x.loss(row[0]);
            due(10, "pays(0) by loss " + row[0] + ", kind " + x.of(0, 0), x.pays(0), row[1]);
        }
    }

    private static void paysInRings() {
        ClaimLadder x = with("c030,5;c140,2;c225,0;q150;r01;r12;r20;l7");
        dueRow(10, "a ring by ones", paid(x), 2, 1, 4);
        x.loss(8);
        dueRow(10, "a ring by ones", paid(x), 3, 2, 3);
        x.loss(1);
        dueRow(10, "a ring by ones", paid(x), 0, 0, 1);
        x.loss(300);
        dueRow(10, "all their most", paid(x), 30, 40, 25);
        x.loss(40);
        dueRow(10, "a turn breaks off", paid(x), 14, 13, 13);
        x.loss(41);
        dueRow(10, "a turn breaks off", paid(x), 14, 14, 13);

        ClaimLadder y = with("c02,0;c02,0;c099,0;c099,0;r01;r12;r23;r30;l11");
        // two rounds for all, then 2 and 3 by turns
        dueRow(10, "some drop out", paid(y), 2, 2, 4, 3);
        y.loss(16);
        dueRow(10, "the others go on alike", paid(y), 2, 2, 6, 6);
        y.loss(11);
        y.renew(2, 0, WHOLE);
        y.renew(2, 2, 11);
        dueRow(10, "whole: only above its retention", paid(y), 2, 2, 0, 7);
        y.renew(2, 2, 10);
        dueRow(10, "whole", paid(y), 2, 2, 4, 3);
    }

    private static void told() {
        ClaimLadder x = with("c010,0;c020,0;c015,5;c07,0;c09,0;r12;r21;r03;r40;l100");
        long[] got = new long[9];
        for (int what = 0; what < 9; what++) {
            got[what] = x.told(what);
        }
        dueRow(11, "told", got, 5, 100, 61, 39, 4, 1, 2, 5, 4);
        due(11, "no such what", x.told(9), NONE);
        due(11, "no such what", x.told(-1), NONE);
        x.loss(3);
        dueRow(11, "told", new long[] {x.told(2), x.told(3), x.told(7)}, 3, 0, 1);
        ClaimLadder y = new ClaimLadder();
        y.loss(9);
        dueRow(11, "without contracts", new long[] {y.told(2), y.told(3), y.told(6), y.told(7)}, 0, 9, ABSENT, 0);
    }

    private static void whyAlone() {
        ClaimLadder x = with("c030,5;c140,4;c212,3;c360,10;q150;l100");
        dueRow(12, "its limit", reasons(x, 0), 4, 30, ABSENT, ABSENT);
        dueRow(12, "it pays less", reasons(x, 1), 6, 39, ABSENT, ABSENT);
        dueRow(12, "an escape that refers to none", reasons(x, 2), 4, 12, ABSENT, ABSENT);
        dueRow(12, "it pays all that is left", reasons(x, 3), 0, ABSENT, ABSENT, ABSENT);
        x.loss(0);
        dueRow(12, "no loss", reasons(x, 0), 1, 99, 0, ABSENT);
        dueRow(12, "no loss", reasons(x, 3), 1, 99, 0, ABSENT);
        x.loss(5);
        dueRow(12, "its retention", reasons(x, 0), 3, 5, 5, ABSENT);
        dueRow(12, "its quota of 5 is 2", reasons(x, 1), 3, 2, 4, ABSENT);
        due(12, "no contract", x.why(4, 0), NONE);
        due(12, "no contract", x.why(-1, 0), NONE);
        due(12, "k below 0", x.why(0, -1), NONE);
        due(12, "k", x.why(0, GREATEST), ABSENT);

        ClaimLadder y = with("c010,5;c015,5;c210,20;c09,0;r20;r21;l100;c09,0;r32");
        dueRow(12, "an escape, the least", reasons(y, 2), 2, 0, 10, ABSENT);
        y.renew(0, 1, 0);
        dueRow(12, "limit 0", reasons(y, 0), 4, 0, ABSENT, ABSENT);
        dueRow(12, "an escape, the least that pays", reasons(y, 2), 2, 1, 15, ABSENT);
        y.loss(30);
        // 1 pays 15, 4 pays 9, and 6 are left
        dueRow(12, "an escape goes ahead of its retention", reasons(y, 2), 2, 1, 15, ABSENT);
        y.loss(6);
        // 1 pays 1 of 6, 4 pays the 5 that are left
        dueRow(12, "all is paid", reasons(y, 3), 1, 4, 5, ABSENT);
    }

    private static void whyInRings() {
        ClaimLadder x = with("c030,5;c140,2;c225,0;c060,0;q150;r01;r12;r20;r30;l7");
        dueRow(12, "in a ring", reasons(x, 0), 5, 7, 7, ABSENT);
        dueRow(12, "an escape in a ring", reasons(x, 2), 5, 7, 7, ABSENT);
        dueRow(12, "the last of a ring", reasons(x, 3), 1, 2, 4, ABSENT);
        x.loss(4);
        dueRow(12, "in a ring, its retention", reasons(x, 0), 3, 4, 5, ABSENT);
        dueRow(12, "in a ring, its quota", reasons(x, 1), 3, 2, 2, ABSENT);
        dueRow(12, "in a ring, all", reasons(x, 2), 0, ABSENT, ABSENT, ABSENT);
        x.loss(300);
        dueRow(12, "in a ring, its limit", reasons(x, 0), 4, 30, ABSENT, ABSENT);
        x.renew(2, 1, 0);
        x.loss(8);
        // 0 pays 3, 1 pays 2: 3 are left
        dueRow(12, "ring that pays not all", reasons(x, 0), 5, 7, 5, ABSENT);
        dueRow(12, "pays what is left", reasons(x, 3), 0, ABSENT, ABSENT, ABSENT);
        x.loss(7);
        x.renew(2, 1, 25);
        x.renew(2, 2, 20);
        // 2 keeps 20; 0 pays 2, 1 pays 1
        dueRow(12, "last payer of a ring isn't its last one", new long[] {x.why(2, 0), x.why(2, 1), x.why(2, 2)},
            3, 7, 20);
        x.renew(0, 2, 0);
        x.renew(1, 0, PLAIN);
        dueRow(12, "last payer of a ring isn't its last one", reasons(x, 3), 1, 1, 3, ABSENT);
    }

    private static void net() {
        // {0, 1} pay 10 and 3, 2 pays 5, 3 pays 4
        ClaimLadder x = with("c010,0;c03,0;c05,0;c04,0;r01;r10;r20;r32;l100");
        dueRow(13, "0 back", nets(x, 0), 10, 3, 5, 4);
        dueRow(13, "1 back", nets(x, 1), 10, 3, 5, 3);
        dueRow(13, "6 back", nets(x, 6), 10, 3, 3, 0);
        dueRow(13, "10 back", nets(x, 10), 9, 3, 0, 0);
        dueRow(13, "14 back", nets(x, 14), 7, 1, 0, 0);
        dueRow(13, "18 back", nets(x, 18), 4, 0, 0, 0);
        dueRow(13, "22 back", nets(x, 22), 0, 0, 0, 0);
        dueRow(13, "999 back", nets(x, 999), 0, 0, 0, 0);
        due(13, "no contract", x.net(4, 0), NONE);
        due(13, "no contract ahead of n", x.net(-1, -1), NONE);
        due(13, "n", x.net(0, -1), BAD);
        due(13, "n", x.net(0, 1000), BAD);
        due(13, "it changes nothing", x.pays(0), 10);
    }

    private static void more() {
        ClaimLadder x = with("c030,5;c140,2;c225,0;q150;r01;r12;r20;l7");
        dueRow(14, "more", new long[] {x.more(0), x.more(1), x.more(2)}, 1, 1, -1);
        due(14, "it changes nothing", x.told(1), 7);
        due(14, "no contract", x.more(3), ClaimLadder.NO);
        due(14, "no contract", x.more(-1), ClaimLadder.NO);
        ClaimLadder y = with("c099,0;c099,0;c099,0;c099,0;l300");
        dueRow(14, "301", new long[] {y.more(0), y.more(3)}, 0, 1);
        ClaimLadder z = with("c320,10;l10");
        due(14, "a leap", z.more(0), 11);
    }

    private static void from() {
        ClaimLadder x = with("c030,5;c010,20;c09,0;c00,0;r10;l100");
        dueRow(15, "from", new long[] {x.from(0), x.from(1), x.from(2), x.from(3)}, 6, 60, 1, ABSENT);
        due(15, "it changes nothing", x.told(1), 100);
        due(15, "no contract", x.from(4), NONE);
        due(15, "no contract", x.from(-1), NONE);
        ClaimLadder y = with("c099,0;c099,0;c099,0;c099,2");
        due(15, "by 300", y.from(3), 300);
        y.renew(3, 2, 3);
        due(15, "not by 300", y.from(3), ABSENT);
    }

    private static void see() {
        ClaimLadder x = with("c030,5;c010,0");
        due(16, "see(0, 0)", x.see(0, 0), 1);
        due(16, "see(1, 99)", x.see(1, 99), 2);
        due(16, "n", x.see(0, 100), BAD);
        due(16, "n", x.see(0, -1), BAD);
        due(16, "no contract", x.see(2, 0), NONE);
        due(16, "no contract ahead of n", x.see(-2, 100), NONE);
        due(16, "count(0)", x.count(0), 2);
        x.see(0, 0);
        x.see(0, 0);
        due(16, "the fifth", x.see(0, 0), 5);
        due(16, "the sixth", x.see(0, 0), FULL);
        due(16, "a bad sixth", x.see(0, 100), BAD);
        due(16, "see(-1, ..)", x.see(-1, LEAST), 0);
        due(16, "count(0)", x.count(0), 0);
        due(16, "then", x.see(0, 0), 1);
    }

    private static void fits() {
        ClaimLadder x = with("c030,5;c010,0;l3");
        due(17, "none seen", x.fits(0), 301);
        due(17, "none seen", x.fits(1), 0);
        x.see(0, 30);
        due(17, "35 .. 300", x.fits(0), 266);
        due(17, "35 .. 300", x.fits(1), 35);
        x.see(1, 7);
        due(17, "37", x.fits(0), 1);
        due(17, "37", x.fits(1), 37);
        x.see(1, 8);
        due(17, "none", x.fits(0), 0);
        due(17, "none", x.fits(1), ABSENT);
        due(17, "no such what", x.fits(2), NONE);
        due(17, "no such what", x.fits(-1), NONE);
        due(17, "it changes nothing", x.told(1), 3);
        x.see(-1, 0);
        x.renew(0, 2, 0);
        x.see(0, 0);
        due(17, "only 0", x.fits(0), 1);
    }

    private static void odds() {
        ClaimLadder x = with("c030,5;c010,0;c00,0;c330,20;l3");
        dueRow(18, "always", odds(x, 0), 1, 1);
        // 1: from 6 on, what 0 keeps is left
        dueRow(18, "always", odds(x, 1), 1, 1);
        dueRow(18, "never", odds(x, 2), 0, 1);
        // 3: from 61 on: 70, 80, 90, 100
        dueRow(18, "two fifths", odds(x, 3), 2, 5);
        x.renew(3, 2, 19);
        // from 60 on
        dueRow(18, "a half", odds(x, 3), 1, 2);
        x.renew(3, 2, 9);
        dueRow(18, "six tenths", odds(x, 3), 3, 5);
        x.renew(0, 2, 10);
        dueRow(18, "not by 10", odds(x, 0), 9, 10);
        due(18, "part", x.odds(0, 2), ClaimLadder.NO);
        due(18, "part", x.odds(0, -1), ClaimLadder.NO);
        due(18, "no contract", x.odds(4, 0), ClaimLadder.NO);
        due(18, "no contract", x.odds(-1, 0), ClaimLadder.NO);
        due(18, "it changes nothing", x.told(1), 3);
    }

    private static void mean() {
        ClaimLadder x = with("c030,5;c010,0;c00,0;c04,0;l100");
        dueRow(19, "44 by 3", new long[] {x.mean(0), x.mean(1)}, 44, 3);
        x.renew(3, 1, 5);
        dueRow(19, "45 by 3", new long[] {x.mean(0), x.mean(1)}, 15, 1);
        x.renew(2, 1, 1);
        dueRow(19, "46 by 4", new long[] {x.mean(0), x.mean(1)}, 23, 2);
        due(19, "part", x.mean(2), ClaimLadder.NO);
        due(19, "part", x.mean(-1), ClaimLadder.NO);
        x.loss(0);
        due(19, "none", x.mean(0), ClaimLadder.NO);
        due(19, "none", x.mean(1), ClaimLadder.NO);
        due(19, "no contracts", new ClaimLadder().mean(0), ClaimLadder.NO);
    }

    private static void plan() {
        ClaimLadder x = with("c030,5;c010,0");
        due(20, "no such what", x.plan(4, 0), NONE);
        due(20, "no such what", x.plan(-2, 0), NONE);
        due(20, "LOSS", x.plan(0, 301), BAD);
        due(20, "LOSS", x.plan(0, -1), BAD);
        due(20, "RETENTION", x.plan(3, 21), BAD);
        due(20, "RETENTION", x.plan(3, -1), BAD);
        due(20, "CONTRACT", x.plan(1, 2), NONE);
        due(20, "CONTRACT", x.plan(1, -1), NONE);
        due(20, "CONTRACT", x.plan(2, 2), NONE);
        due(20, "CONTRACT", x.plan(2, -1), NONE);
        due(20, "count(1)", x.count(1), 0);
        int[][] good = {{0, 0}, {0, 300}, {1, 0}, {1, 1}, {2, 0}, {2, 1}, {3, 0}, {3, 20}};
        for (int i = 0; i < good.length; i++) {
            due(20, "row " + i, x.plan(good[i][0], good[i][1]), i + 1);
        }
        due(20, "the ninth", x.plan(0, 0), FULL);
        due(20, "a bad ninth", x.plan(0, 301), BAD);
        due(20, "a ninth without such a contract", x.plan(1, 2), NONE);
        due(20, "plan(-1, ..)", x.plan(-1, GREATEST), 0);
        due(20, "count(1)", x.count(1), 0);
    }

    private static void ends() {
        ClaimLadder x = with("c030,5;c010,3;c220,0;r01;r10;r20;l100");
        dueRow(21, "no plan", new long[] {x.ends(0), x.ends(1), x.ends(2)}, 40, 60, 2);
        x.plan(2, 2);
        dueRow(21, "2 refers to none", new long[] {x.ends(0), x.ends(1), x.ends(2)}, 60, 40, 2);
        x.plan(2, 0);
        dueRow(21, "nor does 0", new long[] {x.ends(0), x.ends(1), x.ends(2)}, 60, 40, 3);
        x.plan(1, 0);
        dueRow(21, "0 has no limit left", new long[] {x.ends(0), x.ends(1), x.ends(2)}, 30, 70, 3);
        x.plan(0, 25);
        // 1 is on rung 0 now, as 2 is: 0 is behind 1 no more, 1 refers to 0: 2 goes ahead of 1
        dueRow(21, "loss 25", new long[] {x.ends(0), x.ends(1), x.ends(2)}, 22, 3, 3);
        x.plan(3, 6);
        dueRow(21, "all keep 6", new long[] {x.ends(0), x.ends(1), x.ends(2)}, 19, 6, 3);
        x.plan(0, 30);
        x.plan(3, 7);
        dueRow(21, "the later row holds", new long[] {x.ends(0), x.ends(1), x.ends(2)}, 23, 7, 3);
        due(21, "no such what", x.ends(3), NONE);
        due(21, "no such what", x.ends(-1), NONE);
        dueRow(21, "it changes nothing", new long[] {x.told(1), x.told(8), x.of(0, 1), x.of(1, 2)}, 100, 3, 30, 3);
        x.plan(-1, 0);
        due(21, "an empty plan", x.ends(0), 40);
    }

    private static void book() {
        ClaimLadder x = with("c030,5;c010,0");
        due(22, "no contract", x.book(2, 0), NONE);
        due(22, "no contract ahead of n", x.book(-2, 100), NONE);
        due(22, "n", x.book(0, 100), BAD);
        due(22, "n", x.book(0, -1), BAD);
        for (int n = 1; n <= 8; n++) {
            due(22, "row " + n, x.book(n % 2, n == 1 ? 99 : 0), n);
        }
        due(22, "the ninth", x.book(0, 0), FULL);
        due(22, "a bad ninth", x.book(0, 100), BAD);
        due(22, "count(2)", x.count(2), 8);
        due(22, "book(-1, ..)", x.book(-1, -1), 0);
        due(22, "count(2)", x.count(2), 0);
    }

    private static void looked() {
        ClaimLadder x = with("c030,5;c010,0;l100");
        due(23, "an empty book", x.looked(), ABSENT);
        x.book(1, 10);
        x.book(0, 30);
        x.book(1, 10);
        due(23, "all so", x.looked(), ABSENT);
        x.book(0, 29);
        x.book(1, 9);
        due(23, "the first", x.looked(), 3);
        x.loss(34);
        due(23, "otherwise", x.looked(), 0);
    }

    private static void judge() {
        ClaimLadder x = new ClaimLadder();
        due(24, "no such tape", x.judge(6, 0), NONE);
        due(24, "no such tape", x.judge(-1, 0), NONE);
        due(24, "no contracts, nothing there", x.judge(0, 0), ABSENT);
        due(24, "no contracts, below 0", x.judge(0, -1), ABSENT);
        x.tape(1, 2, 5);
        due(24, "ints", x.judge(1, 0), CAST);
        read(x, "c030,5;c010,0;c05,0;l100");
        for (int sort = 0; sort < 5; sort++) {
            x.tape(1, sort, 0);
            due(24, "sort " + sort, x.judge(1, 0), sort == 3 ? 100 : CAST);
        }
        due(24, "nothing there", x.judge(0, 0), 100);
        x.tape(0, 3, 5);
        due(24, "noughts", x.judge(0, 0), 0);
        x.item(0, 1, 30);
        x.item(0, 2, 10);
        due(24, "the third", x.judge(0, 1), 2);
        x.item(0, 3, 5);
        due(24, "all so", x.judge(0, 1), ABSENT);
        x.item(0, 3, 30);
        x.item(0, 4, 10);
        due(24, "ends behind two", x.judge(0, 3), 102);
        due(24, "otherwise ahead of the end", x.judge(0, 4), 0);
        due(24, "at the end", x.judge(0, 5), 100);
        due(24, "beyond the end", x.judge(0, GREATEST), 100);
        due(24, "below 0", x.judge(0, -1), 100);
        due(24, "below 0", x.judge(0, LEAST), 100);
        x.item(0, 3, 30 + (1L << 32));
        due(24, "all of a long", x.judge(0, 3), 0);
    }

    private static void imageAndUndo() {
        ClaimLadder x = new ClaimLadder();
        due(26, "no image", x.undo(), STATE);
        due(25, "an image of nothing", x.image(), 0);
        read(x, "c030,5;c140,2;q150;r01;l100");
        due(26, "undo", x.undo(), 0);
        dueRow(26, "told", new long[] {x.told(0), x.told(1), x.told(8)}, 0, 0, 0);
        read(x, "c030,5;c140,2;q150;r01;l100");
        x.see(0, 1);
        x.plan(0, 50);
        x.book(1, 2);
        x.feed('l');
        x.tape(0, 2, 3);
        due(25, "an image", x.image(), 2);
        x.renew(0, 0, 3);
        x.renew(0, 1, 7);
        x.renew(0, 2, 8);
        x.renew(1, 3, 9);
        x.refer(0, 1, false);
        x.refer(1, 0, true);
        x.loss(5);
        x.contract(0, 9, 9);
        x.refer(2, 1, true);
        x.see(-1, 0);
        x.see(2, 3);
        x.see(2, 4);
        x.plan(-1, 0);
        x.plan(1, 2);
        x.plan(1, 1);
        x.book(-1, 0);
        x.book(2, 5);
        x.book(2, 6);
        x.feed('1');
        x.item(0, 0, 77);
        due(26, "undo", x.undo(), 2);
        dueRow(26, "0", new long[] {x.of(0, 0), x.of(0, 1), x.of(0, 2), x.of(0, 3), x.of(0, 4)}, 0, 30, 5, 100, 2);
        dueRow(26, "1", new long[] {x.of(1, 0), x.of(1, 1), x.of(1, 2), x.of(1, 3), x.of(1, 4)}, 1, 40, 2, 50, 0);
        dueRow(26, "told", new long[] {x.told(0), x.told(1), x.told(8)}, 2, 100, 1);
        dueRow(26, "counts", new long[] {x.count(0), x.count(1), x.count(2), x.count(3)}, 1, 1, 1, 2);
        // by loss 7 it is 1 that pays 1 first, then 0 pays 1; by loss 50 they pay 23 and 22; by 100 1 pays 40
        dueRow(26, "rows", new long[] {x.fits(1), x.ends(0), x.looked()}, 7, 45, 0);
        due(26, "the tapes stay", x.peek(0, 0), 77);
        due(26, "the text stays", x.read(), 1);
        due(26, "told(1)", x.told(1), 1);
        due(26, "undo again", x.undo(), 2);
        due(26, "told(1)", x.told(1), 100);
        due(26, "a contract comes anew", x.contract(0, 9, 9), 2);
        due(26, "and refers to none", x.of(2, 4), 0);
        due(25, "another image", x.image(), 3);
        x.loss(0);
        due(26, "undo", x.undo(), 3);
        due(26, "told(1)", x.told(1), 100);
    }

    private static void count() {
        ClaimLadder x = with("c030,5");
        x.see(0, 1);
        x.plan(0, 1);
        x.plan(0, 1);
        x.book(0, 1);
        x.book(0, 1);
        x.book(0, 1);
        for (int n = 0; n < 4; n++) {
            x.feed(0);
        }
        dueRow(27, "counts", new long[] {x.count(0), x.count(1), x.count(2), x.count(3)}, 1, 2, 3, 4);
        due(27, "no such what", x.count(4), BAD);
        due(27, "no such what", x.count(-1), BAD);
    }

    private static void tape() {
        ClaimLadder x = new ClaimLadder();
        due(28, "no such tape", x.tape(6, 9, 61), NONE);
        due(28, "no such tape", x.tape(-1, 0, 0), NONE);
        due(28, "sort", x.tape(0, 5, 1), BAD);
        due(28, "sort", x.tape(0, -2, -1), BAD);
        due(28, "n", x.tape(0, 0, 61), BAD);
        due(28, "n below 0", x.tape(0, 0, -1), SIZE);
        due(28, "n below 0", x.tape(0, 0, LEAST), SIZE);
        due(28, "nothing is there yet", x.item(0, 0, 1), NOTHING);
        due(28, "60", x.tape(0, 3, 60), 1);
        due(28, "the last", x.item(0, 59, 5), 1);
        due(28, "behind it", x.item(0, 60, 5), PLACE);
        due(28, "0", x.tape(5, 4, 0), 1);
        due(28, "none there", x.item(5, 0, 5), PLACE);
        due(28, "anew", x.tape(0, 2, 60), 1);
        due(28, "all 0", x.peek(0, 59), 0);
        due(28, "nothing", x.tape(0, -1, -7), 1);
        due(28, "nothing", x.tape(5, -1, 100), 1);
        due(28, "nothing there", x.item(0, 0, 1), NOTHING);
        due(28, "nothing there", x.peek(5, 0), ClaimLadder.NO);
        x.tape(0, 3, 2);
        due(28, "a refusal changes nothing", x.item(0, 0, 3), 1);
        x.tape(0, 0, -1);
        x.tape(0, 0, 61);
        due(28, "a refusal changes nothing", x.peek(0, 0), 3);
    }

    private static void item() {
        ClaimLadder x = new ClaimLadder();
        long[] v = {0x1234567890ABCDEFL, 128, -129, 32768, 1L << 31, 1L << 32, -1, 0};
        long[][] want = {
            {(byte) 0xEF, -128, 127, 0, 0, 0, -1, 0},
            {(short) 0xCDEF, 128, -129, -32768, 0, 0, -1, 0},
            {0x90ABCDEF, 128, -129, 32768, LEAST, 0, -1, 0},
            {0x1234567890ABCDEFL, 128, -129, 32768, 1L << 31, 1L << 32, -1, 0},
            {1, 1, 1, 1, 1, 1, 1, 0}};
        for (int sort = 0; sort < 5; sort++) {
            x.tape(sort, sort, v.length);
            for (int i = 0; i < v.length; i++) {
                due(29, "item", x.item(sort, i, v[i]), 1);
                due(29, "sort " + sort + ", " + v[i], x.peek(sort, i), want[sort][i]);
            }
            due(29, "no such place", x.item(sort, v.length, 0), PLACE);
            due(29, "no such place", x.item(sort, -1, 0), PLACE);
        }
        due(29, "nothing there", x.item(5, 0, 0), NOTHING);
        due(29, "nothing there ahead of the place", x.item(5, -1, 0), NOTHING);
        due(29, "no such tape", x.item(6, 0, 0), NONE);
        due(29, "no such tape", x.item(-1, 0, 0), NONE);
    }

    private static void peek() {
        ClaimLadder x = new ClaimLadder();
        x.tape(2, 3, 2);
        x.item(2, 1, Long.MAX_VALUE);
        due(30, "peek(2, 0)", x.peek(2, 0), 0);
        due(30, "peek(2, 1)", x.peek(2, 1), Long.MAX_VALUE);
        due(30, "no such place", x.peek(2, 2), ClaimLadder.NO);
        due(30, "no such place", x.peek(2, -1), ClaimLadder.NO);
        due(30, "nothing there", x.peek(3, 0), ClaimLadder.NO);
        due(30, "no such tape", x.peek(6, 0), ClaimLadder.NO);
        due(30, "no such tape", x.peek(-1, 0), ClaimLadder.NO);
    }

    private static long[] items(ClaimLadder x, int tape, int n) {
        long[] row = new long[n];
        for (int i = 0; i < n; i++) {
            row[i] = x.peek(tape, i);
        }
        return row;
    }

    private static ClaimLadder withTape() {
        ClaimLadder x = new ClaimLadder();
        x.tape(0, 3, 5);
        for (int i = 0; i < 5; i++) {
            x.item(0, i, i + 1);
        }
        return x;
    }

    private static void shift() {
        ClaimLadder x = withTape();
        x.tape(1, 3, 3);
        due(31, "shift(0, 1, 1, 0, 3)", x.shift(0, 1, 1, 0, 3), 3);
        dueRow(31, "to another", items(x, 1, 3), 2, 3, 4);
        dueRow(31, "from it", items(x, 0, 5), 1, 2, 3, 4, 5);
        due(31, "shift(0, 0, 0, 1, 4)", x.shift(0, 0, 0, 1, 4), 4);
        dueRow(31, "on the same, up", items(x, 0, 5), 1, 1, 2, 3, 4);
        x = withTape();
        due(31, "shift(0, 1, 0, 0, 4)", x.shift(0, 1, 0, 0, 4), 4);
        dueRow(31, "on the same, down", items(x, 0, 5), 2, 3, 4, 5, 5);
        due(31, "none at the end", x.shift(0, 5, 0, 5, 0), 0);
        due(31, "all", x.shift(0, 0, 0, 0, 5), 5);
    }

    private static void shiftRefusals() {
        ClaimLadder x = withTape();
        x.tape(1, 2, 5);
        x.tape(2, 3, 3);
        due(31, "no such tape", x.shift(6, 0, 0, 0, 0), NONE);
        due(31, "no such tape", x.shift(0, 0, -1, 0, 0), NONE);
        due(31, "no such tape ahead of nothing", x.shift(5, 0, 6, 0, 0), NONE);
        due(31, "nothing there", x.shift(5, 0, 0, 0, 0), NOTHING);
        due(31, "nothing there", x.shift(0, 0, 5, 0, -1), NOTHING);
        due(31, "unlike sorts", x.shift(0, 0, 1, 0, -1), CAST);
        int[][] places = {{0, 0, -1}, {-1, 0, 1}, {0, -1, 1}, {0, 0, 4}, {3, 0, 3}, {0, 1, 3}, {6, 0, 0}, {0, 4, 0},
            {GREATEST, 0, 1}, {0, GREATEST, 1}, {1, 1, GREATEST}, {GREATEST, GREATEST, GREATEST}, {LEAST, 0, 0},
            {0, LEAST, 0}, {0, 0, LEAST}};
        for (int[] p : places) {
            due(31, "shift(0, " + p[0] + ", 2, " + p[1] + ", " + p[2] + ")", x.shift(0, p[0], 2, p[1], p[2]), PLACE);
        }
        dueRow(31, "nothing has changed", items(x, 2, 3), 0, 0, 0);
    }

    /** Rows as long as they get: six rings, each a rung above the one before it. */
    private static void sixContracts() {
        ClaimLadder x = with("c010,0;c010,0;c010,0;c010,0;c010,0;c010,0;r54;r43;r32;r21;r10;l55");
        dueRow(10, "six in a row", paid(x), 10, 10, 10, 10, 10, 5);
        dueRow(11, "told", new long[] {x.told(0), x.told(4), x.told(5), x.told(6), x.told(7), x.told(8)},
            6, 6, 0, 5, 6, 5);
        dueRow(9, "ring 5", ringOf(x, 5), 32, 5, 5, 5);
        dueRow(6, "5", new long[] {x.of(5, 4), x.of(5, 5), x.of(5, 6), x.of(5, 7)}, 16, 31, 32, 5);
        dueRow(13, "7 back", nets(x, 7), 10, 10, 10, 10, 8, 0);
        dueRow(12, "5 pays all that is left", reasons(x, 5), 0, ABSENT, ABSENT, ABSENT);
        x.loss(50);
        dueRow(12, "nothing is left", reasons(x, 5), 1, 4, 10, ABSENT);
        due(15, "from(5)", x.from(5), 51);
        dueRow(19, "mean", new long[] {x.mean(0), x.mean(1)}, 10, 1);
        x.plan(3, 1);
        due(21, "each keeps 1", x.ends(0), 49);
        x.refer(0, 5, true);
        dueRow(10, "a ring of six", paid(x), 9, 9, 8, 8, 8, 8);
        dueRow(9, "ring 0", ringOf(x, 0), 63, 0, 50, 50);
        dueRow(13, "40 back", nets(x, 40), 2, 2, 1, 1, 2, 2);
        // limits 1 to 6: one drops out behind each round
        for (int c = 0; c < 6; c++) {
            x.renew(c, 1, c + 1);
        }
        dueRow(10, "each its most", paid(x), 1, 2, 3, 4, 5, 6);
        x.loss(20);
        dueRow(10, "one short", paid(x), 1, 2, 3, 4, 5, 5);
        due(21, "each keeps 1", x.ends(0), 20);
        for (int row = 0; row < 6; row++) {
            x.book(row, row + 1);
        }
        due(23, "looked", x.looked(), 5);
        x.tape(0, 3, 60);
        for (int c = 0; c < 6; c++) {
            x.item(0, 54 + c, x.pays(c));
        }
        due(24, "judged to the end", x.judge(0, 54), ABSENT);
        due(24, "a row ends", x.judge(0, 59), 0);
    }

    /** Payments of 1, and contract 0 where a search ends with it. */
    private static void onesAndFirsts() {
        ClaimLadder x = with("c01,0;c210,0;c09,0;r10;l10");
        dueRow(10, "one that pays 1 lets an escape", paid(x), 1, 0, 9);
        dueRow(12, "by 1", reasons(x, 1), 1, 2, 9, ABSENT);
        x.loss(1);
        dueRow(12, "0, that pays 1", reasons(x, 1), 1, 0, 1, ABSENT);
        dueRow(12, "0, that pays 1", reasons(x, 2), 1, 0, 1, ABSENT);
        dueRow(18, "1 is more than 0", odds(x, 0), 1, 1);
        dueRow(19, "1 by 1", new long[] {x.mean(0), x.mean(1)}, 1, 1);
        x.loss(8);
        due(13, "net looks at the loss of now", x.net(2, 3), 4);
        x.plan(3, 2);
        x.plan(1, 2);
        // 0 pays 1 of 8, 1 escapes
        due(21, "retention of 0", x.ends(0), 1);
        x.loss(2);
        due(21, "retention of 0", x.ends(0), 0);
        x.tape(0, 3, 1);
        x.item(0, 0, 9);
        x.tape(0, 3, 1);
        due(28, "all 0, the first too", x.peek(0, 0), 0);
        ClaimLadder y = with("c02,0;c090,10;r10;l1");
        dueRow(12, "a ring behind it", reasons(y, 1), 1, 0, 1, ABSENT);
    }
}
