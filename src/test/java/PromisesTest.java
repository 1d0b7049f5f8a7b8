/** Each promise of the document by hand: ordinary inputs, the edges that it names, wrong inputs. */
public final class PromisesTest {
    private static final int NONE = AirWatch.NONE;
    private static final int LOW = Integer.MIN_VALUE;
    private static final int HIGH = Integer.MAX_VALUE;

    private PromisesTest() {
    }

    public static void main(String[] args) {
        newObject();
        post();
        listened();
        mark();
        wedge();
        joins();
        senders();
        senderOf();
        sender();
        place();
        box();
        minutes();
        blind();
        feed();
        end();
        licence();
        licenceWords();
        fault();
        faultOrder();
        fits();
        fitsTime();
        fitsBox();
        best();
        wanderers();
        sweep();
        sweepOrder();
        slot();
        about();
        Check.finish();
    }

    private static void due(String call, long got, long want) {
        Check.due(call, got, want);
    }

    private static void due(String call, boolean got, boolean want) {
        Check.due(call, got, want);
    }

    /** A POST at (5, 5) that LISTENED on all CHANNELS all the time. */
    private static AirWatch openEars() {
        AirWatch w = new AirWatch();
        w.post(5, 5);
        for (int channel = 0; channel < 16; channel++) {
            w.listened(0, channel, 0, 9999);
        }
        return w;
    }

    // Promise 1
    private static void newObject() {
        AirWatch w = new AirWatch();
        int[] first = {0, 0, 0, 0, 5, 10, 0, 0};
        for (int what = 0; what < 8; what++) {
            due("1: about(" + what + ")", w.about(what), first[what]);
        }
        due("1: senders", w.senders(), 0);
        due("1: senderOf", w.senderOf(0), NONE);
        due("1: sender", w.sender(0, 0), NONE);
        due("1: place", w.place(0, 0), NONE);
        due("1: box", w.box(0, 0), NONE);
        due("1: fault", w.fault(0), NONE);
        due("1: fault place", w.fault(1), NONE);
        due("1: fits", w.fits(0, 0), NONE);
        due("1: best", w.best(0, 0), NONE);
        due("1: wanderers", w.wanderers(), 0);
        due("1: slot", w.slot(0), NONE);
        due("1: minutes", w.minutes(0, 0, 9999, 2), 10000);
        due("1: blind", w.blind(0, 0, 9999), 10000);
        due("1: NONE", NONE, -1);
    }

    // Promise 2
    private static void post() {
        AirWatch w = new AirWatch();
        int[][] wrong = {{-1, 0}, {0, -1}, {32, 0}, {0, 32}, {LOW, 0}, {0, HIGH}};
        for (int[] field : wrong) {
            due("2: post(" + field[0] + ", " + field[1] + ")", w.post(field[0], field[1]), NONE);
        }
        due("2: none came", w.about(0), 0);
        due("2: post(0, 0)", w.post(0, 0), 0);
        due("2: post(31, 31)", w.post(31, 31), 1);
        due("2: post(0, 31)", w.post(0, 31), 2);
        due("2: post(31, 0)", w.post(31, 0), 3);
        due("2: a FIELD for the second time", w.post(0, 0), 4);
        due("2: the sixth", w.post(7, 8), 5);
        due("2: the seventh", w.post(7, 9), NONE);
        due("2: still six", w.about(0), 6);
    }

    // Promise 3
    private static void listened() {
        AirWatch w = new AirWatch();
        due("3: without POSTS", w.listened(0, 0, 0, 0), NONE);
        w.post(1, 1);
        int[][] wrong = {{-1, 0, 0, 0}, {1, 0, 0, 0}, {0, -1, 0, 0}, {0, 16, 0, 0}, {0, 0, -1, 0},
            {0, 0, 1, 0}, {0, 0, 0, 10000}, {0, 0, 10000, 10000}, {LOW, 0, 0, 0}, {HIGH, 0, 0, 0},
            {0, HIGH, 0, 0}, {0, 0, LOW, HIGH}};
        for (int[] a : wrong) {
            due("3: wrong " + a[0] + " " + a[1] + " " + a[2] + " " + a[3],
                    w.listened(a[0], a[1], a[2], a[3]), NONE);
        }
        due("3: none came", w.about(1), 0);
        due("3: the first MINUTE", w.listened(0, 0, 0, 0), 1);
        due("3: the last MINUTE", w.listened(0, 15, 9999, 9999), 2);
        due("3: all MINUTES", w.listened(0, 7, 0, 9999), 3);
        for (int i = 4; i <= 100; i++) {
            due("3: like ones count too", w.listened(0, 7, 0, 9999), i);
        }
        due("3: one too many", w.listened(0, 7, 0, 9999), NONE);
        due("3: still 100", w.about(1), 100);
    }

    // Promise 4
    private static void mark() {
        AirWatch w = new AirWatch();
        due("4: without POSTS", w.mark(0, 0, 0, 0, 0), NONE);
        w.post(1, 1);
        w.post(2, 2);
        w.listened(0, 0, 100, 109);
        w.listened(0, 0, 120, 129);
        w.listened(0, 0, 110, 119);
        w.listened(0, 0, 125, 140);
        w.listened(0, 0, 142, 150);
        w.listened(1, 0, 141, 141);
        w.listened(0, 1, 141, 141);
        w.listened(0, 15, 0, 0);
        w.listened(0, 15, 9999, 9999);
        int[][] wrong = {{-1, 0, 100, 100, 0}, {2, 0, 100, 100, 0}, {0, -1, 100, 100, 0},
            {0, 16, 100, 100, 0}, {0, 0, 99, 100, 0}, {0, 0, 100, 141, 0}, {0, 0, 141, 141, 0},
            {0, 0, 141, 142, 0}, {0, 0, 140, 142, 0}, {0, 0, 150, 151, 0}, {0, 0, 105, 104, 0},
            {0, 0, 100, 100, -1}, {0, 0, 100, 100, 1000}, {1, 0, 140, 141, 0}, {1, 0, 100, 100, 0},
            {0, 1, 100, 100, 0}, {0, 15, 0, 9999, 0}, {0, 15, 9999, 10000, 0}, {0, 15, -1, 0, 0},
            {LOW, LOW, LOW, LOW, LOW}, {HIGH, HIGH, HIGH, HIGH, HIGH}};
        for (int[] a : wrong) {
            due("4: wrong " + a[0] + " " + a[1] + " " + a[2] + " " + a[3] + " " + a[4],
                    w.mark(a[0], a[1], a[2], a[3], a[4]), NONE);
        }
        due("4: none came", w.about(2), 0);
        due("4: over four that were LISTENED", w.mark(0, 0, 100, 140, 0), 0);
        due("4: in the middle of them", w.mark(0, 0, 109, 110, 999), 1);
        due("4: the first MINUTE", w.mark(0, 15, 0, 0, 7), 2);
        due("4: the last MINUTE", w.mark(0, 15, 9999, 9999, 7), 3);
        due("4: another POST", w.mark(1, 0, 141, 141, 7), 4);
        due("4: without a WEDGE", w.about(7), 0);
        w.listened(0, 0, 141, 141);
        due("4: LISTENED in the meantime", w.mark(0, 0, 100, 150, 7), 5);
        for (int i = 6; i < 60; i++) {
            due("4: like ones count too", w.mark(0, 0, 100, 100, 0), i);
        }
        due("4: one too many", w.mark(0, 0, 100, 100, 0), NONE);
        due("4: still 60", w.about(2), 60);
        manyPieces();
    }

    /** 100 stretches, told from the last to the first, hold a MARK together. */
    private static void manyPieces() {
        AirWatch w = new AirWatch();
        w.post(1, 1);
        for (int i = 99; i >= 0; i--) {
            w.listened(0, 3, 10 * i, 10 * i + 9);
        }
        due("4: 100 pieces", w.mark(0, 3, 0, 999, 1), 0);
        due("4: one MINUTE more", w.mark(0, 3, 0, 1000, 1), NONE);
    }

    // Promise 5
    private static void wedge() {
        AirWatch w = openEars();
        due("5: no MARK", w.wedge(0, 1, 0, 0, 1), false);
        w.mark(0, 0, 0, 0, 0);
        int[][] wrong = {{-1, 1, 0, 0, 1}, {1, 1, 0, 0, 1}, {0, 0, 0, 0, 1}, {0, 1, 0, 0, 0},
            {0, 1, 0, 1, 0}, {0, 1, 0, -1, 0}, {0, 0, 1, 1, 0}, {0, 101, 0, 0, 1},
            {0, 1, -101, 0, 1}, {0, 1, 0, -101, 1}, {0, 1, 0, 0, 101}, {0, -101, -1, 0, -1},
            {0, 1, -1, 0, 101}, {0, 0, 0, 0, 0}, {0, 65536, 0, 0, 65536}, {HIGH, 1, 0, 0, 1},
            {LOW, 1, 0, 0, 1}};
        for (int[] a : wrong) {
            due("5: wrong " + a[0] + " " + a[1] + " " + a[2] + " " + a[3] + " " + a[4],
                    w.wedge(a[0], a[1], a[2], a[3], a[4]), false);
        }
        due("5: none came", w.about(7), 0);
        due("5: all FIELDS yet", w.sender(0, 7), 1024);
        due("5: a quarter", w.wedge(0, 1, 0, 0, 1), true);
        due("5: with both its sides", w.sender(0, 7), 27 * 27);
        due("5: in place of it", w.wedge(0, -1, 0, 0, -1), true);
        due("5: the other quarter alone", w.sender(0, 7), 36);
        due("5: one MARK with a WEDGE", w.about(7), 1);
        due("5: a refused one changes nothing", w.wedge(0, 1, 0, 1, 0), false);
        due("5: it still has it", w.sender(0, 7), 36);
        due("5: the steepest", w.wedge(0, 100, -100, 100, 100), true);
        due("5: to the right", w.sender(0, 7), rightOfFive());
        due("5: the narrowest", w.wedge(0, 100, 99, 99, 99), true);
        due("5: only the diagonal", w.sender(0, 7), 27);
        due("5: nearly half", w.wedge(0, 100, 0, -100, 1), true);
        due("5: what is above", w.sender(0, 7), 27 + 26 * 32);
        due("5: out of the land", w.wedge(0, -100, -1, -100, -2), true);
        due("5: its own FIELD", w.sender(0, 7), 1);
        due("5: which is the POST's", w.place(0, 0), 5 * 32 + 5);
    }

    private static int rightOfFive() {
        int sum = 0;
        for (int x = 5; x < 32; x++) {
            for (int y = 0; y < 32; y++) {
                sum += Math.abs(y - 5) <= x - 5 ? 1 : 0;
            }
        }
        return sum;
    }

    // Promise 6
    private static void joins() {
        AirWatch w = openEars();
        due("6: sharp below", w.joins(-1, 10), false);
        due("6: sharp above", w.joins(100, 10), false);
        due("6: gap below", w.joins(5, -1), false);
        due("6: gap above", w.joins(5, 1000), false);
        due("6: far off", w.joins(LOW, HIGH), false);
        due("6: SHARP stays", w.about(4), 5);
        due("6: GAP stays", w.about(5), 10);
        w.mark(0, 0, 100, 110, 100);
        w.mark(0, 0, 120, 130, 105);
        due("6: at first 5 and 10", w.senders(), 1);
        due("6: sharper", w.joins(4, 10), true);
        due("6: not by the TONE", w.senders(), 2);
        due("6: nearer", w.joins(5, 9), true);
        due("6: not by the time", w.senders(), 2);
        due("6: refused", w.joins(100, 10), false);
        due("6: nothing changed", w.senders(), 2);
        due("6: the widest", w.joins(99, 999), true);
        due("6: SHARP", w.about(4), 99);
        due("6: GAP", w.about(5), 999);
        due("6: the least", w.joins(0, 0), true);
        due("6: two", w.senders(), 2);
        due("6: SHARP 0", w.about(4), 0);
        due("6: GAP 0", w.about(5), 0);
    }

    private static int pair(int tone, int from, int to, int sharp, int gap) {
        AirWatch w = openEars();
        w.mark(0, 0, 100, 200, 500);
        w.mark(0, 0, from, to, tone);
        w.joins(sharp, gap);
        return w.senders();
    }

    // Promise 7
    private static void senders() {
        due("7: at one MINUTE", pair(500, 200, 300, 0, 0), 1);
        due("7: a MINUTE later", pair(500, 201, 300, 0, 0), 2);
        due("7: GAP 1", pair(500, 201, 300, 0, 1), 1);
        due("7: ahead, at one MINUTE", pair(500, 50, 100, 0, 0), 1);
        due("7: a MINUTE ahead", pair(500, 50, 99, 0, 0), 2);
        due("7: ahead, GAP 1", pair(500, 50, 99, 0, 1), 1);
        due("7: inside", pair(500, 120, 130, 0, 0), 1);
        due("7: around", pair(500, 50, 300, 0, 0), 1);
        due("7: lower by SHARP", pair(401, 120, 130, 99, 0), 1);
        due("7: lower by more", pair(400, 120, 130, 99, 0), 2);
        due("7: higher by SHARP", pair(599, 120, 130, 99, 0), 1);
        due("7: higher by more", pair(600, 120, 130, 99, 0), 2);
        due("7: GAP 999", pair(500, 1199, 1200, 0, 999), 1);
        due("7: beyond GAP 999", pair(500, 1200, 1200, 0, 999), 2);
        AirWatch w = openEars();
        w.mark(0, 0, 0, 0, 0);
        w.mark(0, 1, 0, 0, 0);
        due("7: two CHANNELS", w.senders(), 2);
        // A chain: the ends differ by more than SHARP, and the link comes last.
        w.mark(0, 2, 0, 0, 100);
        w.mark(0, 2, 0, 0, 110);
        due("7: apart", w.senders(), 4);
        w.mark(0, 2, 0, 0, 105);
        due("7: linked one by one", w.senders(), 3);
    }

    // Promise 8
    private static void senderOf() {
        AirWatch w = openEars();
        w.mark(0, 0, 0, 0, 300);
        w.mark(0, 0, 0, 0, 100);
        w.mark(0, 0, 0, 0, 200);
        w.mark(0, 0, 0, 0, 310);
        w.mark(0, 0, 0, 0, 205);
        due("8: below", w.senderOf(-1), NONE);
        due("8: above", w.senderOf(5), NONE);
        due("8: far below", w.senderOf(LOW), NONE);
        due("8: far above", w.senderOf(HIGH), NONE);
        int[] first = {0, 1, 2, 3, 2};
        for (int i = 0; i < 5; i++) {
            due("8: senderOf(" + i + ")", w.senderOf(i), first[i]);
        }
        w.mark(0, 0, 0, 0, 305);
        int[] then = {0, 1, 2, 0, 2, 0};
        for (int i = 0; i < 6; i++) {
            due("8: linked, senderOf(" + i + ")", w.senderOf(i), then[i]);
        }
        w.joins(95, 10);
        int[] wide = {0, 1, 0, 0, 0, 0};
        for (int i = 0; i < 6; i++) {
            due("8: wide, senderOf(" + i + ")", w.senderOf(i), wide[i]);
        }
        longChain();
    }

    /** 60 MARKS that join only to their neighbours, told so that the ends come together late. */
    private static void longChain() {
        AirWatch w = openEars();
        for (int i = 0; i < 30; i++) {
            w.mark(0, 4, 0, 0, 10 * i);
        }
        due("8: 30 apart", w.senderOf(29), 29);
        for (int i = 29; i > 0; i--) {
            w.mark(0, 4, 0, 0, 10 * i - 5);
        }
        due("8: one chain", w.senders(), 1);
        w.mark(0, 5, 0, 0, 0);
        due("8: the last MARK", w.senderOf(59), 1);
        due("8: an inner one", w.senderOf(58), 0);
    }

    // Promise 9
    private static void sender() {
        AirWatch w = new AirWatch();
        for (int i = 0; i < 6; i++) {
            w.post(i, 3);
            w.listened(i, 9, 0, 9999);
        }
        w.mark(1, 9, 5000, 5000, 700);
        w.mark(5, 9, 300, 310, 22);
        w.mark(0, 9, 290, 295, 20);
        w.mark(5, 9, 312, 350, 25);
        w.mark(3, 9, 301, 302, 18);
        int[] facts = {1, 4, 9, 290, 350, 18, 25, 1024, 3};
        for (int what = 0; what < 9; what++) {
            due("9: sender(1, " + what + ")", w.sender(1, what), facts[what]);
        }
        int[] others = {0, 1, 9, 5000, 5000, 700, 700, 1024, 1};
        for (int what = 0; what < 9; what++) {
            due("9: sender(0, " + what + ")", w.sender(0, what), others[what]);
        }
        due("9: what below", w.sender(0, -1), NONE);
        due("9: what above", w.sender(0, 9), NONE);
        due("9: what far above", w.sender(0, HIGH), NONE);
        due("9: k below", w.sender(-1, 0), NONE);
        due("9: k above", w.sender(2, 0), NONE);
        due("9: k far below", w.sender(LOW, 0), NONE);
        w.wedge(1, 1, 0, 0, 1);
        due("9: in one WEDGE", w.sender(1, 7), 27 * 29);
        w.wedge(2, 0, 1, -1, 0);
        due("9: in no PLACE", w.sender(1, 7), 0);
        due("9: the other SENDER's", w.sender(0, 7), 1024);
    }

    // Promise 10
    private static void place() {
        AirWatch w = openEars();
        w.mark(0, 0, 0, 0, 0);
        w.mark(0, 1, 0, 0, 0);
        due("10: the first FIELD", w.place(0, 0), 0);
        due("10: along x", w.place(0, 31), 31);
        due("10: then y", w.place(0, 32), 32);
        due("10: the last FIELD", w.place(0, 1023), 1023);
        due("10: behind it", w.place(0, 1024), NONE);
        due("10: below", w.place(0, -1), NONE);
        due("10: far below", w.place(0, LOW), NONE);
        due("10: far above", w.place(0, HIGH), NONE);
        due("10: no SENDER", w.place(-1, 0), NONE);
        due("10: none such", w.place(2, 0), NONE);
        w.wedge(0, 0, 1, -1, 1);
        due("10: the POST's own", w.place(0, 0), 5 * 32 + 5);
        due("10: a row above", w.place(0, 1), 6 * 32 + 4);
        due("10: beside it", w.place(0, 2), 6 * 32 + 5);
        due("10: two rows above", w.place(0, 3), 7 * 32 + 3);
        int last = w.sender(0, 7) - 1;
        due("10: the last", w.place(0, last), 31 * 32 + 5);
        due("10: no more", w.place(0, last + 1), NONE);
        due("10: the other SENDER's", w.place(1, 1), 1);
        AirWatch none = noPlaces();
        due("10: without PLACES", none.place(0, 0), NONE);
    }

    /** A SENDER of two MARKS whose WEDGES have no FIELD together. */
    private static AirWatch noPlaces() {
        AirWatch w = openEars();
        w.post(6, 6);
        w.listened(1, 0, 0, 9);
        w.mark(0, 0, 0, 0, 0);
        w.mark(1, 0, 0, 0, 0);
        w.wedge(0, -1, 0, 0, -1);
        w.wedge(1, 1, 0, 0, 1);
        return w;
    }

    // Promise 11
    private static void box() {
        AirWatch w = openEars();
        w.mark(0, 0, 0, 0, 0);
        int[] all = {0, 31, 0, 31};
        for (int what = 0; what < 4; what++) {
            due("11: all, box(0, " + what + ")", w.box(0, what), all[what]);
        }
        w.wedge(0, 1, 2, 0, 1);
        int[] right = {5, 18, 5, 31};
        for (int what = 0; what < 4; what++) {
            due("11: up, box(0, " + what + ")", w.box(0, what), right[what]);
        }
        w.wedge(0, -1, 0, -1, -1);
        int[] left = {0, 5, 0, 5};
        for (int what = 0; what < 4; what++) {
            due("11: down, box(0, " + what + ")", w.box(0, what), left[what]);
        }
        due("11: below", w.box(0, -1), NONE);
        due("11: above", w.box(0, 4), NONE);
        due("11: far above", w.box(0, HIGH), NONE);
        due("11: no SENDER", w.box(1, 0), NONE);
        due("11: none such", w.box(-1, 0), NONE);
        AirWatch none = noPlaces();
        for (int what = 0; what < 4; what++) {
            due("11: without PLACES", none.box(0, what), NONE);
        }
        due("11: none of them", none.sender(0, 7), 0);
    }

    // Promise 12
    private static void minutes() {
        AirWatch w = new AirWatch();
        w.post(0, 0);
        w.post(1, 1);
        w.listened(0, 4, 10, 19);
        w.listened(1, 4, 15, 29);
        w.listened(0, 4, 40, 49);
        w.listened(0, 4, 9990, 9999);
        w.listened(0, 5, 0, 9999);
        w.mark(0, 4, 12, 16, 1);
        w.mark(1, 4, 15, 18, 500);
        w.mark(1, 4, 29, 29, 1);
        w.mark(0, 4, 9999, 9999, 1);
        int[][] asked = {{0, 59, 8, 22, 30}, {12, 18, 7, 0, 0}, {11, 19, 7, 2, 0},
            {13, 17, 5, 0, 0}, {29, 29, 1, 0, 0}, {28, 30, 1, 1, 1}, {0, 0, 0, 0, 1},
            {9999, 9999, 1, 0, 0}, {0, 9999, 9, 31, 9960}, {45, 55, 0, 5, 6}, {39, 40, 0, 1, 1}};
        for (int[] a : asked) {
            for (int what = 0; what < 3; what++) {
                due("12: minutes(4, " + a[0] + ", " + a[1] + ", " + what + ")",
                        w.minutes(4, a[0], a[1], what), a[2 + what]);
            }
        }
        due("12: a CHANNEL of its own", w.minutes(5, 0, 9999, 1), 10000);
        due("12: the first CHANNEL", w.minutes(0, 0, 9999, 2), 10000);
        due("12: the last CHANNEL", w.minutes(15, 0, 9999, 2), 10000);
        int[][] wrong = {{-1, 0, 0, 0}, {16, 0, 0, 0}, {4, -1, 0, 0}, {4, 1, 0, 0}, {4, 0, 10000, 0},
            {4, 10000, 10000, 0}, {4, 0, 0, -1}, {4, 0, 0, 3}, {LOW, LOW, LOW, LOW},
            {HIGH, HIGH, HIGH, HIGH}, {4, 0, HIGH, 2}, {4, LOW, 0, 2}};
        for (int[] a : wrong) {
            due("12: wrong " + a[0] + " " + a[1] + " " + a[2] + " " + a[3],
                    w.minutes(a[0], a[1], a[2], a[3]), NONE);
        }
    }

    // Promise 13
    private static void blind() {
        AirWatch w = new AirWatch();
        w.post(0, 0);
        w.listened(0, 4, 10, 19);
        w.listened(0, 4, 100, 199);
        w.listened(0, 4, 205, 9899);
        w.mark(0, 4, 100, 110, 1);
        due("13: all", w.blind(4, 0, 9999), 100);
        due("13: ahead of the end", w.blind(4, 0, 9950), 80);
        due("13: cut at both sides", w.blind(4, 30, 59), 30);
        due("13: the first of like ones", w.blind(4, 0, 29), 10);
        due("13: of several", w.blind(4, 5, 23), 5);
        due("13: between", w.blind(4, 150, 300), 5);
        due("13: one MINUTE", w.blind(4, 204, 204), 1);
        due("13: none", w.blind(4, 10, 19), 0);
        due("13: none, HEARD", w.blind(4, 100, 199), 0);
        due("13: one beside", w.blind(4, 9, 19), 1);
        due("13: never LISTENED", w.blind(3, 0, 9999), 10000);
        due("13: the last MINUTE", w.blind(15, 9999, 9999), 1);
        int[][] wrong = {{-1, 0, 0}, {16, 0, 0}, {4, -1, 0}, {4, 1, 0}, {4, 0, 10000},
            {4, 10000, 10000}, {LOW, LOW, LOW}, {HIGH, HIGH, HIGH}, {4, LOW, HIGH}};
        for (int[] a : wrong) {
            due("13: wrong " + a[0] + " " + a[1] + " " + a[2], w.blind(a[0], a[1], a[2]), NONE);
        }
    }

    // Promise 14
    private static void feed() {
        AirWatch w = new AirWatch();
        for (int i = 1; i <= 5; i++) {
            due("14: feed " + i, w.feed(0, 0, 0, 0, 0), 20 * i);
        }
        due("14: a sixth", w.feed(0, 0, 0, 0, 0), NONE);
        due("14: none came", w.about(6), 100);
        w.end(81);
        due("14: would be 101", w.feed(0, 0, 0, 0, 0), NONE);
        due("14: still 81", w.about(6), 81);
        w.end(80);
        due("14: just 100", w.feed(0, 0, 0, 0, 0), 100);
        // The highest byte of a number comes first, and bytes above 127 are no letters.
        w.end(0);
        w.feed(0x63686E61, 0, 0, 0, 0);
        w.end(4);
        due("14: chna", w.licence(), NONE);
        String text = "chan 1-2;time 3-4;tone 5-6;box 7-8 9-10;";
        due("14: all twenty in order", Text.licence(w, text), 0);
        w.feed(0xE3E8E1EE, 0, 0, 0, 0);
        w.end(4);
        due("14: bytes above 127", w.licence(), NONE);
        due("14: they are no TOKEN", w.fault(0), 1);
        due("14: the first of them", w.fault(1), 0);
    }

    // Promise 15
    private static void end() {
        AirWatch w = new AirWatch();
        due("15: an empty tape", w.end(0), 0);
        due("15: it has not so many", w.end(1), NONE);
        w.feed(0, 0, 0, 0, 0);
        due("15: below 0", w.end(-1), NONE);
        due("15: far below", w.end(LOW), NONE);
        due("15: one too many", w.end(21), NONE);
        due("15: far above", w.end(HIGH), NONE);
        due("15: nothing was done", w.about(6), 20);
        due("15: all of them", w.end(20), 20);
        due("15: still all", w.about(6), 20);
        due("15: some", w.end(7), 7);
        due("15: these alone", w.about(6), 7);
        due("15: no way back", w.end(8), NONE);
        due("15: twenty behind seven", w.feed(0, 0, 0, 0, 0), 27);
        // What was cut off must not come back.
        Text.put(w, "chan 1-2;zzzzzzzzzzz");
        w.end(9);
        due("15: the first bytes", w.licence(), 0);
    }

    // Promise 16
    private static void licence() {
        AirWatch w = new AirWatch();
        due("16: the empty text", w.licence(), 0);
        due("16: blanks", Text.licence(w, "   "), 1);
        due("16: the tape is empty then", w.about(6), 0);
        due("16: a FAULT", Text.licence(w, "chan"), NONE);
        due("16: empty then too", w.about(6), 0);
        due("16: still two", w.about(3), 2);
        for (int i = 2; i < 10; i++) {
            due("16: licence " + i, Text.licence(w, "chan 0-" + i + ";"), i);
        }
        Text.put(w, "chan");
        due("16: there are 10", w.licence(), NONE);
        due("16: the tape stays", w.about(6), 4);
        due("16: this text was not come to", w.fault(0), 0);
        due("16: nor has it a place", w.fault(1), NONE);
        w.end(0);
        due("16: there are 10, the empty text", w.licence(), NONE);
        due("16: still 10", w.about(3), 10);
    }

    private static void licenceWords() {
        String[] good = {"chan 0-15;", "time 0-1439;", "tone 0-999;", "box 0-31 0-31;",
            "chan 15-15;tone 999-999;time 1439-1439;box 31-31 31-31;", "chan0-0;box0-0 0-0;",
            " chan  3 - 4  ; ", "time 5-4;", "time 1439-0;", "chan 00000000000000000007-0000000000000015;",
            "tone 000-000;"};
        AirWatch w = new AirWatch();
        for (int i = 0; i < good.length; i++) {
            AirWatch one = i < 10 ? w : new AirWatch();
            due("16: " + good[i], Text.licence(one, good[i]), i % 10);
        }
        String blanks = "                                                                    ";
        String hundred = blanks + "box 0-31 0-31;time 1439-1438; z";
        String full = blanks + "box 0-31 0-31; time 1439-1438; ;";
        due("16: 100 bytes", full.length(), 100);
        AirWatch other = new AirWatch();
        due("16: a FAULT at the last byte", Text.licence(other, full), NONE);
        due("16: its place", other.fault(1), 99);
        due("16: 99 bytes", Text.licence(other, hundred), NONE);
        due("16: the place of z", other.fault(1), 98);
    }

    private static void faulty(String text, int kind, int at) {
        AirWatch w = new AirWatch();
        due("17: licence of " + text, Text.licence(w, text), NONE);
        due("17: fault(0) of " + text, w.fault(0), kind);
        due("17: fault(1) of " + text, w.fault(1), at);
        due("17: no LICENCE of " + text, w.about(3), 0);
    }

    // Promise 17
    private static void fault() {
        AirWatch w = new AirWatch();
        due("17: ahead of any", w.fault(0), NONE);
        due("17: ahead of any, its place", w.fault(1), NONE);
        Text.put(w, "chan");
        due("17: not yet a text", w.fault(0), NONE);
        w.licence();
        due("17: the latest text's", w.fault(0), 1);
        due("17: its place", w.fault(1), 4);
        due("17: below", w.fault(-1), NONE);
        due("17: above", w.fault(2), NONE);
        due("17: far above", w.fault(HIGH), NONE);
        Text.licence(w, "chan 1-2;");
        due("17: without", w.fault(0), 0);
        due("17: without, its place", w.fault(1), NONE);
        Text.licence(w, "chan 1-2; chan");
        due("17: another", w.fault(0), 2);
        due("17: its place", w.fault(1), 10);
    }

    private static void faultOrder() {
        faulty("chan 16-99999;", 3, 5);
        faulty("chan 0-16;", 3, 7);
        faulty("chan 5-4;", 3, 7);
        faulty("time 1440-0;", 3, 5);
        faulty("time 0-1440;", 3, 7);
        faulty("tone 1000-0;", 3, 5);
        faulty("tone 0-1000;", 3, 7);
        faulty("tone 9-8;", 3, 7);
        faulty("box 32-0 0-0;", 3, 4);
        faulty("box 0-32 0-0;", 3, 6);
        faulty("box 1-0 0-0;", 3, 6);
        faulty("box 0-0 32-0;", 3, 8);
        faulty("box 0-0 0-32;", 3, 10);
        faulty("box 0-0 1-0;", 3, 10);
        faulty("chan 4294967297-4294967297;", 3, 5);
        faulty("chan 1-18446744073709551617;", 3, 7);
        faulty("chan 99999999999999999999999999999999999999999999999999999999999999999999999999999999", 3, 5);
        faulty("Chan 1-2;", 1, 0);
        faulty("chann 1-2;", 1, 0);
        faulty("cha 1-2;", 1, 0);
        faulty("boxx 1-2 1-2;", 1, 0);
        faulty("tim 1-2;", 1, 0);
        faulty("tonE 1-2;", 1, 0);
        faulty("ch an 1-2;", 1, 0);
        // The first and last letters and digits, and the signs beside them.
        for (String letter : new String[] {"a", "z", "A", "Z"}) {
            faulty("chan" + letter + " 1-2;", 1, 0);
            faulty(letter + "chan 1-2;", 1, 0);
        }
        for (String sign : new String[] {"@", "[", "`", "{", "/", ":", ",", ".", "<"}) {
            faulty("chan" + sign + " 1-2;", 1, 4);
            faulty("chan 1" + sign + "-2;", 1, 6);
            faulty("chan 1-2" + sign, 1, 8);
        }
        faulty("chan 1-" + (char) ('2' + 256 - 128) + ";", 1, 7);
        faulty("5;", 1, 0);
        faulty(";", 1, 0);
        faulty("  -", 1, 2);
        faulty("\tchan 1-2;", 1, 0);
        faulty("chan" + (char) 0 + "1-2;", 1, 4);
        faulty("chan 1-2;\n", 1, 9);
        faulty("chan 1-2;.", 1, 9);
        faulty("chan", 1, 4);
        faulty("chan  ", 1, 6);
        faulty("chan 1", 1, 6);
        faulty("chan 1-", 1, 7);
        faulty("chan 1-2 ", 1, 9);
        faulty("chan - 1;", 1, 5);
        faulty("chan 1 2;", 1, 7);
        faulty("chan 1;2;", 1, 6);
        faulty("chan 1--2;", 1, 7);
        faulty("chan 1-;", 1, 7);
        faulty("chan 1-2-3;", 1, 8);
        faulty("chan 1-2 3-4;", 1, 9);
        faulty("chan 1-2;;", 1, 9);
        faulty("chan 1-2a;", 1, 8);
        faulty("chan a-2;", 1, 5);
        faulty("box 0-1;", 1, 7);
        faulty("box 0-10-1;", 1, 8);
        faulty("box 0-1 0-1 0-1;", 1, 12);
        faulty("box 0-1 - 0-1;", 1, 8);
        // Of one TOKEN the least: a word again, but where no word can stand.
        faulty("chan chan", 1, 5);
        faulty("chan 1-2 chan", 1, 9);
        faulty("chan 1-2; 99", 1, 10);
        faulty("chan 1 99", 1, 7);
        faulty("chan 1-2;time 1-2;chan", 2, 18);
        faulty("chan 1-2;chan", 2, 9);
        faulty("time 1-2;time 1-2;", 2, 9);
        faulty("tone 1-2;tone 99-1;", 2, 9);
        faulty("box 0-0 0-0;box;", 2, 12);
        faulty("chan 0-0;time 0-0;tone 0-0;box 0-0 0-0;box", 2, 39);
        faulty("chan 0-0;time 0-0;tone 0-0;box 0-0 0-0;sox", 1, 39);
        // The first TOKEN counts, not the least FAULT.
        faulty("chan 16 #", 3, 5);
        faulty("chan 1-2;chan 16 #", 2, 9);
        faulty("chan 9-8 #", 3, 7);
    }

    /** On CHANNEL 7 from 1000 to 1009 with TONES 400 and 405; PLACES from (5, 5) to (31, 31). */
    private static AirWatch oneSender() {
        AirWatch w = openEars();
        w.mark(0, 7, 1000, 1004, 400);
        w.mark(0, 7, 1005, 1009, 405);
        w.wedge(1, 1, 0, 0, 1);
        return w;
    }

    private static void fitting(String text, int answer) {
        AirWatch w = oneSender();
        due("18: LICENCE " + text, Text.licence(w, text), 0);
        due("18: fits " + text, w.fits(0, 0), answer);
    }

    // Promise 18
    private static void fits() {
        AirWatch w = oneSender();
        due("18: no LICENCE", w.fits(0, 0), NONE);
        Text.licence(w, "");
        due("18: the empty one", w.fits(0, 0), 0);
        due("18: SENDER below", w.fits(-1, 0), NONE);
        due("18: SENDER above", w.fits(1, 0), NONE);
        due("18: LICENCE below", w.fits(0, -1), NONE);
        due("18: LICENCE above", w.fits(0, 1), NONE);
        due("18: far off", w.fits(LOW, HIGH), NONE);
        due("18: far off the other way", w.fits(HIGH, LOW), NONE);
        fitting("chan 7-7;", 0);
        fitting("chan 0-7;", 0);
        fitting("chan 7-15;", 0);
        fitting("chan 8-15;", 1);
        fitting("chan 0-6;", 1);
        fitting("tone 400-405;", 0);
        fitting("tone 401-999;", 2);
        fitting("tone 0-404;", 2);
        fitting("tone 0-399;", 2);
        fitting("chan 0-6;tone 0-0;time 0-0;box 0-0 0-0;", 1);
        fitting("chan 7-7;tone 0-0;time 0-0;box 0-0 0-0;", 2);
        fitting("tone 400-405;time 0-0;box 0-0 0-0;", 3);
        fitting("time 1000-1009;box 0-0 0-0;", 4);
        fitting("box 5-31 5-31;", 0);
        fitting("chan 7-7;time 1000-1009;tone 400-405;box 5-31 5-31;", 0);
    }

    private static int timed(int from, int to, String text) {
        AirWatch w = openEars();
        w.mark(0, 0, from, to, 0);
        Text.licence(w, text);
        return w.fits(0, 0);
    }

    private static void fitsTime() {
        fitting("time 1000-1009;", 0);
        fitting("time 1001-1009;", 3);
        fitting("time 1000-1008;", 3);
        fitting("time 1010-999;", 3);
        fitting("time 1000-999;", 0);
        fitting("time 1005-1004;", 0);
        fitting("time 1006-1004;", 3);
        due("18: another day", timed(1440 * 3 + 10, 1440 * 3 + 20, "time 10-20;"), 0);
        due("18: another day, late", timed(1440 * 3 + 10, 1440 * 3 + 21, "time 10-20;"), 3);
        due("18: another day, early", timed(1440 * 3 + 9, 1440 * 3 + 20, "time 10-20;"), 3);
        due("18: over midnight", timed(1430, 1450, "time 1430-10;"), 0);
        due("18: over midnight, late", timed(1430, 1451, "time 1430-10;"), 3);
        due("18: over midnight, early", timed(1429, 1450, "time 1430-10;"), 3);
        due("18: behind midnight", timed(1440, 1450, "time 1430-10;"), 0);
        due("18: midday", timed(700, 700, "time 1430-10;"), 3);
        due("18: over midnight, not told so", timed(1439, 1440, "time 0-1438;"), 3);
        due("18: over midnight, all told", timed(1439, 1440, "time 0-1439;"), 0);
        due("18: around the day", timed(5, 1449, "time 5-8;"), 3);
        due("18: a whole day", timed(5, 1444, "time 5-3;"), 3);
        due("18: a day less a MINUTE", timed(5, 1443, "time 5-3;"), 0);
        due("18: all MINUTES", timed(0, 9999, ""), 0);
        due("18: all MINUTES, told", timed(0, 9999, "time 700-699;"), 0);
        due("18: all but one", timed(0, 9999, "time 700-698;"), 3);
        due("18: the last MINUTE", timed(9999, 9999, "time 1359-1359;"), 0);
        due("18: one MINUTE told", timed(77, 77, "time 77-77;"), 0);
        due("18: one MINUTE told, two heard", timed(77, 78, "time 77-77;"), 3);
        // Time between MARKS isn't asked for.
        AirWatch w = openEars();
        w.joins(0, 999);
        w.mark(0, 0, 100, 110, 0);
        w.mark(0, 0, 900, 910, 0);
        Text.licence(w, "time 900-110;");
        due("18: MARKS alone", w.fits(0, 0), 0);
    }

    private static void fitsBox() {
        fitting("box 0-31 0-31;", 0);
        fitting("box 6-31 5-31;", 5);
        fitting("box 5-30 5-31;", 5);
        fitting("box 5-31 6-31;", 5);
        fitting("box 5-31 5-30;", 5);
        fitting("box 31-31 31-31;", 5);
        fitting("box 5-5 5-5;", 5);
        fitting("box 0-4 0-31;", 4);
        fitting("box 0-31 0-4;", 4);
        fitting("box 0-5 0-5;", 5);
        AirWatch none = noPlaces();
        Text.licence(none, "");
        Text.licence(none, "box 0-31 0-31;");
        due("18: without PLACES, without box", none.fits(0, 0), 4);
        due("18: without PLACES", none.fits(0, 1), 4);
        AirWatch corner = openEars();
        corner.mark(0, 0, 0, 0, 0);
        Text.licence(corner, "box 0-0 0-0;");
        due("18: a FIELD of all", corner.fits(0, 0), 5);
        Text.licence(corner, "");
        due("18: all of all", corner.fits(0, 1), 0);
    }

    private static final String[] BY_ANSWER = {"", "chan 0-0;", "tone 0-0;", "time 0-0;",
        "box 0-0 0-0;", "box 9-9 9-9;"};

    private static void bestOf(int[] answers, int licence) {
        AirWatch w = oneSender();
        StringBuilder all = new StringBuilder();
        for (int answer : answers) {
            Text.licence(w, BY_ANSWER[answer]);
            all.append(answer).append(' ');
        }
        due("19: best(0, 0) of " + all, w.best(0, 0), licence);
        due("19: best(0, 1) of " + all, w.best(0, 1), answers[licence]);
    }

    // Promise 19
    private static void best() {
        AirWatch w = oneSender();
        due("19: no LICENCES", w.best(0, 0), NONE);
        due("19: no LICENCES, no answer", w.best(0, 1), NONE);
        Text.licence(w, "");
        due("19: what below", w.best(0, -1), NONE);
        due("19: what above", w.best(0, 2), NONE);
        due("19: SENDER below", w.best(-1, 0), NONE);
        due("19: SENDER above", w.best(1, 0), NONE);
        due("19: far off", w.best(HIGH, LOW), NONE);
        due("19: the only one", w.best(0, 0), 0);
        bestOf(new int[] {1, 2, 3, 4, 5, 0}, 5);
        bestOf(new int[] {1, 2, 3, 4, 5}, 4);
        bestOf(new int[] {1, 2, 3, 4}, 3);
        bestOf(new int[] {1, 2, 3}, 2);
        bestOf(new int[] {1, 2}, 1);
        bestOf(new int[] {2, 1, 2}, 0);
        bestOf(new int[] {5, 4, 3, 2, 1}, 0);
        bestOf(new int[] {0, 5, 0}, 0);
        bestOf(new int[] {1, 1, 1, 1, 1, 1, 1, 1, 1, 2}, 9);
        bestOf(new int[] {1, 1, 1, 1, 1, 1, 1, 1, 1, 1}, 0);
        bestOf(new int[] {4, 5, 5, 4}, 1);
    }

    // Promise 20
    private static void wanderers() {
        AirWatch w = openEars();
        due("20: no SENDERS", w.wanderers(), 0);
        for (int channel = 0; channel < 4; channel++) {
            w.mark(0, channel, 0, 0, 0);
        }
        due("20: no LICENCES", w.wanderers(), 4);
        Text.licence(w, "chan 2-2;");
        due("20: one FITS", w.wanderers(), 3);
        Text.licence(w, "chan 0-2;");
        due("20: one FITS two", w.wanderers(), 1);
        Text.licence(w, "chan 3-3;box 5-31 0-31;");
        due("20: by 5 is not by 0", w.wanderers(), 1);
        w.wedge(3, 0, -1, 0, 1);
        due("20: a WEDGE that is none", w.wanderers(), 1);
        w.wedge(3, 1, 0, 0, 1);
        due("20: all FIT", w.wanderers(), 0);
        w.mark(0, 2, 5000, 5000, 0);
        due("20: one more that FITS", w.wanderers(), 0);
    }

    // Promise 21
    private static void sweep() {
        AirWatch w = new AirWatch();
        int[][] wrong = {{0, 0, 1, 1}, {-1, 0, 1, 1}, {65536, 0, 1, 1}, {65537, 0, 1, 1}, {LOW, 0, 1, 1},
            {HIGH, 0, 1, 1}, {1, -1, 1, 1}, {1, 10000, 1, 1}, {1, 0, 0, 1}, {1, 0, 5, 1},
            {1, 0, -1, 1}, {1, 0, 1, 0}, {1, 0, 1, 241}, {1, 0, 1, -1}, {1, 9999, 1, 2},
            {1, 9999, 2, 1}, {1, 9041, 4, 240}, {1, HIGH, 4, 240}, {1, LOW, 1, 1},
            {1, 0, HIGH, HIGH}, {1, 0, LOW, LOW}, {1, 0, 65536, 65536}};
        for (int[] a : wrong) {
            due("21: wrong " + a[0] + " " + a[1] + " " + a[2] + " " + a[3],
                    w.sweep(a[0], a[1], a[2], a[3]), NONE);
        }
        due("21: nothing told", w.slot(0), NONE);
        due("21: never, at 0", w.sweep(1, 0, 1, 1), 1);
        due("21: the last MINUTE", w.sweep(32768, 9999, 1, 1), 10000);
        due("21: up to the last MINUTE", w.sweep(65535, 9040, 4, 240), 4 * 9041 + 6 * 240);
        due("21: one CHANNEL for all", w.sweep(8, 9040, 4, 240), 9041 + 3);
        w.post(0, 0);
        w.post(0, 0);
        w.listened(0, 3, 10, 19);
        due("21: AGE 1", w.sweep(8, 20, 1, 5), 1);
        due("21: AGE 2", w.sweep(8, 21, 1, 5), 2);
        due("21: in the middle", w.sweep(8, 15, 1, 5), 1);
        due("21: at its first MINUTE", w.sweep(8, 10, 1, 5), 11);
        due("21: behind its first MINUTE", w.sweep(8, 11, 1, 5), 1);
        w.listened(1, 3, 50, 59);
        w.listened(0, 3, 0, 5);
        due("21: the latest one", w.sweep(8, 100, 1, 5), 41);
        due("21: the latest one ahead", w.sweep(8, 40, 1, 5), 21);
        // Told for a MINUTE within the SWEEP: it counts for the slots behind it.
        due("21: ahead of the second slot", w.sweep(8, 48, 2, 6), 29 + 1);
        w.listened(0, 4, 52, 53);
        due("21: by a POST in the first slot", w.sweep(16 + 32, 50, 2, 5), 51 + 56);
        due("21: the older one", w.slot(0), 4);
        due("21: then the other", w.slot(1), 5);
    }

    private static void sweepOrder() {
        AirWatch w = new AirWatch();
        w.post(0, 0);
        w.listened(0, 0, 0, 99);
        w.listened(0, 1, 0, 89);
        w.listened(0, 2, 0, 79);
        w.listened(0, 3, 0, 69);
        w.listened(0, 4, 0, 69);
        due("21: the four oldest", w.sweep(31, 100, 4, 10), 11 + 21 + 31 + 31 + 60);
        int[] slots = {1, 2, 3, 4};
        for (int i = 0; i < 4; i++) {
            due("21: first by CHANNELS, slot " + i, w.slot(i), slots[i]);
        }
        due("21: two of them", w.sweep(3, 100, 4, 10), 1 + 1 + 1 + 41);
        int[] pair = {0, 0, 0, 1};
        for (int i = 0; i < 4; i++) {
            due("21: of many like ones the first, slot " + i, w.slot(i), pair[i]);
        }
        due("21: the set alone", w.sweep(16, 100, 1, 10), 31);
        due("21: of the set", w.slot(0), 4);
        // One CHANNEL far older than the rest: it comes back when it has grown old again.
        AirWatch old = new AirWatch();
        old.post(0, 0);
        for (int channel = 1; channel < 16; channel++) {
            old.listened(0, channel, 0, 5999);
        }
        due("21: the oldest once", old.sweep(65535, 5000, 4, 240), 5000 + 240 * 3 + 1 + 1 + 1 + 1);
        due("21: it comes last", old.slot(3), 0);
    }

    // Promise 22
    private static void slot() {
        AirWatch w = new AirWatch();
        due("22: no SWEEP", w.slot(0), NONE);
        w.sweep(0, 0, 1, 1);
        due("22: none that told a WORTH", w.slot(0), NONE);
        w.sweep(1 << 15 | 1 << 9 | 1 << 7, 0, 4, 10);
        int[] slots = {7, 7, 9, 15};
        due("22: the WORTH", w.sweep(1 << 15 | 1 << 9 | 1 << 7, 0, 4, 10), 1 + 1 + 21 + 31);
        for (int i = 0; i < 4; i++) {
            due("22: slot(" + i + ")", w.slot(i), slots[i]);
        }
        due("22: below", w.slot(-1), NONE);
        due("22: above", w.slot(4), NONE);
        due("22: far below", w.slot(LOW), NONE);
        due("22: far above", w.slot(HIGH), NONE);
        w.sweep(1, 0, 5, 1);
        due("22: a refused SWEEP changes nothing", w.slot(3), 15);
        w.sweep(4, 0, 2, 1);
        due("22: a later SWEEP", w.slot(0), 2);
        due("22: its last slot", w.slot(1), 2);
        due("22: it has no third", w.slot(2), NONE);
    }

    // Promise 23
    private static void about() {
        AirWatch w = oneSender();
        w.post(9, 9);
        w.mark(0, 1, 0, 0, 0);
        w.joins(31, 47);
        Text.licence(w, "");
        Text.licence(w, "chan 1-1;");
        Text.put(w, "box");
        int[] all = {2, 16, 3, 2, 31, 47, 3, 1};
        for (int what = 0; what < 8; what++) {
            due("23: about(" + what + ")", w.about(what), all[what]);
        }
        due("23: below", w.about(-1), NONE);
        due("23: above", w.about(8), NONE);
        due("23: far below", w.about(LOW), NONE);
        due("23: far above", w.about(HIGH), NONE);
        w.wedge(0, 1, 0, 0, 1);
        w.wedge(0, 1, 0, 1, 1);
        due("23: two with a WEDGE", w.about(7), 2);
        w.wedge(2, 1, 0, 0, 1);
        due("23: three with a WEDGE", w.about(7), 3);
    }
}
