/** The edges that the document's terms name, parts II and IV: HEARD, SILENT, UNSEEN; the SWEEP. */
public final class TimeEdgesTest {
    private static final int NONE = Edge.NONE;

    private TimeEdgesTest() {
    }

    public static void main(String[] args) {
        states();
        statesAtTheEnds();
        statesOfOneChannel();
        slots();
        slotLengths();
        sets();
        agesOfListened();
        agesOfAnyPost();
        agesAtTheFirstMinute();
        agesByEarlierSlots();
        agesAsTold();
        worth();
        oldestOfMany();
        firstByChannels();
        Check.finish();
    }

    /** Each MINUTE from 0 on is as its sign tells: H, S or U. */
    private static void dueStates(String name, Watch w, int channel, String states) {
        for (int what = 0; what < 3; what++) {
            int sum = 0;
            for (int t = 0; t < states.length(); t++) {
                int is = states.charAt(t) == "HSU".charAt(what) ? 1 : 0;
                Edge.due(name + ", MINUTE " + t + ", what " + what, w.minutes(channel, t, t, what), is);
                sum += is;
            }
            Edge.due(name + ", all, what " + what, w.minutes(channel, 0, states.length() - 1, what), sum);
        }
    }

    private static void states() {
        Edge.sentence("a MINUTE is HEARD if it is in some MARK, SILENT if some POST LISTENED and it isn't HEARD, else UNSEEN.");
        Watch w = Scenes.empty();
        w.post(0, 0);
        w.post(1, 1);
        dueStates("nothing yet", w, 3, "UUUUU");
        w.listened(0, 3, 5, 14);
        w.listened(1, 3, 10, 19);
        w.listened(0, 3, 22, 22);
        dueStates("LISTENED", w, 3, "UUUUUSSSSSSSSSSSSSSSUUSU");
        w.mark(0, 3, 7, 11, 1);
        w.mark(1, 3, 11, 13, 900);
        w.mark(1, 3, 19, 19, 1);
        dueStates("HEARD", w, 3, "UUUUUSSHHHHHHHSSSSSHUUSU");
        w.mark(0, 3, 22, 22, 1);
        w.mark(0, 3, 5, 14, 1);
        dueStates("all of a stretch", w, 3, "UUUUUHHHHHHHHHHSSSSHUUHU");
    }

    private static void statesAtTheEnds() {
        Watch w = Scenes.empty();
        w.post(0, 0);
        w.listened(0, 3, 0, 0);
        w.listened(0, 3, 9999, 9999);
        Edge.due("SILENT, the first", w.minutes(3, 0, 0, 1), 1);
        Edge.due("SILENT, the last", w.minutes(3, 9999, 9999, 1), 1);
        Edge.due("SILENT, both", w.minutes(3, 0, 9999, 1), 2);
        Edge.due("UNSEEN between", w.minutes(3, 0, 9999, 2), 9998);
        Edge.due("blind between", w.blind(3, 0, 9999), 9998);
        w.mark(0, 3, 0, 0, 0);
        w.mark(0, 3, 9999, 9999, 0);
        Edge.due("HEARD, both", w.minutes(3, 0, 9999, 0), 2);
        Edge.due("HEARD, not SILENT", w.minutes(3, 0, 9999, 1), 0);
        Edge.due("HEARD, not UNSEEN", w.minutes(3, 0, 9999, 2), 9998);
        Watch all = Scenes.ears();
        Edge.due("SILENT all the time", all.minutes(3, 0, 9999, 1), 10000);
        all.mark(0, 3, 0, 9999, 0);
        Edge.due("HEARD all the time", all.minutes(3, 0, 9999, 0), 10000);
        Edge.due("nothing SILENT then", all.minutes(3, 0, 9999, 1), 0);
    }

    private static void statesOfOneChannel() {
        Watch w = Scenes.empty();
        w.post(0, 0);
        w.listened(0, 3, 1, 2);
        w.listened(0, 4, 2, 3);
        w.mark(0, 4, 3, 3, 0);
        dueStates("CHANNEL 2", w, 2, "UUUUU");
        dueStates("CHANNEL 3", w, 3, "USSUU");
        dueStates("CHANNEL 4", w, 4, "UUSHU");
    }

    private static void slots() {
        Edge.sentence("A SWEEP: n slots (1 .. 4) of m MINUTES (1 .. 240) from a MINUTE on");
        Edge.range("sweep(8, 100, v, 10)", 1, 4, Scenes::some, (w, v) -> w.sweep(8, 100, v, 10));
        Edge.range("sweep(8, 100, v, 10) at first", 1, 4, Scenes::empty, (w, v) -> w.sweep(8, 100, v, 10));
        for (int n = 1; n <= 4; n++) {
            Watch w = Scenes.some();
            w.sweep(0x8000, 100, n, 10);
            for (int i = 0; i < 6; i++) {
                Edge.due("slot(" + i + ") of " + n, w.slot(i), i < n ? 15 : NONE);
            }
        }
    }

    private static void slotLengths() {
        Edge.range("sweep(8, 100, 2, v)", 1, 240, Scenes::some, (w, v) -> w.sweep(8, 100, 2, v));
        Edge.range("sweep(8, 100, 4, v) at first", 1, 240, Scenes::empty, (w, v) -> w.sweep(8, 100, 4, v));
        Edge.sentence("n m MINUTES from the first on beyond 9999");
        int[][] lengths = {{1, 1}, {1, 240}, {2, 120}, {3, 7}, {4, 1}, {4, 240}};
        for (int[] nm : lengths) {
            int n = nm[0];
            int m = nm[1];
            int last = 10000 - n * m;
            String slots = n + " slots of " + m;
            Edge.due(slots + " up to 9999", Scenes.empty().sweep(1, last, n, m), last + 1 + n - 1);
            Edge.refused(slots + " beyond it", Scenes::some, w -> w.sweep(1, last + 1, n, m));
        }
        Edge.refused("n m as a sum that wraps around", Scenes::some, w -> w.sweep(1, 0, 65536, 65536));
        Edge.refused("n m below 0", Scenes::some, w -> w.sweep(1, 0, -2, 30));
        Edge.refused("n and m below 0", Scenes::some, w -> w.sweep(1, 0, -2, -30));
        Edge.refused("the greatest of all", Scenes::some, w -> w.sweep(1, Edge.HIGH, 4, 240));
    }

    private static void sets() {
        Edge.sentence("CHANNELS a set (not empty) of bits");
        Edge.range("sweep(v, 100, 2, 10)", 1, 0xFFFF, Scenes::some, (w, v) -> w.sweep(v, 100, 2, 10));
        Edge.refused("the empty set", Scenes::some, w -> w.sweep(0, 100, 2, 10));
        Edge.refused("the empty set, all full", Scenes::full, w -> w.sweep(0, 100, 2, 10));
        Edge.refused("all bits", Scenes::some, w -> w.sweep(-1, 100, 2, 10));
        Edge.sentence("in each one CHANNEL of a set");
        Watch w = Scenes.empty();
        Edge.due("of two", w.sweep(0x8001, 0, 4, 10), 1 + 1 + 1 + 31);
        for (int i = 0; i < 4; i++) {
            Edge.due("slot " + i, w.slot(i), i == 3 ? 15 : 0);
        }
        Edge.due("of one", w.sweep(0x0400, 0, 4, 10), 1 + 1 + 1 + 1);
        for (int i = 0; i < 4; i++) {
            Edge.due("slot " + i + " of one", w.slot(i), 10);
        }
    }

    private static Watch listening(int... fromsAndTos) {
        Watch w = Scenes.empty();
        w.post(0, 0);
        for (int i = 0; i < fromsAndTos.length; i += 2) {
            w.listened(0, 3, fromsAndTos[i], fromsAndTos[i + 1]);
        }
        return w;
    }

    private static void agesOfListened() {
        Edge.sentence("MINUTES from the latest one ahead of the slot in which it was LISTENED to");
        int[][] ages = {{0, 1}, {9, 10}, {10, 11}, {11, 1}, {12, 1}, {19, 1}, {20, 1}, {21, 2}, {49, 30},
            {50, 31}, {51, 1}, {52, 2}, {9999, 9949}};
        for (int[] a : ages) {
            Edge.due("sweep from " + a[0], listening(10, 19, 50, 50).sweep(8, a[0], 1, 1), a[1]);
            Edge.due("sweep from " + a[0] + ", told later", listening(50, 50, 10, 19).sweep(8, a[0], 1, 1), a[1]);
        }
        Edge.due("one inside another", listening(10, 90, 20, 30).sweep(8, 100, 1, 1), 10);
        Edge.due("one around another", listening(20, 30, 10, 90).sweep(8, 100, 1, 1), 10);
        Edge.due("another CHANNEL", listening(10, 90).sweep(16, 100, 1, 1), 101);
        Edge.due("up to the slot", listening(0, 9999).sweep(8, 9999, 1, 1), 1);
        Edge.due("behind the slot alone", listening(101, 9999).sweep(8, 100, 1, 1), 101);
        Edge.due("from the slot on", listening(100, 9999).sweep(8, 100, 1, 1), 101);
        Edge.due("from one ahead of it", listening(99, 9999).sweep(8, 100, 1, 1), 1);
    }

    private static void agesOfAnyPost() {
        Edge.sentence("LISTENED to by any POST");
        for (int post = 0; post < 6; post++) {
            Watch w = Scenes.empty();
            for (int i = 0; i < 6; i++) {
                w.post(i, i);
            }
            w.listened((post + 1) % 6, 3, 10, 20);
            w.listened(post, 3, 30, 40);
            Edge.due("POST " + post, w.sweep(8, 100, 1, 1), 60);
        }
    }

    private static void agesAtTheFirstMinute() {
        Edge.sentence("from MINUTE -1, if never");
        Edge.due("at MINUTE 0", Scenes.empty().sweep(8, 0, 1, 1), 1);
        Edge.due("at MINUTE 1", Scenes.empty().sweep(8, 1, 1, 1), 2);
        Edge.due("at MINUTE 9999", Scenes.empty().sweep(8, 9999, 1, 1), 10000);
        Edge.due("at MINUTE 0, LISTENED to in it", listening(0, 0).sweep(8, 0, 1, 1), 1);
        Edge.due("at MINUTE 1, LISTENED to in 0", listening(0, 0).sweep(8, 1, 1, 1), 1);
        Edge.due("at MINUTE 2, LISTENED to in 0", listening(0, 0).sweep(8, 2, 1, 1), 2);
    }

    private static void agesByEarlierSlots() {
        Edge.sentence("or by an earlier slot, to the slot's begin");
        Edge.due("the slot next to it", Scenes.empty().sweep(8, 100, 2, 1), 101 + 1);
        Edge.due("a long slot next to it", Scenes.empty().sweep(8, 100, 2, 240), 101 + 1);
        Edge.due("each ahead of the other", Scenes.empty().sweep(8, 100, 4, 240), 101 + 3);
        Watch w = Scenes.empty();
        w.post(0, 0);
        w.listened(0, 3, 0, 99);
        w.listened(0, 4, 0, 99);
        // 3, 4, 3 has 1 + 51 + 51: a slot between doesn't hide the one ahead of it.
        Edge.due("two CHANNELS", w.sweep(24, 100, 3, 50), 1 + 1 + 101);
        dueSlots("two CHANNELS", w, 3, 3, 4);
        Edge.due("a SWEEP isn't LISTENED", w.minutes(3, 100, 249, 2), 150);
        Edge.due("nor counts for the next", w.sweep(24, 100, 3, 50), 1 + 1 + 101);
        Watch back = Scenes.empty();
        back.post(0, 0);
        back.listened(0, 3, 0, 99);
        back.listened(0, 4, 0, 0);
        back.listened(0, 4, 150, 199);
        Edge.due("back behind another", back.sweep(24, 100, 3, 50), 1 + 150 + 51);
        dueSlots("back behind another", back, 3, 4, 3);
    }

    private static void agesAsTold() {
        Edge.sentence("(as told)");
        Edge.due("in the first slot", listening(100, 104).sweep(8, 100, 2, 10), 101 + 1);
        Edge.due("in a slot of another CHANNEL", listening(100, 104).sweep(8 + 16, 100, 2, 10), 101 + 111);
        Watch w = listening(50, 50, 105, 105);
        w.listened(0, 4, 40, 40);
        // The older one first would leave the other one, which is LISTENED to in the meantime, too young.
        Edge.due("the younger one first", w.sweep(8 + 16, 100, 2, 10), 50 + 70);
        dueSlots("the younger one first", w, 3, 4);
        w.mark(0, 3, 105, 105, 0);
        Edge.due("MARKS don't count", w.sweep(8 + 16, 100, 2, 10), 50 + 70);
        Watch higher = listening(40, 40);
        higher.listened(0, 15, 50, 50);
        higher.listened(0, 15, 105, 105);
        Edge.due("the higher one first", higher.sweep(8 + 0x8000, 100, 2, 10), 50 + 70);
        dueSlots("the higher one first", higher, 15, 3);
    }

    private static void worth() {
        Edge.sentence("WORTH: all slots' AGES together. The most;");
        Watch w = Scenes.empty();
        Edge.due("all never, one slot", w.sweep(0xFFFF, 0, 1, 1), 1);
        Edge.due("all never, two slots", w.sweep(0xFFFF, 0, 2, 1), 1 + 2);
        Edge.due("all never, four slots", w.sweep(0xFFFF, 0, 4, 1), 1 + 2 + 3 + 4);
        Edge.due("the most there can be", w.sweep(0xFFFF, 9040, 4, 240), 9041 + 9281 + 9521 + 9761);
        w.post(0, 0);
        for (int channel = 0; channel < 15; channel++) {
            w.listened(0, channel, 0, 999);
        }
        Edge.due("the last CHANNEL alone never", w.sweep(0xFFFF, 1000, 1, 240), 1001);
        Edge.due("it", w.slot(0), 15);
        w.listened(0, 15, 0, 9999);
        Edge.due("all LISTENED to", w.sweep(0xFFFF, 1000, 1, 240), 1);
        Edge.due("the first of them", w.slot(0), 0);
    }

    /** All CHANNELS of different AGES: the oldest ones, whichever numbers they have. */
    private static void oldestOfMany() {
        for (int step = 1; step < 16; step += 2) {
            for (int first = 0; first < 16; first++) {
                Watch w = Scenes.empty();
                w.post(0, 0);
                int[] until = new int[16];
                for (int channel = 0; channel < 16; channel++) {
                    until[channel] = 100 + 7 * ((channel * step + first) % 16);
                    w.listened(0, channel, 0, until[channel]);
                }
                for (int n = 1; n <= 4; n++) {
                    dueOldest("oldest by " + step + " from " + first, w, until, n);
                }
            }
        }
    }

    /** The n oldest have the slots, which are alike in any order, by their numbers. */
    private static void dueOldest(String name, Watch w, int[] until, int n) {
        int[] slots = new int[n];
        int count = 0;
        int worth = 0;
        for (int channel = 0; channel < 16; channel++) {
            if (until[channel] < 100 + 7 * n) {
                slots[count] = channel;
                worth += 1000 + 30 * count - until[channel];
                count++;
            }
        }
        Edge.due(name + ", " + n + " slots", w.sweep(0xFFFF, 1000, n, 30), worth);
        dueSlots(name, w, slots);
    }

    private static void dueSlots(String name, Watch w, int... channels) {
        for (int i = 0; i < channels.length; i++) {
            Edge.due(name + ", slot(" + i + ")", w.slot(i), channels[i]);
        }
        Edge.due(name + ", no more", w.slot(channels.length), NONE);
    }

    private static void firstByChannels() {
        Edge.sentence("of like ones the first by CHANNELS, slot by slot");
        Watch w = Scenes.empty();
        w.sweep(0xFFFF, 100, 4, 10);
        dueSlots("all alike", w, 0, 1, 2, 3);
        w.sweep(0xF000, 100, 4, 10);
        dueSlots("the last four", w, 12, 13, 14, 15);
        w.sweep(0x9000, 100, 2, 10);
        dueSlots("two", w, 12, 15);
        // At MINUTE 0 a CHANNEL that has a slot now or later is like one that has had one already.
        w.sweep(0x8280, 0, 4, 10);
        dueSlots("twice the first", w, 7, 7, 9, 15);
        w.post(0, 0);
        w.listened(0, 0, 0, 99);
        w.listened(0, 1, 0, 98);
        w.listened(0, 2, 0, 97);
        Edge.due("two of three", w.sweep(7, 100, 2, 10), 2 + 3 + 10);
        dueSlots("two of three", w, 1, 2);
        Edge.due("three of three", w.sweep(7, 100, 3, 10), 1 + 2 + 3 + 10 + 20);
        dueSlots("three of three", w, 0, 1, 2);
    }
}
