/** Objects to begin a test with: nothing in them, something of all, no room left. */
final class Scenes {
    private Scenes() {
    }

    static Watch empty() {
        return new Watch();
    }

    /** A POST at (5, 5) that LISTENED on all CHANNELS all the time. */
    static Watch ears() {
        Watch w = new Watch();
        w.post(5, 5);
        for (int channel = 0; channel < 16; channel++) {
            w.listened(0, channel, 0, 9999);
        }
        return w;
    }

    /** As ears, and a MARK on CHANNEL 3 without a WEDGE. */
    static Watch oneMark() {
        Watch w = ears();
        w.mark(0, 3, 100, 200, 500);
        return w;
    }

    /** All six POSTS, each of which LISTENED on CHANNEL 3 all the time. */
    static Watch sixPosts() {
        Watch w = new Watch();
        for (int post = 0; post < 6; post++) {
            w.post(6 * post, 31 - 6 * post);
            w.listened(post, 3, 0, 9999);
        }
        return w;
    }

    /** Something of all, and room for more of all. */
    static Watch some() {
        Watch w = new Watch();
        w.post(0, 0);
        w.post(31, 31);
        w.post(5, 5);
        w.listened(0, 3, 0, 999);
        w.listened(1, 3, 500, 1500);
        w.listened(2, 3, 900, 950);
        w.listened(2, 0, 9000, 9999);
        w.listened(1, 15, 0, 0);
        w.joins(7, 20);
        w.mark(0, 3, 100, 200, 500);
        w.mark(1, 3, 520, 530, 100);
        w.mark(1, 3, 540, 560, 107);
        w.mark(2, 0, 9990, 9999, 999);
        w.mark(1, 15, 0, 0, 0);
        w.wedge(0, 1, 0, 1, 1);
        w.wedge(2, -1, 0, 0, -1);
        w.licence("chan 3-3; tone 0-107;");
        w.licence("time 1400-40; box 0-5 0-5;");
        w.licence("chan 3-3; chan 4-4;");
        w.sweep(0x8009, 2000, 3, 60);
        w.text("time 5-");
        return w;
    }

    /** As some, with so long a tape that twenty bytes more would be one too many. */
    static Watch longTape() {
        Watch w = some();
        w.text("chan 0-7; tone 3-9; box 0-9 8-31; time 30-20;  "
                + "                                 z");
        return w;
    }

    /** No room for a POST, a LISTENED one, a MARK, a LICENCE or a byte. */
    static Watch full() {
        Watch w = new Watch();
        for (int i = 0; i < 6; i++) {
            w.post(5 * i, i);
        }
        for (int i = 0; i < 100; i++) {
            w.listened(i % 6, i % 15, 10 * i, 10 * i + 2000);
        }
        for (int i = 0; i < 60; i++) {
            w.mark(i % 6, i % 15, 10 * i + 900, 10 * i + 905, i);
        }
        w.wedge(0, 1, 0, 1, 1);
        w.wedge(59, -1, 0, 0, -1);
        for (int i = 0; i < 10; i++) {
            w.licence("chan " + i + "-9;");
        }
        w.sweep(0x7FFF, 3000, 4, 30);
        w.text("chan 1-2; time 3-4; tone 5-6; box 7-8 9-9;            "
                + "                                              ");
        return w;
    }
}
