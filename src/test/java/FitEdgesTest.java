/** The edges that the document's terms name, part III: how SENDERS FIT LICENCES, and the BEST. */
public final class FitEdgesTest {
    private static final int NONE = Edge.NONE;

    private FitEdgesTest() {
    }

    public static void main(String[] args) {
        withoutClauses();
        firstThatIsNotSo();
        itsChannel();
        tonesOfAll();
        minutesOfAll();
        overMidnight();
        minutesOfTheDay();
        minutesOfOneDayAndMore();
        somePlaces();
        allPlaces();
        ofItsOwnAlone();
        bestOrder();
        bestOfLikeOnes();
        Check.finish();
    }

    /** A SENDER of one MARK. */
    private static Watch sending(int channel, int from, int to, int tone) {
        Watch w = Scenes.ears();
        w.mark(0, channel, from, to, tone);
        return w;
    }

    private static void dueFit(Watch w, String text, int answer) {
        int number = w.licence(text);
        Edge.due("'" + text + "'", w.fits(0, number), answer);
    }

    private static void withoutClauses() {
        Edge.sentence("Without a clause all are told by it (without box the box is all FIELDS).");
        for (int channel : new int[] {0, 15}) {
            for (int tone : new int[] {0, 999}) {
                dueFit(sending(channel, 0, 9999, tone), "", 0);
                dueFit(sending(channel, 0, 0, tone), "  ", 0);
                dueFit(sending(channel, 9999, 9999, tone), "box 0-31 0-31;", 0);
            }
        }
        dueFit(sending(15, 0, 9999, 999), "chan 15-15;", 0);
        dueFit(sending(15, 0, 9999, 999), "tone 999-999;", 0);
        dueFit(sending(15, 0, 9999, 999), "time 0-1439;", 0);
        dueFit(sending(15, 0, 9999, 999), "chan 0-14;", 1);
        dueFit(sending(15, 0, 9999, 999), "tone 0-998;", 2);
        dueFit(sending(15, 0, 9999, 999), "time 0-1438;", 3);
        dueFit(sending(15, 0, 9999, 999), "box 0-30 0-31;", 5);
        // A clause of an earlier text doesn't stay.
        Watch w = sending(3, 50, 60, 500);
        dueFit(w, "chan 4-4;tone 0-0;time 0-0;box 0-0 0-0;", 1);
        dueFit(w, "", 0);
        dueFit(w, "tone 0-0;", 2);
        dueFit(w, "time 0-0;", 3);
        dueFit(w, "box 0-0 0-0;", 5);
    }

    /** Each way in which something isn't so: the first in the order told is the answer. */
    private static void firstThatIsNotSo() {
        Edge.sentence("A SENDER FITS a LICENCE by the first of these that isn't so");
        String[] boxes = {"box 5-31 5-31;", "box 0-4 0-31;", "box 6-6 6-6;"};
        int[] boxAnswers = {0, 4, 5};
        for (int wrong = 0; wrong < 8; wrong++) {
            for (int box = 0; box < 3; box++) {
                Watch w = sending(3, 50, 60, 500);
                w.wedge(0, 1, 0, 0, 1);
                String text = ((wrong & 1) != 0 ? "chan 4-4;" : "chan 3-3;")
                        + ((wrong & 2) != 0 ? "tone 501-999;" : "tone 500-500;")
                        + ((wrong & 4) != 0 ? "time 51-60;" : "time 50-60;") + boxes[box];
                int first = (wrong & 1) != 0 ? 1 : (wrong & 2) != 0 ? 2 : (wrong & 4) != 0 ? 3 : boxAnswers[box];
                dueFit(w, text, first);
            }
        }
    }

    private static void itsChannel() {
        Edge.sentence("1 its CHANNEL;");
        int[][] told = {{7, 7, 0}, {0, 7, 0}, {7, 15, 0}, {0, 15, 0}, {6, 6, 1}, {8, 8, 1}, {0, 6, 1}, {8, 15, 1}};
        for (int[] t : told) {
            dueFit(sending(7, 0, 0, 0), "chan " + t[0] + "-" + t[1] + ";", t[2]);
        }
        dueFit(sending(0, 0, 0, 0), "chan 0-0;", 0);
        dueFit(sending(0, 0, 0, 0), "chan 1-15;", 1);
        dueFit(sending(15, 0, 0, 0), "chan 15-15;", 0);
        dueFit(sending(15, 0, 0, 0), "chan 0-14;", 1);
    }

    private static void tonesOfAll() {
        Edge.sentence("2 TONES of all its MARKS;");
        int[][] told = {{400, 410, 0}, {0, 999, 0}, {400, 999, 0}, {0, 410, 0}, {401, 410, 2}, {400, 409, 2},
            {405, 405, 2}, {0, 399, 2}, {411, 999, 2}, {410, 410, 2}, {400, 400, 2}};
        for (int[] t : told) {
            for (int turned = 0; turned < 2; turned++) {
                Watch w = Scenes.ears();
                w.mark(0, 3, 0, 0, turned == 0 ? 400 : 410);
                w.mark(0, 3, 0, 0, 405);
                w.mark(0, 3, 0, 0, turned == 0 ? 410 : 400);
                w.mark(0, 3, 0, 0, 900);
                w.mark(0, 4, 0, 0, 0);
                dueFit(w, "tone " + t[0] + "-" + t[1] + ";", t[2]);
            }
        }
        dueFit(sending(3, 0, 0, 0), "tone 0-0;", 0);
        dueFit(sending(3, 0, 0, 0), "tone 1-999;", 2);
        dueFit(sending(3, 0, 0, 999), "tone 999-999;", 0);
        dueFit(sending(3, 0, 0, 999), "tone 0-998;", 2);
    }

    private static void dueTime(int from, int to, String time, int answer) {
        Watch w = sending(3, from, to, 0);
        int number = w.licence("time " + time + ";");
        Edge.due("from " + from + " to " + to + " by time " + time, w.fits(0, number), answer);
    }

    private static void minutesOfAll() {
        Edge.sentence("3 all MINUTES of all its MARKS (modulo 1,440)");
        dueTime(100, 200, "100-200", 0);
        dueTime(100, 200, "101-200", 3);
        dueTime(100, 200, "100-199", 3);
        dueTime(100, 100, "100-100", 0);
        dueTime(100, 100, "101-101", 3);
        dueTime(100, 100, "99-99", 3);
        dueTime(0, 0, "0-0", 0);
        dueTime(1439, 1439, "1439-1439", 0);
        // Its other MARKS count, and the time between them doesn't.
        for (int turned = 0; turned < 2; turned++) {
            Watch w = Scenes.ears();
            w.joins(0, 100);
            w.mark(0, 3, turned == 0 ? 100 : 250, turned == 0 ? 150 : 300, 7);
            w.mark(0, 3, turned == 0 ? 250 : 100, turned == 0 ? 300 : 150, 7);
            w.mark(0, 3, 900, 901, 7);
            dueFit(w, "time 100-300;", 0);
            dueFit(w, "time 250-150;", 0);
            dueFit(w, "time 251-150;", 3);
            dueFit(w, "time 250-149;", 3);
            dueFit(w, "time 100-299;", 3);
            dueFit(w, "time 101-300;", 3);
        }
    }

    private static void overMidnight() {
        Edge.sentence("the second may be below the first: over midnight");
        dueTime(1400, 1480, "1400-40", 0);
        dueTime(1399, 1480, "1400-40", 3);
        dueTime(1400, 1481, "1400-40", 3);
        dueTime(1439, 1440, "1439-0", 0);
        dueTime(1438, 1440, "1439-0", 3);
        dueTime(1439, 1441, "1439-0", 3);
        dueTime(0, 0, "1439-0", 0);
        dueTime(1, 1, "1439-0", 3);
        dueTime(1439, 1439, "1439-0", 0);
        dueTime(1438, 1438, "1439-0", 3);
        dueTime(0, 40, "1400-40", 0);
        dueTime(0, 41, "1400-40", 3);
        dueTime(1400, 1439, "1400-40", 0);
        dueTime(41, 41, "1400-40", 3);
        dueTime(40, 41, "1400-40", 3);
        dueTime(700, 710, "1400-40", 3);
        dueTime(1399, 1400, "1400-40", 3);
        // Not told over midnight: the day's last and first MINUTE are not beside each other.
        dueTime(1439, 1440, "0-1439", 0);
        dueTime(1439, 1440, "1-1439", 3);
        dueTime(1439, 1440, "0-1438", 3);
        dueTime(1439, 1440, "1439-1439", 3);
        dueTime(1439, 1440, "0-0", 3);
    }

    private static void minutesOfTheDay() {
        Edge.sentence("MINUTES of a day of 1,440");
        for (int day = 0; day < 6; day++) {
            int begin = 1440 * day;
            dueTime(begin, begin, "0-0", 0);
            dueTime(begin, begin, "1-1439", 3);
            dueTime(begin + 1439, begin + 1439, "1439-1439", 0);
            dueTime(begin + 1439, begin + 1439, "0-1438", 3);
            dueTime(begin, begin + 1439, "0-1439", 0);
            dueTime(begin + 1439, begin + 1440, "1439-0", 0);
            dueTime(begin + 100, begin + 200, "100-200", 0);
            dueTime(begin + 100, begin + 201, "100-200", 3);
            dueTime(begin + 99, begin + 200, "100-200", 3);
        }
        dueTime(9999, 9999, "1359-1359", 0);
        dueTime(9999, 9999, "1360-1358", 3);
        dueTime(9998, 9999, "1358-1359", 0);
    }

    private static void minutesOfOneDayAndMore() {
        dueTime(0, 1438, "0-1438", 0);
        dueTime(0, 1439, "0-1438", 3);
        dueTime(0, 1439, "0-1439", 0);
        dueTime(0, 1440, "0-1439", 0);
        dueTime(0, 9999, "0-1439", 0);
        dueTime(500, 1939, "500-499", 0);
        dueTime(500, 1940, "500-499", 0);
        dueTime(700, 9999, "500-499", 0);
        dueTime(0, 9999, "1439-1438", 0);
        dueTime(0, 9999, "1-0", 0);
        dueTime(500, 1938, "500-498", 0);
        dueTime(500, 1939, "500-498", 3);
        dueTime(500, 1940, "500-498", 3);
        dueTime(0, 9999, "0-1438", 3);
        dueTime(0, 9999, "1-1439", 3);
        dueTime(10, 1460, "10-20", 3);
        dueTime(10, 2890, "10-20", 3);
    }

    /** A SENDER that may be on (30, 30), (31, 30), (30, 31) and (31, 31). */
    private static Watch inTheCorner() {
        Watch w = Scenes.empty();
        w.post(30, 30);
        w.listened(0, 3, 0, 0);
        w.mark(0, 3, 0, 0, 0);
        w.wedge(0, 1, 0, 0, 1);
        return w;
    }

    /** A SENDER without PLACES. */
    private static Watch nowhere() {
        Watch w = inTheCorner();
        w.post(0, 0);
        w.listened(1, 3, 0, 0);
        w.mark(1, 3, 0, 0, 0);
        w.wedge(1, -1, 0, 0, -1);
        return w;
    }

    private static void somePlaces() {
        Edge.sentence("4 some of its PLACES is in the box;");
        dueFit(inTheCorner(), "box 0-29 0-31;", 4);
        dueFit(inTheCorner(), "box 0-31 0-29;", 4);
        dueFit(inTheCorner(), "box 0-29 0-29;", 4);
        dueFit(inTheCorner(), "box 0-30 0-30;", 5);
        dueFit(inTheCorner(), "box 30-30 30-30;", 5);
        dueFit(inTheCorner(), "box 31-31 30-30;", 5);
        dueFit(inTheCorner(), "box 30-30 31-31;", 5);
        dueFit(inTheCorner(), "box 31-31 31-31;", 5);
        dueFit(nowhere(), "box 0-31 0-31;", 4);
        dueFit(nowhere(), "box 30-31 30-31;", 4);
        dueFit(nowhere(), "box 0-0 0-0;", 4);
        dueFit(nowhere(), "", 4);
        dueFit(nowhere(), "chan 4-4;", 1);
        dueFit(nowhere(), "tone 1-1;", 2);
        dueFit(nowhere(), "time 1-1;", 3);
    }

    private static void allPlaces() {
        Edge.sentence("5 all are; 0 if all is so.");
        dueFit(inTheCorner(), "box 30-31 30-31;", 0);
        dueFit(inTheCorner(), "box 0-31 30-31;", 0);
        dueFit(inTheCorner(), "box 30-31 0-31;", 0);
        dueFit(inTheCorner(), "box 31-31 30-31;", 5);
        dueFit(inTheCorner(), "box 30-30 30-31;", 5);
        dueFit(inTheCorner(), "box 30-31 31-31;", 5);
        dueFit(inTheCorner(), "box 30-31 30-30;", 5);
        dueFit(sending(3, 0, 0, 0), "box 0-31 0-31;", 0);
        dueFit(sending(3, 0, 0, 0), "box 1-31 0-31;", 5);
        dueFit(sending(3, 0, 0, 0), "box 0-30 0-31;", 5);
        dueFit(sending(3, 0, 0, 0), "box 0-31 1-31;", 5);
        dueFit(sending(3, 0, 0, 0), "box 0-31 0-30;", 5);
        // A WEDGE that comes later tells more.
        Watch w = sending(3, 0, 0, 0);
        w.licence("box 0-31 0-31;");
        w.licence("box 5-31 5-31;");
        Edge.due("without a WEDGE", w.fits(0, 1), 5);
        w.wedge(0, 1, 0, 0, 1);
        Edge.due("with one", w.fits(0, 1), 0);
        w.wedge(0, -1, 0, 0, -1);
        Edge.due("with another: (5, 5) alone is in the box", w.fits(0, 1), 5);
    }

    /** Three SENDERS, of one, three and two MARKS: each is judged by its own MARKS alone. */
    private static void ofItsOwnAlone() {
        Edge.sentence("TONES of all its MARKS; 3 all MINUTES of all its MARKS");
        Watch w = Scenes.ears();
        w.mark(0, 1, 100, 100, 10);
        w.mark(0, 2, 200, 200, 20);
        w.mark(0, 2, 201, 201, 21);
        w.mark(0, 3, 300, 300, 30);
        w.mark(0, 2, 202, 202, 22);
        w.mark(0, 3, 301, 301, 31);
        w.wedge(0, 1, 0, 0, 1);
        w.wedge(1, -1, 0, 0, -1);
        w.licence("chan 1-1;tone 10-10;time 100-100;box 5-31 5-31;");
        w.licence("chan 2-2;tone 20-22;time 200-202;box 0-5 0-5;");
        w.licence("chan 3-3;tone 30-31;time 300-301;box 0-31 0-31;");
        w.licence("tone 20-21;");
        w.licence("time 200-201;");
        int[][] answers = {{0, 1, 1, 2, 3}, {1, 0, 1, 2, 3}, {1, 1, 0, 2, 3}};
        int[] order = {1, 0, 2, 1, 2, 0};
        for (int k : order) {
            for (int licence = 0; licence < 5; licence++) {
                Edge.due("fits(" + k + ", " + licence + ")", w.fits(k, licence), answers[k][licence]);
            }
            Edge.due("best(" + k + ", 0)", w.best(k, 0), k);
        }
        // Asked for one behind the other, without a question about the same SENDER between.
        for (int k : order) {
            Edge.due("best(" + k + ", 0) in turn", w.best(k, 0), k);
        }
        for (int k : order) {
            Edge.due("best(" + k + ", 1) in turn", w.best(k, 1), 0);
        }
        for (int k : order) {
            Edge.due("fits(" + k + ", 1) in turn", w.fits(k, 1), answers[k][1]);
        }
        Edge.due("wanderers", w.wanderers(), 0);
    }

    private static final String[] BY_ANSWER = {"", "chan 0-2;", "tone 0-0;", "time 0-0;", "box 0-4 0-4;",
        "box 9-9 9-9;"};

    /** A SENDER that FITS the LICENCE BY_ANSWER[i] by i. */
    private static Watch answering() {
        Watch w = sending(3, 50, 60, 500);
        w.wedge(0, 1, 0, 0, 1);
        return w;
    }

    private static void dueBest(int licence, int... answers) {
        Watch w = answering();
        StringBuilder name = new StringBuilder("of");
        for (int answer : answers) {
            Edge.due("answer " + answer, w.fits(0, w.licence(BY_ANSWER[answer])), answer);
            name.append(' ').append(answer);
        }
        Edge.due(name + ", the LICENCE", w.best(0, 0), licence);
        Edge.due(name + ", the answer", w.best(0, 1), answers[licence]);
        Edge.due(name + ", wanderers", w.wanderers(), answers[licence] == 0 ? 0 : 1);
    }

    private static void bestOrder() {
        Edge.sentence("BEST of a SENDER: the least of its answers in this order: 0, 5, 4, 3, 2, 1");
        int[] order = {0, 5, 4, 3, 2, 1};
        for (int i = 0; i < 6; i++) {
            dueBest(0, order[i]);
            for (int j = i + 1; j < 6; j++) {
                dueBest(0, order[i], order[j]);
                dueBest(1, order[j], order[i]);
            }
        }
        dueBest(5, 1, 2, 3, 4, 5, 0);
        dueBest(0, 0, 5, 4, 3, 2, 1);
        dueBest(9, 1, 1, 1, 1, 1, 1, 1, 1, 1, 0);
    }

    private static void bestOfLikeOnes() {
        Edge.sentence("of like ones the lowest LICENCE");
        for (int answer = 0; answer < 6; answer++) {
            dueBest(0, answer, answer);
            dueBest(0, answer, answer, answer, answer, answer, answer, answer, answer, answer, answer);
        }
        dueBest(1, 1, 0, 0);
        dueBest(1, 4, 5, 5, 4);
        Watch none = answering();
        Edge.due("without LICENCES", none.best(0, 0), NONE);
    }
}
