import java.util.ArrayList;
import java.util.List;

/** All that an object's answers show of its state; two like states give like views. */
final class View {
    private static final int SENDERS_ASKED = 4;

    private final List<String> names = new ArrayList<>();
    private final List<Long> answers = new ArrayList<>();

    private View() {
    }

    private void put(String name, long answer) {
        names.add(name);
        answers.add(answer);
    }

    /** Only questions: the object stays as it was. */
    static View questions(Watch w) {
        View view = new View();
        view.askCounts(w);
        view.askSenders(w);
        view.askTime(w);
        view.askLicences(w);
        for (int i = 0; i < 5; i++) {
            view.put("slot(" + i + ")", w.slot(i));
        }
        return view;
    }

    /** The questions, and then calls that show what no question does: the tape's bytes, what comes next. */
    static View whole(Watch w) {
        View view = questions(w);
        view.readTape(w);
        view.goOn(w);
        return view;
    }

    private void askCounts(Watch w) {
        for (int what = -1; what < 9; what++) {
            put("about(" + what + ")", w.about(what));
        }
        put("senders()", w.senders());
    }

    private void askSenders(Watch w) {
        int marks = w.about(2);
        for (int mark = 0; mark <= marks; mark++) {
            put("senderOf(" + mark + ")", w.senderOf(mark));
        }
        for (int k = 0; k < SENDERS_ASKED; k++) {
            for (int what = 0; what < 9; what++) {
                put("sender(" + k + ", " + what + ")", w.sender(k, what));
            }
            int places = w.sender(k, 7);
            put("place(" + k + ", 0)", w.place(k, 0));
            put("place(" + k + ", the last)", w.place(k, places - 1));
            for (int what = 0; what < 4; what++) {
                put("box(" + k + ", " + what + ")", w.box(k, what));
            }
        }
    }

    private void askTime(Watch w) {
        for (int channel : new int[] {0, 3, 15}) {
            for (int what = 0; what < 3; what++) {
                put("minutes(" + channel + ", " + what + ")", w.minutes(channel, 0, 9999, what));
            }
            put("blind(" + channel + ")", w.blind(channel, 0, 9999));
        }
    }

    private void askLicences(Watch w) {
        put("fault(0)", w.fault(0));
        put("fault(1)", w.fault(1));
        int licences = w.about(3);
        for (int k = 0; k < SENDERS_ASKED; k++) {
            for (int licence = 0; licence < licences; licence++) {
                put("fits(" + k + ", " + licence + ")", w.fits(k, licence));
            }
            put("best(" + k + ", 0)", w.best(k, 0));
            put("best(" + k + ", 1)", w.best(k, 1));
        }
        put("wanderers()", w.wanderers());
    }

    private void readTape(Watch w) {
        put("licence()", w.licence());
        put("then fault(0)", w.fault(0));
        put("then fault(1)", w.fault(1));
        put("then about(3)", w.about(3));
        put("then about(6)", w.about(6));
    }

    private void goOn(Watch w) {
        put("then feed", w.feed(0x20202020, 0x20202020, 0x20202020, 0x20202020, 0x20202020));
        put("then licence()", w.licence());
        put("then post", w.post(9, 9));
        put("then listened", w.listened(0, 3, 1000, 1100));
        put("then mark", w.mark(0, 3, 50, 1050, 501));
        put("then senders", w.senders());
        put("then mark at the end", w.mark(0, 0, 9999, 9999, 999));
        put("then sweep", w.sweep(0xFFFF, 9000, 4, 200));
        for (int i = 0; i < 4; i++) {
            put("then slot(" + i + ")", w.slot(i));
        }
    }

    /** Each answer of this view is due to be the other's. */
    void dueAs(String label, View other) {
        Check.due(label + ": answers in the view", answers.size(), other.answers.size());
        for (int i = 0; i < Math.min(answers.size(), other.answers.size()); i++) {
            Check.due(label + ": " + names.get(i), answers.get(i), other.answers.get(i));
        }
    }
}
