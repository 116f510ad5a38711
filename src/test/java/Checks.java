import java.util.ArrayList;
import java.util.List;
import java.util.function.Supplier;
import java.util.function.ToIntFunction;

/** What the tests share: counting answers, telling fords, and holding one object against another (tests extend it for its names). */
abstract class Checks {
    static final int BAD = -1, NOT = -2, FULL = -3, NONE = -4, NULL = -11, CAST = -12, INDEX = -13, SIZE = -14;
    static final int LEAST = Integer.MIN_VALUE, GREATEST = Integer.MAX_VALUE;
    private static int wrong, checked;

    static void due(String what, int got, int want) {
        checked++;
        if (got != want) {
            wrong++;
            System.out.println(what + " answered " + got + ", due is " + want);
        }
    }

    static void finish() {
        System.out.println(checked - wrong + " answers as due, " + wrong + " not");
        if (wrong != 0) System.exit(1);
    }

    static void typed(FordQuestions x, String text) {
        for (int p = 0; p < text.length(); p++) x.type(text.charAt(p));
    }

    static int told(FordQuestions x, String text) {
        typed(x, text);
        return x.ford();
    }

    static FordQuestions fordOf(String text) {
        FordQuestions x = new FordQuestions();
        if (told(x, text) < 1) due("the ford " + text, 0, 1);
        return x;
    }

    /**
     * An object with something of everything, at hour 3: questions a7 (asked), c4, h8 (asked);
     * crosser 0 in till 10, 1 in till 14, 2 to come at 30, 3 over; the draw is 7, five may be undone,
     * the image is of hour 2, the tape is as told, sheet 0 has 10 bytes (2 2 2 2 2 2 1 1 1 1, how many
     * will be in), sheet 1 four shorts (0 1 4 5), sheet 2 no longs, sheet 3 is missing.
     */
    static FordQuestions busyWithTape(String tape) {
        FordQuestions x = fordOf("a7c4!h9;p:a@1,d,g:h@30,s@2");
        x.seed(7);
        x.hours(2);
        x.image();
        x.hours(1);
        x.again(1);
        x.put(2, 8);
        x.sheet(0, 0, 10);
        x.film(10, 0, 0, 0);
        x.sheet(1, 1, 4);
        x.item(1, 1, 1, 1);
        x.item(1, 1, 2, 4);
        x.item(1, 1, 3, 5);
        x.sheet(2, 3, 0);
        typed(x, tape);
        return x;
    }

    static FordQuestions busy() {
        return busyWithTape("b2");
    }

    /** The call is answered so, and nothing is different behind it. */
    static void unchanged(String what, Supplier<FordQuestions> scene, ToIntFunction<FordQuestions> call, int want) {
        FordQuestions x = scene.get();
        due(what, call.applyAsInt(x), want);
        same(what, x, scene.get());
    }

    /** Both objects answer alike whatever is asked; they are used up. */
    static void same(String what, FordQuestions x, FordQuestions y) {
        List<String> got = new Probe(x).all();
        List<String> want = new Probe(y).all();
        checked++;
        for (int k = 0; k < Math.min(got.size(), want.size()); k++) {
            if (!got.get(k).equals(want.get(k))) {
                wrong++;
                System.out.println(what + " has changed something: " + got.get(k) + ", unchanged " + want.get(k));
                return;
            }
        }
        if (got.size() != want.size()) {
            wrong++;
            System.out.println(what + " has changed how much there is to ask");
        }
    }

    /** Asks an object for all that it holds, in some 400 calls at most, and writes the answers down. */
    private static final class Probe {
        private final FordQuestions x;
        private final List<String> answers = new ArrayList<>();

        Probe(FordQuestions x) {
            this.x = x;
        }

        List<String> all() {
            look();
            goBack();
            note("restore()", x.restore());
            look();
            goBack();
            note("the tape's length", x.type(' '));
            note("ford()", x.ford());
            look();
            readSheets();
            return answers;
        }

        private void note(String call, int answer) {
            answers.add(call + " = " + answer);
        }

        private void look() {
            for (int w = 0; w < 8; w++) note("count(" + w + ")", x.count(w));
            for (int q = 0; q < x.count(0); q++) {
                for (int w = 0; w < 3; w++) note("of(" + q + ", " + w + ")", x.of(q, w));
            }
            for (int c = 0; c < x.count(1); c++) {
                for (int w = 0; w < 5; w++) note("at(" + c + ", " + w + ")", x.at(c, w));
            }
            lookAtDraw();
        }

        private void lookAtDraw() {
            int draw = x.seed(0);
            x.seed(draw);
            note("the draw", draw);
        }

        /** Each thing that may be undone, with what it changes. */
        private void goBack() {
            for (int times = 0; times < 9; times++) {
                int more = x.undo();
                note("undo()", more);
                if (more < 0) return;
                for (int w = 2; w < 6; w++) note("count(" + w + ") behind undo()", x.count(w));
                for (int q = 0; q < x.count(0); q++) note("how hard " + q + " was", x.of(q, 1));
                for (int c = 0; c < x.count(1); c++) {
                    note("what " + c + " knew", x.at(c, 1));
                    note("when " + c + " came", x.at(c, 2));
                }
                lookAtDraw();
            }
        }

        /** In hour h of this ford, h will be in it behind the next one, whatever crosser 4 knows (but in hour 5). */
        private void readSheets() {
            told(x, "a9a9a9a9a9;p@1,p@2,p@3,p@4,p@5");
            int[] lanes = new int[4];
            for (int s = 0; s < 4; s++) {
                lanes[s] = -1;
                for (int lane = 0; lane < 4; lane++) {
                    int answer = x.seen(4, s, lane, 0, 1, 1);
                    if (answer != CAST && answer != NULL) lanes[s] = lane;
                }
                note("the lane of sheet " + s, lanes[s]);
            }
            for (int h = 0; h <= 5; h++) {
                for (int s = 0; s < 4; s++) readItems(s, lanes[s], h);
                x.hours(1);
            }
            for (int s = 0; s < 4; s++) note("drop(" + s + ")", x.drop(s));
        }

        private void readItems(int s, int lane, int h) {
            for (int i = 0; lane >= 0 && i < 24; i++) {
                int fits = x.seen(4, s, lane, i, 1, 1);
                if (fits == INDEX) return;
                note("whether item " + i + " of sheet " + s + " is " + h, fits);
            }
        }
    }
}
