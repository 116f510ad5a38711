/** Long runs of calls, drawn by a fixed rule, on the class and on the plain model: every answer must be the same. */
public final class AgainstModelTest {
    private static final int RUNS = 600, CALLS = 512;
    private static long state;
    private static int wrong;

    private static int draw(int below) {
        state = state * 6364136223846793005L + 1442695040888963407L;
        return (int) ((state >>> 33) % below);
    }

    /** Mostly least .. greatest, now and then one beyond, or far off. */
    private static int number(int least, int greatest) {
        int odd = draw(60);
        if (odd == 0) return least - 1;
        if (odd == 1) return greatest + 1;
        if (odd == 2) return draw(2) == 0 ? Integer.MIN_VALUE : Integer.MAX_VALUE;
        return least + draw(greatest - least + 1);
    }

    private static String text() {
        StringBuilder b = new StringBuilder();
        int questions = 1 + draw(8);
        for (int q = 0; q < questions; q++) {
            b.append((char) ('a' + draw(8))).append(1 + draw(9));
            if (draw(4) == 0) b.append('!');
        }
        int crossers = draw(6);
        for (int c = 0; c < crossers; c++) {
            b.append(c == 0 ? ';' : ',').append("psrdg".charAt(draw(5)));
            int knows = draw(3) == 0 ? 0 : draw(256);
            if (knows != 0) b.append(':');
            for (int t = 0; t < 8; t++) {
                if ((knows >> t & 1) == 1) b.append((char) ('a' + t));
            }
            if (draw(3) != 0) b.append('@').append(draw(draw(2) == 0 ? 8 : 43));
        }
        if (draw(2) == 0) garble(b);
        return b.length() > 90 ? b.substring(0, 90) : b.toString();
    }

    private static void garble(StringBuilder b) {
        String letters = "abhi0149!;,:@psrdgq   ";
        int times = 1 + draw(4);
        for (int k = 0; k < times && b.length() > 0; k++) {
            int p = draw(b.length());
            char a = letters.charAt(draw(letters.length()));
            int how = draw(5);
            if (how < 2) b.insert(p, ' ');
            else if (how == 2) b.insert(p, a);
            else if (how == 3) b.setCharAt(p, a);
            else b.deleteCharAt(p);
        }
    }

    private static void due(int run, String call, int got, int want) {
        if (got != want && wrong++ < 20) {
            System.out.println("run " + run + ": " + call + " answered " + got + ", the model " + want);
        }
    }

    private static void tell(int run, FordQuestions x, PlainModel m) {
        String text = text();
        for (int p = 0; p < text.length(); p++) {
            due(run, "type", x.type(text.charAt(p)), m.type(text.charAt(p)));
        }
        due(run, "ford() of \"" + text + "\"", x.ford(), m.ford());
    }

    private static void look(int run, FordQuestions x, PlainModel m) {
        for (int q = 0; q < 8; q++) {
            for (int w = 0; w < 3; w++) due(run, "of(" + q + ", " + w + ")", x.of(q, w), m.of(q, w));
        }
        for (int c = 0; c < 5; c++) {
            for (int w = 0; w < 5; w++) due(run, "at(" + c + ", " + w + ")", x.at(c, w), m.at(c, w));
        }
        for (int w = 0; w < 8; w++) due(run, "count(" + w + ")", x.count(w), m.count(w));
    }

    private static void act(int run, FordQuestions x, PlainModel m) {
        int a, b, c, d, e, f;
        switch (draw(34)) {
            case 0: a = number(0, 7); b = number(1, 9); due(run, "question(" + a + ", " + b + ")", x.question(a, b), m.question(a, b)); break;
            case 1: a = number(0, 4); b = number(0, 255); c = number(0, draw(2) == 0 ? 10 : 40); due(run, "crosser", x.crosser(a, b, c), m.crosser(a, b, c)); break;
            case 2: a = number(0, 7); b = number(0, 2); due(run, "of(" + a + ", " + b + ")", x.of(a, b), m.of(a, b)); break;
            case 3: a = number(0, 4); b = number(0, 4); due(run, "at(" + a + ", " + b + ")", x.at(a, b), m.at(a, b)); break;
            case 4: a = number(0, 4); b = number(0, 7); due(run, "takes(" + a + ", " + b + ")", x.takes(a, b), m.takes(a, b)); break;
            case 5: a = number(32, 126); due(run, "type(" + a + ")", x.type(a), m.type(a)); break;
            case 6: if (draw(4) == 0) tell(run, x, m); break;
            case 7: a = number(0, 7); due(run, "count(" + a + ")", x.count(a), m.count(a)); break;
            case 8: a = number(1, draw(8) == 0 ? 40 : 3); due(run, "hours(" + a + ")", x.hours(a), m.hours(a)); break;
            case 9: a = number(0, 4); b = number(0, 7); due(run, "teach(" + a + ", " + b + ")", x.teach(a, b), m.teach(a, b)); break;
            case 10: a = number(0, 4); b = number(0, 40); due(run, "later(" + a + ", " + b + ")", x.later(a, b), m.later(a, b)); break;
            case 11: a = number(0, 7); due(run, "again(" + a + ")", x.again(a), m.again(a)); break;
            case 12: a = number(0, 7); b = number(1, 9); due(run, "put(" + a + ", " + b + ")", x.put(a, b), m.put(a, b)); break;
            case 13: a = number(1, draw(8) == 0 ? 40 : 3); due(run, "drift(" + a + ")", x.drift(a), m.drift(a)); break;
            case 14: due(run, "undo()", x.undo(), m.undo()); break;
            case 15: a = number(0, 1000000000); due(run, "seed(" + a + ")", x.seed(a), m.seed(a)); break;
            case 16: a = number(0, 100); b = number(0, 2); due(run, "then(" + a + ", " + b + ")", x.then(a, b), m.then(a, b)); break;
            case 17: a = number(0, 4); due(run, "crosses(" + a + ")", x.crosses(a), m.crosses(a)); break;
            case 18: due(run, "last()", x.last(), m.last()); break;
            case 19: a = number(0, 1); due(run, "most(" + a + ")", x.most(a), m.most(a)); break;
            case 20: if (draw(8) == 0) { a = number(-1, 4); due(run, "best(" + a + ")", x.best(a), m.best(a)); } break;
            case 21: a = number(0, 1); due(run, "teaches(" + a + ")", x.teaches(a), m.teaches(a)); break;
            case 22: a = number(0, 1); due(run, "spare(" + a + ")", x.spare(a), m.spare(a)); break;
            case 23: a = number(0, 4); due(run, "before(" + a + ")", x.before(a), m.before(a)); break;
            case 24: case 25: a = number(0, 5); b = number(0, 10); c = number(0, 1); due(run, "cramp", x.cramp(a, b, c), m.cramp(a, b, c)); break;
            case 26: due(run, "image()", x.image(), m.image()); break;
            case 27: if (draw(3) == 0) due(run, "restore()", x.restore(), m.restore()); break;
            case 28: case 29:
                a = number(0, 4); b = number(0, 3); c = number(0, 3); d = number(0, 6); e = number(1, 8); f = number(0, 2);
                due(run, "seen", x.seen(a, b, c, d, e, f), m.seen(a, b, c, d, e, f));
                break;
            case 30: a = number(1, 24); b = number(0, 3); c = number(0, 3); d = number(0, 6); due(run, "film", x.film(a, b, c, d), m.film(a, b, c, d)); break;
            case 31: a = number(0, 3); b = number(0, 3); c = number(0, 24); due(run, "sheet", x.sheet(a, b, c), m.sheet(a, b, c)); break;
            case 32: a = number(0, 3); b = number(0, 3); c = number(0, 8); long v = draw(4) == 0 ? state : draw(4) + ((long) draw(3) << 8 * draw(8)); due(run, "item", x.item(a, b, c, v), m.item(a, b, c, v)); break;
            default:
                if (draw(8) == 0) { a = number(0, 3); due(run, "drop(" + a + ")", x.drop(a), m.drop(a)); break; }
                a = number(0, 3); b = number(0, 12); c = number(0, 3); d = number(0, 12); e = number(0, 12);
                due(run, "copy", x.copy(a, b, c, d, e), m.copy(a, b, c, d, e));
        }
    }

    /** A sheet that was filmed, then seen by every kind of question about it. */
    private static void filmAndSee(int run, FordQuestions x, PlainModel m) {
        int lane = draw(4), sheet = draw(4), crosser = draw(5), n = 1 + draw(8), i = draw(4);
        due(run, "sheet", x.sheet(sheet, lane, 24), m.sheet(sheet, lane, 24));
        due(run, "film", x.film(20, sheet, lane, i), m.film(20, sheet, lane, i));
        for (int what = 0; what < 3; what++) {
            due(run, "seen(.., " + what + ")", x.seen(crosser, sheet, lane, i, n, what), m.seen(crosser, sheet, lane, i, n, what));
        }
    }

    private static void tryBest(int run, FordQuestions x, PlainModel m) {
        for (int c = -1; c < 5; c++) due(run, "best(" + c + ")", x.best(c), m.best(c));
    }

    /** Few hours and many doctors, so that who is in the ford matters to the best telling. */
    private static void tryCrowds() {
        for (int run = 0; run < 300; run++) {
            state = run * 104729L + 3;
            FordQuestions x = new FordQuestions();
            PlainModel m = new PlainModel();
            int questions = 3 + draw(3);
            for (int q = 0; q < questions; q++) {
                int topic = draw(4), hard = 1 + draw(4);
                due(run, "question", x.question(topic, hard), m.question(topic, hard));
            }
            int crossers = 2 + draw(4);
            for (int c = 0; c < crossers; c++) {
                int kind = "30334".charAt(draw(5)) - '0', knows = draw(16), comes = draw(5);
                due(run, "crosser", x.crosser(kind, knows, comes), m.crosser(kind, knows, comes));
            }
            int hours = draw(3);
            if (hours > 0) due(run, "hours", x.hours(hours), m.hours(hours));
            tryBest(run, x, m);
            for (int what = 0; what < 2; what++) {
                due(run, "teaches", x.teaches(what), m.teaches(what));
                due(run, "spare", x.spare(what), m.spare(what));
                due(run, "most", x.most(what), m.most(what));
            }
            for (int c = 0; c < crossers; c++) due(run, "before", x.before(c), m.before(c));
        }
    }

    /** A text with each letter in place of, and ahead of, each of its own, and each beginning of it. */
    private static void tryTexts() {
        String text = "a7c4!h9;p:ab@1,s:c ,r@ 2,d:f@40,g";
        for (int p = 0; p <= text.length(); p++) {
            String ahead = text.substring(0, p);
            tryText(ahead);
            for (char letter = ' '; letter <= '~'; letter++) {
                tryText(ahead + letter + text.substring(p));
                tryText(ahead + letter + text.substring(Math.min(p + 1, text.length())));
            }
        }
    }

    private static void tryText(String text) {
        FordQuestions x = new FordQuestions();
        PlainModel m = new PlainModel();
        for (int p = 0; p < text.length(); p++) due(0, "type", x.type(text.charAt(p)), m.type(text.charAt(p)));
        due(0, "ford() of \"" + text + "\"", x.ford(), m.ford());
        look(0, x, m);
    }

    public static void main(String[] args) {
        for (int run = 0; run < RUNS; run++) {
            state = run * 7919L + 17;
            FordQuestions x = new FordQuestions();
            PlainModel m = new PlainModel();
            int manner = draw(3);
            for (int k = 0; k < CALLS / 8; k++) {
                if (manner > 0 && k % 16 == 0) tell(run, x, m);
                for (int i = 0; i < 8; i++) act(run, x, m);
                if (k % 12 == 3) filmAndSee(run, x, m);
                if (k == 1 && run % 4 == 0) tryBest(run, x, m);
                if (k % 10 == 5) look(run, x, m);
            }
        }
        tryCrowds();
        tryTexts();
        System.out.println(wrong == 0 ? "the class and the model agree" : wrong + " answers differ from the model's");
        if (wrong != 0) System.exit(1);
    }
}
