import java.util.ArrayDeque;
import java.util.ArrayList;
import java.util.Arrays;
import java.util.Deque;
import java.util.List;

/**
 * The document's rules a second time, written with the Java library and without
 * any care for speed or room, so that the class can be held against it.
 */
final class PlainModel {
    private static final int BAD = -1, NOT = -2, FULL = -3, NONE = -4, NULL = -11, CAST = -12, INDEX = -13, SIZE = -14;

    static final class Question {
        int topic, hard;
        boolean asked;
    }

    static final class Crosser {
        int number, kind, knows, comes, till;
        String where = "to come";
        /** In BEST: the question he is told, null for none. */
        Question told;
    }

    static final class State {
        List<Question> questions = new ArrayList<>();
        List<Crosser> crossers = new ArrayList<>();
        int hour;
        long draw = 1;
        boolean isTold;

        State twin() {
            State s = new State();
            s.hour = hour;
            s.draw = draw;
            for (Question q : questions) {
                Question r = new Question();
                r.topic = q.topic;
                r.hard = q.hard;
                r.asked = q.asked;
                s.questions.add(r);
            }
            for (Crosser c : crossers) {
                Crosser d = new Crosser();
                d.number = c.number;
                d.kind = c.kind;
                d.knows = c.knows;
                d.comes = c.comes;
                d.till = c.till;
                d.where = c.where;
                s.crossers.add(d);
            }
            return s;
        }

        int set(String where) {
            return crossers.stream().filter(c -> c.where.equals(where)).mapToInt(c -> 1 << c.number).sum();
        }

        int asked() {
            int set = 0;
            for (int q = 0; q < questions.size(); q++) {
                set += questions.get(q).asked ? 1 << q : 0;
            }
            return set;
        }

        int in() {
            return (int) crossers.stream().filter(c -> c.where.equals("in")).count();
        }

        boolean allOver() {
            return crossers.stream().allMatch(c -> c.where.equals("over"));
        }

        int takes(Crosser c, Question q) {
            boolean knows = (c.knows & 1 << q.topic) > 0;
            int others = (int) crossers.stream().filter(d -> d != c && d.where.equals("in")).count();
            int plain = knows ? 1 : q.hard;
            int scholar = knows ? plain : plain * 2;
            int drummer = plain > 2 ? 2 : plain;
            int doctor = scholar + others;
            int gypsy = drummer - (hour % 2 == 0 ? 1 : 0);
            int hours = new int[] {plain, scholar, drummer, doctor, gypsy}[c.kind];
            return hours < 1 ? 1 : hours;
        }

        void hourPasses() {
            for (Crosser c : crossers) {
                if (!c.where.equals("to come") || c.comes > hour) {
                    continue;
                }
                Question q = isTold ? c.told : questions.stream().filter(r -> !r.asked).findFirst().orElse(null);
                if (q == null) {
                    c.where = "over";
                } else {
                    c.till = hour + takes(c, q);
                    c.where = "in";
                    q.asked = true;
                }
            }
            hour++;
            for (Crosser c : crossers) {
                if (c.where.equals("in") && c.till <= hour) {
                    c.where = "over";
                }
            }
        }

        State behind(int n) {
            State s = twin();
            for (int i = 0; i < n; i++) {
                s.hourPasses();
            }
            return s;
        }

        /** Changes the state; 1000 is never. */
        int lastOfThis() {
            for (int n = 0; n <= 100; n++) {
                if (allOver()) {
                    return n;
                }
                hourPasses();
            }
            return 1000;
        }
    }

    private State now = new State();
    private Deque<State> past = new ArrayDeque<>();
    private State imageNow;
    private Deque<State> imagePast;
    private final StringBuilder tape = new StringBuilder();
    private final Object[] sheets = new Object[4];

    private static boolean outside(long v, long a, long b) {
        return v < a || v > b;
    }

    private boolean noQuestion(int q) {
        return outside(q, 0, now.questions.size() - 1);
    }

    private boolean noCrosser(int c) {
        return outside(c, 0, now.crossers.size() - 1);
    }

    private void remember() {
        past.push(now.twin());
        if (past.size() > 8) {
            past.removeLast();
        }
    }

    int question(int topic, int hard) {
        if (outside(topic, 0, 7) || outside(hard, 1, 9)) return BAD;
        if (now.questions.size() == 8) return FULL;
        Question q = new Question();
        q.topic = topic;
        q.hard = hard;
        now.questions.add(q);
        past.clear();
        return now.questions.size() - 1;
    }

    int crosser(int kind, int knows, int comes) {
        if (outside(kind, 0, 4) || outside(knows, 0, 255) || outside(comes, 0, 40)) return BAD;
        if (now.crossers.size() == 5) return FULL;
        addCrosser(now, kind, knows, comes);
        past.clear();
        return now.crossers.size() - 1;
    }

    private static void addCrosser(State s, int kind, int knows, int comes) {
        Crosser c = new Crosser();
        c.number = s.crossers.size();
        c.kind = kind;
        c.knows = knows;
        c.comes = comes;
        s.crossers.add(c);
    }

    int of(int question, int what) {
        if (noQuestion(question) || outside(what, 0, 2)) return BAD;
        Question q = now.questions.get(question);
        return what == 0 ? q.topic : what == 1 ? q.hard : q.asked ? 1 : 0;
    }

    int at(int crosser, int what) {
        if (noCrosser(crosser) || outside(what, 0, 4)) return BAD;
        Crosser c = now.crossers.get(crosser);
        int where = List.of("to come", "in", "over").indexOf(c.where);
        return new int[] {c.kind, c.knows, c.comes, where, where == 1 ? c.till : NONE}[what];
    }

    int takes(int crosser, int question) {
        if (noCrosser(crosser) || noQuestion(question)) return BAD;
        return now.takes(now.crossers.get(crosser), now.questions.get(question));
    }

    int type(int letter) {
        if (outside(letter, 32, 126)) return BAD;
        if (tape.length() == 90) return FULL;
        tape.append((char) letter);
        return tape.length();
    }

    /** Letter by letter, by what may stand next. */
    int ford() {
        String text = tape.toString();
        tape.setLength(0);
        State s = new State();
        s.draw = now.draw;
        String expects = "topic";
        boolean mark = false;
        int topic = 0, kind = 0, knows = 0, comes = 0, lastTopic = -1;
        for (int p = 0; p < text.length(); p++) {
            char a = text.charAt(p);
            if (a == ' ') continue;
            boolean isTopic = a >= 'a' && a <= 'h';
            int fault = -20 - p;
            switch (expects) {
                case "topic":
                    if (!isTopic) return fault;
                    topic = a - 'a';
                    expects = "hard";
                    break;
                case "hard":
                    if (a < '1' || a > '9') return fault;
                    Question q = new Question();
                    q.topic = topic;
                    q.hard = a - '0';
                    s.questions.add(q);
                    mark = true;
                    expects = "question's end";
                    break;
                case "question's end":
                    if (a == '!' && mark) {
                        s.questions.get(s.questions.size() - 1).asked = true;
                        mark = false;
                    } else if (a == ';') {
                        expects = "kind";
                    } else if (isTopic && s.questions.size() < 8) {
                        topic = a - 'a';
                        expects = "hard";
                    } else {
                        return fault;
                    }
                    break;
                case "kind":
                    kind = "psrdg".indexOf(a);
                    if (kind < 0) return fault;
                    knows = 0;
                    comes = 0;
                    lastTopic = -1;
                    expects = "kind's end";
                    break;
                case "number":
                    if (!Character.isDigit(a)) return fault;
                    comes = a - '0';
                    if (p + 1 < text.length() && Character.isDigit(text.charAt(p + 1))) {
                        comes = comes * 10 + text.charAt(p + 1) - '0';
                        p++;
                    }
                    if (comes > 40) return fault;
                    expects = "number's end";
                    break;
                default:
                    boolean isInTopics = expects.equals("first topic") || expects.equals("next topic");
                    if (isInTopics && isTopic && a - 'a' > lastTopic) {
                        lastTopic = a - 'a';
                        knows += 1 << lastTopic;
                        expects = "next topic";
                    } else if (expects.equals("first topic")) {
                        return fault;
                    } else if (a == ':' && expects.equals("kind's end")) {
                        expects = "first topic";
                    } else if (a == '@' && !expects.equals("number's end")) {
                        expects = "number";
                    } else if (a == ',' && s.crossers.size() < 4) {
                        addCrosser(s, kind, knows, comes);
                        expects = "kind";
                    } else {
                        return fault;
                    }
            }
        }
        if (List.of("topic", "hard", "kind", "first topic", "number").contains(expects)) return -20 - text.length();
        if (!expects.equals("question's end")) addCrosser(s, kind, knows, comes);
        now = s;
        past.clear();
        return s.questions.size();
    }

    int count(int what) {
        if (outside(what, 0, 7)) return BAD;
        return new int[] {now.questions.size(), now.crossers.size(), now.hour, now.asked(),
            now.set("to come"), now.set("in"), now.set("over"), past.size()}[what];
    }

    int hours(int n) {
        if (outside(n, 1, 40)) return BAD;
        if (now.hour + n > 9999) return FULL;
        for (int i = 0; i < n; i++) {
            remember();
            now.hourPasses();
        }
        return now.set("over");
    }

    int teach(int crosser, int topic) {
        if (noCrosser(crosser) || outside(topic, 0, 7)) return BAD;
        Crosser c = now.crossers.get(crosser);
        if ((c.knows & 1 << topic) != 0) return NOT;
        remember();
        return c.knows += 1 << topic;
    }

    int later(int crosser, int comes) {
        if (noCrosser(crosser) || outside(comes, 0, 40)) return BAD;
        Crosser c = now.crossers.get(crosser);
        if (!c.where.equals("to come") || c.comes == comes) return NOT;
        remember();
        int came = c.comes;
        c.comes = comes;
        return came;
    }

    int again(int question) {
        if (noQuestion(question)) return BAD;
        if (!now.questions.get(question).asked) return NOT;
        remember();
        now.questions.get(question).asked = false;
        return now.asked();
    }

    int put(int question, int hard) {
        if (noQuestion(question) || outside(hard, 1, 9)) return BAD;
        Question q = now.questions.get(question);
        if (q.hard == hard) return NOT;
        remember();
        int was = q.hard;
        q.hard = hard;
        return was;
    }

    int drift(int n) {
        if (outside(n, 1, 40)) return BAD;
        if (now.hour + n > 9999) return FULL;
        for (int i = 0; i < n; i++) {
            remember();
            now.draw = (now.draw * 1103515245L + 12345L) % 2147483648L;
            if (!now.questions.isEmpty() && now.draw / 128 % 3 == 0) {
                now.questions.get((int) (now.draw / 65536 % now.questions.size())).asked = false;
            }
            now.hourPasses();
        }
        return now.set("over");
    }

    int undo() {
        if (past.isEmpty()) return NONE;
        now = past.pop();
        return past.size();
    }

    int seed(int v) {
        if (v < 0) return BAD;
        int was = (int) now.draw;
        now.draw = v;
        return was;
    }

    int then(int n, int what) {
        if (outside(n, 0, 100) || outside(what, 0, 2)) return BAD;
        State s = now.behind(n);
        return what == 0 ? s.set("in") : what == 1 ? s.set("over") : s.asked();
    }

    int crosses(int crosser) {
        if (noCrosser(crosser)) return BAD;
        return orNone(overBehind(now, crosser));
    }

    private static int overBehind(State from, int crosser) {
        State s = from.twin();
        for (int n = 0; n <= 100; n++) {
            if (s.crossers.get(crosser).where.equals("over")) return n;
            s.hourPasses();
        }
        return 1000;
    }

    private static int orNone(int n) {
        return n > 100 ? NONE : n;
    }

    int last() {
        return orNone(now.twin().lastOfThis());
    }

    int most(int what) {
        if (outside(what, 0, 1)) return BAD;
        State s = now.twin();
        int most = -1, when = 0;
        for (int n = 0; n <= 100; n++) {
            if (s.in() > most) {
                most = s.in();
                when = n;
            }
            s.hourPasses();
        }
        return what == 0 ? most : when;
    }

    int best(int crosser) {
        if (crosser != -1 && noCrosser(crosser)) return BAD;
        List<Integer> comers = new ArrayList<>();
        for (Crosser c : now.crossers) {
            if (c.where.equals("to come")) comers.add(c.number);
        }
        List<Integer> left = new ArrayList<>();
        for (int q = 0; q < now.questions.size(); q++) {
            if (!now.questions.get(q).asked) left.add(q);
        }
        while (comers.size() > left.size()) {
            int latest = comers.get(0);
            for (int c : comers) {
                if (now.crossers.get(c).comes >= now.crossers.get(latest).comes) latest = c;
            }
            comers.remove((Object) latest);
        }
        int[] best = new int[6];
        Arrays.fill(best, NONE);
        best[5] = 2000;
        tryAll(comers, left, new ArrayList<>(), best);
        return crosser == -1 ? orNone(best[5]) : best[crosser];
    }

    private void tryAll(List<Integer> comers, List<Integer> left, List<Integer> chosen, int[] best) {
        if (chosen.size() == comers.size()) {
            State s = now.twin();
            s.isTold = true;
            for (int k = 0; k < chosen.size(); k++) {
                s.crossers.get(comers.get(k)).told = s.questions.get(chosen.get(k));
            }
            int last = s.lastOfThis();
            if (last < best[5]) {
                best[5] = last;
                for (int k = 0; k < chosen.size(); k++) {
                    best[comers.get(k)] = chosen.get(k);
                }
            }
            return;
        }
        for (int q : left) {
            if (!chosen.contains(q)) {
                chosen.add(q);
                tryAll(comers, left, chosen, best);
                chosen.remove(chosen.size() - 1);
            }
        }
    }

    int teaches(int what) {
        if (outside(what, 0, 1)) return BAD;
        int which = NONE, soonest = 2000;
        for (int told = 0; told < 50; told++) {
            int c = told / 10, t = told % 10;
            if (t > 7 || noCrosser(c)) continue;
            State s = now.twin();
            Crosser d = s.crossers.get(c);
            if (!d.where.equals("to come") || (d.knows & 1 << t) != 0) continue;
            d.knows += 1 << t;
            int last = s.lastOfThis();
            if (last < soonest) {
                soonest = last;
                which = told;
            }
        }
        return what == 0 ? which : orNone(soonest);
    }

    int spare(int what) {
        if (outside(what, 0, 1)) return BAD;
        int which = NONE, soonest = 2000;
        for (int q = 0; q < now.questions.size(); q++) {
            State s = now.twin();
            if (s.questions.get(q).asked) continue;
            s.questions.get(q).asked = true;
            int last = s.lastOfThis();
            if (last < soonest) {
                soonest = last;
                which = q;
            }
        }
        return what == 0 ? which : orNone(soonest);
    }

    int before(int crosser) {
        if (noCrosser(crosser)) return BAD;
        if (!now.crossers.get(crosser).where.equals("to come")) return NONE;
        int which = NONE, soonest = 1000;
        for (int h = 40; h >= now.hour; h--) {
            State s = now.twin();
            s.crossers.get(crosser).comes = h;
            int over = overBehind(s, crosser);
            if (over < soonest) {
                soonest = over;
                which = h;
            }
        }
        return which;
    }

    /** By going through every way in which those who are in have cramp or not. */
    int cramp(int m, int c, int what) {
        if (outside(m, 0, 5) || outside(c, 0, 10) || outside(what, 0, 1)) return BAD;
        List<Crosser> in = new ArrayList<>();
        for (Crosser d : now.crossers) {
            if (d.where.equals("in")) in.add(d);
        }
        long above = 0, below = 1;
        for (int ways = 0; ways < 1 << in.size(); ways++) {
            long weight = 1;
            int stay = 0;
            for (int k = 0; k < in.size(); k++) {
                boolean hasCramp = (ways >> k & 1) == 1;
                weight *= hasCramp ? c : 10 - c;
                if (in.get(k).till + (hasCramp ? 1 : 0) > now.hour + 1) stay++;
            }
            if (stay >= m) above += weight;
        }
        for (int k = 0; k < in.size(); k++) below *= 10;
        for (int d = 2; d <= 10; d++) {
            while (above % d == 0 && below % d == 0) {
                above /= d;
                below /= d;
            }
        }
        return (int) (what == 0 ? above : below);
    }

    int image() {
        imageNow = now.twin();
        imagePast = new ArrayDeque<>();
        for (State s : past) imagePast.addLast(s.twin());
        return 1;
    }

    int restore() {
        if (imageNow == null) return NONE;
        now = imageNow.twin();
        past = new ArrayDeque<>();
        for (State s : imagePast) past.addLast(s.twin());
        return 1;
    }

    int seen(int crosser, int sheet, int lane, int i, int n, int what) {
        if (noCrosser(crosser) || outside(sheet, 0, 3) || outside(lane, 0, 3) || outside(n, 1, 8) || outside(what, 0, 2)) {
            return BAD;
        }
        int refusal = refusal(sheet, lane, i, n);
        if (refusal != 0) return refusal;
        int kinds = 0;
        for (int k = 0; k < 5; k++) {
            State s = now.twin();
            s.crossers.get(crosser).kind = k;
            if (fits(s, sheet, i, n)) kinds += 1 << k;
        }
        List<Integer> sets = new ArrayList<>();
        for (int set = 0; set < 256; set++) {
            State s = now.twin();
            s.crossers.get(crosser).knows = set;
            if (fits(s, sheet, i, n)) sets.add(set);
        }
        return what == 0 ? kinds : what == 1 ? sets.size() : sets.isEmpty() ? NONE : sets.get(0);
    }

    private boolean fits(State s, int sheet, int i, int n) {
        for (int k = 0; k < n; k++) {
            s.hourPasses();
            if (java.lang.reflect.Array.getLong(sheets[sheet], i + k) != s.in()) return false;
        }
        return true;
    }

    int film(int n, int sheet, int lane, int i) {
        if (outside(n, 1, 24) || outside(sheet, 0, 3) || outside(lane, 0, 3)) return BAD;
        int refusal = refusal(sheet, lane, i, n);
        if (refusal != 0) return refusal;
        for (int k = 1; k <= n; k++) item(sheet, lane, i + k - 1, now.behind(k).in());
        return n;
    }

    /** Real rows, so that what the machine itself finds is asked of the machine. */
    private int refusal(int sheet, int lane, int i, int n) {
        Object row = sheets[sheet];
        if (row == null) return NULL;
        if (laneOf(row) != lane) return CAST;
        try {
            java.util.Objects.checkFromIndexSize(i, n, java.lang.reflect.Array.getLength(row));
        } catch (IndexOutOfBoundsException e) {
            return INDEX;
        }
        return 0;
    }

    private static int laneOf(Object row) {
        return row instanceof byte[] ? 0 : row instanceof short[] ? 1 : row instanceof int[] ? 2 : 3;
    }

    int sheet(int sheet, int lane, int n) {
        if (outside(sheet, 0, 3) || outside(lane, 0, 3) || n > 24) return BAD;
        if (n < 0) return SIZE;
        sheets[sheet] = lane == 0 ? new byte[n] : lane == 1 ? new short[n] : lane == 2 ? new int[n] : new long[n];
        return n;
    }

    int drop(int sheet) {
        if (outside(sheet, 0, 3)) return BAD;
        if (sheets[sheet] == null) return NULL;
        int had = java.lang.reflect.Array.getLength(sheets[sheet]);
        sheets[sheet] = null;
        return had;
    }

    int item(int sheet, int lane, int i, long v) {
        if (outside(sheet, 0, 3) || outside(lane, 0, 3)) return BAD;
        int refusal = refusal(sheet, lane, i, 1);
        if (refusal != 0) return refusal;
        Object row = sheets[sheet];
        if (row instanceof byte[] b) b[i] = (byte) v;
        if (row instanceof short[] s) s[i] = (short) v;
        if (row instanceof int[] k) k[i] = (int) v;
        if (row instanceof long[] l) l[i] = v;
        return 1;
    }

    int copy(int from, int i, int to, int j, int n) {
        if (outside(from, 0, 3) || outside(to, 0, 3)) return BAD;
        try {
            System.arraycopy(sheets[from], i, sheets[to], j, n);
        } catch (NullPointerException e) {
            return NULL;
        } catch (ArrayStoreException e) {
            return CAST;
        } catch (IndexOutOfBoundsException e) {
            return INDEX;
        }
        return n;
    }
}
