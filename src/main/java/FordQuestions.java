import java.util.Arrays;

/** A ford in which everybody who crosses is asked a question half way. */
public final class FordQuestions {
    public static final int BAD = -1, NOT = -2, FULL = -3, NONE = -4, NULL = -11, CAST = -12, INDEX = -13, SIZE = -14;

    private static final int MOST_QUESTIONS = 8, MOST_CROSSERS = 5, MOST_LETTERS = 90, MOST_ITEMS = 24;
    private static final int MOST_UNDONE = 8, MOST_SHEETS = 4;
    private static final int TOPICS = 8, KINDS = 5, LANES = 4, ALL_TOPICS = 255, HARDEST = 9;
    private static final int LATEST_COMING = 40, LAST_HOUR = 9999, HOURS_AT_ONCE = 40, FORETOLD = 100;
    /** In place of a number of hours: later than any that is foretold. */
    private static final int NEVER = FORETOLD + 1;
    private static final int FIRST_FAULT = -20;
    private static final int TO_COME = 0, IN = 1, OVER = 2;
    private static final int PLAIN = 0, SCHOLAR = 1, DRUMMER = 2, DOCTOR = 3, GYPSY = 4;

    private final Story story;
    private final Story kept;
    private boolean hasImage;
    private final Tape tape;
    private final Reader reader;
    private final Outlook outlook;
    private final Tellings tellings;
    private final Sheet[] sheets;

    public FordQuestions() {
        story = new Story();
        kept = new Story();
        hasImage = false;
        tape = new Tape();
        reader = new Reader(tape);
        outlook = new Outlook();
        tellings = new Tellings();
        sheets = new Sheet[MOST_SHEETS];
        for (int s = 0; s < MOST_SHEETS; s++) {
            sheets[s] = new Sheet();
        }
    }

    // ---- 1 questions, crossers

    public int question(int topic, int hard) {
        if (isOutside(topic, 0, TOPICS - 1) || isOutside(hard, 1, HARDEST)) {
            return BAD;
        }
        if (story.now.questions >= MOST_QUESTIONS) {
            return FULL;
        }
        story.forgetPast();
        return story.now.addQuestion(topic, hard);
    }

    public int crosser(int kind, int knows, int comes) {
        if (isOutside(kind, 0, KINDS - 1) || isOutside(knows, 0, ALL_TOPICS) || isOutside(comes, 0, LATEST_COMING)) {
            return BAD;
        }
        if (story.now.crossers >= MOST_CROSSERS) {
            return FULL;
        }
        story.forgetPast();
        return story.now.addCrosser(kind, knows, comes);
    }

    public int of(int question, int what) {
        Ford now = story.now;
        if (!now.hasQuestion(question)) {
            return BAD;
        }
        switch (what) {
            case 0: return now.topic[question];
            case 1: return now.hard[question];
            case 2: return now.isAsked(question) ? 1 : 0;
            default: return BAD;
        }
    }

    public int at(int crosser, int what) {
        Ford now = story.now;
        if (!now.hasCrosser(crosser)) {
            return BAD;
        }
        switch (what) {
            case 0: return now.kind[crosser];
            case 1: return now.knows[crosser];
            case 2: return now.comes[crosser];
            case 3: return now.where[crosser];
            case 4: return now.where[crosser] == IN ? now.till[crosser] : NONE;
            default: return BAD;
        }
    }

    public int takes(int crosser, int question) {
        Ford now = story.now;
        if (!now.hasCrosser(crosser) || !now.hasQuestion(question)) {
            return BAD;
        }
        return now.hoursFor(crosser, question);
    }

    public int type(int letter) {
        if (isOutside(letter, 32, 126)) {
            return BAD;
        }
        if (tape.length >= MOST_LETTERS) {
            return FULL;
        }
        return tape.append(letter);
    }

    public int ford() {
        boolean isFord = reader.readFord();
        tape.length = 0;
        if (!isFord) {
            return FIRST_FAULT - reader.place;
        }
        story.forgetPast();
        story.now.becomeNew(reader.draft);
        return story.now.questions;
    }

    public int count(int what) {
        Ford now = story.now;
        switch (what) {
            case 0: return now.questions;
            case 1: return now.crossers;
            case 2: return now.hour;
            case 3: return now.asked;
            case 4: return now.thoseWho(TO_COME);
            case 5: return now.thoseWho(IN);
            case 6: return now.thoseWho(OVER);
            case 7: return story.known;
            default: return BAD;
        }
    }

    // ---- what is done

    public int hours(int n) {
        return pass(n, false);
    }

    public int teach(int crosser, int topic) {
        Ford now = story.now;
        if (!now.hasCrosser(crosser) || isOutside(topic, 0, TOPICS - 1)) {
            return BAD;
        }
        if (isIn(now.knows[crosser], topic)) {
            return NOT;
        }
        story.remember();
        now.knows[crosser] |= 1 << topic;
        return now.knows[crosser];
    }

    public int later(int crosser, int comes) {
        Ford now = story.now;
        if (!now.hasCrosser(crosser) || isOutside(comes, 0, LATEST_COMING)) {
            return BAD;
        }
        int came = now.comes[crosser];
        if (now.where[crosser] != TO_COME || came == comes) {
            return NOT;
        }
        story.remember();
        now.comes[crosser] = comes;
        return came;
    }

    public int again(int question) {
        Ford now = story.now;
        if (!now.hasQuestion(question)) {
            return BAD;
        }
        if (!now.isAsked(question)) {
            return NOT;
        }
        story.remember();
        now.letAskAgain(question);
        return now.asked;
    }

    public int put(int question, int hard) {
        Ford now = story.now;
        if (!now.hasQuestion(question) || isOutside(hard, 1, HARDEST)) {
            return BAD;
        }
        int was = now.hard[question];
        if (was == hard) {
            return NOT;
        }
        story.remember();
        now.hard[question] = hard;
        return was;
    }

    public int drift(int n) {
        return pass(n, true);
    }

    public int undo() {
        return story.goBack() ? story.known : NONE;
    }

    public int seed(int v) {
        if (v < 0) {
            return BAD;
        }
        int was = story.now.draw;
        story.now.draw = v;
        return was;
    }

    // ---- 2 foretold

    public int then(int n, int what) {
        if (isOutside(n, 0, FORETOLD) || isOutside(what, 0, 2)) {
            return BAD;
        }
        Ford ahead = outlook.behind(story.now, n);
        switch (what) {
            case 0: return ahead.thoseWho(IN);
            case 1: return ahead.thoseWho(OVER);
            default: return ahead.asked;
        }
    }

    public int crosses(int crosser) {
        if (!story.now.hasCrosser(crosser)) {
            return BAD;
        }
        outlook.startFrom(story.now);
        return orNone(outlook.hoursTillOver(1 << crosser));
    }

    public int last() {
        outlook.startFrom(story.now);
        return orNone(outlook.hoursTillOver(story.now.everyone()));
    }

    public int most(int what) {
        if (isOutside(what, 0, 1)) {
            return BAD;
        }
        outlook.seekMost(story.now);
        return what == 0 ? outlook.found : outlook.foundHours;
    }

    public int best(int crosser) {
        if (crosser != -1 && !story.now.hasCrosser(crosser)) {
            return BAD;
        }
        tellings.seekBest(story.now);
        return crosser == -1 ? orNone(tellings.bestLast) : tellings.toldTo(crosser);
    }

    public int teaches(int what) {
        if (isOutside(what, 0, 1)) {
            return BAD;
        }
        outlook.seekTeaching(story.now);
        return foundOr(what);
    }

    public int spare(int what) {
        if (isOutside(what, 0, 1)) {
            return BAD;
        }
        outlook.seekSpare(story.now);
        return foundOr(what);
    }

    public int before(int crosser) {
        if (!story.now.hasCrosser(crosser)) {
            return BAD;
        }
        outlook.seekComing(story.now, crosser);
        return outlook.found;
    }

    public int cramp(int m, int c, int what) {
        if (isOutside(m, 0, MOST_CROSSERS) || isOutside(c, 0, 10) || isOutside(what, 0, 1)) {
            return BAD;
        }
        int unsure = story.now.howManyLeaveNext();
        int sure = Integer.bitCount(story.now.thoseWho(IN)) - unsure;
        int above = waysOfAtLeast(m - sure, unsure, c);
        int below = power(10, unsure);
        int divisor = greatestDivisor(above, below);
        return (what == 0 ? above : below) / divisor;
    }

    public int image() {
        kept.takeFrom(story);
        hasImage = true;
        return 1;
    }

    public int restore() {
        if (!hasImage) {
            return NONE;
        }
        story.takeFrom(kept);
        return 1;
    }

    // ---- 3 sheets

    public int seen(int crosser, int sheet, int lane, int i, int n, int what) {
        if (!story.now.hasCrosser(crosser) || isNoSheet(sheet) || isNoLane(lane)
                || isOutside(n, 1, 8) || isOutside(what, 0, 2)) {
            return BAD;
        }
        Sheet row = sheets[sheet];
        int refusal = row.refusal(lane, i, n);
        if (refusal != 0) {
            return refusal;
        }
        if (what == 0) {
            return outlook.kindsThatFit(story.now, crosser, row, i, n);
        }
        outlook.seekKnowledge(story.now, crosser, row, i, n);
        return what == 1 ? outlook.foundSets : outlook.found;
    }

    public int film(int n, int sheet, int lane, int i) {
        if (isOutside(n, 1, MOST_ITEMS) || isNoSheet(sheet) || isNoLane(lane)) {
            return BAD;
        }
        Sheet row = sheets[sheet];
        int refusal = row.refusal(lane, i, n);
        if (refusal != 0) {
            return refusal;
        }
        outlook.writeFilm(story.now, row, i, n);
        return n;
    }

    public int sheet(int sheet, int lane, int n) {
        if (isNoSheet(sheet) || isNoLane(lane) || n > MOST_ITEMS) {
            return BAD;
        }
        if (n < 0) {
            return SIZE;
        }
        sheets[sheet].begin(lane, n);
        return n;
    }

    public int drop(int sheet) {
        if (isNoSheet(sheet)) {
            return BAD;
        }
        if (sheets[sheet].isMissing()) {
            return NULL;
        }
        return sheets[sheet].end();
    }

    public int item(int sheet, int lane, int i, long v) {
        if (isNoSheet(sheet) || isNoLane(lane)) {
            return BAD;
        }
        int refusal = sheets[sheet].refusal(lane, i, 1);
        if (refusal != 0) {
            return refusal;
        }
        sheets[sheet].write(i, v);
        return 1;
    }

    public int copy(int from, int i, int to, int j, int n) {
        if (isNoSheet(from) || isNoSheet(to)) {
            return BAD;
        }
        Sheet source = sheets[from];
        Sheet target = sheets[to];
        if (source.isMissing() || target.isMissing()) {
            return NULL;
        }
        if (source.lane != target.lane) {
            return CAST;
        }
        if (!source.holds(i, n) || !target.holds(j, n)) {
            return INDEX;
        }
        System.arraycopy(source.items, i, target.items, j, n);
        return n;
    }

    // ---- what several calls share

    private int pass(int n, boolean isDrift) {
        if (isOutside(n, 1, HOURS_AT_ONCE)) {
            return BAD;
        }
        if (story.now.hour + n > LAST_HOUR) {
            return FULL;
        }
        for (int h = 0; h < n; h++) {
            story.remember();
            if (isDrift) {
                story.now.drawQuestion();
            }
            story.now.passHour();
        }
        return story.now.thoseWho(OVER);
    }

    /** What was sought (what 0), or the hours of it (1). */
    private int foundOr(int what) {
        if (outlook.found == NONE) {
            return NONE;
        }
        return what == 0 ? outlook.found : orNone(outlook.foundHours);
    }

    private static int orNone(int hours) {
        return hours >= NEVER ? NONE : hours;
    }

    private static boolean isNoSheet(int sheet) {
        return isOutside(sheet, 0, MOST_SHEETS - 1);
    }

    private static boolean isNoLane(int lane) {
        return isOutside(lane, 0, LANES - 1);
    }

    private static boolean isOutside(int value, int least, int greatest) {
        return value < least || value > greatest;
    }

    private static boolean isIn(int set, int member) {
        return (set >> member & 1) != 0;
    }

    // ---- the odds of cramp

    /** Of 10 to the n ways, in how many at least m of n have cramp, each in c ways of 10. */
    private static int waysOfAtLeast(int m, int n, int c) {
        int sum = 0;
        int choices = 1;
        for (int k = 0; k <= n; k++) {
            if (k >= m) {
                sum += choices * power(c, k) * power(10 - c, n - k);
            }
            choices = choices * (n - k) / (k + 1);
        }
        return sum;
    }

    private static int power(int base, int exponent) {
        int product = 1;
        for (int k = 0; k < exponent; k++) {
            product *= base;
        }
        return product;
    }

    /** At least 1; each round makes b less, so it ends long before the bound. */
    private static int greatestDivisor(int a, int b) {
        for (int round = 0; round < 1000 && b != 0; round++) {
            int rest = a % b;
            a = b;
            b = rest;
        }
        return a < 1 ? 1 : a;
    }

    /** Questions and crossers at one hour. */
    private static final class Ford {
        private int questions;
        private int crossers;
        private int asked;
        private int hour;
        private int draw;
        private final int[] topic;
        private final int[] hard;
        private final int[] kind;
        private final int[] knows;
        private final int[] comes;
        private final int[] where;
        private final int[] till;

        Ford() {
            topic = new int[MOST_QUESTIONS];
            hard = new int[MOST_QUESTIONS];
            kind = new int[MOST_CROSSERS];
            knows = new int[MOST_CROSSERS];
            comes = new int[MOST_CROSSERS];
            where = new int[MOST_CROSSERS];
            till = new int[MOST_CROSSERS];
            draw = 1;
        }

        void takeFrom(Ford other) {
            questions = other.questions;
            crossers = other.crossers;
            asked = other.asked;
            hour = other.hour;
            draw = other.draw;
            System.arraycopy(other.topic, 0, topic, 0, MOST_QUESTIONS);
            System.arraycopy(other.hard, 0, hard, 0, MOST_QUESTIONS);
            System.arraycopy(other.kind, 0, kind, 0, MOST_CROSSERS);
            System.arraycopy(other.knows, 0, knows, 0, MOST_CROSSERS);
            System.arraycopy(other.comes, 0, comes, 0, MOST_CROSSERS);
            System.arraycopy(other.where, 0, where, 0, MOST_CROSSERS);
            System.arraycopy(other.till, 0, till, 0, MOST_CROSSERS);
        }

        /** Becomes a ford as it was told, but the draw goes on. */
        void becomeNew(Ford told) {
            int drawn = draw;
            takeFrom(told);
            draw = drawn;
        }

        void makeEmpty() {
            questions = 0;
            crossers = 0;
            asked = 0;
            hour = 0;
        }

        /** The new one's number; nothing is added to a full ford. */
        int addQuestion(int newTopic, int newHard) {
            int number = questions;
            if (number >= MOST_QUESTIONS) {
                return FULL;
            }
            topic[number] = newTopic;
            hard[number] = newHard;
            questions++;
            return number;
        }

        /** The new one's number; nobody is added to a full ford. */
        int addCrosser(int newKind, int newKnows, int newComes) {
            int number = crossers;
            if (number >= MOST_CROSSERS) {
                return FULL;
            }
            kind[number] = newKind;
            knows[number] = newKnows;
            comes[number] = newComes;
            where[number] = TO_COME;
            till[number] = 0;
            crossers++;
            return number;
        }

        boolean hasQuestion(int q) {
            return q >= 0 && q < questions;
        }

        boolean hasCrosser(int c) {
            return c >= 0 && c < crossers;
        }

        boolean isAsked(int q) {
            return isIn(asked, q);
        }

        void letAskAgain(int q) {
            asked &= ~(1 << q);
        }

        int everyone() {
            return (1 << crossers) - 1;
        }

        int thoseWho(int place) {
            int set = 0;
            for (int c = 0; c < crossers; c++) {
                if (where[c] == place) {
                    set |= 1 << c;
                }
            }
            return set;
        }

        /** By who is in the ford now, in this hour. */
        int hoursFor(int c, int q) {
            int others = Integer.bitCount(thoseWho(IN) & ~(1 << c));
            return hoursAmong(others, c, q, hour);
        }

        /** How many hours c takes for q, asked at an hour at which so many others are in the ford. */
        int hoursAmong(int others, int c, int q, int askedAt) {
            boolean isKnown = isIn(knows[c], topic[q]);
            int plain = isKnown ? 1 : hard[q];
            int scholarly = isKnown ? plain : 2 * plain;
            int drummed = Math.min(plain, 2);
            switch (kind[c]) {
                case SCHOLAR: return scholarly;
                case DRUMMER: return drummed;
                case DOCTOR: return scholarly + others;
                case GYPSY: return askedAt % 2 == 0 ? Math.max(1, drummed - 1) : drummed;
                case PLAIN:
                default: return plain;
            }
        }

        void passHour() {
            for (int c = 0; c < crossers; c++) {
                if (where[c] == TO_COME && comes[c] <= hour) {
                    letIn(c);
                }
            }
            hour++;
            for (int c = 0; c < crossers; c++) {
                if (where[c] == IN && till[c] <= hour) {
                    where[c] = OVER;
                }
            }
        }

        private void letIn(int c) {
            int q = firstNotAsked();
            if (q == NONE) {
                where[c] = OVER;
                return;
            }
            int others = Integer.bitCount(thoseWho(IN));
            till[c] = hour + hoursAmong(others, c, q, hour);
            where[c] = IN;
            asked |= 1 << q;
        }

        private int firstNotAsked() {
            for (int q = 0; q < questions; q++) {
                if (!isAsked(q)) {
                    return q;
                }
            }
            return NONE;
        }

        /** Draws, and by the draw perhaps lets a question be asked once more. */
        void drawQuestion() {
            draw = draw * 1103515245 + 12345 & 0x7fffffff;
            if (questions > 0 && draw / 128 % 3 == 0) {
                letAskAgain(draw / 65536 % questions);
            }
        }

        /** Of those who are in the ford, how many are over behind this hour if they have no cramp. */
        int howManyLeaveNext() {
            int leaving = 0;
            for (int c = 0; c < crossers; c++) {
                if (where[c] == IN && till[c] <= hour + 1) {
                    leaving++;
                }
            }
            return leaving;
        }
    }

    /** The ford now, and as it was ahead of each of the latest things done. */
    private static final class Story {
        private final Ford now;
        /** A ring: the oldest known place is written over when there is no other. */
        private final Ford[] past;
        private int next;
        private int known;

        Story() {
            now = new Ford();
            past = new Ford[MOST_UNDONE];
            for (int p = 0; p < MOST_UNDONE; p++) {
                past[p] = new Ford();
            }
        }

        void remember() {
            past[next].takeFrom(now);
            next = (next + 1) % MOST_UNDONE;
            known = Math.min(known + 1, MOST_UNDONE);
        }

        void forgetPast() {
            known = 0;
        }

        boolean goBack() {
            if (known == 0) {
                return false;
            }
            next = (next + MOST_UNDONE - 1) % MOST_UNDONE;
            known--;
            now.takeFrom(past[next]);
            return true;
        }

        void takeFrom(Story other) {
            now.takeFrom(other.now);
            for (int p = 0; p < MOST_UNDONE; p++) {
                past[p].takeFrom(other.past[p]);
            }
            next = other.next;
            known = other.known;
        }
    }

    /** Letters that are typed one by one. */
    private static final class Tape {
        private final char[] letters;
        private int length;

        Tape() {
            letters = new char[MOST_LETTERS];
        }

        /** How many letters there are then; a full tape takes none. */
        int append(int letter) {
            if (length < MOST_LETTERS) {
                letters[length] = (char) letter;
                length++;
            }
            return length;
        }
    }

    /** Reads a ford from a tape; where it stops early, its place is the fault's. */
    private static final class Reader {
        private static final char END = 0;
        /** In the order of the kinds' numbers. */
        private static final String KIND_LETTERS = "psrdg";

        private final Tape text;
        private final Ford draft;
        private int place;

        Reader(Tape tape) {
            text = tape;
            draft = new Ford();
        }

        boolean readFord() {
            place = 0;
            draft.makeEmpty();
            if (!readQuestions()) {
                return false;
            }
            if (accepts(';') && !readCrossers()) {
                return false;
            }
            return nextLetter() == END;
        }

        private boolean readQuestions() {
            for (int n = 0; n < MOST_QUESTIONS; n++) {
                if (n > 0 && topicOf(nextLetter()) == NONE) {
                    return true;
                }
                if (!readQuestion()) {
                    return false;
                }
            }
            return true;
        }

        private boolean readQuestion() {
            int topic = topicOf(nextLetter());
            if (topic == NONE) {
                return false;
            }
            place++;
            char digit = nextLetter();
            if (digit < '1' || digit > '9') {
                return false;
            }
            place++;
            int number = draft.addQuestion(topic, digit - '0');
            if (accepts('!')) {
                draft.asked |= 1 << number;
            }
            return true;
        }

        private boolean readCrossers() {
            for (int n = 0; n < MOST_CROSSERS; n++) {
                if (n > 0 && !accepts(',')) {
                    return true;
                }
                if (!readCrosser()) {
                    return false;
                }
            }
            return true;
        }

        private boolean readCrosser() {
            int kind = kindOf(nextLetter());
            if (kind == NONE) {
                return false;
            }
            place++;
            int knows = 0;
            if (accepts(':')) {
                knows = readTopics();
                if (knows == 0) {
                    return false;
                }
            }
            int comes = accepts('@') ? readComing() : 0;
            if (comes == NONE) {
                return false;
            }
            draft.addCrosser(kind, knows, comes);
            return true;
        }

        /** Letters that do not rise are left for what comes behind, which can't take them. */
        private int readTopics() {
            int set = 0;
            for (int topic = 0; topic < TOPICS; topic++) {
                if (topicOf(nextLetter()) == topic) {
                    set |= 1 << topic;
                    place++;
                }
            }
            return set;
        }

        /** A third digit is left for what comes behind, which can't take it. */
        private int readComing() {
            int value = digitOf(nextLetter());
            int first = place;
            if (value == NONE) {
                return NONE;
            }
            place++;
            int second = digitOf(letterHere());
            if (second != NONE) {
                value = 10 * value + second;
                place++;
            }
            if (value > LATEST_COMING) {
                place = first;
                return NONE;
            }
            return value;
        }

        private boolean accepts(char letter) {
            if (nextLetter() != letter) {
                return false;
            }
            place++;
            return true;
        }

        /** The place goes on to the letter, or to the end, behind blanks. */
        private char nextLetter() {
            for (int skipped = 0; skipped < MOST_LETTERS && letterHere() == ' '; skipped++) {
                place++;
            }
            return letterHere();
        }

        private char letterHere() {
            return place >= 0 && place < text.length ? text.letters[place] : END;
        }

        private static int topicOf(char letter) {
            return letter >= 'a' && letter <= 'h' ? letter - 'a' : NONE;
        }

        private static int digitOf(char letter) {
            return letter >= '0' && letter <= '9' ? letter - '0' : NONE;
        }

        private static int kindOf(char letter) {
            int kind = KIND_LETTERS.indexOf(letter);
            return kind < 0 ? NONE : kind;
        }
    }

    /** Tries out, on a ford of its own, what will be. */
    private static final class Outlook {
        private final Ford ahead;
        /** What was sought, or NONE. */
        private int found;
        /** The hours that go with what was found. */
        private int foundHours;
        private int foundSets;

        Outlook() {
            ahead = new Ford();
        }

        void startFrom(Ford now) {
            ahead.takeFrom(now);
        }

        Ford behind(Ford now, int n) {
            startFrom(now);
            for (int h = 0; h < n; h++) {
                ahead.passHour();
            }
            return ahead;
        }

        /** From where it was started, behind how many hours all of a set are over, or NEVER. */
        int hoursTillOver(int set) {
            for (int h = 0; h <= FORETOLD; h++) {
                if ((set & ~ahead.thoseWho(OVER)) == 0) {
                    return h;
                }
                ahead.passHour();
            }
            return NEVER;
        }

        private int howManyIn() {
            return Integer.bitCount(ahead.thoseWho(IN));
        }

        void seekMost(Ford now) {
            startFrom(now);
            found = howManyIn();
            foundHours = 0;
            for (int h = 1; h <= FORETOLD; h++) {
                ahead.passHour();
                if (howManyIn() > found) {
                    found = howManyIn();
                    foundHours = h;
                }
            }
        }

        void seekTeaching(Ford now) {
            found = NONE;
            for (int c = 0; c < now.crossers; c++) {
                for (int t = 0; t < TOPICS; t++) {
                    if (now.where[c] == TO_COME && !isIn(now.knows[c], t)) {
                        startFrom(now);
                        ahead.knows[c] |= 1 << t;
                        keepIfSooner(10 * c + t, hoursTillOver(now.everyone()));
                    }
                }
            }
        }

        void seekSpare(Ford now) {
            found = NONE;
            for (int q = 0; q < now.questions; q++) {
                if (!now.isAsked(q)) {
                    startFrom(now);
                    ahead.asked |= 1 << q;
                    keepIfSooner(q, hoursTillOver(now.everyone()));
                }
            }
        }

        private void keepIfSooner(int which, int hours) {
            if (found == NONE || hours < foundHours) {
                found = which;
                foundHours = hours;
            }
        }

        void seekComing(Ford now, int c) {
            found = NONE;
            foundHours = NEVER - 1;
            if (now.where[c] != TO_COME) {
                return;
            }
            for (int h = now.hour; h <= LATEST_COMING; h++) {
                startFrom(now);
                ahead.comes[c] = h;
                int hours = hoursTillOver(1 << c);
                if (hours <= foundHours) {
                    found = h;
                    foundHours = hours;
                }
            }
        }

        int kindsThatFit(Ford now, int c, Sheet row, int i, int n) {
            int kinds = 0;
            for (int k = 0; k < KINDS; k++) {
                startFrom(now);
                ahead.kind[c] = k;
                if (fits(row, i, n)) {
                    kinds |= 1 << k;
                }
            }
            return kinds;
        }

        void seekKnowledge(Ford now, int c, Sheet row, int i, int n) {
            found = NONE;
            foundSets = 0;
            for (int set = 0; set <= ALL_TOPICS; set++) {
                startFrom(now);
                ahead.knows[c] = set;
                if (fits(row, i, n)) {
                    found = found == NONE ? set : found;
                    foundSets++;
                }
            }
        }

        /** From where it was started, whether so many are in the ford as n items of the row tell. */
        private boolean fits(Sheet row, int i, int n) {
            for (int h = 0; h < n; h++) {
                ahead.passHour();
                if (row.items[i + h] != howManyIn()) {
                    return false;
                }
            }
            return true;
        }

        void writeFilm(Ford now, Sheet row, int i, int n) {
            startFrom(now);
            for (int h = 0; h < n; h++) {
                ahead.passHour();
                row.write(i + h, howManyIn());
            }
        }
    }

    /**
     * Looks for the best telling of questions to those who are to come. They are
     * gone through as they come, so that how long each takes is settled by those
     * ahead of him, and tellings that begin alike share that part of the work.
     */
    private static final class Tellings {
        private static final int BITS_EACH = 3, LOWEST_BITS = 7, NO_TELLING = 1 << BITS_EACH * MOST_CROSSERS;

        private final Ford ford;
        /** Those who are to come, in the order in which they will. */
        private final int[] order;
        private int comers;
        private int asked;
        /** Till when each one is in, of those who have come; 0: he is not. */
        private final int[] till;
        private int bestLast;
        /** Three bits for the question of each crosser, the first one's highest: the first telling is the least. */
        private int bestTelling;

        Tellings() {
            ford = new Ford();
            order = new int[MOST_CROSSERS];
            till = new int[MOST_CROSSERS];
        }

        void seekBest(Ford now) {
            ford.takeFrom(now);
            chooseWhoIsAsked();
            orderComers();
            bestLast = NEVER + 1;
            bestTelling = NO_TELLING;
            int latest = now.hour;
            for (int c = 0; c < now.crossers; c++) {
                till[c] = now.where[c] == IN ? now.till[c] : 0;
                latest = Math.max(latest, till[c]);
            }
            tell(0, now.asked, latest, 0);
        }

        /** The question that the best telling has for a crosser, or NONE. */
        int toldTo(int c) {
            return isIn(asked, c) ? bestTelling >> shiftOf(c) & LOWEST_BITS : NONE;
        }

        private static int shiftOf(int c) {
            return BITS_EACH * (MOST_CROSSERS - 1 - c);
        }

        private void chooseWhoIsAsked() {
            int left = ford.questions - Integer.bitCount(ford.asked);
            asked = 0;
            for (int c = 0; c < ford.crossers; c++) {
                if (ford.where[c] == TO_COME && howManyComeAheadOf(c) < left) {
                    asked |= 1 << c;
                }
            }
        }

        private int howManyComeAheadOf(int c) {
            int ahead = 0;
            for (int other = 0; other < ford.crossers; other++) {
                boolean isEarlier = ford.comes[other] < ford.comes[c]
                        || ford.comes[other] == ford.comes[c] && other < c;
                if (ford.where[other] == TO_COME && isEarlier) {
                    ahead++;
                }
            }
            return ahead;
        }

        private void orderComers() {
            comers = 0;
            for (int c = 0; c < ford.crossers; c++) {
                if (ford.where[c] == TO_COME) {
                    insertComer(c);
                }
            }
        }

        /** Behind all who come when he does: they have lesser numbers. */
        private void insertComer(int c) {
            int spot = comers;
            while (spot > 0 && spot < MOST_CROSSERS && comingOf(order[spot - 1]) > comingOf(c)) {
                order[spot] = order[spot - 1];
                spot--;
            }
            if (spot < MOST_CROSSERS) {
                order[spot] = c;
                comers++;
            }
        }

        private int comingOf(int c) {
            return Math.max(ford.hour, ford.comes[c]);
        }

        /** Goes on from a telling to those ahead of this turn; latest is when the last of them is over. */
        private void tell(int turn, int used, int latest, int telling) {
            int last = Math.min(latest - ford.hour, NEVER);
            if (last > bestLast) {
                return;
            }
            if (turn >= comers || turn >= MOST_CROSSERS) {
                keepIfBetter(last, telling);
                return;
            }
            int c = order[turn];
            int coming = comingOf(c);
            if (!isIn(asked, c)) {
                tell(turn + 1, used, Math.max(latest, coming + 1), telling);
                return;
            }
            int others = howManyAreInAt(coming);
            for (int q = 0; q < ford.questions; q++) {
                if (!isIn(used, q)) {
                    till[c] = coming + ford.hoursAmong(others, c, q, coming);
                    tell(turn + 1, used | 1 << q, Math.max(latest, till[c]), telling | q << shiftOf(c));
                    till[c] = 0;
                }
            }
        }

        private int howManyAreInAt(int hour) {
            int in = 0;
            for (int c = 0; c < ford.crossers; c++) {
                if (till[c] > hour) {
                    in++;
                }
            }
            return in;
        }

        private void keepIfBetter(int last, int telling) {
            if (last < bestLast || last == bestLast && telling < bestTelling) {
                bestLast = last;
                bestTelling = telling;
            }
        }
    }

    /** A row of items of one lane, or nothing. */
    private static final class Sheet {
        private static final int NOTHING = -1;

        private int lane;
        private int size;
        private final long[] items;

        Sheet() {
            size = NOTHING;
            items = new long[MOST_ITEMS];
        }

        boolean isMissing() {
            return size == NOTHING;
        }

        void begin(int newLane, int newSize) {
            lane = newLane;
            size = newSize;
            Arrays.fill(items, 0L);
        }

        /** How many items it had. */
        int end() {
            int had = size;
            size = NOTHING;
            return had;
        }

        /** Whether items i to i + n - 1 are all there, written so that no sum overflows. */
        boolean holds(int i, int n) {
            return i >= 0 && n >= 0 && i <= size - n;
        }

        /** Why n items from i on can't be taken as of a lane; 0: they can. */
        int refusal(int asLane, int i, int n) {
            if (isMissing()) {
                return NULL;
            }
            if (asLane != lane) {
                return CAST;
            }
            return holds(i, n) ? 0 : INDEX;
        }

        void write(int i, long v) {
            if (holds(i, 1)) {
                items[i] = lowestBits(v);
            }
        }

        private long lowestBits(long v) {
            switch (lane) {
                case 0: return (byte) v;
                case 1: return (short) v;
                case 2: return (int) v;
                default: return v;
            }
        }
    }
}
