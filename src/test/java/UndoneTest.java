/** Draws, what may be undone, images, and what sheets hold, each at its edges. */
public final class UndoneTest extends Checks {
    /** The draw behind which the next one is d: times 1103515245 is undone by its inverse, as both are odd. */
    private static int seedAheadOf(int d) {
        long inverse = 1;
        for (int round = 0; round < 6; round++) inverse *= 2 - 1103515245L * inverse;
        return (int) ((d - 12345L) * inverse & 0x7fffffffL);
    }

    private static FordQuestions drawn(String text, int d) {
        FordQuestions x = fordOf(text);
        x.seed(seedAheadOf(d));
        x.drift(1);
        return x;
    }

    private static void draws() {
        int[] seeds = {0, 1, 2, 3, 1073741824, GREATEST - 1, GREATEST};
        int[] next = {12345, 1103527590, 59559187, 1163074432, 1073754169, 2087949151, 1043980748};
        for (int k = 0; k < seeds.length; k++) {
            FordQuestions x = new FordQuestions();
            due("17: at first", x.seed(seeds[k]), 1);
            due("15: without questions", x.drift(1), 0);
            due("15: the draw behind " + seeds[k], x.seed(0), next[k]);
        }
        for (int d : new int[] {0, 1, 1073741823, 1073741824, GREATEST}) due("15: the draw " + d, drawn("a1", d).seed(0), d);
        FordQuestions x = new FordQuestions();
        x.hours(3);
        due("10: hours do not draw", x.seed(1), 1);
        x.drift(40);
        long draw = 1;
        for (int k = 0; k < 40; k++) draw = (draw * 1103515245L + 12345L) % 2147483648L;
        due("15: a draw each hour", x.seed(0), (int) draw);
    }

    private static void drawnQuestions() {
        int[] draws = {0, 127, 128, 255, 256, 383, 384, 511, 512, 65407, 65408, 65663, 65664, 130943, 130944, 131071, 131072, 131328,
            196607, 196608, 196735, 196736, 2147483519, 2147483520, GREATEST};
        int[] asked = {6, 6, 7, 7, 7, 7, 6, 6, 7, 6, 7, 7, 5, 7, 5, 5, 7, 3, 7, 6, 6, 7, 7, 5, 5};
        for (int k = 0; k < draws.length; k++) due("15: of three, by " + draws[k], drawn("a1!b1!c1!", draws[k]).count(3), asked[k]);
        due("15: of four, by 196608", drawn("a1!b1!c1!d1!", 196608).count(3), 7);
        due("15: of one, by 196608", drawn("a1!", 196608).count(3), 0);
        due("15: of eight, by the greatest", drawn("a1!b1!c1!d1!e1!f1!g1!h1!", GREATEST).count(3), 127);
        due("15: of seven, by the greatest", drawn("a1!b1!c1!d1!e1!f1!g1!", GREATEST).count(3), 127 - (1 << 32767 % 7));
        due("15: one that is not asked stays so", drawn("a1b1!", 0).count(3), 2);
        FordQuestions x = drawn("a9!;p", 0);
        due("15: ahead of the hour", x.count(5), 1);
        due("15: and asked in it", x.count(3), 1);
        due("15: none by 128", drawn("a9!;p", 128).count(6), 1);
    }

    private static void eightAreKnown() {
        for (int n = 1; n <= 40; n++) {
            FordQuestions x = fordOf("a1");
            x.hours(n);
            due("9: behind hours(" + n + ")", x.count(7), Math.min(n, 8));
            x = fordOf("a1");
            x.drift(n);
            due("9: behind drift(" + n + ")", x.count(7), Math.min(n, 8));
        }
        FordQuestions x = fordOf("a1");
        x.hours(9);
        for (int more = 7; more >= 0; more--) {
            due("16: how many more", x.undo(), more);
            due("16: the hour", x.count(2), more + 1);
        }
        unchanged("16: the ninth is lost", UndoneTest::allUndone, FordQuestions::undo, NONE);
        x = fordOf("a1");
        x.hours(10);
        for (int k = 0; k < 3; k++) x.undo();
        x.hours(4);
        due("16: eight again", x.count(7), 8);
        for (int hour = 10; hour >= 3; hour--) {
            due("16: undone", x.undo(), hour - 3);
            due("16: the hour", x.count(2), hour);
        }
        due("16: no more", x.undo(), NONE);
        due("16: what is undone may be done again", x.hours(1), 0);
        due("16: and undone", x.undo(), 0);
    }

    private static FordQuestions allUndone() {
        FordQuestions x = busy();
        x.hours(9);
        for (int k = 0; k < 8; k++) x.undo();
        return x;
    }

    /** Two of each kind but one, and each undone by itself. */
    private static void eachIsUndone() {
        FordQuestions x = fordOf("a5!b4!;p@20");
        x.seed(seedAheadOf(0));
        x.teach(0, 0);
        x.teach(0, 7);
        x.later(0, 30);
        x.later(0, 0);
        x.again(1);
        x.put(1, 9);
        x.hours(1);
        due("16: in", x.at(0, 4), 9);
        x.drift(1);
        due("16: free again", x.count(3), 2);
        x.seed(99);
        due("16: the drift", x.undo(), 7);
        due("16: asked", x.count(3), 3);
        due("16: the draw ahead of it", x.seed(55), seedAheadOf(0));
        due("16: the hour", x.undo(), 6);
        due("16: to come", x.at(0, 3), 0);
        due("16: in no more", x.at(0, 4), NONE);
        due("16: the draw that was told since is lost", x.seed(44), seedAheadOf(0));
        due("16: not asked", x.count(3), 1);
        due("16: put", x.undo(), 5);
        due("16: hard", x.of(1, 1), 4);
        due("16: again", x.undo(), 4);
        due("16: asked", x.count(3), 3);
        due("16: later", x.undo(), 3);
        due("16: comes", x.at(0, 2), 30);
        due("16: later", x.undo(), 2);
        due("16: comes", x.at(0, 2), 20);
        due("16: taught", x.undo(), 1);
        due("16: knows", x.at(0, 1), 1);
        due("16: taught", x.undo(), 0);
        due("16: knows", x.at(0, 1), 0);
        due("16: none", x.undo(), NONE);
        due("17: the draw is as it was told ahead of all", x.seed(0), seedAheadOf(0));
    }

    private static void whatLeavesNothing() {
        FordQuestions x = busy();
        due("2: a new question", x.question(0, 1), 3);
        due("2: leaves nothing", x.undo(), NONE);
        x = busy();
        due("3: a new crosser", x.crosser(0, 0, 0), 4);
        due("3: leaves nothing", x.undo(), NONE);
        x = busy();
        due("8: a ford", x.ford(), 1);
        due("8: leaves nothing", x.undo(), NONE);
        x = busy();
        due("2: a refused one", x.question(8, 1), BAD);
        due("3: a refused one", x.crosser(5, 0, 0), BAD);
        x.type('x');
        due("8: a fault", x.ford(), -22);
        due("16: leaves all", x.undo(), 4);
        due("17: what is told of the draw may not be undone", busyWithSeed().count(7), 5);
    }

    private static FordQuestions busyWithSeed() {
        FordQuestions x = busy();
        x.seed(1);
        return x;
    }

    private static void whatUndoLeaves() {
        FordQuestions x = busy();
        x.hours(1);
        x.sheet(3, 3, 2);
        x.type('!');
        x.undo();
        due("16: the tape is as it is", x.type(';'), 4);
        due("16: sheets are as they are", x.drop(3), 2);
        due("16: the image is as it is", x.restore(), 1);
        due("16: the image is as it is", x.count(2), 2);
        due("28: what may be undone is as it was, too", x.count(7), 2);
    }

    private static void images() {
        FordQuestions x = busy();
        due("27: a later one", x.image(), 1);
        told(x, "a1");
        x.seed(3);
        due("28: of the later one", x.restore(), 1);
        due("28: the hour", x.count(2), 3);
        due("28: the draw", x.seed(7), 7);
        due("28: what may be undone", x.count(7), 5);
        x.put(0, 1);
        x.teach(0, 5);
        x.later(2, 5);
        x.hours(40);
        x.question(0, 1);
        due("28: as often as one likes", x.restore(), 1);
        // the tape is no part of an image, and was used up above
        FordQuestions y = busyWithTape("");
        y.image();
        same("28: all is as it was", x, y);
        x = new FordQuestions();
        due("27: of an empty ford", x.image(), 1);
        told(x, "a1;p");
        x.hours(3);
        due("28: empty again", x.restore(), 1);
        for (int w = 0; w < 8; w++) due("28: empty again, count(" + w + ")", x.count(w), 0);
        due("28: nothing may be undone", x.undo(), NONE);
        x = fordOf("a1;p@40");
        x.hours(9);
        x.image();
        for (int k = 0; k < 8; k++) x.undo();
        x.restore();
        due("28: eight may be undone", x.count(7), 8);
        for (int hour = 8; hour >= 1; hour--) {
            x.undo();
            due("28: each", x.count(2), hour);
        }
    }

    private static void items() {
        long[] same = {5, 5 + 256, 5 - 256, 5 + 65536, 5 - 65536, 5 + (1L << 32), 5 - (1L << 32), 5 + (1L << 63), 5 + (1L << 8) * 127};
        int[] bits = {64, 8, 8, 16, 16, 32, 32, 63, 8};
        for (int lane = 0; lane < 4; lane++) {
            FordQuestions x = fordOf("a9a9a9a9a9;p,p,p,p,s");
            x.sheet(0, lane, 1);
            for (int k = 0; k < same.length; k++) {
                boolean isFive = k == 0 || (8 << lane) <= bits[k];
                due("33: becomes", x.item(0, lane, 0, same[k]), 1);
                due("33: " + same[k] + " in lane " + lane, x.seen(4, 0, lane, 0, 1, 1), isFive ? 128 : 0);
            }
        }
    }

    private static void sheetEdges() {
        for (int lane = 0; lane < 4; lane++) {
            FordQuestions x = fordOf("a9;p@40");
            for (int n = 0; n <= 24; n++) {
                due("31: " + n + " of lane " + lane, x.sheet(3, lane, n), n);
                if (n > 0) due("33: the last one", x.item(3, lane, n - 1, 1), 1);
                due("33: behind it", x.item(3, lane, n, 1), INDEX);
                if (n > 0) due("29: the last one is not 0", x.seen(0, 3, lane, n - 1, 1, 1), 0);
                if (n > 1) due("29: the first one is 0", x.seen(0, 3, lane, 0, 1, 1), 256);
                if (n > 1) due("29: a new row has 0 where the old one had 1", x.seen(0, 3, lane, n - 2, 1, 1), 256);
                if (n % 5 == 0) due("32: " + n, x.drop(3), n);
            }
        }
        FordQuestions x = fordOf("a9;p@40");
        for (int s = 0; s < 4; s++) x.sheet(s, s, 5 + s);
        for (int s = 0; s < 4; s++) due("32: each by itself", x.drop(s), 5 + s);
    }

    private static void films() {
        filmsWriteThatMany();
        FordQuestions x = fordOf("a9b9c9d9e9;p@1,p@2,p@3,p@4,p@5");
        x.sheet(0, 2, 24);
        for (int i = 0; i < 24; i++) x.item(0, 2, i, 9);
        due("30: one, at the end", x.film(1, 0, 2, 23), 1);
        due("30: it", x.seen(4, 0, 2, 23, 1, 1), 256);
        due("30: nothing ahead of it", x.seen(4, 0, 2, 22, 1, 1), 0);
        due("30: eight from 10 on", x.film(8, 0, 2, 10), 8);
        due("30: all of them", x.seen(4, 0, 2, 10, 8, 0), 11);
        due("30: nothing ahead of them", x.seen(4, 0, 2, 9, 1, 1), 0);
        due("30: nothing behind them", x.seen(4, 0, 2, 18, 1, 1), 0);
        due("30: 24", x.film(24, 0, 2, 0), 24);
        x.hours(16);
        due("30: the last eight", x.seen(4, 0, 2, 16, 8, 1), 256);
        due("30: nobody is in at the end", x.then(0, 0), 0);
        due("29: n items, not one more", x.seen(4, 0, 2, 16, 7, 1), 256);
    }

    /** One is in for 17 hours, so that an item too many would be 1. */
    private static void filmsWriteThatMany() {
        for (int n = 1; n <= 16; n++) {
            FordQuestions x = fordOf("a9;s");
            x.hours(1);
            x.sheet(0, 0, 24);
            due("30: " + n + " from 4 on", x.film(n, 0, 0, 4), n);
            for (int i = 3; i <= 4 + n; i++) {
                due("30: item " + i + " of " + n + " from 4 on", x.seen(0, 0, 0, i, 1, 1), i >= 4 && i < 4 + n ? 256 : 0);
            }
        }
    }

    /** Items 1 2 3 4 5 of a ford in which so many will be in behind the next hours, read from i on. */
    private static void copies() {
        for (int j = 0; j <= 5; j++) {
            for (int i = 0; i <= 5; i++) {
                FordQuestions x = fordOf("a9b9c9d9e9;p,p@1,p@2,p@3,p@4");
                x.sheet(0, 1, 10);
                x.film(5, 0, 1, i);
                due("34: from " + i + " to " + j, x.copy(0, i, 0, j, 5), 5);
                due("34: as if all were taken ahead, from " + i + " to " + j, x.seen(4, 0, 1, j, 4, 1), 256);
                x.sheet(1, 1, 10);
                due("34: to another one", x.copy(0, j, 1, i, 5), 5);
                due("34: it comes there", x.seen(4, 1, 1, i, 4, 1), 256);
                due("34: and stays here", x.seen(4, 0, 1, j, 4, 1), 256);
            }
        }
        FordQuestions x = fordOf("a9;p");
        x.sheet(0, 0, 24);
        x.sheet(1, 0, 24);
        x.film(8, 0, 0, 16);
        due("34: all 24", x.copy(0, 0, 1, 0, 24), 24);
        due("34: the last too", x.seen(0, 1, 0, 16, 8, 0), x.seen(0, 0, 0, 16, 8, 0));
        due("34: one, the last", x.copy(0, 23, 1, 0, 1), 1);
        due("34: it is there", x.seen(0, 1, 0, 0, 1, 0), 15);
    }

    public static void main(String[] args) {
        draws();
        drawnQuestions();
        eightAreKnown();
        eachIsUndone();
        whatLeavesNothing();
        whatUndoLeaves();
        images();
        items();
        sheetEdges();
        films();
        copies();
        finish();
    }
}
