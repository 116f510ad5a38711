/** The rules of the document's Terms at their edges: hours, what is foretold, draws, what is undone, images, sheets. */
public final class BoundariesTest extends Checks {
    private static FordQuestions passed(String text, int hours) {
        FordQuestions x = fordOf(text);
        x.hours(hours);
        return x;
    }

    /** At a late hour, with the questions and crossers of a new ford; those whose hour has passed come at once. */
    private static FordQuestions lateFord(int hour, int kind, int hard) {
        FordQuestions x = new FordQuestions();
        for (int k = 0; k < hour / 40; k++) x.hours(40);
        if (hour % 40 > 0) x.hours(hour % 40);
        x.question(0, hard);
        x.crosser(kind, 0, 0);
        return x;
    }

    private static void calls512() {
        FordQuestions x = new FordQuestions();
        for (int k = 1; k <= 511; k++) due("call " + k, x.hours(1), 0);
        due("call 512", x.count(2), 511);
        x = fordOf("a9;s@40");
        for (int k = 9; k <= 511; k++) due("call " + k, x.seed(k), k == 9 ? 1 : k - 1);
        due("call 512", x.last(), 58);
        x = fordOf("a9;s@40");
        for (int k = 9; k <= 511; k++) due("call " + k, k % 2 == 0 ? x.image() : x.type(97 + k % 8), k % 2 == 0 ? 1 : k < 189 ? k / 2 - 3 : FULL);
        due("call 512", x.undo(), NONE);
    }

    private static void newObject() {
        FordQuestions x = busy();
        same("1: an object beside another one", new FordQuestions(), new FordQuestions());
        due("1: one does not have the other's questions", new FordQuestions().count(0), 0);
        due("1: nor its sheets", new FordQuestions().drop(0), NULL);
        due("1: nor its image", new FordQuestions().restore(), NONE);
        due("1: nor its tape", new FordQuestions().type('a'), 1);
        due("1: nor its draw", new FordQuestions().seed(0), 1);
        same("1: and takes none of them", x, busy());
    }

    private static void sets() {
        FordQuestions x = fordOf("a1b1c1d1e1f1g1h9!;p@9,p@9,p@9,p@9,p");
        due("9: question 7 is bit 7", x.count(3), 128);
        due("9: crosser 4 is bit 4", x.count(4), 31);
        x.put(0, 9);
        x.hours(1);
        due("9: to come", x.count(4), 15);
        due("9: in", x.count(5), 16);
        due("9: over", x.count(6), 0);
        due("9: asked", x.count(3), 129);
        due("10: over", x.hours(8), 16);
        due("9: over", x.count(6), 16);
        due("11: topic 7 is bit 7", x.teach(4, 7), 128);
        due("13: asked", x.again(0), 128);
        due("13: asked", x.again(7), 0);
    }

    private static void hoursOfKinds() {
        int[] hards = {1, 2, 3, 9};
        int[][] even = {{1, 2, 3, 9}, {2, 4, 6, 18}, {1, 2, 2, 2}, {2, 4, 6, 18}, {1, 1, 1, 1}};
        int[][] odd = {{1, 2, 3, 9}, {2, 4, 6, 18}, {1, 2, 2, 2}, {2, 4, 6, 18}, {1, 2, 2, 2}};
        for (int kind = 0; kind < 5; kind++) {
            FordQuestions x = new FordQuestions();
            for (int hard : hards) x.question(7, hard);
            x.crosser(kind, 127, 40);
            x.crosser(kind, 128, 40);
            for (int hour = 0; hour < 4; hour++) {
                for (int q = 0; q < 4; q++) {
                    due("6: kind " + kind + ", hard by " + hards[q] + ", hour " + hour, x.takes(0, q), (hour % 2 == 0 ? even : odd)[kind][q]);
                    due("6: kind " + kind + " who knows, hour " + hour, x.takes(1, q), 1);
                }
                x.hours(1);
            }
        }
    }

    private static void doctors() {
        String others = "";
        for (int n = 0; n <= 4; n++) {
            FordQuestions x = fordOf("a9b9c9d9e9;" + others + "d");
            due("6: nobody is in yet", x.takes(n, 0), 18);
            x.hours(1);
            due("10: a doctor behind " + n + " of his hour", x.at(n, 4), 18 + n);
            due("6: he does not count himself", x.takes(n, 4), 18 + n);
            others += "p,";
        }
        FordQuestions x = passed("a9b9c9d9e9;d,p,p,p,p", 1);
        due("10: a doctor ahead of all of his hour", x.at(0, 4), 18);
        x = passed("a1b9;p,d", 1);
        due("10: who is in for this hour alone counts in it", x.at(1, 4), 19);
        x = passed("a1b9;p,d@1", 2);
        due("10: and is over in the next", x.at(1, 4), 19);
        due("10: by one hour less than it would be", passed("a2b9;p,d@1", 2).at(1, 4), 20);
        x = passed("a2b9;p@5,d", 1);
        due("10: who is to come does not count", x.at(1, 4), 4);
        x = fordOf("a9b9c9;p@1,p,d:c");
        due("6: a doctor who knows", x.takes(2, 2), 1);
        x.hours(1);
        due("6: and one other", x.takes(2, 2), 2);
        x.hours(1);
        due("6: and two others", x.takes(2, 2), 3);
    }

    private static void comings() {
        for (int comes : new int[] {0, 1, 2, 39, 40}) {
            FordQuestions x = fordOf("a9;p@" + comes);
            if (comes > 0) x.hours(comes);
            due("10: ahead of his hour, " + comes, x.at(0, 3), 0);
            x.hours(1);
            due("10: in his hour, " + comes, x.at(0, 3), 1);
            due("10: till", x.at(0, 4), comes + 9);
        }
        FordQuestions x = lateFord(50, 0, 3);
        due("10: who comes at an hour that has passed", x.hours(1), 0);
        due("10: comes at this one", x.at(0, 4), 53);
        x = fordOf("a9b9c1;p@1,p,p@1");
        x.hours(2);
        due("10: the earlier one has the first question", x.at(1, 4), 9);
        due("10: then they rise", x.at(0, 4), 10);
        due("10: to the greater number", x.at(2, 3), 2);
        x = passed("a1!b2!c3d4!e5;p,p", 1);
        due("10: the least that is not asked", x.at(0, 4), 3);
        due("10: the next one", x.at(1, 4), 5);
        due("10: both are asked", x.count(3), 31);
    }

    private static void leavings() {
        for (int hard = 1; hard <= 9; hard++) {
            FordQuestions x = fordOf("a" + hard + ";p");
            for (int h = 1; h < hard; h++) due("10: in till " + hard + ", behind " + h, x.hours(1), 0);
            due("10: in till " + hard, x.hours(1), 1);
        }
        due("10: no question at all, over at once", ofCrosserAlone().hours(1), 1);
        FordQuestions x = passed("a9;p,p", 1);
        due("10: one question for two", x.count(5), 1);
        due("10: over at once", x.count(6), 2);
        x = passed("a9!;p,s@1", 1);
        due("10: all are asked, over at once", x.count(6), 1);
        due("10: but not ahead of his hour", x.count(4), 2);
    }

    private static FordQuestions ofCrosserAlone() {
        FordQuestions x = new FordQuestions();
        x.crosser(0, 0, 0);
        return x;
    }

    private static void changes() {
        FordQuestions x = fordOf("a5b5;p@1,p@2");
        x.hours(2);
        x.put(0, 9);
        x.teach(0, 0);
        due("11: who is in stays as long", x.at(0, 4), 6);
        x.put(1, 9);
        due("14: who is to come takes so long", x.crosses(1), 9);
        x.teach(1, 1);
        due("11: or as one who knows", x.crosses(1), 1);
        due("13: the first may be asked once more", x.again(0), 0);
        due("13: and is the second one's", x.crosses(1), 9);
        due("12: later", x.later(1, 3), 2);
        due("12: by an hour", x.crosses(1), 10);
        due("12: at an hour that has passed", x.later(1, 0), 3);
        due("12: it is at once", x.crosses(1), 9);
    }

    private static void foretold() {
        FordQuestions x = fordOf("a9b9c9d9e9;p@40,p@40,p@40,p@40,d@40");
        due("19: the latest there is", x.crosses(4), 62);
        due("20: the latest there is", x.last(), 62);
        due("18: still in", x.then(61, 0), 16);
        due("18: over", x.then(62, 1), 31);
        due("18: nobody is in", x.then(62, 0), 0);
        due("18: behind 40 hours nobody has come", x.then(40, 2), 0);
        due("18: behind 41 all have", x.then(41, 2), 31);
        due("18: behind 100", x.then(100, 1), 31);
        due("21: all five", x.most(0), 5);
        due("21: first behind", x.most(1), 41);
        due("19: of the others", x.crosses(0), 49);
        x.hours(40);
        due("19: from now", x.crosses(4), 22);
        x.hours(21);
        due("20: one more hour", x.last(), 1);
        x.hours(1);
        due("20: none more", x.last(), 0);
        due("19: none more", x.crosses(4), 0);
        due("21: nobody", x.most(0), 0);
        due("21: behind none", x.most(1), 0);
        x = fordOf("a1b1;p,s");
        due("21: who is in for one hour is over behind it", x.most(0), 1);
        x = fordOf("a2b2c2;p,p@1,p@5");
        due("21: one at once", x.most(0), 1);
        due("21: not where one comes as the other leaves", x.most(1), 1);
        due("21: two", fordOf("a3b2c9;p,p@1,s@5").most(0), 2);
        due("21: behind the first hour of two", fordOf("a3b2c9d9;p,p@1,s@5,s@6").most(1), 2);
        x = lateFord(9999, 0, 9);
        due("18: behind hour 9999", x.then(100, 1), 1);
        due("20: behind hour 9999", x.last(), 9);
        due("25: no hour up to 40 is left", x.before(0), NONE);
        due("22: behind hour 9999", x.best(-1), 9);
        due("6: an odd hour", lateFord(9999, 4, 9).takes(0, 0), 2);
        due("6: an even hour", lateFord(9998, 4, 9).takes(0, 0), 1);
    }

    private static void foretellingChangesNothing() {
        for (int n : new int[] {0, 1, 100}) unchanged("18: then", Checks::busy, x -> x.then(n, 1), n == 100 ? 15 : 8);
        unchanged("19: crosses", Checks::busy, x -> x.crosses(2), 28);
        unchanged("20: last", Checks::busy, FordQuestions::last, 28);
        unchanged("21: most", Checks::busy, x -> x.most(0), 2);
        unchanged("22: best", Checks::busy, x -> x.best(-1), 28);
        unchanged("23: teaches", Checks::busy, x -> x.teaches(0), 20);
        unchanged("24: spare", Checks::busy, x -> x.spare(0), 1);
        unchanged("25: before", Checks::busy, x -> x.before(2), 4);
        unchanged("26: cramp", Checks::busy, x -> x.cramp(2, 5, 1), 1);
        for (int what = 0; what < 3; what++) {
            int w = what;
            unchanged("29: seen", Checks::busy, x -> x.seen(2, 0, 0, 0, 8, w), new int[] {31, 256, 0}[w]);
        }
        unchanged("4: of", Checks::busy, x -> x.of(0, 0), 0);
        unchanged("5: at", Checks::busy, x -> x.at(0, 0), 0);
        unchanged("6: takes", Checks::busy, x -> x.takes(1, 1), 9);
        unchanged("9: count", Checks::busy, x -> x.count(7), 5);
        FordQuestions x = busy();
        due("30: film", x.film(10, 0, 0, 0), 10);
        same("30: film of what is there", x, busy());
        x = busy();
        due("27: image", x.image(), 1);
        due("27: image", x.restore(), 1);
        due("27: the hour", x.count(2), 3);
        due("27: what may be undone", x.count(7), 5);
    }

    private static void bests(String what, String text, int last, int... told) {
        FordQuestions x = fordOf(text);
        due("22: " + what + ", last", x.best(-1), last);
        for (int c = 0; c < told.length; c++) due("22: " + what + ", crosser " + c, x.best(c), told[c]);
        due("22: " + what + ", no such one", x.best(told.length), BAD);
    }

    private static void best() {
        bests("as many as there are", "a9b1;p,p", 9, 0, 1);
        bests("one more", "a9b1c2;p,p", 2, 1, 2);
        bests("one less", "a9;p,p", 9, 0, NONE);
        bests("one less, who comes latest", "a9;p@1,p", 9, NONE, 0);
        bests("an hour apart", "a2b2;p@4,p@5,p@4", 6, 0, NONE, 1);
        bests("two less", "a2;p@3,p@2,p@2", 4, NONE, 0, NONE);
        bests("none is left", "a9!;p@3,p@7", 8, NONE, NONE);
        bests("none but the asked ones", "a1!b9;p", 9, 1);
        bests("nobody", "a1", 0);
        bests("8 for 5", "a9b9c9d1e1f1g1h1;p,p,p,p,p", 1, 3, 4, 5, 6, 7);
        bests("8 for 5, all alike", "a2b2c2d2e2f2g2h2;s@9,s@9,s@9,s@9,s@9", 13, 0, 1, 2, 3, 4);
        bests("the last one's the last", "a9b9c9d9e9f9g9h9;p:h,p:g,p:f,p:e,p:d", 1, 7, 6, 5, 4, 3);
        bests("who is asked none still comes", "a1;p,p@40", 41, 0, NONE);
        bests("a doctor does not count who is to come", "a9b9;d,p@5", 18, 0, 1);
        bests("a doctor does not count himself, whatever was tried ahead", "a8b9;p,d", 17, 1, 0);
        bests("the greater number counts the lesser one of his hour", "a9b1;d,d", 18, 0, 1);
        bests("who comes later counts who came ahead, though his number is less", "a2b1;d@1,p", 4, 1, 0);
        bests("who comes as the other leaves does not", "a1b1;d@1,p", 3, 0, 1);
        bests("of three the order is by hours, then numbers", "a2b2c9;d:c@2,p@1,p@1", 5, 2, 0, 1);
        bests("three of whom the last comes first", "a4b2c9;d:c@2,d@1,p", 6, 2, 1, 0);
        bests("of three the second comes last", "a9b9c9;p:abc@1,d@3,r@2", 22, 0, 1, 2);
        FordQuestions x = passed("a9b9c2;p,p@9", 1);
        due("22: who is in is told none", x.best(0), NONE);
        due("22: who is to come is told one that is not asked", x.best(1), 2);
        due("22: he is over at 11", x.best(-1), 10);
        x = passed("a9b1;p,p@1", 1);
        due("22: who is in is waited for", x.best(-1), 8);
        due("22: though the other is told so", x.best(1), 1);
        due("22: of those in alone", passed("a9;p", 1).best(-1), 8);
        due("22: all are over", passed("a9;p", 9).best(-1), 0);
        x = fordOf("a5b5;p,p@1");
        due("22: ahead of the hour", x.best(0), 0);
        due("22: ahead of the hour", x.best(1), 1);
        x.hours(1);
        due("22: behind it he is told none", x.best(0), NONE);
        due("22: and the other", x.best(1), 1);
        x.hours(1);
        due("22: behind two neither is", x.best(1), NONE);
        x.undo();
        due("22: undone", x.best(1), 1);
        x = new FordQuestions();
        x.hours(5);
        x.question(0, 3);
        x.crosser(0, 0, 3);
        x.crosser(0, 0, 1);
        due("22: of hours that have passed, who comes latest by what was told", x.best(0), NONE);
        due("22: the other", x.best(1), 0);
        due("22: both come now", x.best(-1), 3);
    }

    private static void teachesAndSpare() {
        FordQuestions x = fordOf("h9h9h9h9h9;p:abcdefgh,p:abcdefgh,p:abcdefgh,p:abcdefgh,p:abcdefg");
        due("23: the greatest there is", x.teaches(0), 47);
        due("23: last", x.teaches(1), 1);
        x = fordOf("a9h9;p:ab,p");
        due("23: who needs it", x.teaches(0), 17);
        due("23: last", x.teaches(1), 1);
        due("23: of like ones the first crosser", fordOf("a1b1;p,p").teaches(0), 0);
        due("23: of like ones the first topic he does not know", fordOf("a1b1;p:abc,p").teaches(0), 3);
        due("23: who is in can't be", passed("a9b9;p,p@3", 1).teaches(0), 11);
        due("23: last", passed("a9b9;p,p@3", 1).teaches(1), 8);
        x = fordOf("a1!b1!c1!d1!e1!f1!g1!h9;p");
        due("24: the last question", x.spare(0), 7);
        due("24: last", x.spare(1), 1);
        due("24: nobody, the first", fordOf("a1!b9c1").spare(0), 1);
        due("24: nobody, last", fordOf("a1!b9c1").spare(1), 0);
        x = fordOf("a1b9c1;p,p");
        due("24: the one that is hard", x.spare(0), 1);
        due("24: last", x.spare(1), 1);
        x = fordOf("a5b5c5;p");
        due("24: of like ones the first", x.spare(0), 0);
        due("24: last", x.spare(1), 5);
    }

    private static void before() {
        due("25: at hour 39, now", lateFord(39, 0, 3).before(0), 39);
        due("25: at hour 39, of like ones the latest", lateFord(39, 4, 3).before(0), 40);
        due("25: at hour 40, now", lateFord(40, 0, 3).before(0), 40);
        due("25: at hour 40", lateFord(40, 4, 3).before(0), 40);
        due("25: at hour 41, none is left", lateFord(41, 0, 3).before(0), NONE);
        FordQuestions x = fordOf("a9;g@9");
        due("25: an even hour", x.before(0), 0);
        x.hours(1);
        due("25: an odd one, of like ones the latest", x.before(0), 2);
        x.hours(1);
        due("25: an even one", x.before(0), 2);
        due("25: when he comes by what was told does not matter", fordOf("a3;p@40").before(0), 0);
        due("25: as the last of them", fordOf("a9b1;p@40,p@39").before(0), 0);
        due("25: an hour behind the other one", fordOf("a9b1;p,p").before(0), 1);
        x = fordOf("a9b1;p@3,p@2");
        due("25: as the other one comes he still has a; an hour behind, b", x.before(0), 3);
        due("25: over at 4 by it", x.crosses(0), 4);
    }

    private static void cramp() {
        FordQuestions x = fordOf("a2a3;p,p");
        due("26: nobody is in, at least 0", x.cramp(0, 10, 0), 1);
        due("26: nobody is in, at least 1", x.cramp(1, 10, 0), 0);
        due("26: of 1", x.cramp(1, 10, 1), 1);
        x.hours(1);
        due("26: till the next hour, one of ten", x.cramp(2, 1, 0), 1);
        due("26: till the next hour, one of ten", x.cramp(2, 1, 1), 10);
        due("26: till the next hour, nine of ten", x.cramp(2, 9, 0), 9);
        due("26: till the next hour, two of ten", x.cramp(2, 2, 1), 5);
        due("26: till the one behind it, for sure", x.cramp(1, 0, 0), 1);
        due("26: never both", x.cramp(2, 0, 0), 0);
        due("26: never both, of", x.cramp(2, 0, 1), 1);
        due("26: always both", x.cramp(2, 10, 0), 1);
        due("26: always both, of", x.cramp(2, 10, 1), 1);
        due("26: more than are in", x.cramp(3, 10, 0), 0);
        x = passed("a2a2a2a2a2;p,p,p,p,p", 1);
        // in 7 ways of 10 each: of 100000 ways 16807 have all five, 36015 four, 30870 three, 13230 two, 2835 one, 243 none
        int[] above = {1, 99757, 48461, 20923, 26411, 16807};
        int[] below = {1, 100000, 50000, 25000, 50000, 100000};
        for (int m = 0; m <= 5; m++) {
            due("26: at least " + m + " of five", x.cramp(m, 7, 0), above[m]);
            due("26: at least " + m + " of five, of", x.cramp(m, 7, 1), below[m]);
        }
        x = passed("a2;p,p@1", 1);
        due("26: nobody new then", x.cramp(2, 10, 0), 0);
    }

    public static void main(String[] args) {
        calls512();
        newObject();
        sets();
        hoursOfKinds();
        doctors();
        comings();
        leavings();
        changes();
        foretold();
        foretellingChangesNothing();
        best();
        teachesAndSpare();
        before();
        cramp();
        finish();
    }
}
