/** Each promise of the document by itself: ordinary inputs, its edges, wrong inputs. Answers are worked out by hand. */
public final class PromisesTest extends Checks {
    private static void p1NewObject() {
        FordQuestions x = new FordQuestions();
        for (int w = 0; w < 8; w++) due("1: count(" + w + ")", x.count(w), 0);
        due("1: of", x.of(0, 0), BAD);
        due("1: at", x.at(0, 0), BAD);
        due("1: restore", x.restore(), NONE);
        due("1: undo", x.undo(), NONE);
        due("1: the draw", x.seed(5), 1);
        due("1: the tape", x.ford(), -20);
        for (int s = 0; s < 4; s++) due("1: sheet " + s, x.drop(s), NULL);
        due("1: last", x.last(), 0);
    }

    private static void p2Question() {
        FordQuestions x = new FordQuestions();
        due("2: topic -1", x.question(-1, 1), BAD);
        due("2: topic 8", x.question(8, 1), BAD);
        due("2: hard 0", x.question(0, 0), BAD);
        due("2: hard 10", x.question(0, 10), BAD);
        due("2: far", x.question(LEAST, GREATEST), BAD);
        due("2: none came", x.count(0), 0);
        for (int q = 0; q < 8; q++) due("2: number", x.question(q, 9 - q), q);
        due("2: full", x.question(0, 1), FULL);
        due("2: bad is named first", x.question(8, 1), BAD);
        due("2: still 8", x.count(0), 8);
        due("2: topic", x.of(7, 0), 7);
        due("2: hard", x.of(7, 1), 2);
        due("2: not asked", x.of(7, 2), 0);
    }

    private static void p3Crosser() {
        FordQuestions x = new FordQuestions();
        due("3: kind -1", x.crosser(-1, 0, 0), BAD);
        due("3: kind 5", x.crosser(5, 0, 0), BAD);
        due("3: knows -1", x.crosser(0, -1, 0), BAD);
        due("3: knows 256", x.crosser(0, 256, 0), BAD);
        due("3: comes -1", x.crosser(0, 0, -1), BAD);
        due("3: comes 41", x.crosser(0, 0, 41), BAD);
        for (int c = 0; c < 5; c++) due("3: number", x.crosser(c, 51 * c, 10 * c), c);
        due("3: full", x.crosser(0, 0, 0), FULL);
        due("3: bad is named first", x.crosser(0, 0, 41), BAD);
        due("3: kind", x.at(4, 0), 4);
        due("3: knows", x.at(4, 1), 204);
        due("3: comes", x.at(4, 2), 40);
        due("3: to come", x.at(4, 3), 0);
        due("3: set", x.count(4), 31);
    }

    private static void p4Of() {
        FordQuestions x = fordOf("c7d2!");
        due("4: topic", x.of(0, 0), 2);
        due("4: hard", x.of(0, 1), 7);
        due("4: not asked", x.of(0, 2), 0);
        due("4: asked", x.of(1, 2), 1);
        due("4: question -1", x.of(-1, 0), BAD);
        due("4: question 2", x.of(2, 0), BAD);
        due("4: far", x.of(GREATEST, 0), BAD);
        due("4: what -1", x.of(0, -1), BAD);
        due("4: what 3", x.of(0, 3), BAD);
    }

    private static void p5At() {
        FordQuestions x = fordOf("a3;d:bh@2,g");
        due("5: kind", x.at(0, 0), 3);
        due("5: knows", x.at(0, 1), 130);
        due("5: comes", x.at(0, 2), 2);
        due("5: to come", x.at(0, 3), 0);
        due("5: not in", x.at(0, 4), NONE);
        x.later(1, 3);
        x.hours(3);
        due("5: in", x.at(0, 3), 1);
        due("5: till", x.at(0, 4), 8);
        x.hours(5);
        due("5: over", x.at(0, 3), 2);
        due("5: in no more", x.at(0, 4), NONE);
        due("5: over at once", x.at(1, 3), 2);
        due("5: never in", x.at(1, 4), NONE);
        due("5: crosser 2", x.at(2, 0), BAD);
        due("5: crosser -1", x.at(-1, 0), BAD);
        due("5: what -1", x.at(0, -1), BAD);
        due("5: what 5", x.at(0, 5), BAD);
    }

    private static void p6Takes() {
        FordQuestions x = fordOf("a9b1c2d9!;p:a@9,s:a@9,r:a@9,d:a@9,g:a@9");
        int[] known = {1, 1, 1, 1, 1};
        int[] hard9 = {9, 18, 2, 18, 1};
        int[] hard1 = {1, 2, 1, 2, 1};
        int[] hard2 = {2, 4, 2, 4, 1};
        for (int c = 0; c < 5; c++) {
            due("6: known, kind " + c, x.takes(c, 0), known[c]);
            due("6: of 1, kind " + c, x.takes(c, 1), hard1[c]);
            due("6: of 2, kind " + c, x.takes(c, 2), hard2[c]);
            due("6: of 9, asked, kind " + c, x.takes(c, 3), hard9[c]);
        }
        x.hours(1);
        due("6: a gypsy in an odd hour", x.takes(4, 3), 2);
        due("6: a gypsy in an odd hour who knows", x.takes(4, 0), 1);
        x = fordOf("a9a9a9;s,s,d");
        x.hours(1);
        due("6: a doctor counts the others, not himself", x.takes(2, 0), 20);
        due("6: a scholar does not", x.takes(0, 0), 18);
        x.teach(2, 0);
        due("6: a doctor who knows counts them too", x.takes(2, 0), 3);
        due("6: crosser", x.takes(3, 0), BAD);
        due("6: crosser -1", x.takes(-1, 0), BAD);
        due("6: question", x.takes(0, 3), BAD);
        due("6: question -1", x.takes(0, -1), BAD);
    }

    private static void p7Type() {
        FordQuestions x = new FordQuestions();
        due("7: 31", x.type(31), BAD);
        due("7: 127", x.type(127), BAD);
        due("7: far", x.type(LEAST), BAD);
        for (int n = 1; n <= 90; n++) due("7: how many", x.type(n % 2 == 0 ? 32 : 126), n);
        due("7: full", x.type(97), FULL);
        due("7: bad is named first", x.type(31), BAD);
        due("7: read", x.ford(), -20);
        due("7: empty then", x.type(97), 1);
    }

    private static void p8Ford() {
        String[] texts = {"", " ", "   ", "x", "a", "a0", "a 0", "a12", "aa", "a1", " a 1 ", "a1 !", "a1!!", "a1a", "a1 b",
            "a1b2c3d4e5f6g7h8", "a1b2c3d4e5f6g7h8a1", "a1b2c3d4e5f6g7h8!;p", "i1", "A1", "a1;", "a1; ", "a1;;", "a1;q", "a1,p",
            "a1;p", "a1;pp", "a1;p,", "a1;p,s,r,d,g", "a1;p,s,r,d,g,p", "a1;p:", "a1;p: ", "a1;p:i", "a1;p:aa", "a1;p:ba",
            "a1;p:a b", "a1;p:abcdefgh", "a1;p:abcdefgha", "a1;p:@1", "a1;p@", "a1;p@ ", "a1;p@ 7", "a1;p@x", "a1;p@40", "a1;p@41", "a1;p@ 99",
            "a1;p@400", "a1;p@123", "a1;p@1 2", "a1;p@007", "a1;p@07", "a1;p@1:a", "a1;p@1@2", "a1;p:a@1,s", "a1;p!", "a1;p;", "a1;p@5,", "a1;p@-1",
            "a1;p@412", "a1 ;p : a @ 5 , s"};
        int[] answers = {-20, -21, -23, -20, -21, -21, -22, -22, -21, 1, 1, 1, -23, -23, -24,
            8, -36, 8, -20, -20, -23, -24, -23, -23, -22,
            1, -24, -25, 1, -32, -25, -26, -25, -26, -26,
            1, 1, -33, -25, -25, -26, 1, -25, 1, -25, -26,
            -27, -27, -27, -27, 1, -26, -26, 1, -24, -24, -27, -25,
            -25, 1};
        for (int k = 0; k < texts.length; k++) {
            due("8: \"" + texts[k] + "\"", told(new FordQuestions(), texts[k]), answers[k]);
        }
        due("8: as many answers as texts", answers.length, texts.length);
        FordQuestions x = fordOf("a7c4!h9;p:ab@1,s:c,r@2,d:f@40,g:h@09");
        due("8: questions", x.count(0), 3);
        due("8: crossers", x.count(1), 5);
        due("8: asked", x.count(3), 2);
        int[] knows = {3, 4, 0, 32, 128};
        int[] comes = {1, 0, 2, 40, 9};
        for (int c = 0; c < 5; c++) {
            due("8: kind", x.at(c, 0), c);
            due("8: knows", x.at(c, 1), knows[c]);
            due("8: comes", x.at(c, 2), comes[c]);
        }
        x.seed(77);
        x.hours(3);
        due("8: a fault", told(x, "a1;x"), -23);
        due("8: all else stays", x.count(2), 3);
        due("8: the asked stay", x.count(3), 7);
        due("8: what may be undone stays", x.count(7), 3);
        due("8: the tape does not", x.type(97), 1);
        x.type('5');
        due("8: in place of all", x.ford(), 1);
        due("8: hour 0", x.count(2), 0);
        due("8: no crossers", x.count(1), 0);
        due("8: none asked", x.count(3), 0);
        due("8: nothing to be undone", x.undo(), NONE);
        due("8: the draw stays", x.seed(1), 77);
    }

    private static void p9Count() {
        FordQuestions x = fordOf("a3b1!;p,s@1,r@9");
        due("9: over", x.hours(2), 2);
        int[] answers = {2, 3, 2, 3, 4, 1, 2, 2};
        for (int w = 0; w < 8; w++) due("9: count(" + w + ")", x.count(w), answers[w]);
        due("9: -1", x.count(-1), BAD);
        due("9: 8", x.count(8), BAD);
    }

    private static void p10Hours() {
        FordQuestions x = fordOf("a2b3;p,p,d@1");
        due("10: 0", x.hours(0), BAD);
        due("10: 41", x.hours(41), BAD);
        due("10: far", x.hours(LEAST), BAD);
        due("10: still in", x.hours(1), 0);
        due("10: the first question is the first one's", x.at(0, 4), 2);
        due("10: the second the second's", x.at(1, 4), 3);
        due("10: none left, over at once", x.hours(1), 5);
        due("10: then", x.hours(1), 7);
        due("10: each may be undone", x.count(7), 3);
        x = fordOf("a2a2a2;d,d,d");
        x.hours(1);
        due("10: those who came in this hour count", x.at(0, 4), 4);
        due("10: one ahead", x.at(1, 4), 5);
        due("10: two ahead", x.at(2, 4), 6);
        x = fordOf("a1a4;p,d@1");
        x.hours(2);
        due("10: who is over does not count", x.at(1, 4), 9);
        x = fordOf("a9a9;g,g@1");
        x.hours(2);
        due("10: a gypsy in hour 0", x.at(0, 3), 2);
        due("10: a gypsy in hour 1", x.at(1, 4), 3);
        x = fordOf("a9b9;p@9,p@9");
        for (int k = 0; k < 8; k++) x.crosser(0, 0, 9);
        for (int k = 0; k < 8; k++) x.question(0, 1);
        due("10: a full ford", x.hours(40), 31);
        due("10: five are asked", x.count(3), 31);
        x = new FordQuestions();
        for (int k = 0; k < 249; k++) x.hours(40);
        due("10: 9960", x.count(2), 9960);
        due("10: above 9999", x.hours(40), FULL);
        due("10: bad is named first", x.hours(41), BAD);
        due("10: 9999", x.hours(39), 0);
        due("10: one more", x.hours(1), FULL);
        due("10: of a drift, too", x.drift(1), FULL);
        due("10: it stays", x.count(2), 9999);
        due("10: foretold all the same", x.then(100, 0), 0);
        due("10: undone", x.undo(), 7);
        due("10: there is room then", x.hours(1), 0);
    }

    private static void p11Teach() {
        FordQuestions x = fordOf("a5a5;p:b,p@2");
        due("11: crosser", x.teach(2, 0), BAD);
        due("11: crosser -1", x.teach(-1, 0), BAD);
        due("11: topic 8", x.teach(0, 8), BAD);
        due("11: topic -1", x.teach(0, -1), BAD);
        due("11: topic 32", x.teach(0, 32), BAD);
        due("11: knows it", x.teach(0, 1), NOT);
        due("11: nothing to be undone", x.count(7), 0);
        due("11: h", x.teach(0, 7), 130);
        x.hours(1);
        due("11: who is in", x.teach(0, 0), 131);
        due("11: his question is as it was", x.at(0, 4), 5);
        due("11: undone", x.undo(), 2);
        due("11: he knows it no more", x.at(0, 1), 130);
    }

    private static void p12Later() {
        FordQuestions x = fordOf("a5;p@3,p");
        due("12: crosser", x.later(2, 0), BAD);
        due("12: comes 41", x.later(0, 41), BAD);
        due("12: comes -1", x.later(0, -1), BAD);
        due("12: it is so", x.later(0, 3), NOT);
        due("12: earlier", x.later(0, 1), 3);
        due("12: later", x.later(0, 40), 1);
        due("12: comes", x.at(0, 2), 40);
        x.hours(1);
        due("12: he is in", x.later(1, 5), NOT);
        due("12: bad is named first", x.later(1, 41), BAD);
        due("12: undone", x.undo(), 2);
        due("12: undone", x.undo(), 1);
        due("12: comes", x.at(0, 2), 1);
    }

    private static void p13Again() {
        FordQuestions x = fordOf("a5!b4c3!");
        due("13: no such", x.again(3), BAD);
        due("13: -1", x.again(-1), BAD);
        due("13: not asked", x.again(1), NOT);
        due("13: again", x.again(0), 4);
        due("13: once", x.again(0), NOT);
        due("13: again", x.again(2), 0);
        due("13: undone", x.undo(), 1);
        due("13: asked", x.count(3), 4);
    }

    private static void p14Put() {
        FordQuestions x = fordOf("a5;p");
        due("14: no such", x.put(1, 5), BAD);
        due("14: -1", x.put(-1, 5), BAD);
        due("14: 0", x.put(0, 0), BAD);
        due("14: 10", x.put(0, 10), BAD);
        due("14: it is so", x.put(0, 5), NOT);
        due("14: was", x.put(0, 9), 5);
        due("14: is", x.of(0, 1), 9);
        due("14: takes", x.takes(0, 0), 9);
        due("14: undone", x.undo(), 0);
        due("14: is", x.of(0, 1), 5);
    }

    private static void p15Drift() {
        FordQuestions x = fordOf("a1!b1!c1!");
        due("15: 0", x.drift(0), BAD);
        due("15: 41", x.drift(41), BAD);
        due("15: none over", x.drift(1), 0);
        due("15: the draw", x.seed(1), 1103527590);
        due("15: by 128 it is 8621309, and 2 left over", x.count(3), 7);
        // 3 becomes 3310545735 + 12345, less 2147483648: 1163074432; by 128: 9086519 = 3 * 3028839 + 2
        x.seed(3);
        x.drift(1);
        due("15: the draw", x.seed(0), 1163074432);
        due("15: none again", x.count(3), 7);
        // 0 becomes 12345; by 128: 96, none left over; by 65536: 0
        due("15: over", x.drift(1), 0);
        due("15: the draw", x.seed(0), 12345);
        due("15: the first is free", x.count(3), 6);
        x = fordOf("a9!;p");
        x.seed(0);
        due("15: the question comes ahead of the hour", x.drift(1), 0);
        due("15: he is in by it", x.count(5), 1);
        due("15: one that may be undone", x.undo(), 0);
        due("15: to come", x.count(4), 1);
        due("15: asked", x.count(3), 1);
        due("15: the draw goes back, too", x.seed(4), 0);
        x = new FordQuestions();
        due("15: without questions", x.drift(2), 0);
        due("15: drawn twice", x.seed(1), (int) ((1103527590L * 1103515245L + 12345L) % 2147483648L));
        due("15: each by itself", x.count(7), 2);
    }

    private static void p16Undo() {
        FordQuestions x = fordOf("a5!b4;p@20");
        due("16: none", x.undo(), NONE);
        x.hours(4);
        x.teach(0, 0);
        x.later(0, 30);
        x.again(0);
        x.put(1, 9);
        x.drift(1);
        due("16: 8 are known", x.count(7), 8);
        x.seed(99);
        due("16: the drift", x.undo(), 7);
        due("16: the draw is as ahead of it", x.seed(1), 1);
        due("16: put", x.undo(), 6);
        due("16: hard", x.of(1, 1), 4);
        due("16: again", x.undo(), 5);
        due("16: asked", x.count(3), 1);
        due("16: later", x.undo(), 4);
        due("16: comes", x.at(0, 2), 20);
        due("16: taught", x.undo(), 3);
        due("16: knows", x.at(0, 1), 0);
        due("16: hours", x.undo(), 2);
        due("16: hours", x.undo(), 1);
        due("16: hours", x.undo(), 0);
        due("16: older ones are lost", x.undo(), NONE);
        due("16: hour", x.count(2), 1);
        x.hours(1);
        x.question(0, 1);
        due("16: a new question leaves nothing", x.undo(), NONE);
        x.hours(1);
        x.crosser(0, 0, 0);
        due("16: a new crosser leaves nothing", x.undo(), NONE);
        x.hours(1);
        x.question(9, 9);
        x.crosser(9, 9, 9);
        due("16: a refused one does not matter", x.count(7), 1);
        x = fordOf("a3;p");
        x.hours(3);
        due("16: over", x.count(6), 1);
        x.undo();
        due("16: in", x.at(0, 4), 3);
        x.undo();
        x.undo();
        due("16: to come", x.count(4), 1);
        due("16: not asked", x.count(3), 0);
    }

    private static void p17Seed() {
        FordQuestions x = new FordQuestions();
        due("17: -1", x.seed(-1), BAD);
        due("17: far", x.seed(LEAST), BAD);
        due("17: at first", x.seed(0), 1);
        due("17: was 0", x.seed(GREATEST), 0);
        due("17: was greatest", x.seed(7), GREATEST);
        due("17: not to be undone", x.count(7), 0);
    }

    private static void p18Then() {
        FordQuestions x = fordOf("a3b2;p,r@2,s@2");
        due("18: in, 0", x.then(0, 0), 0);
        due("18: in, 1", x.then(1, 0), 1);
        due("18: in, 2", x.then(2, 0), 1);
        due("18: in, 3", x.then(3, 0), 2);
        due("18: over, 3", x.then(3, 1), 5);
        due("18: over, 100", x.then(100, 1), 7);
        due("18: asked, 2", x.then(2, 2), 1);
        due("18: asked, 3", x.then(3, 2), 3);
        due("18: nothing is changed", x.count(2), 0);
        due("18: nothing to be undone", x.count(7), 0);
        due("18: -1", x.then(-1, 0), BAD);
        due("18: 101", x.then(101, 0), BAD);
        due("18: what 3", x.then(0, 3), BAD);
        due("18: what -1", x.then(0, -1), BAD);
    }

    private static void p19Crosses() {
        FordQuestions x = fordOf("a3b9;p@5,s@40,g@40");
        due("19: 5 and 3", x.crosses(0), 8);
        due("19: 40 and 18", x.crosses(1), 58);
        due("19: none is left", x.crosses(2), 41);
        x.hours(6);
        due("19: from now", x.crosses(0), 2);
        x.hours(2);
        due("19: over", x.crosses(0), 0);
        due("19: no such", x.crosses(3), BAD);
        due("19: -1", x.crosses(-1), BAD);
    }

    private static void p20Last() {
        FordQuestions x = fordOf("a3b9;p@5,s@40");
        due("20: the latest", x.last(), 58);
        x.hours(40);
        due("20: from now", x.last(), 18);
        x.hours(18);
        due("20: all are over", x.last(), 0);
        due("20: nobody", fordOf("a1").last(), 0);
    }

    private static void p21Most() {
        FordQuestions x = fordOf("a3b9c9;p@5,s@6,s@6");
        due("21: how many", x.most(0), 3);
        due("21: when", x.most(1), 7);
        x = fordOf("a2b2;p,p@10");
        due("21: one", x.most(0), 1);
        due("21: first", x.most(1), 1);
        x.hours(1);
        due("21: now", x.most(1), 0);
        x = fordOf("a1;p");
        due("21: none is in behind any", x.most(0), 0);
        due("21: behind none", x.most(1), 0);
        due("21: -1", x.most(-1), BAD);
        due("21: 2", x.most(2), BAD);
    }

    private static void p22Best() {
        FordQuestions x = fordOf("a9b8;p:b,p:a");
        due("22: as they stand", x.last(), 9);
        due("22: crosswise", x.best(-1), 1);
        due("22: b", x.best(0), 1);
        due("22: a", x.best(1), 0);
        x = fordOf("a2b2c2;p,p@9");
        due("22: of like ones the first", x.best(0), 0);
        due("22: of like ones the first", x.best(1), 1);
        due("22: last", x.best(-1), 11);
        x = fordOf("a9b1;p@3,p@4,p@4");
        due("22: 9 first or last", x.best(-1), 12);
        due("22: the first", x.best(0), 0);
        due("22: the second", x.best(1), 1);
        due("22: the latest of the greater number is asked none", x.best(2), NONE);
        x = fordOf("a9b8!;p@8,p@7");
        due("22: who comes latest is asked none", x.best(0), NONE);
        due("22: the other", x.best(1), 0);
        due("22: last", x.best(-1), 16);
        x = fordOf("a9;p,p@1");
        x.hours(1);
        due("22: in", x.best(0), NONE);
        due("22: asked none", x.best(1), NONE);
        due("22: last by who is in", x.best(-1), 8);
        // d comes behind p and counts him if he is still in: by b he's over
        x = fordOf("a4b1c1;d@1,p");
        due("22: rising by number, not by coming", x.best(0), 1);
        due("22: the first that is as soon", x.best(1), 2);
        due("22: last", x.best(-1), 3);
        // by a the first one is still in when the doctor comes, by b he is over, but then a takes the doctor 6
        x = fordOf("a3b1;p,d@1");
        due("22: a doctor counts who is in", x.best(-1), 4);
        due("22: a", x.best(0), 0);
        x = fordOf("a3!b1;p,d@1");
        due("22: who is asked none is over behind his hour", x.best(-1), 2);
        x = fordOf("a9b9;g@1,g@2");
        due("22: a gypsy by the hour of his coming", x.best(-1), 3);
        due("22: nobody", fordOf("a1").best(-1), 0);
        due("22: -2", x.best(-2), BAD);
        due("22: no such", x.best(2), BAD);
        due("22: far", x.best(LEAST), BAD);
        due("22: nobody", fordOf("a1").best(0), BAD);
        x = fordOf("a9b8c7d6e5f4g3h2;d,g,d,s,d");
        due("22: nothing is changed", x.best(-1) > 0 ? x.count(3) : -9, 0);
    }

    private static void p23Teaches() {
        FordQuestions x = fordOf("a9b8;p:a,p");
        due("23: the second learns b", x.teaches(0), 11);
        due("23: last", x.teaches(1), 1);
        due("23: nothing is changed", x.at(1, 1), 0);
        x = fordOf("h9;p@1");
        due("23: h", x.teaches(0), 7);
        due("23: last", x.teaches(1), 2);
        x = fordOf("a1;p:a");
        due("23: it need not help", x.teaches(0), 1);
        due("23: last", x.teaches(1), 1);
        x = fordOf("a1;p:abcdefgh");
        due("23: who knows all", x.teaches(0), NONE);
        due("23: who knows all", x.teaches(1), NONE);
        x = fordOf("a9;p");
        x.hours(1);
        due("23: who is in", x.teaches(0), NONE);
        due("23: -1", x.teaches(-1), BAD);
        due("23: 2", x.teaches(2), BAD);
    }

    private static void p24Spare() {
        FordQuestions x = fordOf("a9b8c1;p,p");
        due("24: without the first", x.spare(0), 0);
        due("24: last", x.spare(1), 8);
        due("24: nothing is changed", x.count(3), 0);
        x = fordOf("a2b2!c2d9;p");
        due("24: of like ones the first", x.spare(0), 0);
        due("24: last", x.spare(1), 2);
        x = fordOf("b2!a2a9c2;p,p");
        due("24: the one that helps", x.spare(0), 2);
        due("24: last", x.spare(1), 2);
        x = fordOf("a2!;p");
        due("24: none", x.spare(0), NONE);
        due("24: none", x.spare(1), NONE);
        due("24: -1", x.spare(-1), BAD);
        due("24: 2", x.spare(2), BAD);
    }

    private static void p25Before() {
        // a of 9 from 0, b of 1 from 8: over at 9 either way; at 7 he would still be asked ahead of the other
        FordQuestions x = fordOf("a9b1;p@2,p@7");
        due("25: behind the other, for b", x.before(0), 8);
        due("25: at once", fordOf("a3;p@5").before(0), 0);
        // at 0 he is a gypsy of an even hour: over at 1; at none but 0 he's over at 1
        due("25: a gypsy", fordOf("a9;g@5").before(0), 0);
        // the other has a from hour 0 on, so none is left: over at 1 from hour 0
        due("25: none is left", fordOf("a9;p,p@9").before(1), 0);
        x = fordOf("a3b1;p@9,p@2");
        due("25: b is too late", x.before(0), 0);
        x.hours(1);
        due("25: from now on", x.before(1), 1);
        x.hours(2);
        due("25: he is in", x.before(1), NONE);
        due("25: no such", x.before(2), BAD);
        due("25: -1", x.before(-1), BAD);
        x = new FordQuestions();
        x.hours(40);
        x.crosser(0, 0, 0);
        due("25: hour 40", x.before(0), 40);
        x = new FordQuestions();
        x.hours(40);
        x.hours(1);
        x.crosser(0, 0, 0);
        due("25: no hour is left", x.before(0), NONE);
    }

    private static void p26Cramp() {
        FordQuestions x = fordOf("a1a2a2a3a9;p@1,p,p,p,p");
        x.hours(1);
        // in: 1 till 1? the first question is the second crosser's: over; till 2, 2, 3
        due("26: in", x.count(5), 28);
        due("26: at least 0", x.cramp(0, 3, 0), 1);
        due("26: at least 1", x.cramp(1, 3, 0), 1);
        due("26: at least 1", x.cramp(1, 3, 1), 1);
        due("26: one of two", x.cramp(2, 3, 0), 51);
        due("26: one of two", x.cramp(2, 3, 1), 100);
        due("26: both", x.cramp(3, 3, 0), 9);
        due("26: both", x.cramp(3, 3, 1), 100);
        due("26: lowest terms", x.cramp(3, 5, 0), 1);
        due("26: lowest terms", x.cramp(3, 5, 1), 4);
        due("26: more than are in", x.cramp(4, 5, 0), 0);
        due("26: more than are in", x.cramp(4, 5, 1), 1);
        due("26: never", x.cramp(2, 0, 0), 0);
        due("26: always", x.cramp(3, 10, 0), 1);
        due("26: always", x.cramp(3, 10, 1), 1);
        due("26: m -1", x.cramp(-1, 0, 0), BAD);
        due("26: m 6", x.cramp(6, 0, 0), BAD);
        due("26: c -1", x.cramp(0, -1, 0), BAD);
        due("26: c 11", x.cramp(0, 11, 0), BAD);
        due("26: what -1", x.cramp(0, 0, -1), BAD);
        due("26: what 2", x.cramp(0, 0, 2), BAD);
        x = fordOf("a2a2a2a2a2;p,p,p,p,p");
        x.hours(1);
        due("26: all five", x.cramp(5, 3, 0), 243);
        due("26: all five", x.cramp(5, 3, 1), 100000);
    }

    private static void p27Image() {
        FordQuestions x = fordOf("a5;p@3");
        x.type('b');
        x.sheet(0, 0, 3);
        due("27: image", x.image(), 1);
        x.type('1');
        x.sheet(0, 1, 4);
        x.hours(1);
        due("27: image", x.restore(), 1);
        due("27: the tape stays", x.type('!'), 3);
        due("27: sheets stay", x.drop(0), 4);
        due("27: the hour does not", x.count(2), 0);
    }

    private static void p28Restore() {
        FordQuestions x = fordOf("a5b4;p@3");
        due("28: none", x.restore(), NONE);
        x.seed(5);
        x.hours(4);
        x.image();
        x.hours(9);
        x.seed(6);
        x.put(0, 9);
        told(x, "c1c1c1;s,s");
        due("28: back", x.restore(), 1);
        due("28: questions", x.count(0), 2);
        due("28: crossers", x.count(1), 1);
        due("28: hour", x.count(2), 4);
        due("28: hard", x.of(0, 1), 5);
        due("28: in", x.at(0, 4), 8);
        due("28: the draw", x.seed(7), 5);
        due("28: what may be undone", x.count(7), 4);
        due("28: it is undone", x.undo(), 3);
        due("28: to come", x.count(4), 1);
        due("28: hour", x.count(2), 3);
        due("28: as often as you like", x.restore(), 1);
        due("28: hour", x.count(2), 4);
        due("28: and undone once more", x.undo(), 3);
        due("28: hour", x.count(2), 3);
    }

    private static void p29Seen() {
        FordQuestions x = fordOf("a2;p@1");
        x.sheet(2, 1, 10);
        x.film(8, 2, 1, 2);
        // a plain one is in behind 2 hours, over behind 3: 0 1 0
        due("29: 0 1 0, plain or drummer or gypsy", x.seen(0, 2, 1, 2, 3, 0), 21);
        due("29: a is not known", x.seen(0, 2, 1, 2, 3, 1), 128);
        due("29: the least", x.seen(0, 2, 1, 2, 3, 2), 0);
        x.item(2, 1, 3, 0);
        due("29: 0 0 0", x.seen(0, 2, 1, 2, 3, 0), 0);
        due("29: who knows a", x.seen(0, 2, 1, 2, 3, 1), 128);
        due("29: the least", x.seen(0, 2, 1, 2, 3, 2), 1);
        x.item(2, 1, 3, 65537);
        due("29: the lowest bits", x.seen(0, 2, 1, 2, 3, 0), 21);
        x.item(2, 1, 3, 9);
        due("29: no kind", x.seen(0, 2, 1, 2, 3, 0), 0);
        due("29: no set", x.seen(0, 2, 1, 2, 3, 1), 0);
        due("29: no least", x.seen(0, 2, 1, 2, 3, 2), NONE);
        due("29: he is as he was", x.at(0, 0) + x.at(0, 1), 0);
        due("29: crosser", x.seen(1, 2, 1, 0, 1, 0), BAD);
        due("29: crosser -1", x.seen(-1, 2, 1, 0, 1, 0), BAD);
        due("29: sheet 4", x.seen(0, 4, 1, 0, 1, 0), BAD);
        due("29: sheet -1", x.seen(0, -1, 1, 0, 1, 0), BAD);
        due("29: lane 4", x.seen(0, 2, 4, 0, 1, 0), BAD);
        due("29: lane -1", x.seen(0, 2, -1, 0, 1, 0), BAD);
        due("29: n 0", x.seen(0, 2, 1, 0, 0, 0), BAD);
        due("29: n 9", x.seen(0, 2, 1, 0, 9, 0), BAD);
        due("29: what 3", x.seen(0, 2, 1, 0, 1, 3), BAD);
        due("29: what -1", x.seen(0, 2, 1, 0, 1, -1), BAD);
        due("29: nothing", x.seen(0, 0, 0, -1, 1, 0), NULL);
        due("29: another lane", x.seen(0, 2, 0, -1, 1, 0), CAST);
        due("29: i -1", x.seen(0, 2, 1, -1, 1, 0), INDEX);
        due("29: i far", x.seen(0, 2, 1, GREATEST, 8, 0), INDEX);
        due("29: one too many", x.seen(0, 2, 1, 8, 3, 0), INDEX);
        due("29: the last two", x.seen(0, 2, 1, 8, 2, 1), 128);
    }

    private static void p30Film() {
        FordQuestions x = fordOf("a2b5;p@1,p@1");
        x.sheet(1, 0, 24);
        due("30: n", x.film(6, 1, 0, 1), 6);
        due("30: nothing is changed", x.count(2), 0);
        // behind 1 hour 0, 2 hours 2, 3 .. 5 hours 1, 6 hours 0; seen of the second one: 0 2 1 1 1 0
        due("30: seen", x.seen(1, 1, 0, 1, 6, 0), 1);
        due("30: only there", x.seen(1, 1, 0, 0, 1, 1), 256);
        due("30: and not there", x.seen(1, 1, 0, 2, 1, 1), 0);
        due("30: n 0", x.film(0, 1, 0, 0), BAD);
        due("30: n 25", x.film(25, 1, 0, 0), BAD);
        due("30: sheet 4", x.film(1, 4, 0, 0), BAD);
        due("30: lane 4", x.film(1, 1, 4, 0), BAD);
        due("30: lane -1", x.film(1, 1, -1, 0), BAD);
        due("30: nothing", x.film(1, 0, 0, 0), NULL);
        due("30: lane", x.film(1, 1, 1, -1), CAST);
        due("30: i -1", x.film(1, 1, 0, -1), INDEX);
        due("30: i 24", x.film(1, 1, 0, 24), INDEX);
        due("30: far", x.film(2, 1, 0, GREATEST), INDEX);
        due("30: all", x.film(24, 1, 0, 0), 24);
        due("30: the last", x.film(1, 1, 0, 23), 1);
        due("30: one too many", x.film(2, 1, 0, 23), INDEX);
    }

    private static void p31Sheet() {
        FordQuestions x = fordOf("a1;p@40");
        due("31: sheet 4", x.sheet(4, 0, 1), BAD);
        due("31: sheet -1", x.sheet(-1, 0, -1), BAD);
        due("31: lane 4", x.sheet(0, 4, 1), BAD);
        due("31: lane -1", x.sheet(0, -1, 1), BAD);
        due("31: 25", x.sheet(0, 0, 25), BAD);
        due("31: -1", x.sheet(0, 0, -1), SIZE);
        due("31: far", x.sheet(0, 0, LEAST), SIZE);
        due("31: still nothing", x.drop(0), NULL);
        due("31: 0", x.sheet(0, 0, 0), 0);
        due("31: it holds no item", x.item(0, 0, 0, 1), INDEX);
        due("31: 24", x.sheet(0, 3, 24), 24);
        x.item(0, 3, 5, 7);
        due("31: refused", x.sheet(0, 3, -1), SIZE);
        due("31: it is as it was", x.seen(0, 0, 3, 5, 1, 1), 0);
        due("31: a new row", x.sheet(0, 3, 6), 6);
        due("31: of noughts", x.seen(0, 0, 3, 5, 1, 1), 256);
    }

    private static void p32Drop() {
        FordQuestions x = new FordQuestions();
        due("32: sheet 4", x.drop(4), BAD);
        due("32: sheet -1", x.drop(-1), BAD);
        due("32: nothing", x.drop(3), NULL);
        x.sheet(3, 2, 7);
        due("32: had 7", x.drop(3), 7);
        due("32: nothing then", x.drop(3), NULL);
        x.sheet(3, 2, 0);
        due("32: had 0", x.drop(3), 0);
        due("32: nothing then", x.item(3, 2, 0, 0), NULL);
    }

    private static void p33Item() {
        FordQuestions x = fordOf("a1;p@40");
        long[] bits = {256L, 65536L, 4294967296L, 1L};
        for (int lane = 0; lane < 4; lane++) {
            x.sheet(lane, lane, 2);
            due("33: becomes", x.item(lane, lane, 1, bits[lane]), 1);
            due("33: its lowest bits, lane " + lane, x.seen(0, lane, lane, 1, 1, 1), lane == 3 ? 0 : 256);
            due("33: less", x.item(lane, lane, 1, bits[lane] / 2), 1);
            due("33: are all there, lane " + lane, x.seen(0, lane, lane, 1, 1, 1), lane == 3 ? 256 : 0);
        }
        x.item(3, 3, 0, 1L << 40);
        due("33: longs keep all", x.seen(0, 3, 3, 0, 1, 1), 0);
        x.drop(0);
        due("33: sheet 4", x.item(4, 0, 0, 0), BAD);
        due("33: lane 4", x.item(1, 4, 0, 0), BAD);
        due("33: lane -1", x.item(0, -1, 0, 0), BAD);
        due("33: nothing", x.item(0, 0, -1, 0), NULL);
        due("33: lane", x.item(1, 0, -1, 0), CAST);
        due("33: -1", x.item(1, 1, -1, 0), INDEX);
        due("33: 2", x.item(1, 1, 2, 0), INDEX);
        due("33: far", x.item(1, 1, LEAST, 0), INDEX);
    }

    private static void p34Copy() {
        FordQuestions x = fordOf("a4b3;p,p");
        x.sheet(0, 2, 8);
        x.sheet(1, 2, 8);
        x.sheet(2, 1, 8);
        // behind 1 hour 2, 2 hours 2, 3 hours 1, 4 hours 0
        x.film(4, 0, 2, 0);
        due("34: n", x.copy(0, 0, 1, 4, 4), 4);
        due("34: come", x.seen(0, 1, 2, 4, 4, 0), 1);
        due("34: the source stays", x.seen(0, 0, 2, 0, 4, 0), 1);
        due("34: the same, forward", x.copy(0, 0, 0, 2, 5), 5);
        due("34: taken ahead", x.seen(0, 0, 2, 2, 4, 0), 1);
        due("34: the same, backward", x.copy(0, 2, 0, 1, 5), 5);
        due("34: taken ahead", x.seen(0, 0, 2, 1, 4, 0), 1);
        due("34: none", x.copy(0, 8, 1, 8, 0), 0);
        due("34: from 4", x.copy(4, 0, 1, 0, 1), BAD);
        due("34: to 4", x.copy(0, 0, 4, 0, 1), BAD);
        due("34: from -1", x.copy(-1, 0, 3, 0, 1), BAD);
        due("34: from nothing", x.copy(3, -1, 0, 0, 1), NULL);
        due("34: to nothing", x.copy(0, -1, 3, 0, 1), NULL);
        due("34: unlike lanes", x.copy(0, -1, 2, 0, 1), CAST);
        due("34: i -1", x.copy(0, -1, 1, 0, 1), INDEX);
        due("34: j -1", x.copy(0, 0, 1, -1, 1), INDEX);
        due("34: n -1", x.copy(0, 0, 1, 0, -1), INDEX);
        due("34: i 9, none", x.copy(0, 9, 1, 0, 0), INDEX);
        due("34: j 9, none", x.copy(0, 0, 1, 9, 0), INDEX);
        due("34: one too many here", x.copy(0, 5, 1, 0, 4), INDEX);
        due("34: one too many there", x.copy(0, 0, 1, 5, 4), INDEX);
        due("34: far", x.copy(0, GREATEST, 1, 1, 1), INDEX);
        due("34: far", x.copy(0, 1, 1, GREATEST, GREATEST), INDEX);
        due("34: far", x.copy(0, 1, 1, 1, LEAST), INDEX);
        due("34: what is refused changes nothing", x.seen(0, 1, 2, 4, 4, 0), 1);
    }

    public static void main(String[] args) {
        p1NewObject(); p2Question(); p3Crosser(); p4Of(); p5At(); p6Takes(); p7Type(); p8Ford(); p9Count();
        p10Hours(); p11Teach(); p12Later(); p13Again(); p14Put(); p15Drift(); p16Undo(); p17Seed();
        p18Then(); p19Crosses(); p20Last(); p21Most(); p22Best(); p23Teaches(); p24Spare(); p25Before(); p26Cramp();
        p27Image(); p28Restore(); p29Seen(); p30Film(); p31Sheet(); p32Drop(); p33Item(); p34Copy();
        finish();
    }
}
