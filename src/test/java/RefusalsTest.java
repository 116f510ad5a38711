import java.util.function.Supplier;

/**
 * Every refusal that a promise names for a reason other than a number's range, beside the nearest call
 * that is not refused; of several reasons the first that the call names; and nothing changes by any.
 */
public final class RefusalsTest extends Checks {
    private static FordQuestions fullFord() {
        FordQuestions x = fordOf("a1b2c3d4e5f6g7;p,s,r,d");
        x.question(7, 9);
        x.crosser(4, 0, 0);
        x.hours(2);
        return x;
    }

    private static FordQuestions fullTape() {
        FordQuestions x = busy();
        for (int n = 2; n < 90; n++) x.type(' ');
        return x;
    }

    /** At an hour that hours of 40 reach, and the rest behind it. */
    private static FordQuestions atHour(int hour) {
        FordQuestions x = new FordQuestions();
        for (int k = 0; k < hour / 40; k++) x.hours(40);
        if (hour % 40 > 0) x.hours(hour % 40);
        return x;
    }

    private static void full() {
        FordQuestions x = fordOf("a1b2c3d4e5f6g7;p,s,r,d");
        due("2: the eighth", x.question(0, 1), 7);
        due("3: the fifth", x.crosser(0, 0, 0), 4);
        unchanged("2: the ninth", RefusalsTest::fullFord, y -> y.question(0, 1), FULL);
        unchanged("3: the sixth", RefusalsTest::fullFord, y -> y.crosser(0, 0, 0), FULL);
        unchanged("2: BAD ahead of FULL", RefusalsTest::fullFord, y -> y.question(8, 1), BAD);
        unchanged("2: BAD ahead of FULL", RefusalsTest::fullFord, y -> y.question(0, 0), BAD);
        unchanged("3: BAD ahead of FULL", RefusalsTest::fullFord, y -> y.crosser(5, 0, 0), BAD);
        unchanged("3: BAD ahead of FULL", RefusalsTest::fullFord, y -> y.crosser(0, 256, 0), BAD);
        unchanged("3: BAD ahead of FULL", RefusalsTest::fullFord, y -> y.crosser(0, 0, 41), BAD);
        x = new FordQuestions();
        for (int n = 1; n <= 90; n++) due("7: letter " + n, x.type(' '), n);
        unchanged("7: letter 91", RefusalsTest::fullTape, y -> y.type(' '), FULL);
        unchanged("7: letter 91", RefusalsTest::fullTape, y -> y.type('x'), FULL);
        unchanged("7: BAD ahead of FULL", RefusalsTest::fullTape, y -> y.type(31), BAD);
        unchanged("7: BAD ahead of FULL", RefusalsTest::fullTape, y -> y.type(127), BAD);
    }

    private static void hoursAbove9999() {
        due("10: to 9999", atHour(9960).hours(39), 0);
        due("15: to 9999", atHour(9960).drift(39), 0);
        unchanged("10: to 10000", () -> atHour(9960), x -> x.hours(40), FULL);
        unchanged("15: to 10000", () -> atHour(9960), x -> x.drift(40), FULL);
        due("10: from 9998", atHour(9998).hours(1), 0);
        due("15: from 9998", atHour(9998).drift(1), 0);
        for (int n : new int[] {1, 2, 40}) {
            unchanged("10: from 9999 by " + n, () -> atHour(9999), x -> x.hours(n), FULL);
            unchanged("15: from 9999 by " + n, () -> atHour(9999), x -> x.drift(n), FULL);
        }
        for (int n : new int[] {LEAST, -1, 0, 41, GREATEST}) {
            unchanged("10: BAD ahead of FULL, " + n, () -> atHour(9999), x -> x.hours(n), BAD);
            unchanged("15: BAD ahead of FULL, " + n, () -> atHour(9999), x -> x.drift(n), BAD);
        }
        FordQuestions x = atHour(9999);
        due("10: the hour", x.count(2), 9999);
        due("16: undone", x.undo(), 7);
        due("10: there is room again", x.drift(1), 0);
        due("10: the hour", x.count(2), 9999);
    }

    private static void not() {
        unchanged("11: he knows it", Checks::busy, x -> x.teach(0, 0), NOT);
        unchanged("11: he knows it", Checks::busy, x -> x.teach(2, 7), NOT);
        unchanged("11: BAD ahead of NOT", Checks::busy, x -> x.teach(4, 7), BAD);
        due("11: he does not", busy().teach(2, 6), 192);
        due("11: who is in may be taught", busy().teach(0, 1), 3);
        due("11: who is over may be taught", busy().teach(3, 0), 1);
        FordQuestions knowing = fordOf("a1;p:abcdefg");
        due("11: all", knowing.teach(0, 7), 255);
        for (int t = 0; t < 8; t++) due("11: he knows all", knowing.teach(0, t), NOT);
        unchanged("12: it is so", Checks::busy, x -> x.later(2, 30), NOT);
        due("12: an hour more", busy().later(2, 31), 30);
        due("12: an hour less", busy().later(2, 29), 30);
        due("12: an hour that has passed", busy().later(2, 0), 30);
        unchanged("12: he is in", Checks::busy, x -> x.later(0, 5), NOT);
        unchanged("12: he is in, and it is so", Checks::busy, x -> x.later(0, 1), NOT);
        unchanged("12: he is over", Checks::busy, x -> x.later(3, 5), NOT);
        unchanged("12: he is over, and it is so", Checks::busy, x -> x.later(3, 2), NOT);
        unchanged("12: BAD ahead of NOT", Checks::busy, x -> x.later(0, 41), BAD);
        unchanged("12: BAD ahead of NOT", Checks::busy, x -> x.later(3, -1), BAD);
        unchanged("13: it is not asked", Checks::busy, x -> x.again(1), NOT);
        unchanged("14: it is so", Checks::busy, x -> x.put(0, 7), NOT);
        unchanged("14: it is so since", Checks::busy, x -> x.put(2, 8), NOT);
        due("14: less", busy().put(2, 7), 8);
        due("14: more", busy().put(2, 9), 8);
    }

    private static void none() {
        unchanged("16: nothing was done", () -> fordOf("a1;p"), FordQuestions::undo, NONE);
        unchanged("28: there is no image", RefusalsTest::fullFord, FordQuestions::restore, NONE);
        unchanged("5: he is in", Checks::busy, x -> x.at(0, 4), 10);
        unchanged("5: he is to come", Checks::busy, x -> x.at(2, 4), NONE);
        unchanged("5: he is over", Checks::busy, x -> x.at(3, 4), NONE);
        unchanged("22: he is in", Checks::busy, x -> x.best(0), NONE);
        unchanged("22: he is to come", Checks::busy, x -> x.best(2), 1);
        unchanged("22: he is over", Checks::busy, x -> x.best(3), NONE);
        unchanged("25: he is in", Checks::busy, x -> x.before(1), NONE);
        unchanged("25: he is over", Checks::busy, x -> x.before(3), NONE);
        for (int what = 0; what < 2; what++) {
            int w = what;
            unchanged("23: nobody", () -> fordOf("a1"), x -> x.teaches(w), NONE);
            unchanged("23: he knows all", () -> fordOf("a1;p:abcdefgh"), x -> x.teaches(w), NONE);
            unchanged("23: he knows all but h", () -> fordOf("a1;p:abcdefg"), x -> x.teaches(w), w == 0 ? 7 : 1);
            unchanged("23: nobody is to come", () -> passed("a5a1;p,p", 1), x -> x.teaches(w), NONE);
            unchanged("24: no question", FordQuestions::new, x -> x.spare(w), NONE);
            unchanged("24: all are asked", () -> fordOf("a1!b2!;p"), x -> x.spare(w), NONE);
            unchanged("24: all but one", () -> fordOf("a1!b2;p"), x -> x.spare(w), 1);
        }
        for (int w : new int[] {-1, 2, LEAST, GREATEST}) {
            unchanged("23: BAD where there is none, too", FordQuestions::new, x -> x.teaches(w), BAD);
            unchanged("24: BAD where there is none, too", FordQuestions::new, x -> x.spare(w), BAD);
            unchanged("21: BAD where nobody is, too", FordQuestions::new, x -> x.most(w), BAD);
        }
        unchanged("20: nobody", FordQuestions::new, FordQuestions::last, 0);
    }

    private static FordQuestions passed(String text, int hours) {
        FordQuestions x = fordOf(text);
        x.hours(hours);
        return x;
    }

    private static void ofAnEmptyFord() {
        Supplier<FordQuestions> empty = FordQuestions::new;
        for (int v : new int[] {-1, 0, 1, LEAST, GREATEST}) {
            unchanged("4: no question", empty, x -> x.of(v, 0), BAD);
            unchanged("5: no crosser", empty, x -> x.at(v, 0), BAD);
            unchanged("6: neither", empty, x -> x.takes(v, v), BAD);
            unchanged("11: no crosser", empty, x -> x.teach(v, 0), BAD);
            unchanged("12: no crosser", empty, x -> x.later(v, 0), BAD);
            unchanged("13: no question", empty, x -> x.again(v), BAD);
            unchanged("14: no question", empty, x -> x.put(v, 1), BAD);
            unchanged("19: no crosser", empty, x -> x.crosses(v), BAD);
            unchanged("25: no crosser", empty, x -> x.before(v), BAD);
            unchanged("29: no crosser", empty, x -> x.seen(v, 0, 0, 0, 1, 0), BAD);
        }
        unchanged("22: no crosser", empty, x -> x.best(0), BAD);
        unchanged("22: nobody is over at once", empty, x -> x.best(-1), 0);
        unchanged("22: below", empty, x -> x.best(-2), BAD);
    }

    private static void missingSheets() {
        for (int i : new int[] {LEAST, -1, 0, 24, GREATEST}) {
            unchanged("29: NULL ahead of INDEX", Checks::busy, x -> x.seen(0, 3, 0, i, 8, 0), NULL);
            unchanged("30: NULL ahead of INDEX", Checks::busy, x -> x.film(24, 3, 3, i), NULL);
            unchanged("33: NULL ahead of INDEX", Checks::busy, x -> x.item(3, 1, i, 5), NULL);
            unchanged("34: NULL ahead of INDEX", Checks::busy, x -> x.copy(3, i, 0, 0, 1), NULL);
            unchanged("34: NULL ahead of INDEX", Checks::busy, x -> x.copy(0, 0, 3, i, 1), NULL);
            unchanged("34: both are missing", Checks::busy, x -> x.copy(3, i, 3, i, i), NULL);
        }
        unchanged("32: nothing", Checks::busy, x -> x.drop(3), NULL);
        unchanged("29: BAD ahead of NULL", Checks::busy, x -> x.seen(4, 3, 0, 0, 1, 0), BAD);
        unchanged("29: BAD ahead of NULL", Checks::busy, x -> x.seen(0, 3, 4, 0, 1, 0), BAD);
        unchanged("29: BAD ahead of NULL", Checks::busy, x -> x.seen(0, 3, 0, 0, 9, 0), BAD);
        unchanged("29: BAD ahead of NULL", Checks::busy, x -> x.seen(0, 3, 0, 0, 1, 3), BAD);
        unchanged("30: BAD ahead of NULL", Checks::busy, x -> x.film(25, 3, 0, 0), BAD);
        unchanged("30: BAD ahead of NULL", Checks::busy, x -> x.film(1, 3, 4, 0), BAD);
        unchanged("33: BAD ahead of NULL", Checks::busy, x -> x.item(3, -1, 0, 5), BAD);
        unchanged("34: BAD ahead of NULL", Checks::busy, x -> x.copy(3, 0, 4, 0, 1), BAD);
        unchanged("34: BAD ahead of NULL", Checks::busy, x -> x.copy(-1, 0, 3, 0, 1), BAD);
        FordQuestions x = busy();
        due("32: dropped", x.drop(0), 10);
        due("32: it is missing then", x.item(0, 0, 0, 1), NULL);
        due("32: others are not", x.item(1, 1, 0, 1), 1);
        due("31: it is there again", x.sheet(0, 0, 1), 1);
        due("33: an item of it", x.item(0, 0, 0, 1), 1);
    }

    private static void otherLanes() {
        for (int lane = 0; lane < 4; lane++) {
            int as = lane;
            for (int of = 0; of < 4; of++) {
                int made = of;
                Supplier<FordQuestions> scene = () -> withSheet(made);
                boolean isAlike = as == made;
                unchanged("29: as of lane " + as + " of " + made, scene, x -> x.seen(0, 0, as, 0, 1, 1), isAlike ? 256 : CAST);
                unchanged("29: CAST ahead of INDEX", scene, x -> x.seen(0, 0, as, 4, 1, 1), isAlike ? INDEX : CAST);
                unchanged("30: CAST ahead of INDEX", scene, x -> x.film(1, 0, as, 4), isAlike ? INDEX : CAST);
                unchanged("33: CAST ahead of INDEX", scene, x -> x.item(0, as, -1, 5), isAlike ? INDEX : CAST);
                unchanged("34: CAST ahead of INDEX", scene, x -> unlike(x, as), isAlike ? INDEX : CAST);
                FordQuestions x = scene.get();
                due("33: as of lane " + as + " of " + made, x.item(0, as, 0, 1), isAlike ? 1 : CAST);
                due("30: as of lane " + as + " of " + made, x.film(1, 0, as, 0), isAlike ? 1 : CAST);
                x.sheet(2, as, 4);
                due("34: of lanes " + as + " and " + made, x.copy(2, 0, 0, 0, 4), isAlike ? 4 : CAST);
                due("34: of lanes " + made + " and " + as, x.copy(0, 0, 2, 0, 0), isAlike ? 0 : CAST);
            }
        }
        unchanged("29: BAD ahead of CAST", Checks::busy, x -> x.seen(0, 0, 1, 0, 0, 0), BAD);
        unchanged("30: BAD ahead of CAST", Checks::busy, x -> x.film(0, 0, 1, 0), BAD);
        unchanged("34: none of unlike lanes", Checks::busy, x -> x.copy(0, 0, 1, 0, 0), CAST);
        unchanged("34: NULL ahead of CAST", Checks::busy, x -> x.copy(3, 0, 1, 0, 1), NULL);
    }

    private static FordQuestions withSheet(int lane) {
        FordQuestions x = fordOf("a9;p@9");
        x.sheet(0, lane, 4);
        return x;
    }

    /** Leaves the new sheet missing again. */
    private static int unlike(FordQuestions x, int lane) {
        x.sheet(1, lane, 4);
        int answer = x.copy(1, 0, 0, 3, 2);
        x.drop(1);
        return answer;
    }

    private static void indicesAndSizes() {
        unchanged("29: BAD ahead of INDEX", Checks::busy, x -> x.seen(0, 0, 0, -1, 9, 0), BAD);
        unchanged("29: all n items must be there, though the first is unlike", Checks::busy, x -> x.seen(0, 1, 1, 0, 5, 0), INDEX);
        unchanged("30: BAD ahead of INDEX", Checks::busy, x -> x.film(25, 0, 0, -1), BAD);
        unchanged("30: one too many, none is written", Checks::busy, x -> x.film(5, 1, 1, 0), INDEX);
        unchanged("30: one too many, none is written", Checks::busy, x -> x.film(2, 1, 1, 3), INDEX);
        unchanged("30: far", Checks::busy, x -> x.film(24, 1, 1, GREATEST), INDEX);
        unchanged("29: far", Checks::busy, x -> x.seen(0, 1, 1, GREATEST, 8, 0), INDEX);
        unchanged("34: one too many, none comes", Checks::busy, x -> x.copy(1, 0, 1, 1, 4), INDEX);
        unchanged("34: one too many, none comes", Checks::busy, x -> x.copy(1, 2, 1, 0, 3), INDEX);
        unchanged("34: from the end, none", Checks::busy, x -> x.copy(1, 4, 1, 4, 0), 0);
        unchanged("34: from behind the end, none", Checks::busy, x -> x.copy(1, 5, 1, 0, 0), INDEX);
        unchanged("34: to behind the end, none", Checks::busy, x -> x.copy(1, 0, 1, 5, 0), INDEX);
        unchanged("34: of no items none", Checks::busy, x -> x.copy(2, 0, 2, 0, 0), 0);
        unchanged("34: of no items one", Checks::busy, x -> x.copy(2, 0, 2, 0, 1), INDEX);
        unchanged("34: of no items none from 1 on", Checks::busy, x -> x.copy(2, 1, 2, 0, 0), INDEX);
        unchanged("34: far and far", Checks::busy, x -> x.copy(1, GREATEST, 1, GREATEST, GREATEST), INDEX);
        unchanged("34: far and far", Checks::busy, x -> x.copy(1, LEAST, 1, LEAST, LEAST), INDEX);
        unchanged("34: a sum that wraps around", Checks::busy, x -> x.copy(1, 1, 1, 1, GREATEST), INDEX);
        unchanged("34: a sum that wraps around", Checks::busy, x -> x.copy(1, GREATEST, 1, 0, GREATEST), INDEX);
        unchanged("33: of no items the first", Checks::busy, x -> x.item(2, 3, 0, 5), INDEX);
        unchanged("29: of no items the first", Checks::busy, x -> x.seen(0, 2, 3, 0, 1, 0), INDEX);
        unchanged("30: of no items the first", Checks::busy, x -> x.film(1, 2, 3, 0), INDEX);
        unchanged("31: BAD ahead of SIZE, sheet", Checks::busy, x -> x.sheet(4, 0, -1), BAD);
        unchanged("31: BAD ahead of SIZE, lane", Checks::busy, x -> x.sheet(0, 4, -1), BAD);
        unchanged("31: SIZE of one that is missing", Checks::busy, x -> x.sheet(3, 0, -1), SIZE);
        unchanged("31: BAD of one that is missing", Checks::busy, x -> x.sheet(3, 0, 25), BAD);
    }

    public static void main(String[] args) {
        full();
        hoursAbove9999();
        not();
        none();
        ofAnEmptyFord();
        missingSheets();
        otherLanes();
        indicesAndSizes();
        finish();
    }
}
