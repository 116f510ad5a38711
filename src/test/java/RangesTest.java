import java.util.function.Supplier;

/**
 * Every number that a call takes, at both ends of its range: the least and the greatest that are as
 * told, with their answers, and one less, one more, far less, far more, which are refused and change nothing.
 */
public final class RangesTest extends Checks {
    /** A call with one of its numbers left open. */
    interface Open {
        int with(FordQuestions x, int v);
    }

    private static void range(String what, Open call, int least, int atLeast, int most, int atMost) {
        range(what, BAD, BAD, Checks::busy, call, least, atLeast, most, atMost);
    }

    private static void indices(String what, Open call, int atLeast, int most, int atMost) {
        range(what, INDEX, INDEX, Checks::busy, call, 0, atLeast, most, atMost);
    }

    private static void range(String what, int below, int above, Supplier<FordQuestions> scene, Open call,
            int least, int atLeast, int most, int atMost) {
        due(what + " " + least, call.with(scene.get(), least), atLeast);
        due(what + " " + most, call.with(scene.get(), most), atMost);
        for (int v : new int[] {least - 1, LEAST}) unchanged(what + " " + v, scene, x -> call.with(x, v), below);
        for (int v : new int[] {most + 1, GREATEST}) {
            if (most < GREATEST) unchanged(what + " " + v, scene, x -> call.with(x, v), above);
        }
    }

    private static void questionsAndCrossers() {
        range("2: topic", (x, v) -> x.question(v, 1), 0, 3, 7, 3);
        range("2: hard", (x, v) -> x.question(0, v), 1, 3, 9, 3);
        range("3: kind", (x, v) -> x.crosser(v, 0, 0), 0, 4, 4, 4);
        range("3: knows", (x, v) -> x.crosser(0, v, 0), 0, 4, 255, 4);
        range("3: comes", (x, v) -> x.crosser(0, 0, v), 0, 4, 40, 4);
        range("4: question", (x, v) -> x.of(v, 1), 0, 7, 2, 8);
        range("4: what", (x, v) -> x.of(0, v), 0, 0, 2, 1);
        range("5: crosser", (x, v) -> x.at(v, 0), 0, 0, 3, 1);
        range("5: what", (x, v) -> x.at(0, v), 0, 0, 4, 10);
        range("6: crosser", (x, v) -> x.takes(v, 0), 0, 1, 3, 14);
        range("6: question", (x, v) -> x.takes(0, v), 0, 1, 2, 8);
        range("7: letter", (x, v) -> x.type(v), 32, 3, 126, 3);
        range("9: what", (x, v) -> x.count(v), 0, 3, 7, 5);
    }

    private static void whatIsDone() {
        range("10: n", (x, v) -> x.hours(v), 1, 8, 40, 15);
        range("11: crosser", (x, v) -> x.teach(v, 5), 0, 33, 3, 32);
        range("11: topic", (x, v) -> x.teach(1, v), 0, 1, 7, 128);
        range("12: crosser", BAD, BAD, () -> fordOf("a1;p@1,p@2,p@3"), (x, v) -> x.later(v, 9), 0, 1, 2, 3);
        range("12: comes", (x, v) -> x.later(2, v), 0, 30, 40, 30);
        range("13: question", (x, v) -> x.again(v), 0, 4, 2, 1);
        range("14: question", (x, v) -> x.put(v, 3), 0, 7, 2, 8);
        range("14: hard", (x, v) -> x.put(0, v), 1, 7, 9, 7);
        range("15: n", (x, v) -> x.drift(v), 1, 8, 40, 15);
        range("17: v", (x, v) -> x.seed(v), 0, 7, GREATEST, 7);
    }

    private static void whatIsForetold() {
        range("18: n", (x, v) -> x.then(v, 0), 0, 3, 100, 0);
        range("18: what", (x, v) -> x.then(0, v), 0, 3, 2, 5);
        range("19: crosser", (x, v) -> x.crosses(v), 0, 7, 3, 0);
        range("21: what", (x, v) -> x.most(v), 0, 2, 1, 0);
        range("22: crosser", (x, v) -> x.best(v), -1, 28, 3, NONE);
        range("23: what", (x, v) -> x.teaches(v), 0, 20, 1, 28);
        range("24: what", (x, v) -> x.spare(v), 0, 1, 1, 28);
        range("25: crosser", BAD, BAD, () -> fordOf("a1;p@1,p@2,p@3"), (x, v) -> x.before(v), 0, 0, 2, 0);
        range("26: m", (x, v) -> x.cramp(v, 3, 0), 0, 1, 5, 0);
        range("26: c", BAD, BAD, RangesTest::twoLeaveNext, (x, v) -> x.cramp(1, v, 0), 0, 0, 10, 1);
        range("26: what", BAD, BAD, RangesTest::twoLeaveNext, (x, v) -> x.cramp(1, 5, v), 0, 3, 1, 4);
    }

    private static FordQuestions twoLeaveNext() {
        FordQuestions x = fordOf("a2a2;p,p");
        x.hours(1);
        return x;
    }

    private static void sheets() {
        range("29: crosser", (x, v) -> x.seen(v, 0, 0, 0, 1, 0), 0, 31, 3, 31);
        range("29: sheet", (x, v) -> x.seen(0, v, 0, 0, 1, 0), 0, 31, 3, NULL);
        range("29: lane", (x, v) -> x.seen(0, 0, v, 0, 1, 0), 0, 31, 3, CAST);
        indices("29: i", (x, v) -> x.seen(0, 0, 0, v, 8, 0), 31, 2, 0);
        range("29: n", (x, v) -> x.seen(0, 0, 0, 0, v, 0), 1, 31, 8, 31);
        range("29: what", (x, v) -> x.seen(0, 0, 0, 0, 8, v), 0, 31, 2, 0);
        range("30: n", BAD, BAD, RangesTest::withLongSheet, (x, v) -> x.film(v, 3, 2, 0), 1, 1, 24, 24);
        range("30: sheet", (x, v) -> x.film(1, v, 0, 0), 0, 1, 3, NULL);
        range("30: lane", (x, v) -> x.film(1, 0, v, 0), 0, 1, 3, CAST);
        indices("30: i", (x, v) -> x.film(2, 1, 1, v), 2, 2, 2);
        range("31: sheet", (x, v) -> x.sheet(v, 2, 5), 0, 5, 3, 5);
        range("31: lane", (x, v) -> x.sheet(1, v, 5), 0, 5, 3, 5);
        range("31: n", SIZE, BAD, Checks::busy, (x, v) -> x.sheet(1, 1, v), 0, 0, 24, 24);
        range("32: sheet", (x, v) -> x.drop(v), 0, 10, 3, NULL);
        range("33: sheet", (x, v) -> x.item(v, 0, 0, 5), 0, 1, 3, NULL);
        range("33: lane", (x, v) -> x.item(0, v, 0, 5), 0, 1, 3, CAST);
        indices("33: i", (x, v) -> x.item(0, 0, v, 5), 1, 9, 1);
        range("34: from", (x, v) -> x.copy(v, 6, 0, 0, 1), 0, 1, 3, NULL);
        range("34: to", (x, v) -> x.copy(0, 6, v, 0, 1), 0, 1, 3, NULL);
        indices("34: i", (x, v) -> x.copy(1, v, 1, 0, 2), 2, 2, 2);
        indices("34: j", (x, v) -> x.copy(1, 0, 1, v, 2), 2, 2, 2);
        indices("34: n", (x, v) -> x.copy(1, 0, 1, 1, v), 0, 3, 3);
        indices("34: n, by where it is taken", (x, v) -> x.copy(1, 1, 1, 0, v), 0, 3, 3);
    }

    private static FordQuestions withLongSheet() {
        FordQuestions x = fordOf("a9;p@2");
        x.sheet(3, 2, 24);
        return x;
    }

    public static void main(String[] args) {
        questionsAndCrossers();
        whatIsDone();
        whatIsForetold();
        sheets();
        finish();
    }
}
