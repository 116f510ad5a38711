/** Fords as texts: each rule of the text at its edges, with the faults' places worked out by hand. */
public final class FordTextTest extends Checks {
    /** Pairs: a text, and what it answers as a ford. */
    private static void each(String rule, Object... pairs) {
        for (int k = 0; k + 1 < pairs.length; k += 2) {
            String text = (String) pairs[k];
            int want = (Integer) pairs[k + 1];
            due("8: " + rule + ", \"" + text + "\"", told(new FordQuestions(), text), want);
            if (want < 0) faultChangesNothing(rule, text, want);
        }
    }

    /** The tape is empty then; all else stays. */
    private static void faultChangesNothing(String rule, String text, int want) {
        FordQuestions x = busyWithTape("");
        due("8: " + rule + ", \"" + text + "\" in a busy ford", told(x, text), want);
        same("8: \"" + text + "\"", x, busyWithTape(""));
    }

    private static void questions() {
        each("1 to 8 questions", "", -20, ";p", -20, "a1", 1, "a1b2c3d4e5f6g7", 7, "a1b2c3d4e5f6g7h8", 8,
            "a1b2c3d4e5f6g7h8a", -36, "a1b2c3d4e5f6g7h8a1", -36, "a1b2c3d4e5f6g7h8!", 8, "a1b2c3d4e5f6g7h8!a", -37,
            "a1b2c3d4e5f6g7h8;p", 8, "a1a1", 2);
        each("a letter a .. h", "`1", -20, "a1", 1, "h1", 1, "i1", -20, "A1", -20, "H1", -20, "1", -20, "!", -20, "@", -20);
        each("the next one's letter", "b1`1", -22, "b1a1", 2, "b1h1", 2, "b1i1", -22, "b1p1", -22);
        each("a digit 1 .. 9", "a/", -21, "a0", -21, "a1", 1, "a9", 1, "a:", -21, "aa", -21, "a", -21, "a!", -21, "a;", -21);
        each("one digit", "a10", -22, "a11", -22, "a99", -22);
        each("perhaps !", "a1!", 1, "a1!!", -23, "!a1", -20, "a!1", -21, "a1!b2!", 2, "a1!b!", -24, "a1!!b2", -23);
    }

    private static void crossers() {
        each("perhaps ;", "a1;", -23, "a1;;", -23, "a1;;p", -23, "a1;p;", -24, "a1,p", -22, "a1:p", -22, "a1p", -22, "a1!;p", 1);
        each("1 to 5 crossers", "a1;p", 1, "a1;p,s,r,d", 1, "a1;p,s,r,d,g", 1, "a1;p,s,r,d,g,", -32, "a1;p,s,r,d,g,p", -32,
            "a1;p@1,s@2,r@3,d@4,g@5,p@6", -42);
        each("with , between", "a1;ps", -24, "a1;p,,s", -25, "a1;,p", -23, "a1;p,", -25, "a1;p;s", -24, "a1;p,s", 1);
        each("kinds", "a1;p", 1, "a1;s", 1, "a1;r", 1, "a1;d", 1, "a1;g", 1, "a1;a", -23, "a1;c", -23, "a1;e", -23, "a1;f", -23,
            "a1;h", -23, "a1;o", -23, "a1;q", -23, "a1;t", -23, "a1;P", -23, "a1;S", -23, "a1;0", -23, "a1;!", -23, "a1;:a", -23,
            "a1;@1", -23, "a1;p!", -24, "a1;pa", -24, "a1;p1", -24);
        each("the second one's kind", "a1;p,q", -25, "a1;p,1", -25, "a1;p, q", -26, "a1;p,;", -25);
        each("letters a .. h behind :", "a1;p:a", 1, "a1;p:h", 1, "a1;p:`", -25, "a1;p:i", -25, "a1;p:A", -25, "a1;p:a`", -26, "a1;p:ai", -26);
        each("rising", "a1;p:ab", 1, "a1;p:ah", 1, "a1;p:gh", 1, "a1;p:aa", -26, "a1;p:ba", -26, "a1;p:ha", -26, "a1;p:hh", -26,
            "a1;p:acb", -27, "a1;p:abcdefgh", 1, "a1;p:abcdefgha", -33, "a1;p:abcdefghh", -33, "a1;p:abcdefghi", -33);
        each("one letter at least", "a1;p:", -25, "a1;p:@1", -25, "a1;p:,s", -25, "a1;p::a", -25, "a1;p:1", -25);
        each("one : at most, ahead of @", "a1;p:a:b", -26, "a1;p@1:a", -26, "a1;p:a@1:b", -28, "a1;p:a@1", 1, "a1;p:a,s:a", 1);
    }

    private static void numbers() {
        each("perhaps @", "a1;p@", -25, "a1;p@,s", -25, "a1;p@a", -25, "a1;p@@1", -25, "a1;p@1@2", -26, "a1;p@/", -25, "a1;p@:", -25,
            "a1;p@-1", -25, "a1;p@+1", -25);
        each("0 .. 40", "a1;p@0", 1, "a1;p@1", 1, "a1;p@9", 1, "a1;p@10", 1, "a1;p@39", 1, "a1;p@40", 1, "a1;p@41", -25, "a1;p@49", -25,
            "a1;p@50", -25, "a1;p@99", -25);
        each("the number's first digit", "a1;p@41,s", -25, "a1;p@41x", -25, "a1;p:a@41", -27, "a1;p@1,s@41", -29, "a1;p@40,s@99", -30);
        each("1 or 2 digits", "a1;p@00", 1, "a1;p@07", 1, "a1;p@000", -27, "a1;p@007", -27, "a1;p@040", -27, "a1;p@100", -27,
            "a1;p@123", -27, "a1;p@400", -27, "a1;p@401", -27);
        each("the number ahead of its third digit", "a1;p@410", -25, "a1;p@412", -25, "a1;p@999", -25);
        each("behind a number", "a1;p@5p", -26, "a1;p@5!", -26, "a1;p@5;", -26, "a1;p@5a", -26, "a1;p@40p", -27, "a1;p@5,", -27, "a1;p@5,s", 1);
        int[] hours = {0, 0, 0, 1, 1, 9, 9, 10, 39, 40};
        String[] texts = {"", "@0", "@00", "@1", "@01", "@9", "@09", "@10", "@39", "@40"};
        for (int k = 0; k < texts.length; k++) due("8: comes, " + texts[k], fordOf("a1;p" + texts[k]).at(0, 2), hours[k]);
    }

    private static void blanks() {
        each("blanks count for nothing", " a1", 1, "a 1", 1, "a1 ", 1, "a1 !", 1, "a1! ", 1, "a1 b1", 2, "a1 ;p", 1, "a1; p", 1, "a1;p ", 1,
            "a1;p :a", 1, "a1;p: a", 1, "a1;p:a b", 1, "a1;p:a @1", 1, "a1;p @1", 1, "a1;p@ 1", 1, "a1;p@1 ", 1, "a1;p@1 ,s", 1, "a1;p, s", 1,
            "  a  1  !  ;  p  :  a  h  @  40  ,  s  ", 1);
        each("the first letter behind blanks", " x", -21, "  x", -22, "a  0", -23, "a1  x", -24, "a1 ! !", -25, "a1; q", -24, "a1;p: i", -26,
            "a1;p:b a", -27, "a1;p@ x", -26, "a1;p  p", -26, "a1b2c3d4e5f6g7h8 a1", -37, "a1;p,s,r,d,g ,p", -33);
        each("they end a number", "a1;p@4 0", -27, "a1;p@1 2", -27, "a1;p@0 0", -27, "a1;p@12 3", -28, "a1;p@40 1", -28);
        each("the number's first digit behind them", "a1;p@ 40", 1, "a1;p@ 41", -26, "a1;p@  99", -27, "a1;p@ 123", -28, "a1;p@ 4 1", -28);
        due("8: a number that a blank has ended", fordOf("a1;p@4 ,s@ 7 ").at(0, 2), 4);
        due("8: a number behind a blank", fordOf("a1;p@4 ,s@ 7 ").at(1, 2), 7);
        each("the end", "", -20, " ", -21, "   ", -23, "a", -21, "a ", -22, "a1a", -23, "a1a  ", -25, "a1;", -23, "a1; ", -24, "a1;p,", -25,
            "a1;p, ", -26, "a1;p:", -25, "a1;p: ", -26, "a1;p@", -25, "a1;p@ ", -26);
        each("90 letters", "a1" + " ".repeat(88), 1, " ".repeat(88) + "a1", 1, " ".repeat(90), -110, " ".repeat(89) + "a", -110,
            " ".repeat(89) + "x", -109, " ".repeat(88) + "ax", -109, "a1" + " ".repeat(87) + "x", -109, "a1" + " ".repeat(87) + ";", -110,
            " ".repeat(84) + "a1;p@4", 1, " ".repeat(84) + "a1;p@41", 1, " ".repeat(83) + "a1;p@41", -108);
    }

    /**
     * Every letter that may be typed, behind every kind of beginning: a row has the beginning, the letters
     * with which it is a ford, those with which it wants more, those that make its number too great.
     */
    private static void everyLetter() {
        String topics = "abcdefgh", kinds = "psrdg", digits = "0123456789";
        String[][] rows = {{"", "", topics, ""}, {"b", "123456789", "", ""}, {"b2", "!", topics + ";", ""}, {"b2!", "", topics + ";", ""},
            {"b2b2b2b2b2b2b2b2", "!", ";", ""}, {"b2b2b2b2b2b2b2b2!", "", ";", ""},
            {"b2;", kinds, "", ""}, {"b2;p", "", ":@,", ""}, {"b2;p,", kinds, "", ""},
            {"b2;p:", topics, "", ""}, {"b2;p:b", "cdefgh", "@,", ""}, {"b2;p:h", "", "@,", ""},
            {"b2;p@", digits, "", ""}, {"b2;p@0", digits, ",", ""}, {"b2;p@3", digits, ",", ""},
            {"b2;p@4", "0", ",", "123456789"}, {"b2;p@5", "", ",", digits}, {"b2;p@12", "", ",", ""},
            {"b2;p,p,p,p,p", "", ":@", ""}, {"b2;p,p,p,p,p:h", "", "@", ""}, {"b2;p,p,p,p,p@40", "", "", ""}};
        for (String[] row : rows) {
            for (char letter = '!'; letter <= '~'; letter++) {
                String text = row[0] + letter;
                int place = -20 - row[0].length();
                boolean isFord = row[1].indexOf(letter) >= 0, isOpen = row[2].indexOf(letter) >= 0, isTooGreat = row[3].indexOf(letter) >= 0;
                int want = isFord ? Math.max(1, row[0].indexOf(';') < 0 ? row[0].length() / 2 : 1) : isOpen ? place - 1 : isTooGreat ? place + 1 : place;
                due("8: \"" + text + "\"", told(new FordQuestions(), text), want);
            }
        }
    }

    private static void inPlaceOfAll() {
        FordQuestions x = busyWithTape("");
        due("8: how many questions", told(x, "c2d3!;r:ch@40,g"), 2);
        int[] counts = {2, 2, 0, 2, 3, 0, 0, 0};
        for (int w = 0; w < 8; w++) due("8: in place of all, count(" + w + ")", x.count(w), counts[w]);
        int[] first = {2, 132, 40, 0, NONE};
        int[] second = {4, 0, 0, 0, NONE};
        for (int w = 0; w < 5; w++) {
            due("8: the first crosser", x.at(0, w), first[w]);
            due("8: the second crosser", x.at(1, w), second[w]);
        }
        due("8: no third one", x.at(2, 0), BAD);
        due("8: no third question", x.of(2, 0), BAD);
        due("8: the draw stays", x.seed(8), 7);
        due("8: nothing may be undone", x.undo(), NONE);
        due("8: the tape is empty then", x.type('a'), 1);
        due("8: sheets stay", x.drop(0), 10);
        due("8: sheets stay", x.drop(1), 4);
        due("8: the image stays", x.restore(), 1);
        due("8: the image stays", x.count(2), 2);
        x = new FordQuestions();
        due("8: all that a ford can hold", told(x, "a1b2c3d4e5f6g7h9!;p:abcdefgh@40,s:abcdefgh@40,r:abcdefgh@40,d:abcdefgh@40,g:bcdefgh@40"), 8);
        for (int c = 0; c < 5; c++) due("8: knows", x.at(c, 1), c == 4 ? 254 : 255);
        x = fordOf("a1;p:a@5,s");
        due("8: what one knows is not the next one's", x.at(1, 1), 0);
        due("8: nor when he comes", x.at(1, 2), 0);
        x = fordOf("a9!b9");
        told(x, "a1b1");
        due("8: what was asked is not asked in the next ford", x.count(3), 0);
        due("8: the tape is empty behind a fault, too", told(x, "a1;x"), -23);
        due("8: the tape is empty behind a fault, too", x.ford(), -20);
        due("8: and takes 90 letters again", told(x, " ".repeat(88) + "a1"), 1);
    }

    public static void main(String[] args) {
        questions();
        crossers();
        numbers();
        blanks();
        everyLetter();
        inPlaceOfAll();
        finish();
    }
}
