/** The boundary cases of promises 22 and 23: the tape, texts and their faults. */
public final class TextsEdgesTest {
    private static final Check check = new Check("TextsEdgesTest");
    private static final Edge edge = new Edge(check);

    private static final String DIGITS = "0123456789";
    private static final String OPERANDS = DIGITS + "abcdef";
    private static final String JOINING = "|&+-*/";
    private static final String OPERATORS = JOINING + "<=>";
    private static final String OPENING = "!(";

    public static void main(String[] args) {
        promise22Bytes();
        promise22Full();
        promise22LowestFirst();
        promise23Uses();
        promise23TapeIsEmptyThen();
        promise23FaultLeaves();
        promise23EndsTooEarly();
        promise23FirstByte();
        promise23NumberOfDigits();
        promise23BehindOperands();
        promise23ComparedOnce();
        promise23Closing();
        promise23FiveOpen();
        promise23SixtyBytes();
        promise23IntsWrap();
        promise23ByZero();
        promise23Quotients();
        promise23OneOrZero();
        promise23Order();
        check.end();
    }

    private static void promise22Bytes() {
        edge.says("The n lowest bytes (1 .. 8) of a word");
        edge.in(Worlds::busy);
        edge.spans("feed(49, %d)", (x, v) -> x.feed(49, v), 1, 8);
        edge.refusesEach("feed(49, %d)", (x, v) -> x.feed(49, v), -8, 16, 57);
        edge.takes("one more than four", x -> x.feed(49, 1), 5);
        edge.takes("eight more than four", x -> x.feed(-1, 8), 12);
        edge.in(Worlds::fresh);
        edge.takes("how many there are", x -> x.feed(0, 1), 1);
    }

    private static TrainMile fed(int bytes) {
        TrainMile x = new TrainMile();
        Check.feed(x, "1+".repeat(30).substring(0, bytes));
        return x;
    }

    private static void promise22Full() {
        edge.says("TEXTS are read from THE TAPE (bytes, at most 60)");
        for (int n = 1; n <= 8; n++) {
            int bytes = n;
            edge.in(() -> fed(60 - bytes));
            edge.takes("just " + n + " have room", x -> x.feed(0, bytes), 60);
            edge.in(() -> fed(61 - bytes));
            edge.refuses("one of " + n + " has none", x -> x.feed(0, bytes), Check.FULL);
        }
        edge.in(Worlds::full);
        edge.refuses("feed(49, 1)", x -> x.feed(49, 1), Check.FULL);
        edge.refuses("feed(49, 8)", x -> x.feed(49, 8), Check.FULL);
        edge.says("Each act tells its findings in the order in which they are asked");
        edge.refuses("BEYOND ahead of FULL", x -> x.feed(49, 0), Check.BEYOND);
        edge.refuses("BEYOND ahead of FULL", x -> x.feed(49, 9), Check.BEYOND);
        edge.refuses("BEYOND ahead of FULL", x -> x.feed(49, Integer.MAX_VALUE), Check.BEYOND);
        edge.says("THE TAPE, which is empty then");
        TrainMile x = Worlds.full();
        x.text(0);
        edge.due("there is room again", x.feed(0, 8), 8);
    }

    private static void promise22LowestFirst() {
        edge.says("of a word, the lowest first, come to THE TAPE");
        TrainMile x = new TrainMile();
        x.runner(7, 0);
        long word = 0;
        String text = "9-1-1-1-";
        for (int i = 7; i >= 0; i--) {
            word = word << 8 | text.charAt(i);
        }
        for (int n = 1; n <= 7; n += 2) {
            edge.due("feed", x.feed(word, n), n);
            edge.due("text(0)", x.text(0), 1);
            edge.due("its first " + n, x.pace(0, 0, 0, 0, 0), 9 - n / 2);
        }
        edge.due("all eight", x.feed(word, 8), 8);
        edge.due("end too early", x.text(0), -18);
        edge.due("11+1+1+f", x.feed(0x662B312B312B3131L, 8), 8);
        edge.due("the highest byte is a name", x.text(0), 1);
        edge.due("11+1+1+ and 255", x.feed(0xFF2B312B312B3131L, 8), 8);
        edge.due("the highest byte is a fault", x.text(0), -17);
        x.feed(0xE161L, 2);
        edge.due("a byte above 127 is no letter", x.text(0), -11);
        x.feed(0x80L, 1);
        edge.due("nor is 128", x.text(0), -10);
        x.feed(-1L, 1);
        edge.due("nor is 255", x.text(0), -10);
    }

    private static void promise23Uses() {
        edge.says("One TEXT for each USE");
        edge.in(Worlds::busy);
        edge.spans("text(%d)", TrainMile::text, 0, 1);
        edge.refusesEach("text(%d)", TrainMile::text, 3, -2, 256);
        edge.takes("text(0)", x -> x.text(0), 1);
        edge.takes("text(1)", x -> x.text(1), 1);
        edge.says("BEYOND (THE TAPE stays)");
        edge.in(Worlds::full);
        edge.refuses("text(2)", x -> x.text(2), Check.BEYOND);
        edge.refuses("text(-1)", x -> x.text(-1), Check.BEYOND);
        edge.takes("told(5)", x -> x.told(5), 60);
    }

    private static void promise23TapeIsEmptyThen() {
        edge.says("THE TAPE, which is empty then, is the TEXT of a USE (in place of one ahead): 1");
        TrainMile x = Worlds.busy();
        edge.due("text(0)", x.text(0), 1);
        edge.due("told(5)", x.told(5), 0);
        edge.due("in place of one ahead", x.pace(0, 0, 0, 0, 0), 41);
        edge.due("f+41", x.pace(0, 0, 0, 0, 9), 50);
        edge.due("nothing is left for the next", x.text(0), -10);
        edge.due("it stays", x.pace(0, 0, 0, 0, 0), 41);
    }

    private static void promise23FaultLeaves() {
        edge.says("-10 less its FAULT (the one ahead stays; THE TAPE is empty, too)");
        for (int use = 0; use < 2; use++) {
            TrainMile x = Worlds.busy();
            int pace = x.pace(0, 3, 4, 5, 6);
            int odd = x.odd(1);
            x.feed('+', 1);
            edge.due("f+41+", x.text(use), -15);
            edge.due("told(5)", x.told(5), 0);
            edge.due("the one of USE 0", x.pace(0, 3, 4, 5, 6), pace);
            edge.due("the one of USE 1", x.odd(1), odd);
            for (int k = 1; k <= 5; k++) {
                edge.due("a FAULT is no finding: found(" + k + ")", x.found(k), 0);
            }
        }
        TrainMile x = new TrainMile();
        x.runner(7, 0);
        Check.text(x, 0, "a+");
        edge.due("without one ahead it stays without", x.pace(0, 12, 0, 0, 0), 9);
    }

    private static void fault(String text, int at) {
        edge.due("text " + text, Check.text(new TrainMile(), 0, text), -10 - at);
    }

    private static void promise23EndsTooEarly() {
        edge.says("how many there are, if it ends too early");
        fault("", 0);
        fault("!", 1);
        fault("(", 1);
        fault("a+", 2);
        fault("a<", 2);
        fault("(a", 2);
        fault("!!!!!", 5);
        fault("(((((", 5);
        fault("(((((1))))", 10);
        fault("1+".repeat(30), 60);
        fault("(" + "1+".repeat(29) + "1", 60);
        edge.says("the place of the first byte with which no TEXT goes on");
        fault(")" + "1+".repeat(29) + "1", 0);
        fault("1+".repeat(29) + "1)", 59);
        fault("1)+(", 1);
    }

    /** With each byte behind what is ahead: TEXTS end with some, go on with others, and none does with the rest. */
    private static void behind(String ahead, String ends, String goesOn) {
        for (int b = 0; b < 256; b++) {
            char c = (char) b;
            int fault = goesOn.indexOf(c) >= 0 ? ahead.length() + 1 : ahead.length();
            int due = ends.indexOf(c) >= 0 ? 1 : -10 - fault;
            edge.due("text " + ahead + " and byte " + b, Check.text(new TrainMile(), b % 2, ahead + c), due);
        }
    }

    private static void promise23FirstByte() {
        edge.says("Q: a NUMBER of 1 to 4 digits, a NAME, ! Q, ( T )");
        behind("", OPERANDS, OPENING);
        behind("!", OPERANDS, OPENING);
        behind("(", "", OPERANDS + OPENING);
        for (char operator : OPERATORS.toCharArray()) {
            behind("a" + operator, OPERANDS, OPENING);
        }
    }

    private static void promise23NumberOfDigits() {
        edge.says("a NUMBER of 1 to 4 digits");
        behind("1", DIGITS, OPERATORS);
        behind("12", DIGITS, OPERATORS);
        behind("123", DIGITS, OPERATORS);
        behind("1234", "", OPERATORS);
        behind("0000", "", OPERATORS);
        edge.due("one digit", value("9"), 9);
        edge.due("four digits", value("9999"), 9999);
        edge.due("four digits, the least", value("0000"), 0);
        edge.due("zeros ahead", value("0010"), 10);
        fault("99999", 4);
        fault("00000", 4);
        fault("a+12345", 6);
    }

    private static void promise23BehindOperands() {
        edge.says("No blanks");
        behind("a", "", OPERATORS);
        behind("f", "", OPERATORS);
        behind("!a", "", OPERATORS);
        behind("(a)", "", OPERATORS);
        behind("a+b", "", OPERATORS);
        behind("a*b", "", OPERATORS);
        behind("a|b", "", OPERATORS);
        behind("a&b", "", OPERATORS);
    }

    private static void promise23ComparedOnce() {
        edge.says("B: S, or S < S, S = S, S > S");
        for (String compared : new String[] {"a<b", "a=b", "a>b", "a<b+c", "a*b=c/d", "a|b>c", "a&b<c", "!a<!b"}) {
            behind(compared, "", JOINING);
        }
        behind("a<b&c", "", OPERATORS);
        behind("a<b|c", "", OPERATORS);
        behind("a<(b", ")", OPERATORS);
        behind("(a<b", ")", JOINING);
        behind("(a<b)", "", OPERATORS);
        behind("(a<b)<c", "", JOINING);
        behind("a<(b<c)", "", JOINING);
    }

    private static void promise23Closing() {
        edge.says("( T )");
        behind("(a", ")", OPERATORS);
        behind("((a", "", ")" + OPERATORS);
        behind("((a)", ")", OPERATORS);
        behind("((a))", "", OPERATORS);
        behind("!(a", ")", OPERATORS);
        behind("!(!a", ")", OPERATORS);
        fault("()", 1);
        fault("(a+)", 3);
        fault("(!)", 2);
    }

    private static void promise23FiveOpen() {
        edge.says("At most 5 of ! and ( are open at once");
        behind("!!!!", OPERANDS, OPENING);
        behind("!!!!!", OPERANDS, "");
        behind("((((", "", OPERANDS + OPENING);
        behind("(((((", "", OPERANDS);
        behind("!(!(!", "", OPERANDS);
        behind("(!(!(", "", OPERANDS);
        behind("((((!", "", OPERANDS);
        behind("!!!!(", "", OPERANDS);
        edge.says("are open at once");
        behind("((((!a+", "", OPERANDS + OPENING);
        behind("(((((a)+", "", OPERANDS + OPENING);
        behind("(((((a+", "", OPERANDS);
        behind("!!!!!a+", OPERANDS, OPENING);
        behind("(((((a)))))+((((", "", OPERANDS + OPENING);
        behind("!(a)+!(a)+!(((", "", OPERANDS + OPENING);
        behind("!(a)+!(a)+!((((", "", OPERANDS);
        edge.due("five (", value("(((((7)))))"), 7);
        edge.due("five !", value("!!!!!7"), 0);
        edge.due("five and five", value("(((((7)))))-(((((3)))))"), 4);
        edge.due("ten ! one behind the other", value("!0+!0+!0+!0+!0+!0+!0+!0+!0+!0"), 10);
    }

    private static void promise23SixtyBytes() {
        edge.says("bytes, at most 60");
        edge.due("60 bytes", value("1+".repeat(29) + "41"), 70);
        edge.due("60 bytes, each of which is told apart", value("!a" + "+a".repeat(29)), -29);
        edge.due("60 bytes with twenty !", value("!1+".repeat(19) + "!00"), 1);
        edge.due("nested as deep as 59 have room", value("9|1&2<3+4*(9|1&2<3+4*(9|1&2<3+4*(9|1&2<3+4*(2-2*8-3*2+5))))"), 1);
        edge.due("twenty of one kind", value("9-1-1-1-1-1-1-1-1-1-1-1-1-1-1-1-1-1-1-1-1-1-1-1-1-1-1-1-1-1"), 9 - 29);
    }

    /** What a TEXT of USE 1 tells: STRENGTH 7 is f, a, b, d are -1, c is 2, e is 0. */
    private static int value(String text) {
        TrainMile x = new TrainMile();
        x.runner(7, 0);
        edge.due("text " + text, Check.text(x, 1, text), 1);
        return x.odd(0);
    }

    private static void promise23IntsWrap() {
        edge.says("Ints that wrap");
        String least = "2048*1024*1024";
        edge.due("the least", value(least), Integer.MIN_VALUE);
        edge.due("the greatest", value(least + "-1"), Integer.MAX_VALUE);
        edge.due("one more than the greatest", value(least + "-1+1"), Integer.MIN_VALUE);
        edge.due("0 less the least", value("0-" + least), Integer.MIN_VALUE);
        edge.due("twice the least", value(least + "*2"), 0);
        edge.due("twice the greatest", value("(" + least + "-1)*2"), -2);
        edge.due("the least by -1", value(least + "/(0-1)"), Integer.MIN_VALUE);
        edge.due("the least by -1, with a name", value(least + "/a"), Integer.MIN_VALUE);
        edge.due("least < greatest", value(least + "<" + least + "-1"), 1);
        edge.due("least > greatest", value(least + ">" + least + "-1"), 0);
        edge.due("greatest > least", value(least + "-1>" + least), 1);
        edge.due("least = least", value(least + "=0-" + least), 1);
        edge.due("the least is true", value("!(" + least + ")"), 0);
        edge.due("the least is true", value(least + "&1"), 1);
    }

    private static void promise23ByZero() {
        edge.says("/ by 0 is 0");
        edge.due("0/0", value("0/0"), 0);
        edge.due("1/0", value("1/0"), 0);
        edge.due("-1/0", value("(0-1)/0"), 0);
        edge.due("by what is 0", value("9/(3-3)+5"), 5);
        edge.due("by a name that is 0", value("9/e"), 0);
        edge.due("behind / by 0", value("9/0/0*7+1"), 1);
        edge.says("all is worked out");
        edge.due("right of |", value("1|1/0"), 1);
        edge.due("right of &", value("0&1/0"), 0);
    }

    private static void promise23Quotients() {
        edge.says("All quotients are cut");
        int[][] due = {{7, 2, 3}, {-7, 2, -3}, {7, -2, -3}, {-7, -2, 3}, {1, 2, 0}, {-1, 2, 0}, {6, 3, 2}, {-6, 3, -2}};
        for (int[] d : due) {
            String text = "(0+" + d[0] + ")/(0+" + d[1] + ")";
            edge.due("quotient", value(text.replace("+-", "-")), d[2]);
        }
    }

    private static void promise23OneOrZero() {
        edge.says("| & < = > ! are 1 or 0, what is not 0 being true");
        String[] numbers = {"(0-1)", "0", "1", "2", "9"};
        for (int i = 0; i < numbers.length; i++) {
            boolean left = i != 1;
            edge.due("!", value("!" + numbers[i]), left ? 0 : 1);
            for (int k = 0; k < numbers.length; k++) {
                boolean right = k != 1;
                String l = numbers[i];
                String r = numbers[k];
                edge.due("|", value(l + "|" + r), left || right ? 1 : 0);
                edge.due("&", value(l + "&" + r), left && right ? 1 : 0);
                edge.due("<", value(l + "<" + r), i < k ? 1 : 0);
                edge.due("=", value(l + "=" + r), i == k ? 1 : 0);
                edge.due(">", value(l + ">" + r), i > k ? 1 : 0);
            }
        }
    }

    private static void promise23Order() {
        edge.says("T: A { | A }. A: B { & B }. B: S, or S < S, S = S, S > S. S: P { + P, - P }. P: Q { * Q, / Q }");
        edge.due("& ahead of |", value("2|0&0"), 1);
        edge.due("& ahead of |", value("0&0|2"), 1);
        edge.due("< ahead of &", value("2&3<1"), 0);
        edge.due("< ahead of &", value("3&2=2"), 1);
        edge.due("+ ahead of <", value("1<0+2"), 1);
        edge.due("+ ahead of =", value("2+1=3"), 1);
        edge.due("* ahead of +", value("1+2*3"), 7);
        edge.due("* ahead of -", value("9-2*3"), 3);
        edge.due("/ ahead of -", value("9-4/2"), 7);
        edge.due("! ahead of *", value("!0*5"), 5);
        edge.due("! ahead of =", value("!0=1"), 1);
        edge.due("- from the left", value("9-4-3"), 2);
        edge.due("- and +", value("9-4+3"), 8);
        edge.due("/ from the left", value("90/9/5"), 2);
        edge.due("/ and *", value("90/9*5"), 50);
        edge.due("* and /", value("7*3/2"), 10);
        edge.due("a whole one", value("0|2&5-2*2=1&!(3>4|0)"), 1);
    }
}
