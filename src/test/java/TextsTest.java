/** Promises 22 and 23: the tape, and texts. */
public final class TextsTest {
    private static final Check check = new Check("TextsTest");

    public static void main(String[] args) {
        promise22Feed();
        promise22FeedOrder();
        promise23Text();
        promise23Values();
        promise23Faults();
        promise23Open();
        promise23Uses();
        check.end();
    }

    private static void promise22Feed() {
        TrainMile x = new TrainMile();
        check.due("feed(0, 0)", x.feed(0, 0), Check.BEYOND);
        check.due("feed(0, 9)", x.feed(0, 9), Check.BEYOND);
        check.due("feed(0, -1)", x.feed(0, -1), Check.BEYOND);
        check.due("feed(0, 1)", x.feed(0, 1), 1);
        check.due("feed(-1, 8)", x.feed(-1, 8), 9);
        for (int i = 0; i < 6; i++) {
            x.feed(0, 8);
        }
        check.due("told(5)", x.told(5), 57);
        check.due("feed(0, 4): 61", x.feed(0, 4), Check.FULL);
        check.due("told(5)", x.told(5), 57);
        check.due("feed(0, 3): 60", x.feed(0, 3), 60);
        check.due("feed(0, 1)", x.feed(0, 1), Check.FULL);
        check.due("feed(0, 9): BEYOND ahead of FULL", x.feed(0, 9), Check.BEYOND);
        check.due("told(5)", x.told(5), 60);
    }

    private static void promise22FeedOrder() {
        TrainMile x = new TrainMile();
        x.runner(7, 0);
        check.due("two lowest bytes, the lowest first", x.feed(0x5a5a5a5a5a5a2d61L, 2), 2);
        check.due("one more", x.feed(0x5a5a5a5a5a5a5a35L, 1), 3);
        check.due("text(0)", x.text(0), 1);
        check.due("a-5", x.pace(0, 0, 0, 0, 0), 2);
        check.due("eight bytes", x.feed(0x35302b31302d3939L, 8), 8);
        check.due("text(0)", x.text(0), 1);
        check.due("99-01+05", x.pace(0, 0, 0, 0, 0), 99);
        check.due("one byte", x.feed(0x37L, 1), 1);
        check.due("text(0)", x.text(0), 1);
        check.due("7", x.pace(0, 0, 0, 0, 0), 7);
    }

    private static void promise23Text() {
        TrainMile x = new TrainMile();
        x.runner(7, 0);
        check.due("feed", Check.feed(x, "a+1"), 3);
        check.due("text(2)", x.text(2), Check.BEYOND);
        check.due("text(-1)", x.text(-1), Check.BEYOND);
        check.due("told(5): THE TAPE stays", x.told(5), 3);
        check.due("text(0)", x.text(0), 1);
        check.due("told(5): it is empty", x.told(5), 0);
        check.due("a+1", x.pace(0, 0, 0, 0, 0), 8);
        check.due("fault at 2", Check.text(x, 0, "a+"), -12);
        check.due("told(5): it is empty", x.told(5), 0);
        check.due("the one ahead stays", x.pace(0, 0, 0, 0, 0), 8);
        check.due("an empty TAPE", x.text(0), -10);
        check.due("the one ahead stays", x.pace(0, 0, 0, 0, 0), 8);
        check.due("in place of one ahead", Check.text(x, 0, "a+2"), 1);
        check.due("a+2", x.pace(0, 0, 0, 0, 0), 9);
        check.due("a fault isn't a finding", x.found(1), 2);
        String ones = "1+".repeat(29);
        check.due("60 bytes", Check.text(x, 0, ones + "12"), 1);
        check.due("29 and 12", x.pace(0, 0, 0, 0, 0), 29 + 12);
        check.due("60 bytes with a fault", Check.text(x, 0, ones + "++"), -10 - 58);
        check.due("60 bytes, the last a fault", Check.text(x, 0, ones + "a1"), -10 - 59);
        check.due("60 bytes that end too early", Check.text(x, 0, ones + "a+"), -10 - 60);
        check.due("the one ahead stays", x.pace(0, 0, 0, 0, 0), 29 + 12);
    }

    /** What a TEXT of USE 1 tells: STRENGTH 7 is f, a, b, d are -1, c is 2, e is 0. */
    private static int value(String text) {
        TrainMile x = new TrainMile();
        x.runner(7, 0);
        check.due("text " + text, Check.text(x, 1, text), 1);
        return x.odd(0);
    }

    private static void promise23Values() {
        check.due("a name", value("f"), 7);
        check.due("a number", value("9999"), 9999);
        check.due("zeros ahead", value("0012"), 12);
        check.due("from the left", value("10-4-3"), 3);
        check.due("from the left", value("100/5/2*3"), 30);
        check.due("* ahead of +", value("2+3*4-6/2"), 11);
        check.due("(", value("(2+3)*4"), 20);
        check.due("cut", value("(0-7)/2"), -3);
        check.due("cut", value("7/(0-2)"), -3);
        check.due("by 0", value("7/0+1"), 1);
        check.due("by 0", value("7/(f-7)"), 0);
        check.due("wraps", value("9999*9999*9999"), 9999 * 9999 * 9999);
        check.due("wraps", value("2048*1024*1024+1"), Integer.MIN_VALUE + 1);
        check.due("the least by -1", value("(1024*1024*2048)/(0-1)"), Integer.MIN_VALUE);
        check.due("<", value("3<4"), 1);
        check.due("<", value("4<4"), 0);
        check.due("=", value("4=2+2"), 1);
        check.due("=", value("4=5"), 0);
        check.due(">", value("5>4"), 1);
        check.due(">", value("4>4"), 0);
        check.due("! of 0", value("!0"), 1);
        check.due("! of 5", value("!5"), 0);
        check.due("! ahead of *", value("!0*7"), 7);
        check.due("!!", value("!!9"), 1);
        check.due("!(", value("!(1=2)+1"), 2);
        check.due("&", value("5&6"), 1);
        check.due("&", value("5&0"), 0);
        check.due("&", value("0&5"), 0);
        check.due("|", value("0|8"), 1);
        check.due("|", value("8|0"), 1);
        check.due("|", value("0|0"), 0);
        check.due("& ahead of |", value("1|0&0"), 1);
        check.due("& ahead of |", value("0&0|1"), 1);
        check.due("< ahead of &", value("1<2&3>2"), 1);
        check.due("+ ahead of <", value("1+1<1+2"), 1);
        check.due("several |", value("0|0|4|0"), 1);
        check.due("several &", value("3&2&1&9"), 1);
        check.due("compared in (", value("(1<2)<(2<1)"), 0);
        check.due("all in (", value("(((((3)))))"), 3);
        check.due("names", value("a+b*10+c*100+d*1000+(e+3)*9000"), -1 - 10 + 200 - 1000 + 27000);
        check.due("below 0 is true", value("(0-1)&1"), 1);
    }

    private static void fault(String text, int at) {
        check.due("text " + text, Check.text(new TrainMile(), 0, text), -10 - at);
    }

    private static void promise23Faults() {
        fault("", 0);
        fault("+1", 0);
        fault("g", 0);
        fault("A", 0);
        fault("`", 0);
        fault(" a", 0);
        fault("a ", 1);
        fault(")", 0);
        fault("a)", 1);
        fault("(a", 2);
        fault("()", 1);
        fault("(a))", 3);
        fault("a+", 2);
        fault("a+*b", 2);
        fault("a--b", 2);
        fault("12345", 4);
        fault("a+00001", 6);
        fault("ab", 1);
        fault("1a", 1);
        fault("a1", 1);
        fault("a(b)", 1);
        fault("(a)(b)", 3);
        fault("a!b", 1);
        fault("a<b<c", 3);
        fault("a=b>c", 3);
        fault("a<b=c", 3);
        fault("a<=b", 2);
        fault("a<b&c>d=e", 7);
        fault("(a<b)<c=d", 7);
        fault("a<", 2);
        fault("a&", 2);
        fault("a&&b", 2);
        fault("a|", 2);
        fault("a||b", 2);
        fault("!", 1);
        fault("!+", 1);
        fault("!)", 1);
        fault("(a<b<c)", 4);
        fault("(a+(b*c)", 8);
        fault("a,b", 1);
        fault("a\u00e1", 1);
        fault("\u00ff", 0);
        fault("a\u00ff+b", 1);
        fault("a\u0000", 1);
        fault("1:", 1);
        fault("/", 0);
        fault("g+(", 0);
        fault("a+g+(", 2);
    }

    private static void promise23Open() {
        check.due("five (", value("(((((1)))))"), 1);
        check.due("five !", value("!!!!!0"), 1);
        check.due("mixed", value("!(!(!1))"), 0);
        check.due("six ! that aren't open at once", value("!0+!0+!0+!0+!0+!0"), 6);
        check.due("six ( that aren't open at once", value("(1)+(1)+(1)+(1)+(1)+(1)"), 6);
        check.due("! closes behind its Q", value("(((!0+!0+(!0))))"), 3);
        check.due("! of ( closes behind )", value("!(1)+!(!(1))+((((1))))"), 2);
        fault("((((((1))))))", 5);
        fault("!!!!!!0", 5);
        fault("!(!(!(1)))", 5);
        fault("((((!!1))))", 5);
        fault("((((!(1)))))", 5);
        fault("(((((a+(b))))))", 7);
        fault("!!!!!(", 5);
        fault("!!!!(a+!b)", 7);
        fault("(((((", 5);
        fault("!!!!!", 5);
    }

    private static void promise23Uses() {
        TrainMile x = new TrainMile();
        x.runner(7, 0);
        Check.text(x, 0, "a+20");
        check.due("USE 0", x.pace(0, 0, 0, 0, 0), 27);
        check.due("USE 1 is still without", x.odd(0), 0);
        Check.text(x, 1, "a+20");
        check.due("USE 1", x.odd(0), 19);
        Check.text(x, 1, "a+30");
        check.due("USE 0 stays", x.pace(0, 0, 0, 0, 0), 27);
        check.due("USE 1", x.odd(0), 29);
    }
}
