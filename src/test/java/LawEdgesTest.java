/** The edges of E, the law of swelling, a method for each sentence of the document (promises 3 and 7). */
public final class LawEdgesTest {
    private static final Check CHECK = new Check("LawEdgesTest");
    private static final String PAIR = "room a;room b;door a b pine gap 3;";
    // 2147483647, the greatest int.
    private static final String MAX = "9999*9999*21+9999*4790+8416";
    // -2147483648, the least int, by a wrap-around of its own.
    private static final String MIN = "8192*8192*32";

    public static void main(String[] args) {
        fromTheLeft();
        tests();
        sums();
        products();
        parts();
        within();
        facts();
        oneOrZero();
        notZeroIsSo();
        intsWrap();
        comparedInts();
        withoutSwells();
        shorterLaw();
        longestLaw();
        CHECK.end();
    }

    /** How far a door of gap 3 is swollen behind day 0, of damp 9: what E tells, cut to 0 to 9. */
    private static void growth(String law, int due) {
        SwollenHouse x = CHECK.told(PAIR + "damp 9;swells " + law + ";");
        x.day();
        CHECK.due("swells " + law, x.door(0, 4), due);
    }

    private static void law(String law, int kind, int place) {
        CHECK.fault("swells " + law, kind, 7 + place);
    }

    private static void fromTheLeft() {
        CHECK.says("E: TEST { and TEST or or TEST }, from the left");
        growth("5", 5);
        growth("1 or 0 and 0", 0);
        growth("1 or (0 and 0)", 1);
        growth("0 and 0 or 1", 1);
        growth("0 and (0 or 1)", 0);
        growth("1 and 0 or 1 and 0 or 1", 1);
        growth("1 or 1 and 1 or 0 and 0", 0);
        law("and 1;", 1, 0);
        law("or 1;", 1, 0);
        law("1 and;", 1, 5);
        law("1 or;", 1, 4);
        law("1 and or 1;", 1, 6);
        law("1 and and 1;", 1, 6);
        law(";", 1, 0);
        law("", 1, 0);
    }

    private static void tests() {
        CHECK.says("TEST: SUM, or SUM < SUM, or SUM = SUM");
        growth("7", 7);
        growth("2 + 2 < 5", 1);
        growth("2 + 3 < 5", 0);
        growth("2 + 3 < 6 - 1 + 1", 1);
        growth("2 + 3 = 7 - 2", 1);
        growth("2 + 3 = 7 - 1", 0);
        growth("1 < 2 and 2 < 3", 1);
        growth("1 < 2 and 3 < 3 or 3 = 3", 1);
        law("1 < 2 < 3;", 1, 6);
        law("1 < 2 = 1;", 1, 6);
        law("1 = 1 < 2;", 1, 6);
        law("1 = 1 = 1;", 1, 6);
        growth("(1 < 2) = 1", 1);
        growth("1 = (2 = 2)", 1);
        law("< 2;", 1, 0);
        law("1 <;", 1, 3);
        law("1 =;", 1, 3);
    }

    private static void sums() {
        CHECK.says("SUM: PRODUCT { + or - PRODUCT }");
        growth("9 - 3 - 2", 4);
        growth("9 - (3 - 2)", 8);
        growth("9 - 3 + 2", 8);
        growth("1 + 1 + 1 + 1 + 1 - 1", 4);
        growth("9 - 2 * 3", 3);
        growth("1 + 2 * 3", 7);
        growth("2 * 3 + 1", 7);
        law("+ 1;", 1, 0);
        law("- 1;", 1, 0);
        law("1 +;", 1, 3);
        law("1 -;", 1, 3);
        law("1 + + 1;", 1, 4);
        law("1 - - 1;", 1, 4);
        law("1 < - 1;", 1, 4);
    }

    private static void products() {
        CHECK.says("PRODUCT: PART { * PART }");
        growth("2 * 2 * 2", 8);
        growth("2 * 0 * 9", 0);
        growth("(1 + 2) * (1 + 1)", 6);
        law("* 1;", 1, 0);
        law("1 *;", 1, 3);
        law("1 * * 1;", 1, 4);
        law("2 (3);", 1, 2);
    }

    private static void parts() {
        CHECK.says("PART: a NUMBER, a fact, not PART, ( E )");
        growth("0", 0);
        growth("0009", 9);
        growth("9999", 9);
        growth("wet", 9);
        growth("not 0", 1);
        growth("(4)", 4);
        growth("not 0 + 5", 6);
        growth("not (0 + 5)", 0);
        growth("not 0 * 0", 0);
        growth("not 1 < 2", 1);
        growth("not (1 < 2)", 0);
        growth("not 1 or 1", 1);
        growth("not not 5", 1);
        growth("3 + not 0", 4);
        growth("3 * not 0", 3);
        law("not;", 1, 3);
        law("not and 1;", 1, 4);
        law("();", 1, 1);
        law("(1;", 1, 2);
        law("1);", 1, 1);
        law("(1));", 1, 3);
        law(")1(;", 1, 0);
        law("1 1;", 1, 2);
        law("1 wet;", 1, 2);
        law("1 not 1;", 1, 2);
        law("(1 2);", 1, 3);
        law("toad;", 1, 0);
        law("room;", 1, 0);
        law("oak;", 1, 0);
        law("wets;", 1, 0);
        law("gap;", 1, 0);
    }

    private static void within() {
        CHECK.says("no PART lies within 5 of not and ( ).");
        growth("((((7))))", 7);
        growth("not not not not 7", 1);
        growth("not (not (7))", 1);
        growth("((((wet))))", 9);
        growth("((((1))))+((((1))))", 2);
        growth("(((1)+((1))))+not(not 1)", 3);
        growth("((((1)+1)+1)+1)", 4);
        growth("(1+(1+(1+(1+1))))", 5);
        CHECK.says("not, or a PART, within 5 others.");
        law("(((((7)))));", 5, 5);
        law("(((((wet", 5, 5);
        law("(((((not", 5, 5);
        law("((((((", 5, 5);
        law("not not not not not 7;", 5, 20);
        law("not not not not not not", 5, 20);
        law("not(not(not 7))", 5, 12);
        law("((((not 7", 5, 8);
        law("((((not (7", 5, 8);
        law("not((((7", 5, 7);
        law("((((1))))+(((((1", 5, 15);
        law("((((1+(1", 5, 7);
        law("((((1*not 1", 5, 10);
        law("(((((toad", 1, 5);
        law("((((()", 1, 5);
        law("(((((", 1, 5);
        law("(((((99999", 1, 5);
        law("(((((and", 1, 5);
    }

    private static void grown(String law, int... due) {
        SwollenHouse x = CHECK.told(PAIR + "damp 9 8 5;swells " + law + ";");
        for (int i = 0; i < due.length; i++) {
            x.day();
            CHECK.due("swells " + law + " behind day " + i, x.door(0, 4), due[i]);
        }
    }

    private static void facts() {
        CHECK.says("Facts: wet (the day's damp), swell (how far it is swollen), space (its gap), date (the day's number).");
        grown("wet - 5", 4, 7, 7, 11);
        grown("date", 0, 1, 3, 6, 10);
        grown("swell + 1", 1, 3, 7, 15);
        grown("space", 3, 6, 9);
        SwollenHouse x = CHECK.told(PAIR + "damp 9;swells space;");
        x.plane(0);
        x.plane(0);
        x.day();
        CHECK.due("the gap as it is", x.door(0, 4), 5);
        x.day();
        CHECK.due("swollen", x.door(0, 4), 10);
        SwollenHouse y = CHECK.told("room a;room b;room c;door a b pine gap 1;door b c lime gap 4;damp 9;swells space;");
        y.day();
        CHECK.due("of each door its own", y.door(0, 4), 1);
        CHECK.due("of each door its own", y.door(1, 4), 4);
        SwollenHouse z = CHECK.told(PAIR + "damp 9;swells date = 300;");
        for (int i = 0; i < 300; i++) {
            z.day();
        }
        CHECK.due("not yet", z.door(0, 4), 0);
        z.day();
        CHECK.due("day 300", z.door(0, 4), 1);
        CHECK.due("names of rooms are no facts", CHECK.told("room wet;room date;door wet date pine gap 0;damp 9;"
            + "swells wet - 2;").later(0, 1), 7);
    }

    private static void oneOrZero() {
        CHECK.says("Of not, and, or, < and = comes 1 or 0");
        growth("not 0 * 7", 7);
        growth("not 5 + 7", 7);
        growth("(5 and 6) * 7", 7);
        growth("(5 and 0) + 7", 7);
        growth("(0 and 6) + 7", 7);
        growth("(0 and 0) + 7", 7);
        growth("(5 or 6) * 7", 7);
        growth("(5 or 0) * 7", 7);
        growth("(0 or 6) * 7", 7);
        growth("(0 or 0) + 7", 7);
        growth("(5 < 6) * 7", 7);
        growth("(6 < 6) + 7", 7);
        growth("(7 < 6) + 7", 7);
        growth("(6 = 6) * 7", 7);
        growth("(5 = 6) + 7", 7);
    }

    private static void notZeroIsSo() {
        CHECK.says("what is not 0 is so");
        growth("not 1", 0);
        growth("not 2", 0);
        growth("not 9999", 0);
        growth("not (0 - 1)", 0);
        growth("not (1 - 1)", 1);
        growth("(0 - 1) and 1", 1);
        growth("1 and (0 - 1)", 1);
        growth("0 or (0 - 1)", 1);
        growth("(0 - 1) or 0", 1);
        growth("2 and 4", 1);
        growth("(" + MIN + ") and 1", 1);
        growth("not (" + MIN + ")", 0);
        growth("not (8192*8192*64)", 1);
    }

    private static void intsWrap() {
        CHECK.says("ints wrap");
        growth(MAX, 9);
        growth(MAX + "+1", 0);
        growth(MAX + "+1=" + MIN, 1);
        growth(MAX + "+1+" + MAX + "+9", 8);
        growth("0-9999*9999*21-9999*4790-8416-1", 0);
        growth("0-9999*9999*21-9999*4790-8416-1=" + MIN, 1);
        growth("0-9999*9999*21-9999*4790-8416-2", 9);
        growth("0-9999*9999*21-9999*4790-8416-2=" + MAX, 1);
        growth(MIN, 0);
        growth("0-" + MIN, 0);
        growth("0-" + MIN + "=" + MIN, 1);
        growth(MIN + "-1", 9);
        growth("8192*8192*64", 0);
        growth("8192*8192*64+5", 5);
        growth("8192*8192*64=0", 1);
        growth("9999*9999*22", 0);
        growth("9999*9999*43", 9);
        growth("9999*9999*43=9999*417+3164", 1);
    }

    private static void comparedInts() {
        CHECK.says("SUM < SUM, or SUM = SUM");
        growth(MAX + "<0-1", 0);
        growth("0-1<" + MAX, 1);
        growth(MIN + "<" + MAX, 1);
        growth(MAX + "<" + MIN, 0);
        growth(MIN + "<1", 1);
        growth("1<" + MIN, 0);
        growth(MAX + "=" + MAX, 1);
        growth(MAX + "<" + MAX, 0);
    }

    private static void withoutSwells() {
        CHECK.says("Without swells: 1.");
        SwollenHouse x = CHECK.told(PAIR + "damp 9;");
        for (int far = 1; far <= 4; far++) {
            x.day();
            CHECK.due("behind " + far, x.door(0, 4), far);
        }
        CHECK.due("with a law", Check.house(x, PAIR + "damp 9;swells 0;"), 0);
        x.day();
        CHECK.due("0", x.door(0, 4), 0);
        CHECK.due("and without again", Check.house(x, PAIR + "damp 9;"), 0);
        x.day();
        CHECK.due("1", x.door(0, 4), 1);
    }

    private static void shorterLaw() {
        CHECK.says("Without a FAULT a HOUSE is the HOUSE from then on");
        SwollenHouse x = CHECK.told(PAIR + "damp 9;swells not not not 5;");
        CHECK.due("a shorter law", Check.house(x, PAIR + "damp 9;swells 5;"), 0);
        CHECK.due("is all there is", x.later(0, 1), 5);
        CHECK.due("a longer one with a fault", Check.house(x, PAIR + "damp 9;swells not not not 5"), 1 + 16 * 61);
        CHECK.due("is none", x.later(0, 1), 5);
    }

    private static void longestLaw() {
        CHECK.says("swells E ;");
        StringBuilder law = new StringBuilder(PAIR + "damp 9;swells 0");
        while (law.length() + 2 < 997) {
            law.append("+0");
        }
        law.append(" ".repeat(997 - law.length()));
        CHECK.due("1,000 signs", law.length() + 3, 1000);
        SwollenHouse x = CHECK.told(law + "+3;");
        x.day();
        CHECK.due("its end counts", x.door(0, 4), 3);
        String deepest = "1 and 1 < 1 + 1 * (0 or 1 < 1 + 1 * (1 and 1 < 1 + 1 * (0 or 1 < 1 + 1 * (1 and 1 < 1 + 1 * 1))))";
        growth(deepest, 1);
        growth("not (1 and 1 < 1 + 1 * (0 or 1 < 1 + 1 * 0))", 1);
    }
}
