/** The edges of what is FELT and SAID, a method for each sentence of the document (promises 27 to 31). */
public final class RumourEdgesTest {
    private static final Check CHECK = new Check("RumourEdgesTest");
    private static final int[] WILD = {Integer.MIN_VALUE, -2, -1, 8, 31, 32, 64, Integer.MAX_VALUE};
    private static final String[] WOODS = {"oak", "pine", "elm", "lime"};
    private static final String PAIR = "room a;room b;person p in a;person q in b;";
    private static final String ROW = "room a;room b;room c;room d;room e;room f;room g;door a b oak gap 12;"
        + "door b c oak gap 12;door c d oak gap 12;door d e oak gap 12;door e f oak gap 12;door f g oak gap 12;"
        + "person p in a;person q in b;person r in d;person s in f;person t in g;";

    public static void main(String[] args) {
        feltDays();
        feltOneDamp();
        feltEight();
        feltOthers();
        wets();
        wetsOfAll();
        tries();
        triesEqual();
        triesNone();
        saidDays();
        saidEight();
        saidOthers();
        who();
        CHECK.end();
    }

    private static SwollenHouse pair(String wood, int gap, String rest) {
        return CHECK.told(PAIR + "door a b " + wood + " gap " + gap + ";" + rest);
    }

    private static void feltDays() {
        CHECK.says("FELT: that a DOOR STICKS, or is OPEN, behind so many (1 to 30) DAYS");
        for (int days : new int[] {1, 2, 15, 29, 30}) {
            SwollenHouse x = pair("pine", 0, "swells date = " + (days - 1) + ";");
            CHECK.due("behind " + days, x.feel(0, days, true), true);
            CHECK.due("by the wet ones", x.wets(), 0x3e0);
            SwollenHouse y = pair("pine", 0, "swells date = " + days + ";");
            CHECK.due("behind " + days, y.feel(0, days, true), true);
            CHECK.due("a day too early: by none", y.wets(), 0);
            SwollenHouse z = pair("pine", 0, "swells date = " + (days - 1) + ";");
            CHECK.due("open behind " + days, z.feel(0, days, false), true);
            CHECK.due("by the others", z.wets(), 0x1f);
        }
    }

    private static void feltOneDamp() {
        CHECK.says("all of one unknown damp");
        for (String damp : new String[] {"", "damp 0;", "damp 9;", "damp 9 0 9 0 5;"}) {
            SwollenHouse x = pair("oak", 1, damp);
            x.feel(0, 2, true);
            CHECK.due("what is told is no matter: " + damp, x.wets(), 0x380);
        }
        SwollenHouse y = pair("lime", 2, "swells wet - 5;");
        y.feel(0, 1, true);
        CHECK.due("wet is that damp: 8 and 9 swell it by 3 and 4", y.wets(), 0x300);
    }

    private static void feltEight() {
        CHECK.says("all of one unknown damp; 8 at most.");
        SwollenHouse x = pair("pine", 0, "");
        for (int i = 1; i <= 7; i++) {
            CHECK.due("felt", x.feel(0, i, true), true);
            CHECK.due("count", x.count(9), i);
            CHECK.due("wets", x.wets(), 0x3e0);
        }
        CHECK.due("the eighth", x.feel(0, 30, false), true);
        CHECK.due("count", x.count(9), 8);
        CHECK.due("counts: by none", x.wets(), 0);
        CHECK.due("a ninth", x.feel(0, 1, true), false);
        CHECK.due("count", x.count(9), 8);
        CHECK.due("the same twice are two", twice().count(9), 2);
    }

    private static SwollenHouse twice() {
        SwollenHouse x = pair("pine", 0, "");
        x.feel(0, 1, true);
        x.feel(0, 1, true);
        return x;
    }

    private static void feltOthers() {
        CHECK.says("FELT: true; false: others, 8 there are.");
        SwollenHouse x = pair("pine", 0, "");
        for (int other : WILD) {
            CHECK.due("door " + other, x.feel(other, 1, true), false);
        }
        CHECK.due("no second", x.feel(1, 1, true), false);
        for (int days : new int[] {Integer.MIN_VALUE, -1, 0, 31, 60, Integer.MAX_VALUE}) {
            CHECK.due("days " + days, x.feel(0, days, true), false);
            CHECK.due("days " + days, x.feel(0, days, false), false);
        }
        CHECK.due("none", x.count(9), 0);
        CHECK.due("wets", x.wets(), 1023);
        CHECK.due("no doors", new SwollenHouse().feel(0, 1, false), false);
    }

    private static void wets() {
        CHECK.says("WETS by which all FELT is so (bits, 0 to 9).");
        int[] swelling = {0x380, 0x3e0, 0x3c0, 0x3f0};
        int[] shrinking = {0x3, 0xf, 0x1, 0x7};
        for (int wood = 0; wood < 4; wood++) {
            SwollenHouse x = pair(WOODS[wood], 0, "damp 9;");
            x.feel(0, 1, true);
            CHECK.due(WOODS[wood] + " sticks", x.wets(), swelling[wood]);
            SwollenHouse y = pair(WOODS[wood], 0, "damp 9;");
            y.feel(0, 1, false);
            CHECK.due(WOODS[wood] + " is open", y.wets(), 1023 & ~swelling[wood]);
            y.day();
            CHECK.due(WOODS[wood] + " gives", y.wets(), shrinking[wood]);
        }
        CHECK.says("WETS, as bits.");
        CHECK.due("nothing felt", pair("pine", 0, "").wets(), 1023);
        CHECK.due("no house", new SwollenHouse().wets(), 1023);
        for (int wet = 4; wet <= 9; wet++) {
            SwollenHouse x = pair("lime", 0, "swells wet = " + wet + ";");
            x.feel(0, 1, true);
            CHECK.due("only " + wet, x.wets(), 1 << wet);
        }
    }

    private static void wetsOfAll() {
        CHECK.says("by which all FELT is so");
        SwollenHouse x = CHECK.told("room a;room b;room c;room d;door a b oak gap 0;door b c pine gap 0;door c d elm gap 0;"
            + "door d a lime gap 0;");
        x.feel(3, 1, true);
        CHECK.due("4 to 9", x.wets(), 0x3f0);
        x.feel(0, 1, false);
        CHECK.due("4 to 6", x.wets(), 0x070);
        x.feel(1, 1, true);
        CHECK.due("5 and 6", x.wets(), 0x060);
        x.feel(2, 1, false);
        CHECK.due("5", x.wets(), 0x020);
        x.feel(2, 30, true);
        CHECK.due("by none", x.wets(), 0);
    }

    private static void tries() {
        CHECK.says("TRY: the DOOR and the DAYS (1 to 30) by which the greater number of these by which it STICKS, or does "
            + "not, is the least");
        SwollenHouse x = CHECK.told("room a;room b;room c;room d;door a b oak gap 0;door b c lime gap 0;door c d elm gap 0;"
            + "door d a pine gap 0;");
        CHECK.due("7 by the oak, 6 by lime and elm, 5 by the pine", x.tries(), 8 + 3);
        CHECK.due("7 by the oak alone", pair("oak", 0, "").tries(), 8);
        CHECK.due("behind 30", pair("oak", 0, "swells date = 29;").tries(), 240);
        CHECK.due("behind 29", pair("oak", 0, "swells date = 28;").tries(), 232);
        CHECK.due("not behind 31", pair("oak", 0, "swells date = 30;").tries(), -1);
        // The oak parts 3 from 7 behind each, the pine 5 from 5 behind 30 alone.
        CHECK.due("the better one, though behind 30", CHECK.told("room a;room b;room c;door a b oak gap 0;door b c pine gap 1;"
            + "swells (space = 0) + 2 * (space = 1) * (date = 29);").tries(), 241);
        // Swollen 4, an elm gives behind two days of 0, and by no other damp.
        SwollenHouse y = pair("elm", 0, "damp 9;swells 4;");
        y.day();
        CHECK.due("from now on", y.tries(), 16);
        CHECK.due("nothing is done", y.door(0, 4), 4);
        x.feel(3, 1, true);
        CHECK.due("of 5 to 9: 3 by the oak, 4 by the elm", x.tries(), 8);
        x.feel(0, 1, false);
        CHECK.due("of 5 and 6: by the elm", x.tries(), 8 + 2);
        CHECK.says("TRY, as 8 * the DAYS + the DOOR");
        CHECK.due("the last of eight", CHECK.told("room a;room b;room c;room d;room e;room f;room g;door a b oak gap 12;"
            + "door a c oak gap 12;door a d oak gap 12;door a e oak gap 12;door a f oak gap 12;door a g oak gap 12;"
            + "door b c oak gap 12;door b d oak gap 0;swells (space = 0) * (date = 29);").tries(), 247);
    }

    private static void triesEqual() {
        CHECK.says("of equal ones the first by DAYS, then DOORS.");
        String three = "room a;room b;room c;door a b pine gap %;door b c pine gap %;door c a pine gap %;";
        CHECK.due("all equal", CHECK.told(three.replace("%", "0")).tries(), 8);
        CHECK.due("all equal behind 13", CHECK.told(three.replace("%", "12")).tries(), 8 * 13);
        CHECK.due("fewer days, a later door", CHECK.told(three.replaceFirst("%", "1").replace("%", "0")).tries(), 8 + 1);
        CHECK.due("fewer days, the last door", CHECK.told(three.replaceFirst("%", "1").replaceFirst("%", "1")
            .replace("%", "0")).tries(), 8 + 2);
    }

    private static void triesNone() {
        CHECK.says("if that is less than all");
        CHECK.due("none sticks by any", pair("pine", 0, "swells 0;").tries(), -1);
        SwollenHouse x = pair("pine", 0, "");
        x.wedge(0);
        CHECK.due("a wedge", x.tries(), -1);
        SwollenHouse y = pair("lime", 0, "swells wet = 9;");
        CHECK.due("9 of 10", y.tries(), 8);
        y.feel(0, 1, true);
        CHECK.due("1 of 1", y.tries(), -1);
        y.feel(0, 1, false);
        CHECK.due("none of none", y.tries(), -1);
        SwollenHouse z = pair("pine", 0, "");
        z.feel(0, 1, true);
        CHECK.due("five that are not parted", z.tries(), -1);
        CHECK.says("NONE: none parts them.");
        CHECK.due("no doors", new SwollenHouse().tries(), -1);
        // Swollen 30, an oak of gap 0 gives behind 30 days of 0 or 1, and by no other damp.
        SwollenHouse w = pair("oak", 0, "damp 9;swells 9;");
        for (int i = 0; i < 4; i++) {
            w.day();
        }
        CHECK.due("swollen 30, behind 30", w.tries(), 240);
        w.plane(0);
        CHECK.due("at a gap of 1 behind 29", w.tries(), 232);
        w.undo();
        w.feel(0, 30, true);
        CHECK.due("it sticks by all", w.tries(), -1);
    }

    private static void saidDays() {
        CHECK.says("SAID: that an unknown PERSON, WALKING as they like, was in a ROOM in so many (0 to 40) DAYS, or less");
        int[] due = {1, 3, 3, 7, 7, 15, 31, 31};
        for (int days = 0; days < due.length; days++) {
            SwollenHouse x = CHECK.told(ROW);
            CHECK.due("a in " + days, x.say(0, days), true);
            CHECK.due("who", x.who(), due[days]);
        }
        SwollenHouse y = CHECK.told(ROW);
        CHECK.due("in 40, or less", y.say(0, 40), true);
        CHECK.due("all", y.who(), 31);
        // Swollen 13 on day 15, the door opens behind 39 days, so that one is there in 40.
        String slow = PAIR + "door a b oak gap 0;damp 9 5 0;swells 9 * (date < 6);";
        SwollenHouse z = CHECK.told(slow);
        for (int i = 0; i < 15; i++) {
            z.day();
        }
        z.mark(0, false);
        CHECK.due("b in 40", z.say(1, 40), true);
        CHECK.due("p, too", z.who(), 3);
        z.mark(0, true);
        CHECK.due("b in 39", z.say(1, 39), true);
        CHECK.due("q only", z.who(), 2);
    }

    private static void saidEight() {
        CHECK.says("8 at most (each by itself)");
        SwollenHouse x = CHECK.told(ROW);
        for (int i = 1; i <= 7; i++) {
            CHECK.due("said", x.say(0, 40 - i), true);
            CHECK.due("count", x.count(10), i);
            CHECK.due("who", x.who(), 31);
        }
        CHECK.due("the eighth", x.say(6, 0), true);
        CHECK.due("count", x.count(10), 8);
        CHECK.due("counts: t", x.who(), 16);
        CHECK.due("a ninth", x.say(0, 0), false);
        CHECK.due("count", x.count(10), 8);
        CHECK.due("who", x.who(), 16);
        SwollenHouse y = CHECK.told(ROW);
        y.say(0, 3);
        y.say(6, 3);
        CHECK.due("each by itself: r could have been in either", y.who(), 4);
    }

    private static void saidOthers() {
        CHECK.says("SAID: true; false: others, 8 there are.");
        SwollenHouse x = CHECK.told(ROW);
        for (int other : WILD) {
            CHECK.due("room " + other, x.say(other, 1), false);
        }
        CHECK.due("room 7", x.say(7, 1), false);
        for (int days : new int[] {Integer.MIN_VALUE, -1, 41, 60, Integer.MAX_VALUE}) {
            CHECK.due("days " + days, x.say(0, days), false);
        }
        CHECK.due("none", x.count(10), 0);
        CHECK.due("who", x.who(), 31);
        CHECK.due("no rooms", new SwollenHouse().say(0, 0), false);
        CHECK.due("behind the last", pair("oak", 0, "").say(2, 0), false);
    }

    private static void who() {
        CHECK.says("WHO could have been so in all that is SAID (bits).");
        CHECK.due("nothing said: all", CHECK.told(ROW).who(), 31);
        CHECK.due("nobody is there", CHECK.told("room a;").who(), 0);
        SwollenHouse x = CHECK.told(ROW);
        x.say(2, 1);
        CHECK.due("q and r", x.who(), 6);
        x.say(0, 1);
        CHECK.due("q", x.who(), 2);
        x.say(6, 4);
        CHECK.due("nobody", x.who(), 0);
        CHECK.says("WHO, as bits.");
        SwollenHouse y = CHECK.told(ROW);
        y.say(6, 0);
        CHECK.due("the last", y.who(), 16);
    }
}
