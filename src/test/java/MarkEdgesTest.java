/** The edges of MARKS and of what is counted, a method for each sentence of the document (promises 43 and 44). */
public final class MarkEdgesTest {
    private static final Check CHECK = new Check("MarkEdgesTest");
    private static final String HOUSE = "room a;room b;door a b pine gap 0;person p in a;damp 9 0;";

    public static void main(String[] args) {
        zeroToThree();
        allThatUndoBringsBack();
        feltAndSaid();
        fullOfFeltAndSaid();
        nothingUndone();
        whatIsNotHeld();
        laid();
        noneSuch();
        counts();
        countsOthers();
        constants();
        CHECK.end();
    }

    private static void zeroToThree() {
        CHECK.says("MARKS 0 to 3 hold all that UNDO brings back");
        SwollenHouse x = CHECK.told(HOUSE);
        for (int mark = 0; mark < 4; mark++) {
            x.plane(0);
            CHECK.due("laid", x.mark(mark, false), true);
        }
        for (int mark : new int[] {2, 0, 3, 1, 1}) {
            CHECK.due("back to " + mark, x.mark(mark, true), true);
            CHECK.due("its own gap", x.door(0, 3), mark + 1);
        }
    }

    private static void allThatUndoBringsBack() {
        CHECK.says("hold all that UNDO brings back");
        SwollenHouse x = CHECK.told(HOUSE);
        x.mark(0, false);
        x.walk(0, 0);
        x.plane(0);
        x.wedge(0);
        x.day();
        x.mark(3, false);
        CHECK.due("back to the begin", x.mark(0, true), true);
        CHECK.due("place", x.person(0), 0);
        CHECK.due("gap", x.door(0, 3), 0);
        CHECK.due("wedge", x.count(6), 0);
        CHECK.due("day", x.count(3), 0);
        CHECK.due("swollen", x.count(7), 0);
        CHECK.due("damp", x.count(4), 9);
        CHECK.due("and forth", x.mark(3, true), true);
        CHECK.due("place", x.person(0), 1);
        CHECK.due("gap", x.door(0, 3), 1);
        CHECK.due("wedge", x.count(6), 1);
        CHECK.due("day", x.count(3), 1);
        CHECK.due("swollen", x.count(7), 1);
        CHECK.due("damp", x.count(4), 0);
        x.day();
        x.plane(0);
        CHECK.due("what is done then does not change it", x.mark(3, true), true);
        CHECK.due("day", x.count(3), 1);
        CHECK.due("gap", x.door(0, 3), 1);
    }

    private static void feltAndSaid() {
        CHECK.says("what is FELT, SAID");
        SwollenHouse x = CHECK.told(HOUSE);
        x.mark(0, false);
        x.feel(0, 1, true);
        x.say(1, 0);
        x.mark(1, false);
        x.mark(0, true);
        CHECK.due("nothing felt", x.count(9), 0);
        CHECK.due("nothing said", x.count(10), 0);
        CHECK.due("wets", x.wets(), 1023);
        CHECK.due("who", x.who(), 1);
        x.feel(0, 1, false);
        x.feel(0, 2, false);
        x.say(0, 0);
        x.say(0, 1);
        CHECK.due("wets", x.wets(), 0x1f);
        CHECK.due("who", x.who(), 1);
        x.mark(1, true);
        CHECK.due("one felt", x.count(9), 1);
        CHECK.due("one said", x.count(10), 1);
        CHECK.due("wets", x.wets(), 0x3e0);
        CHECK.due("who", x.who(), 0);
        x.feel(0, 1, false);
        x.mark(1, true);
        CHECK.due("what is felt then does not change it", x.count(9), 1);
        CHECK.due("wets", x.wets(), 0x3e0);
    }

    private static void fullOfFeltAndSaid() {
        CHECK.says("what is FELT, SAID");
        SwollenHouse x = CHECK.told(HOUSE);
        x.mark(2, false);
        for (int i = 1; i <= 7; i++) {
            x.feel(0, i, true);
            x.say(0, i);
        }
        x.feel(0, 8, false);
        x.say(1, 0);
        x.mark(3, false);
        x.mark(2, true);
        CHECK.due("eight can be felt anew", x.feel(0, 1, true), true);
        CHECK.due("eight can be said anew", x.say(0, 1), true);
        x.mark(3, true);
        CHECK.due("eight felt", x.count(9), 8);
        CHECK.due("eight said", x.count(10), 8);
        CHECK.due("the last, too", x.wets(), 0);
        CHECK.due("the last, too", x.who(), 0);
        CHECK.due("no ninth", x.feel(0, 1, true), false);
        CHECK.due("no ninth", x.say(0, 1), false);
    }

    private static void nothingUndone() {
        CHECK.says("(nothing can be undone when one is gone back to)");
        SwollenHouse x = CHECK.told(HOUSE);
        x.plane(0);
        x.plane(0);
        CHECK.due("laid", x.mark(0, false), true);
        CHECK.due("laying is no matter", x.count(11), 2);
        CHECK.due("undone", x.undo(), true);
        CHECK.due("gap", x.door(0, 3), 1);
        CHECK.due("back", x.mark(0, true), true);
        CHECK.due("gap", x.door(0, 3), 2);
        CHECK.due("nothing", x.count(11), 0);
        CHECK.due("nothing", x.undo(), false);
        x.plane(0);
        CHECK.due("one", x.count(11), 1);
        CHECK.due("undone", x.undo(), true);
        CHECK.due("gap", x.door(0, 3), 2);
        CHECK.due("no more", x.undo(), false);
        for (int i = 0; i < 17; i++) {
            x.plane(0);
        }
        CHECK.due("full", x.count(11), 16);
        CHECK.due("back", x.mark(0, true), true);
        CHECK.due("nothing", x.undo(), false);
        CHECK.due("gap", x.door(0, 3), 2);
    }

    private static void whatIsNotHeld() {
        CHECK.says("MARKS 0 to 3 hold all that UNDO brings back, what is FELT, SAID");
        SwollenHouse x = CHECK.told(HOUSE);
        x.mark(0, false);
        CHECK.due("days", Check.days(x, "day;force 0;force 0;"), 0);
        Check.feed(x, "room");
        x.mark(1, false);
        CHECK.due("back", x.mark(0, true), true);
        CHECK.due("the DAYS stay", x.count(8), 3);
        CHECK.due("they are judged", x.judged(0), 2);
        CHECK.due("the TAPE stays", x.count(12), 4);
        CHECK.due("the other mark stays", x.mark(1, true), true);
    }

    private static void laid() {
        CHECK.says("A MARK is laid (back: gone back to): true");
        SwollenHouse x = CHECK.told(HOUSE);
        for (int mark = 0; mark < 4; mark++) {
            CHECK.due("laid " + mark, x.mark(mark, false), true);
            CHECK.due("back to " + mark, x.mark(mark, true), true);
            CHECK.due("again to " + mark, x.mark(mark, true), true);
        }
        x.plane(0);
        CHECK.due("laid anew", x.mark(1, false), true);
        x.plane(0);
        x.mark(1, true);
        CHECK.due("gap", x.door(0, 3), 1);
        x.mark(0, true);
        CHECK.due("the others are as they were", x.door(0, 3), 0);
        CHECK.due("in an empty house", new SwollenHouse().mark(3, false), true);
    }

    private static void noneSuch() {
        CHECK.says("false: none such, nothing is on it (back).");
        SwollenHouse x = CHECK.told(HOUSE);
        for (int mark = 0; mark < 4; mark++) {
            CHECK.due("nothing on " + mark, x.mark(mark, true), false);
        }
        for (int mark : new int[] {Integer.MIN_VALUE, -2, -1, 4, 5, 31, 32, Integer.MAX_VALUE}) {
            CHECK.due("no mark " + mark, x.mark(mark, false), false);
            CHECK.due("back to " + mark, x.mark(mark, true), false);
        }
        x.mark(2, false);
        CHECK.due("nothing on 1", x.mark(1, true), false);
        CHECK.due("nothing on 3", x.mark(3, true), false);
        CHECK.due("on 2 there is", x.mark(2, true), true);
    }

    private static void counts() {
        CHECK.says("What 0: ROOMS, 1: DOORS, 2: PERSONS, 3: the day, 4: its damp, 5: DOORS that STICK, as bits, "
            + "6: DOORS with a wedge, as bits, 7: how far all are swollen, together, 8: lines of the DAYS, 9: FELT, "
            + "10: SAID, 11: what can be undone, 12: signs on the TAPE.");
        SwollenHouse x = CHECK.told("room a;room b;room c;room d;room e;room f;room g;door a b oak gap 0;door a c pine gap 0;"
            + "door a d elm gap 0;door a e lime gap 0;door a f oak gap 0;door a g pine gap 0;door b c elm gap 0;"
            + "door b d lime gap 0;person p in a;person q in b;person r in c;person s in d;person t in e;damp 9 8;swells 9;",
            "day;".repeat(40));
        x.wedge(7);
        x.wedge(0);
        for (int i = 0; i < 15; i++) {
            x.day();
        }
        for (int i = 0; i < 8; i++) {
            x.feel(i, 1, true);
            x.say(i % 7, i);
        }
        Check.feed(x, " ".repeat(1000));
        int[] due = {7, 8, 5, 15, 8, 0x7e, 0x81, 240, 40, 8, 8, 16, 1000};
        for (int what = 0; what < due.length; what++) {
            CHECK.due("count(" + what + ") of a full one", x.count(what), due[what]);
        }
        SwollenHouse y = new SwollenHouse();
        for (int what = 0; what < due.length; what++) {
            CHECK.due("count(" + what + ") of nothing", y.count(what), 0);
        }
    }

    private static void countsOthers() {
        CHECK.says("NONE for another what.");
        SwollenHouse x = CHECK.told(HOUSE);
        for (int what : new int[] {Integer.MIN_VALUE, -2, -1, 13, 14, 31, 32, Integer.MAX_VALUE}) {
            CHECK.due("count " + what, x.count(what), -1);
            CHECK.due("of nothing", new SwollenHouse().count(what), -1);
        }
    }

    private static void constants() {
        CHECK.says("The constants: `NONE = -1`: None.");
        CHECK.due("NONE", SwollenHouse.NONE, -1);
    }
}
