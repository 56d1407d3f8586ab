/** Promises 2, 3 and 4: the tape, houses and days, and their faults. */
public final class TellingTest {
    private static final String[] RESERVED = {"room", "door", "gap", "person", "in", "damp", "swells", "day", "walk",
        "plane", "wedge", "force", "oak", "pine", "elm", "lime", "not", "and", "or"};
    private static final String TWO = "room a;room b;";

    private static final Check CHECK = new Check("TellingTest");

    public static void main(String[] args) {
        feeding();
        tokens();
        names();
        doors();
        tooMany();
        damp();
        swells();
        newHouse();
        faultyHouse();
        days();
        daysAreKept();
        CHECK.end();
    }

    private static void feeding() {
        SwollenHouse x = new SwollenHouse();
        CHECK.due("nothing", x.feed(0, 0, 0), 0);
        // Of each number the highest byte first: 10, 32 and 126 count, 0, 9, 31, 127, 128 and 255 do not.
        CHECK.due("some", x.feed(0x00090A1F207E7FFFL, 0x80L, -1L), 3);
        CHECK.due("on the tape", x.count(12), 3);
        CHECK.due("126 is no token", x.house(), 1 + 16 * 2);
        CHECK.due("taken", x.count(12), 0);
        CHECK.due("in their order", x.feed(Check.packed("room a;", 0), Check.packed(" room b;", 0),
            Check.packed("room c;", 0)), 22);
        CHECK.due("read", x.house(), 0);
        CHECK.due("rooms", x.count(0), 3);
        StringBuilder text = new StringBuilder();
        for (int i = 0; i < 990; i++) {
            text.append(i % 2 == 0 ? ' ' : '\n');
        }
        text.append("room a ; room b ;");
        Check.feed(x, text.toString());
        CHECK.due("1,000 at most", x.feed(0x2020202020202020L, 0, 0), 1000);
        CHECK.due("the rest is left out", x.house(), 1 + 16 * 999);
    }

    private static void tokens() {
        CHECK.told("");
        CHECK.told(" \n ");
        CHECK.told("room a;room b;door a b oak gap 0;person p in a;damp 1;swells 1;");
        CHECK.told("damp1 2 3;");
        CHECK.told("swells 1and 1or wet<2;");
        CHECK.told("room abcdefgh ;");
        CHECK.told("room azaz ;");
        CHECK.fault("room abcdefghi ;", 1, 5);
        CHECK.told(TWO + "door a b oak gap 0012;");
        CHECK.fault(TWO + "door a b oak gap 00012;", 1, 31);
        CHECK.fault("rooma;", 1, 0);
        CHECK.fault("Room a;", 1, 0);
        CHECK.fault("room a ,", 1, 7);
        CHECK.fault("room a", 1, 6);
        CHECK.fault("room a  ", 1, 8);
        CHECK.fault("room", 1, 4);
        CHECK.fault("room ;", 1, 5);
        CHECK.fault("room 1;", 1, 5);
        CHECK.fault(" ;", 1, 1);
        CHECK.fault("7", 1, 0);
        CHECK.fault("day ;", 1, 0);
        CHECK.fault("damp 1x;", 1, 6);
        CHECK.fault("room a b;", 1, 7);
        for (char sign : "!\"#$%&',./:>?@[\\]^_`{|}~A".toCharArray()) {
            CHECK.fault("room a ; " + sign, 1, 9);
        }
    }

    private static void names() {
        for (String word : RESERVED) {
            CHECK.fault("room " + word + ";", 1, 5);
            CHECK.fault(TWO + "person " + word, 1, 21);
            CHECK.fault(TWO + "door " + word, 1, 19);
            CHECK.fault(TWO + "person p in " + word, 1, 26);
        }
        CHECK.told("room wet;room swell;room space;room date;person house in date;");
        CHECK.fault("room a;room a;", 3, 12);
        CHECK.fault("room a;person a", 3, 14);
        CHECK.fault("room a;person p in a;room p;", 3, 26);
        CHECK.fault("room a;person p in a;person p", 3, 28);
        CHECK.fault("person p in a", 2, 12);
        CHECK.fault("room a;person p in p", 2, 19);
        CHECK.fault("room a;person p on", 1, 16);
        CHECK.fault("room a;person p in a a", 1, 21);
        CHECK.fault("person p", 1, 8);
    }

    private static void doors() {
        CHECK.fault("door a b", 2, 5);
        CHECK.fault(TWO + "door 1", 1, 19);
        CHECK.fault(TWO + "door c", 2, 19);
        CHECK.fault(TWO + "door a c", 2, 21);
        CHECK.fault(TWO + "door a ;", 1, 21);
        CHECK.fault(TWO + "door a a", 3, 21);
        CHECK.fault(TWO + "person p in a;door p", 2, 33);
        CHECK.fault(TWO + "person p in a;door a p", 2, 35);
        CHECK.fault(TWO + "door a b fir", 1, 23);
        CHECK.fault(TWO + "door a b gap", 1, 23);
        CHECK.fault(TWO + "door a b oak 1", 1, 27);
        CHECK.fault(TWO + "door a b oak gap ;", 1, 31);
        CHECK.fault(TWO + "door a b oak gap 13", 4, 31);
        CHECK.fault(TWO + "door a b oak gap 9999", 4, 31);
        CHECK.fault(TWO + "door a b oak gap 12", 1, 33);
        String one = TWO + "door a b elm gap 12;";
        CHECK.fault(one + "door a b", 3, 41);
        CHECK.fault(one + "door b a", 3, 41);
        CHECK.told(one + "room c;door b c oak gap 0;door c a pine gap 1;");
    }

    private static void tooMany() {
        String rooms = "room a;room b;room c;room d;room e;room f;room g;";
        CHECK.told(rooms);
        CHECK.fault(rooms + "room a", 5, rooms.length());
        String doors = rooms + "door a b oak gap 0;door a c oak gap 0;door a d oak gap 0;door a e oak gap 0;"
            + "door a f oak gap 0;door a g oak gap 0;door b c oak gap 0;door b d oak gap 0;";
        CHECK.told(doors);
        CHECK.fault(doors + "door", 5, doors.length());
        String persons = "room a;person p in a;person q in a;person r in a;person s in a;person t in a;";
        CHECK.told(persons);
        CHECK.fault(persons + "person p", 5, persons.length());
    }

    private static void damp() {
        String twelve = "damp 0 1 2 3 4 5 6 7 8 9 0 1";
        CHECK.told(twelve + ";");
        CHECK.fault(twelve + " 9", 5, twelve.length() + 1);
        CHECK.fault(twelve + " 10", 4, twelve.length() + 1);
        CHECK.fault(twelve + " 10000", 1, twelve.length() + 1);
        CHECK.fault(twelve + " x", 1, twelve.length() + 1);
        CHECK.fault("damp;", 1, 4);
        CHECK.fault("damp 10;", 4, 5);
        CHECK.fault("damp 1 10;", 4, 7);
        CHECK.fault("damp 1 room", 1, 7);
        CHECK.fault("damp 1;damp", 3, 7);
        CHECK.fault("damp 0;damp", 3, 7);
    }

    private static void swells() {
        CHECK.told("swells wet + swell * space - date = 9999 and not 0 or ( 1 < 2 ) ;");
        CHECK.fault("swells", 1, 6);
        CHECK.fault("swells ;", 1, 7);
        CHECK.fault("swells 1;swells", 3, 9);
        CHECK.fault("swells 10000;", 1, 7);
        CHECK.fault("swells toad;", 1, 7);
        CHECK.fault("swells and;", 1, 7);
        CHECK.fault("swells 1 2;", 1, 9);
        CHECK.fault("swells 1 wet;", 1, 9);
        CHECK.fault("swells 1 not 1;", 1, 9);
        CHECK.fault("swells 1 + ;", 1, 11);
        CHECK.fault("swells - 1;", 1, 7);
        CHECK.fault("swells 1 < 2 = 3;", 1, 13);
        CHECK.told("swells 1 < 2 and 2 = 3 or 3 < 4;");
        CHECK.told("swells (1 < 2) = 3;");
        CHECK.fault("swells (1;", 1, 9);
        CHECK.fault("swells 1);", 1, 8);
        CHECK.fault("swells ();", 1, 8);
        CHECK.fault("swells not;", 1, 10);
        CHECK.told("swells ((((1))));");
        CHECK.told("swells not(not(wet));");
        CHECK.told("swells not not not not 1;");
        CHECK.fault("swells (((((1", 5, 12);
        CHECK.fault("swells ((((((", 5, 12);
        CHECK.fault("swells (((((not", 5, 12);
        CHECK.fault("swells (((((wet", 5, 12);
        CHECK.fault("swells (((((toad", 1, 12);
        CHECK.fault("swells ((((()", 1, 12);
        CHECK.fault("swells not(not(not 1", 5, 19);
        CHECK.fault("swells 1+((((1+1*(2", 5, 18);
    }

    private static void newHouse() {
        SwollenHouse x = CHECK.told(TWO + "door a b lime gap 0;person p in a;damp 9;");
        x.walk(0, 0);
        x.wedge(0);
        x.day();
        x.plane(0);
        x.feel(0, 1, true);
        x.say(0, 1);
        x.mark(2, false);
        CHECK.due("days", Check.days(x, "day;"), 0);
        CHECK.due("the same again", Check.house(x, TWO + "door a b lime gap 0;person p in a;damp 9;"), 0);
        CHECK.due("gap", x.door(0, 3), 0);
        CHECK.due("place", x.person(0), 0);
        for (int i : new int[] {3, 5, 6, 7, 8, 9, 10, 11, 12}) {
            CHECK.due("count(" + i + ")", x.count(i), 0);
        }
        CHECK.due("no mark", x.mark(2, true), false);
        CHECK.due("nothing to undo", x.undo(), false);
        CHECK.due("an empty house", Check.house(x, ""), 0);
        CHECK.due("rooms", x.count(0), 0);
        CHECK.due("doors", x.count(1), 0);
        CHECK.due("persons", x.count(2), 0);
        CHECK.due("damp", x.count(4), 0);
    }

    private static void faultyHouse() {
        SwollenHouse x = CHECK.told(TWO + "door a b lime gap 0;person p in a;damp 9;swells 2;");
        x.day();
        x.feel(0, 1, true);
        x.say(0, 1);
        x.mark(2, false);
        CHECK.due("fault", Check.house(x, "room c;damp 1;swells 7;room in"), 1 + 16 * 28);
        CHECK.due("taken", x.count(12), 0);
        CHECK.due("rooms", x.count(0), 2);
        CHECK.due("damp", x.count(4), 9);
        CHECK.due("day", x.count(3), 1);
        CHECK.due("felt", x.count(9), 1);
        CHECK.due("said", x.count(10), 1);
        CHECK.due("undo", x.count(11), 1);
        CHECK.due("the old law", x.later(0, 1), 4);
        CHECK.due("mark", x.mark(2, true), true);
    }

    private static void dayFault(String text, int kind, int place) {
        SwollenHouse x = CHECK.told(TWO + "person p in a;");
        CHECK.due("fault of <" + text + ">", Check.days(x, text), kind + 16 * place);
        CHECK.due("taken", x.count(12), 0);
        CHECK.due("no lines", x.count(8), 0);
        CHECK.due("nothing done", x.count(11), 0);
    }

    private static void days() {
        dayFault("room a;", 1, 0);
        dayFault("toad;", 1, 0);
        dayFault("1", 1, 0);
        dayFault("day", 1, 3);
        dayFault("day day", 1, 4);
        dayFault("walk", 1, 4);
        dayFault("walk 0", 1, 5);
        dayFault("walk in", 1, 5);
        dayFault("walk q", 2, 5);
        dayFault("walk a", 2, 5);
        dayFault("walk p;", 1, 6);
        dayFault("walk p 8", 4, 7);
        dayFault("walk p 7 7", 1, 9);
        dayFault("plane p", 1, 6);
        dayFault("plane 8;", 4, 6);
        dayFault("wedge 0008;", 4, 6);
        dayFault("wedge 00007;", 1, 6);
        dayFault("force 10;", 4, 6);
        dayFault("force 1", 1, 7);
        StringBuilder forty = new StringBuilder();
        for (int i = 0; i < 40; i++) {
            forty.append("day;");
        }
        dayFault(forty + "day", 5, 160);
        dayFault(forty + "force", 5, 160);
        dayFault(forty + "toad", 1, 160);
        dayFault(forty + ";", 1, 160);
        SwollenHouse x = CHECK.told(TWO + "person p in a;");
        CHECK.due("forty", Check.days(x, forty.toString()), 0);
        CHECK.due("lines", x.count(8), 40);
    }

    private static void daysAreKept() {
        SwollenHouse x = new SwollenHouse();
        CHECK.due("without a house", Check.days(x, "day ; plane 7; wedge 0 ; force 3;"), 0);
        CHECK.due("lines", x.count(8), 4);
        CHECK.due("no day goes by", x.count(3), 0);
        CHECK.due("a person of none", Check.days(x, "walk p 0 ;"), 2 + 16 * 5);
        CHECK.due("the old lines", x.count(8), 4);
        CHECK.due("others", Check.days(x, "day;"), 0);
        CHECK.due("lines", x.count(8), 1);
        CHECK.due("none", Check.days(x, ""), 0);
        CHECK.due("lines", x.count(8), 0);
        CHECK.due("what is told can't be undone", x.count(11), 0);
        CHECK.due("nothing to undo", x.undo(), false);
        CHECK.due("lines", x.count(8), 0);
    }
}
