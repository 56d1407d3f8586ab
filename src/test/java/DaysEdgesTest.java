/** The edges of told DAYS, and of what is judged in them, a method for each sentence (promises 4 and 13). */
public final class DaysEdgesTest {
    private static final Check CHECK = new Check("DaysEdgesTest");
    private static final String FIVE = "room a;room b;door a b oak gap 12;person p in a;person q in b;person r in a;"
        + "person s in b;person t in a;";
    // The pine sticks by 2 behind a day, the oak by 1.
    private static final String STUCK = "room a;room b;room c;door a b pine gap 0;door b c oak gap 1;"
        + "person p in a;person q in b;damp 9;swells 2;";

    public static void main(String[] args) {
        anyNumber();
        personsAndDoors();
        fortyLines();
        theDays();
        faultsLeaveThem();
        judgedFromTheBegin();
        doorsThatAreNotThere();
        walksThatCantBe();
        planingsThatCantBe();
        wedgesThatCantBe();
        forcingsThatCantBe();
        leftOut();
        shutIn();
        stickAtLast();
        judgedNone();
        CHECK.end();
    }

    private static void dayFault(String text, int kind, int place) {
        SwollenHouse x = CHECK.told(FIVE);
        CHECK.due("fault of <" + text + ">", Check.days(x, text), kind + 16 * place);
        CHECK.due("lines behind <" + text + ">", x.count(8), 0);
    }

    private static void anyNumber() {
        CHECK.says("DAYS: any number of day ; walk NAME N ; plane N ; wedge N ; force N ;");
        CHECK.due("none", CHECK.told(FIVE, "").count(8), 0);
        CHECK.due("one", CHECK.told(FIVE, "day;").count(8), 1);
        CHECK.due("one of each", CHECK.told(FIVE, "day;walk p 0;plane 0;wedge 0;force 0;").count(8), 5);
        dayFault("day", 1, 3);
        dayFault("day 0;", 1, 4);
        dayFault("day p;", 1, 4);
        dayFault(";", 1, 0);
        dayFault("day;;", 1, 4);
        dayFault("days;", 1, 0);
        dayFault("room a;", 1, 0);
        dayFault("p;", 1, 0);
        dayFault("walk", 1, 4);
        dayFault("walk;", 1, 4);
        dayFault("walk 0 p;", 1, 5);
        dayFault("walk p", 1, 6);
        dayFault("walk p;", 1, 6);
        dayFault("walk p p;", 1, 7);
        dayFault("walk p 0", 1, 8);
        dayFault("walk p 0 0;", 1, 9);
        for (String deed : new String[] {"plane", "wedge", "force"}) {
            dayFault(deed, 1, 5);
            dayFault(deed + ";", 1, 5);
            dayFault(deed + " p;", 1, 6);
            dayFault(deed + " -1;", 1, 6);
            dayFault(deed + " 0", 1, 7);
            dayFault(deed + " 0 0;", 1, 8);
        }
    }

    private static void personsAndDoors() {
        CHECK.says("(a PERSON through a DOOR, 0 to 7; DOORS by their numbers, 0 to 7)");
        for (String deed : new String[] {"walk p ", "plane ", "wedge ", "force "}) {
            for (int door = 0; door <= 7; door++) {
                CHECK.due(deed + door, CHECK.told(FIVE, deed + door + ";").count(8), 1);
            }
            dayFault(deed + "8;", 4, deed.length());
            dayFault(deed + "10;", 4, deed.length());
            dayFault(deed + "9999;", 4, deed.length());
        }
        // Each walks through the door from where they are, and there is only one door.
        for (String person : new String[] {"p", "q", "r", "s", "t"}) {
            SwollenHouse x = CHECK.told(FIVE + "room c;door c a pine gap 12;", "walk " + person + " 1;");
            CHECK.due(person + " is in a", x.judged(0), "prt".contains(person) ? -1 : 0);
        }
        for (int door = 0; door <= 7; door++) {
            SwollenHouse x = CHECK.told("room a;room b;room c;room d;room e;room f;room g;door a b oak gap 0;"
                + "door a c oak gap 0;door a d oak gap 0;door a e oak gap 0;door a f oak gap 0;door a g oak gap 0;"
                + "door b c oak gap 0;door b d oak gap 0;damp 9;", "wedge " + door + ";day;wedge " + door + ";");
            CHECK.due("its wedge", x.judged(0), -1);
            CHECK.due("taken out", x.judged(2), 8);
            CHECK.due("the others stick", Check.days(x, "wedge " + door + ";day;"), 0);
            CHECK.due("seven", x.judged(2), 7);
        }
        CHECK.says("of no PERSON (behind walk) told");
        dayFault("walk u 0;", 2, 5);
        dayFault("walk a 0;", 2, 5);
        dayFault("walk pp 0;", 2, 5);
        CHECK.due("without persons", Check.days(new SwollenHouse(), "walk p 0;"), 2 + 16 * 5);
        SwollenHouse y = CHECK.told("room a;person p in a;");
        CHECK.due("another house", Check.house(y, "room a;"), 0);
        CHECK.due("p is gone", Check.days(y, "walk p 0;"), 2 + 16 * 5);
    }

    private static void fortyLines() {
        CHECK.says("40 lines at most.");
        String forty = "day;".repeat(40);
        CHECK.due("39", CHECK.told(FIVE, "day;".repeat(39)).count(8), 39);
        CHECK.due("40", CHECK.told(FIVE, forty).count(8), 40);
        CHECK.due("the 40th counts", CHECK.told(FIVE, "day;".repeat(39) + "force 0;").judged(0), 39);
        CHECK.says("the first word of a 41st line of DAYS");
        for (String word : new String[] {"day", "walk", "plane", "wedge", "force"}) {
            dayFault(forty + word, 5, 160);
            dayFault(forty + " " + word + " p 0;", 5, 161);
        }
        dayFault(forty + "toad", 1, 160);
        dayFault(forty + ";", 1, 160);
        dayFault(forty + "daydayday", 1, 160);
    }

    private static void theDays() {
        CHECK.says("DAYS are the DAYS.");
        SwollenHouse x = CHECK.told(STUCK, "day;day;force 0;");
        CHECK.due("three", x.count(8), 3);
        CHECK.due("others in their place", Check.days(x, "force 0;"), 0);
        CHECK.due("one", x.count(8), 1);
        CHECK.due("it can't be", x.judged(0), 0);
        CHECK.due("none", Check.days(x, ""), 0);
        CHECK.due("no lines", x.count(8), 0);
        CHECK.due("all can be", x.judged(0), -1);
        CHECK.due("told, not done", x.count(3) + x.count(7) + x.count(11), 0);
        CHECK.due("before a house", Check.days(new SwollenHouse(), "day;plane 7;wedge 0;force 3;"), 0);
    }

    private static void faultsLeaveThem() {
        CHECK.says("The TAPE is read as DAYS, likewise.");
        SwollenHouse x = CHECK.told(STUCK, "day;force 0;force 0;");
        CHECK.due("a fault in the fourth line", Check.days(x, "day;day;day;plane 8;"), 4 + 16 * 18);
        CHECK.due("the old ones", x.count(8), 3);
        CHECK.due("judged as before", x.judged(0), 2);
        CHECK.due("judged as before", x.judged(2), 1);
        CHECK.due("41 lines", Check.days(x, "day;".repeat(41)), 5 + 16 * 160);
        CHECK.due("the old ones", x.count(8), 3);
        CHECK.due("judged as before", x.judged(0), 2);
    }

    private static SwollenHouse stuck(String lines) {
        return CHECK.told(STUCK, lines);
    }

    private static void judgedFromTheBegin() {
        CHECK.says("JUDGED: the DAYS from the begin");
        SwollenHouse x = stuck("walk p 0;plane 0;day;force 0;");
        x.walk(0, 0);
        x.wedge(1);
        for (int i = 0; i < 5; i++) {
            x.day();
        }
        CHECK.due("from day 0, p in a, no wedge", x.judged(0), -1);
        CHECK.due("the oak sticks", x.judged(2), 1);
        CHECK.due("nothing is done by it", x.count(3), 5);
        CHECK.due("p is in b", x.person(0), 1);
        CHECK.due("day 0's damp comes first", CHECK.told(
            "room a;room b;door a b pine gap 0;damp 9 0 0 0 0 0 0 0 0 0 0 0;", "day;").judged(2), 1);
        SwollenHouse y = stuck("");
        y.day();
        CHECK.due("none stick at the begin", y.judged(2), 0);
    }

    private static void doorsThatAreNotThere() {
        CHECK.says("the first line (from 0) that can't be (a DOOR that is not there");
        for (String deed : new String[] {"walk p ", "plane ", "wedge ", "force "}) {
            CHECK.due(deed + 2, stuck(deed + "2;").judged(0), 0);
            CHECK.due(deed + 7, stuck("day;" + deed + "7;").judged(0), 1);
        }
        CHECK.due("the last that is there", stuck("plane 1;wedge 1;walk q 1;").judged(0), -1);
        CHECK.due("the first of two", stuck("day;plane 2;plane 3;").judged(0), 1);
        CHECK.due("in an empty house", lineOfEmpty("plane 0;"), 0);
        CHECK.due("a day can always be", lineOfEmpty("day;day;"), -1);
    }

    private static int lineOfEmpty(String lines) {
        SwollenHouse x = new SwollenHouse();
        CHECK.due("days", Check.days(x, lines), 0);
        return x.judged(0);
    }

    private static void walksThatCantBe() {
        CHECK.says("walk through one that STICKS, or is none of that ROOM");
        CHECK.due("open", stuck("walk p 0;").judged(0), -1);
        CHECK.due("it sticks", stuck("day;walk p 0;").judged(0), 1);
        CHECK.due("by a wedge", stuck("wedge 0;day;walk p 0;").judged(0), -1);
        CHECK.due("at its gap", stuck("plane 0;plane 0;day;walk p 0;").judged(0), -1);
        CHECK.due("none of a", stuck("walk p 1;").judged(0), 0);
        CHECK.due("of b it is one", stuck("walk p 0;walk p 1;").judged(0), -1);
        CHECK.due("both ways", stuck("walk p 0;walk p 0;walk p 0;").judged(0), -1);
    }

    private static void planingsThatCantBe() {
        CHECK.says("plane at a gap of 20 or more");
        String toTwenty = "plane 0;".repeat(20);
        CHECK.due("at 19", stuck(toTwenty).judged(0), -1);
        CHECK.due("at 20", stuck(toTwenty + "plane 0;").judged(0), 20);
        CHECK.due("another", stuck(toTwenty + "plane 1;").judged(0), -1);
        // Forced behind each day from 14 on, the gap comes to 22.
        SwollenHouse x = CHECK.told("room a;room b;door a b pine gap 12;damp 9;swells 2;",
            "day;".repeat(7) + "force 0;" + "day;force 0;".repeat(4) + "plane 0;");
        CHECK.due("beyond 20", x.judged(0), 16);
        CHECK.due("open", x.judged(2), 0);
    }

    private static void wedgesThatCantBe() {
        CHECK.says("wedge at one that STICKS and has none");
        CHECK.due("open", stuck("wedge 0;").judged(0), -1);
        CHECK.due("it sticks", stuck("day;wedge 0;").judged(0), 1);
        CHECK.due("taken out, though it sticks by that", stuck("wedge 0;day;wedge 0;").judged(0), -1);
        CHECK.due("and not in again", stuck("wedge 0;day;wedge 0;wedge 0;").judged(0), 3);
    }

    private static void forcingsThatCantBe() {
        CHECK.says("force at one that is OPEN, or STICKS by more than 2");
        CHECK.due("open", stuck("force 0;").judged(0), 0);
        CHECK.due("at its gap", stuck("plane 0;plane 0;day;force 0;").judged(0), 3);
        CHECK.due("by a wedge", stuck("wedge 0;day;force 0;").judged(0), 2);
        CHECK.due("by 1", stuck("day;force 1;").judged(0), -1);
        CHECK.due("by 2", stuck("day;force 0;").judged(0), -1);
        CHECK.due("by 3", stuck("day;day;force 1;").judged(0), 2);
        CHECK.due("by 4", stuck("day;day;force 0;").judged(0), 2);
    }

    private static void leftOut() {
        CHECK.says("lines that can't be are left out");
        SwollenHouse x = stuck("wedge 5;day;wedge 0;force 0;force 0;");
        CHECK.due("the first", x.judged(0), 0);
        CHECK.due("the force is done", x.judged(2), 1);
        SwollenHouse y = stuck("walk p 1;walk p 0;walk p 1;day;");
        CHECK.due("the first", y.judged(0), 0);
        CHECK.due("p is in c then, q in b: shut", y.judged(1), 3);
    }

    private static void shutIn() {
        CHECK.says("the first line behind which a PERSON is SHUT in");
        CHECK.due("nobody", stuck("plane 0;").judged(1), -1);
        CHECK.due("behind the first", stuck("day;day;").judged(1), 0);
        CHECK.due("not by one door of two", CHECK.told("room a;room b;room c;door a b pine gap 0;door b c oak gap 12;"
            + "person p in b;damp 9;", "day;day;").judged(1), -1);
        CHECK.due("by a wedge taken out", stuck("wedge 0;day;wedge 0;day;").judged(1), 2);
        CHECK.due("by a walk", CHECK.told("room a;room b;room c;door a b pine gap 0;door b c oak gap 12;person p in b;"
            + "damp 9;", "wedge 0;day;walk p 0;wedge 0;").judged(1), 3);
        CHECK.due("behind the 40th", CHECK.told("room a;room b;door a b pine gap 0;person p in a;damp 9;",
            "wedge 0;" + "day;".repeat(38) + "wedge 0;").judged(1), 39);
        CHECK.due("without doors nobody", CHECK.told("room a;person p in a;damp 9;", "day;").judged(1), -1);
        CHECK.due("without persons nobody", CHECK.told("room a;room b;door a b pine gap 0;damp 9;", "day;").judged(1), -1);
    }

    private static void stickAtLast() {
        CHECK.says("how many DOORS STICK at last.");
        CHECK.due("none", stuck("").judged(2), 0);
        CHECK.due("two", stuck("day;").judged(2), 2);
        CHECK.due("one", stuck("day;force 0;").judged(2), 1);
        CHECK.due("none any more", stuck("day;force 0;force 1;").judged(2), 0);
        CHECK.due("all eight", CHECK.told("room a;room b;room c;room d;room e;room f;room g;door a b oak gap 0;"
            + "door a c pine gap 0;door a d elm gap 0;door a e lime gap 0;door a f oak gap 0;door a g pine gap 0;"
            + "door b c elm gap 0;door b d lime gap 0;damp 7;", "day;").judged(2), 8);
    }

    private static void judgedNone() {
        CHECK.says("JUDGED, what 0, 1: lines (NONE: none), 2: how many; -2: others.");
        SwollenHouse x = new SwollenHouse();
        CHECK.due("none", x.judged(0), -1);
        CHECK.due("none", x.judged(1), -1);
        CHECK.due("how many", x.judged(2), 0);
        for (int other : new int[] {-1, -2, 3, 4, Integer.MIN_VALUE, Integer.MAX_VALUE}) {
            CHECK.due("judged " + other, x.judged(other), -2);
            CHECK.due("judged " + other, stuck("day;").judged(other), -2);
        }
    }
}
