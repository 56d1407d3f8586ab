/** The edges of a HOUSE and its NAMES as told, a method for each sentence of the document (promise 3). */
public final class HouseEdgesTest {
    private static final Check CHECK = new Check("HouseEdgesTest");
    private static final String SEVEN = "room a;room b;room c;room d;room e;room f;room g;";
    private static final String EIGHT = "door g f oak gap 0;door f e pine gap 1;door e d elm gap 2;door d c lime gap 3;"
        + "door c b oak gap 4;door b a pine gap 5;door a g elm gap 6;door a d lime gap 7;";
    private static final String FIVE = "person p in g;person q in a;person r in b;person s in g;person t in d;";
    private static final String[] RESERVED = {"room", "door", "gap", "person", "in", "damp", "swells", "day", "walk",
        "plane", "wedge", "force", "oak", "pine", "elm", "lime", "not", "and", "or"};

    public static void main(String[] args) {
        anyNumber();
        rooms();
        doorsAtMost();
        doorsNumbered();
        doorsBetween();
        notTheSame();
        oneAtMost();
        woods();
        gaps();
        personsAtMost();
        personsNumbered();
        personsRooms();
        damps();
        dampsOfDays();
        noDamp();
        onceEach();
        names();
        namesAlike();
        newHouse();
        dayZero();
        marksAreGone();
        CHECK.end();
    }

    private static void anyNumber() {
        CHECK.says("HOUSE: any number of room NAME ; door NAME NAME WOOD gap N ; person NAME in NAME ; damp N N .. ; swells E ;");
        SwollenHouse x = CHECK.told("");
        for (int what = 0; what <= 12; what++) {
            CHECK.due("count(" + what + ") of none", x.count(what), 0);
        }
        CHECK.due("one", CHECK.told("room a;").count(0), 1);
        x = CHECK.told(SEVEN + EIGHT + FIVE + "damp 0 1 2 3 4 5 6 7 8 9 0 1;swells 1;");
        CHECK.due("rooms", x.count(0), 7);
        CHECK.due("doors", x.count(1), 8);
        CHECK.due("persons", x.count(2), 5);
        x = CHECK.told("swells 2;room a;person p in a;damp 9;room b;person q in b;door b a lime gap 0;room c;");
        CHECK.due("in any order: rooms", x.count(0), 3);
        CHECK.due("doors", x.count(1), 1);
        CHECK.due("persons", x.count(2), 2);
        CHECK.due("damp", x.count(4), 9);
        CHECK.due("the law", x.later(0, 1), 2);
        CHECK.due("only damp", CHECK.told("damp 3;").count(4), 3);
        CHECK.told("swells 3;");
        for (String line : new String[] {"room a", "damp 1", "swells 1"}) {
            CHECK.fault(line, 1, line.length());
        }
        CHECK.fault("room a;room b;door a b oak gap 0", 1, 32);
        CHECK.fault("room a;person p in a", 1, 20);
    }

    private static void rooms() {
        CHECK.says("room: 7 at most, numbered as told.");
        CHECK.due("7", CHECK.told(SEVEN).count(0), 7);
        CHECK.fault(SEVEN + "room h;", 5, SEVEN.length());
        CHECK.fault(SEVEN + "person p in a;room h;", 5, SEVEN.length() + 14);
        String backwards = "room g;room f;room e;room d;room c;room b;room a;";
        String[] names = {"g", "f", "e", "d", "c", "b", "a"};
        for (int i = 0; i < 7; i++) {
            SwollenHouse x = CHECK.told(backwards + "person p in " + names[i] + ";");
            CHECK.due("room " + names[i], x.person(0), i);
            CHECK.due("its range", x.range(i), 1 << i);
        }
        CHECK.due("no eighth", CHECK.told(SEVEN).range(7), -1);
    }

    private static void doorsAtMost() {
        CHECK.says("door: 8 at most");
        CHECK.due("8", CHECK.told(SEVEN + EIGHT).count(1), 8);
        CHECK.fault(SEVEN + EIGHT + "door b d oak gap 0;", 5, SEVEN.length() + EIGHT.length());
        CHECK.fault(SEVEN + EIGHT + "damp 1;door", 5, SEVEN.length() + EIGHT.length() + 7);
    }

    private static void doorsNumbered() {
        CHECK.says("numbered as told, between two ROOMS told");
        SwollenHouse x = CHECK.told(SEVEN + EIGHT);
        int[] first = {6, 5, 4, 3, 2, 1, 0, 0};
        int[] second = {5, 4, 3, 2, 1, 0, 6, 3};
        for (int i = 0; i < 8; i++) {
            CHECK.due("first of " + i, x.door(i, 0), first[i]);
            CHECK.due("second of " + i, x.door(i, 1), second[i]);
            CHECK.due("wood of " + i, x.door(i, 2), i % 4);
            CHECK.due("gap of " + i, x.door(i, 3), i);
        }
    }

    private static void doorsBetween() {
        CHECK.says("between two ROOMS told");
        CHECK.fault("door a b oak gap 0;room a;room b;", 2, 5);
        CHECK.fault("room a;door a b oak gap 0;room b;", 2, 14);
        CHECK.fault("room b;door a b oak gap 0;room a;", 2, 12);
        CHECK.fault("room a;person p in a;door p a oak gap 0;", 2, 26);
        CHECK.fault("room a;person p in a;door a p oak gap 0;", 2, 28);
        CHECK.fault("room a;door a", 1, 13);
    }

    private static void notTheSame() {
        CHECK.says("not the same, each two have one at most");
        CHECK.fault("room a;room b;door a a oak gap 0;", 3, 21);
        CHECK.fault("room a;room b;door b b oak gap 0;", 3, 21);
        CHECK.says("the second one of door that is the first one, or to which there is one from that");
        CHECK.fault("room a;door a a oak gap 0;", 3, 14);
    }

    private static void oneAtMost() {
        CHECK.says("each two have one at most");
        String one = "room a;room b;room c;door a b oak gap 0;";
        CHECK.fault(one + "door a b pine gap 1;", 3, one.length() + 7);
        CHECK.fault(one + "door b a oak gap 0;", 3, one.length() + 7);
        CHECK.told(one + "door b c oak gap 0;door c a oak gap 0;");
        String last = SEVEN + "door a b oak gap 0;door a c oak gap 0;door a d oak gap 0;door a e oak gap 0;"
            + "door a f oak gap 0;door a g oak gap 0;door g f oak gap 0;";
        CHECK.fault(last + "door f g oak gap 0;", 3, last.length() + 7);
        CHECK.told(last + "door f e oak gap 0;");
    }

    private static void woods() {
        CHECK.says("WOOD: oak, pine, elm, lime");
        String[] woods = {"oak", "pine", "elm", "lime"};
        for (int i = 0; i < 4; i++) {
            CHECK.due(woods[i], CHECK.told("room a;room b;door a b " + woods[i] + " gap 0;").door(0, 2), i);
        }
        for (String other : new String[] {"fir", "oaks", "oa", "gap", "a", "0", "not", "room", ";"}) {
            CHECK.fault("room a;room b;door a b " + other + " gap 0;", 1, 23);
        }
    }

    private static void gaps() {
        CHECK.says("gap 0 to 12");
        for (int gap = 0; gap <= 12; gap++) {
            CHECK.due("gap " + gap, CHECK.told("room a;room b;door a b oak gap " + gap + ";").door(0, 3), gap);
        }
        CHECK.fault("room a;room b;door a b oak gap 13;", 4, 31);
        CHECK.fault("room a;room b;door a b oak gap 20;", 4, 31);
        CHECK.fault("room a;room b;door a b oak gap 9999;", 4, 31);
        CHECK.fault("room a;room b;door a b oak gap -1;", 1, 31);
        CHECK.fault("room a;room b;door a b oak gap ;", 1, 31);
    }

    private static void personsAtMost() {
        CHECK.says("person: 5 at most");
        CHECK.due("5", CHECK.told(SEVEN + FIVE).count(2), 5);
        CHECK.fault(SEVEN + FIVE + "person u in a;", 5, SEVEN.length() + FIVE.length());
        CHECK.fault(SEVEN + FIVE + "damp 1;person", 5, SEVEN.length() + FIVE.length() + 7);
    }

    private static void personsNumbered() {
        CHECK.says("numbered as told; in a ROOM told");
        SwollenHouse x = CHECK.told(SEVEN + FIVE);
        int[] rooms = {6, 0, 1, 6, 3};
        for (int i = 0; i < 5; i++) {
            CHECK.due("person " + i, x.person(i), rooms[i]);
        }
        CHECK.due("no sixth", x.person(5), -1);
    }

    private static void personsRooms() {
        CHECK.says("in a ROOM told.");
        CHECK.fault("person p in a;room a;", 2, 12);
        CHECK.fault("room a;person p in b;room b;", 2, 19);
        CHECK.fault("room a;person p in p;", 2, 19);
        CHECK.fault("room a;person p in a;person q in p;", 2, 33);
        CHECK.fault("room a;person p in ;", 1, 19);
    }

    private static void damps() {
        CHECK.says("damp 0 to 9 of one day behind another, 1 to 12");
        for (int damp = 0; damp <= 9; damp++) {
            CHECK.due("damp " + damp, CHECK.told("damp " + damp + ";").count(4), damp);
        }
        CHECK.fault("damp 10;", 4, 5);
        CHECK.fault("damp 0 9 10;", 4, 9);
        CHECK.fault("damp 9999;", 4, 5);
        CHECK.fault("damp;", 1, 4);
        CHECK.fault("damp ;", 1, 5);
        CHECK.fault("damp", 1, 4);
        CHECK.fault("damp -1;", 1, 5);
        String twelve = "damp 1 1 1 1 1 1 1 1 1 1 1 1";
        CHECK.told("damp 1 1 1 1 1 1 1 1 1 1 1;");
        CHECK.told(twelve + ";");
        CHECK.fault(twelve, 1, 28);
        for (int damp = 0; damp <= 9; damp++) {
            CHECK.fault(twelve + " " + damp + ";", 5, 29);
        }
        CHECK.fault(twelve + " 1 1;", 5, 29);
        CHECK.fault(twelve + " ;;", 1, 30);
    }

    private static void dampsOfDays() {
        CHECK.says("again and again");
        String[] told = {"7", "7 3", "1 2 3 4 5 6 7 8 9 0 1", "3 1 4 1 5 9 2 6 5 3 5 8"};
        for (String damps : told) {
            String[] due = damps.split(" ");
            SwollenHouse x = CHECK.told("damp " + damps + ";");
            for (int day = 0; day < 40; day++) {
                CHECK.due("damp of day " + day, x.count(4), Integer.parseInt(due[day % due.length]));
                x.day();
            }
        }
    }

    private static void noDamp() {
        CHECK.says("(0)");
        SwollenHouse x = CHECK.told("room a;room b;door a b elm gap 0;swells 9;");
        CHECK.due("without damp it is 0", x.count(4), 0);
        CHECK.due("nothing swells", x.day(), 0);
        CHECK.due("damp of the next day", x.count(4), 0);
        CHECK.due("before a house", new SwollenHouse().count(4), 0);
        CHECK.due("a house without damp forgets the old one's", Check.house(x, "damp 5;"), 0);
        CHECK.due("5", x.count(4), 5);
        CHECK.due("an empty house", Check.house(x, ""), 0);
        CHECK.due("0", x.count(4), 0);
    }

    private static void onceEach() {
        CHECK.says("damp, swells: once each.");
        CHECK.fault("damp 1;damp 1;", 3, 7);
        CHECK.fault("damp 0;damp 0;", 3, 7);
        CHECK.fault("damp 1;room a;swells 1;damp", 3, 23);
        CHECK.fault("swells 1;swells 1;", 3, 9);
        CHECK.fault("swells 0;damp 1;room a;swells", 3, 23);
        CHECK.says("damp, swells a second time");
        CHECK.fault("swells 1;damp 1;swells;damp", 3, 16);
        SwollenHouse x = CHECK.told("damp 1;swells 1;");
        CHECK.due("once in each house", Check.house(x, "damp 2;swells 2;"), 0);
        CHECK.due("damp", x.count(4), 2);
    }

    private static void names() {
        CHECK.says("A NAME is another WORD than room, door, gap, person, in, damp, swells, day, walk, plane, wedge, force, "
            + "the WOODS, not, and, or");
        for (String word : RESERVED) {
            CHECK.fault("room " + word + ";", 1, 5);
            CHECK.fault("room a;person " + word + " in a;", 1, 14);
            CHECK.fault("room a;door " + word + " a oak gap 0;", 1, 12);
            CHECK.fault("room a;door a " + word + " oak gap 0;", 1, 14);
            CHECK.fault("room a;person p in " + word + ";", 1, 19);
            SwollenHouse x = CHECK.told("room a;person p in a;");
            CHECK.due("walk " + word, Check.days(x, "walk " + word + " 0;"), 1 + 16 * 5);
        }
        for (String word : new String[] {"wet", "swell", "space", "date", "rooms", "roo", "o", "doors", "gaps", "ins",
            "i", "damps", "days", "da", "walks", "planes", "wedges", "forces", "oaks", "pines", "elms", "limes", "nots",
            "no", "ands", "an", "ors", "house", "wood", "woods", "none"}) {
            CHECK.due(word, CHECK.told("room " + word + ";person p in " + word + ";").person(0), 0);
            SwollenHouse x = CHECK.told("room a;person " + word + " in a;");
            CHECK.due("walk " + word, Check.days(x, "walk " + word + " 0;"), 0);
        }
    }

    private static void namesAlike() {
        CHECK.says("no two (ROOMS, PERSONS) are alike");
        CHECK.fault("room a;room a;", 3, 12);
        CHECK.fault("room a;room b;room a;", 3, 19);
        CHECK.fault("room a;person a in a;", 3, 14);
        CHECK.fault("room a;person p in a;room p;", 3, 26);
        CHECK.fault("room a;person p in a;person p in a;", 3, 28);
        CHECK.fault("room a;person p in a;person q in a;person p in a;", 3, 42);
        CHECK.told("room a;room aa;room aaa;person p in a;person pp in aaa;");
        SwollenHouse x = CHECK.told("room a;person p in a;");
        CHECK.due("another house", Check.house(x, "room p;person a in p;"), 0);
    }

    /** A house with all that a new one must put away. */
    private static SwollenHouse lived() {
        SwollenHouse x = CHECK.told("room a;room b;door a b lime gap 0;person p in a;damp 9;swells 3;", "day;plane 0;");
        x.walk(0, 0);
        x.plane(0);
        x.wedge(0);
        x.day();
        x.feel(0, 1, true);
        x.say(0, 1);
        for (int mark = 0; mark < 4; mark++) {
            x.mark(mark, false);
        }
        return x;
    }

    private static void newHouse() {
        CHECK.says("Without a FAULT a HOUSE is the HOUSE from then on");
        SwollenHouse x = lived();
        CHECK.due("another", Check.house(x, "room c;room d;room e;door e c oak gap 7;"), 0);
        CHECK.due("rooms", x.count(0), 3);
        CHECK.due("doors", x.count(1), 1);
        CHECK.due("persons", x.count(2), 0);
        CHECK.due("damp", x.count(4), 0);
        CHECK.due("its door", x.door(0, 3), 7);
        CHECK.due("no person", x.person(0), -1);
        CHECK.due("an old name", Check.house(x, "room a;room b;person p in b;damp 9;door a b pine gap 0;"), 0);
        CHECK.due("without a law: 1", x.later(0, 1), 1);
        CHECK.due("0, or its FAULT", Check.house(x, ""), 0);
        CHECK.due("nothing", x.count(0) + x.count(1) + x.count(2), 0);
    }

    private static void dayZero() {
        CHECK.says("day 0, nothing swollen, no wedge, all where told, no DAYS, nothing FELT, nothing SAID, "
            + "nothing can be undone, no MARK is there.");
        SwollenHouse x = lived();
        int[] before = {2, 1, 1, 1, 9, 0, 1, 3, 2, 1, 1, 4, 0};
        for (int what = 0; what < before.length; what++) {
            CHECK.due("before: count(" + what + ")", x.count(what), before[what]);
        }
        CHECK.due("the same again", Check.house(x, "room a;room b;door a b lime gap 0;person p in a;damp 9;swells 3;"), 0);
        int[] due = {2, 1, 1, 0, 9, 0, 0, 0, 0, 0, 0, 0, 0};
        for (int what = 0; what < due.length; what++) {
            CHECK.due("count(" + what + ")", x.count(what), due[what]);
        }
        CHECK.due("the gap as told", x.door(0, 3), 0);
        CHECK.due("not swollen", x.door(0, 4), 0);
        CHECK.due("no wedge", x.door(0, 5), 0);
        CHECK.due("where told", x.person(0), 0);
        CHECK.due("no days", x.judged(2), 0);
        CHECK.due("nothing felt", x.wets(), 1023);
        CHECK.due("nothing said", x.who(), 1);
        CHECK.due("nothing to undo", x.undo(), false);
    }

    private static void marksAreGone() {
        CHECK.says("no MARK is there.");
        SwollenHouse x = lived();
        CHECK.due("a house", Check.house(x, "room a;"), 0);
        for (int mark = 0; mark < 4; mark++) {
            CHECK.due("mark " + mark, x.mark(mark, true), false);
        }
    }
}
