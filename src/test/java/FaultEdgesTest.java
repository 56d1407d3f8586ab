/** The edges of FAULTS: which token, which kind, and that all stays (promises 3 and 4). */
public final class FaultEdgesTest {
    private static final Check CHECK = new Check("FaultEdgesTest");
    private static final String SEVEN = "room a;room b;room c;room d;room e;room f;room g;";
    private static final String TWELVE = "damp 1 1 1 1 1 1 1 1 1 1 1 1";

    public static void main(String[] args) {
        kindAndPlace();
        theEnd();
        theFirstFromTheLeft();
        theLeast();
        one();
        oneOfAnotherLine();
        two();
        three();
        four();
        five();
        atFirst();
        CHECK.end();
    }

    private static int days(String text) {
        SwollenHouse x = CHECK.told("room a;person p in a;");
        return Check.days(x, text);
    }

    private static void kindAndPlace() {
        CHECK.says("FAULTS, kind + 16 * the place (from 0) of a token");
        CHECK.due("at 0", Check.house(new SwollenHouse(), "%"), 1);
        CHECK.due("at 1", Check.house(new SwollenHouse(), " %"), 17);
        CHECK.due("its first sign, not its last", Check.house(new SwollenHouse(), "\n\ntoads"), 33);
        CHECK.due("at 999", Check.house(new SwollenHouse(), " ".repeat(999) + "%"), 1 + 16 * 999);
        CHECK.due("days, at 0", days("%"), 1);
        CHECK.due("days, at 999", days(" ".repeat(999) + "%"), 1 + 16 * 999);
    }

    private static void theEnd() {
        CHECK.says("the end being one at the text's length");
        for (String text : new String[] {"room", "room a", "room a ", "room a \n ", "room a;room b;door", "damp", "damp 1",
            "swells", "swells 1", "swells (1", "swells (1 +", "swells not", "person", "person p", "person p in",
            "room a;person p in a"}) {
            CHECK.fault(text, 1, text.length());
        }
        CHECK.fault("room a" + " ".repeat(994), 1, 1000);
        for (String text : new String[] {"day", "day ", "walk", "walk p", "walk p 0", "plane", "plane 0", "day;wedge", "force 1 "}) {
            CHECK.due("days <" + text + ">", days(text), 1 + 16 * text.length());
        }
        CHECK.due("the end may stand behind lines", days("day;  "), 0);
        CHECK.told("room a;\n");
    }

    private static void theFirstFromTheLeft() {
        CHECK.says("of the first token from the left that is wrong the least");
        CHECK.fault("room a;room a;room %", 3, 12);
        CHECK.fault("room %;room a;room a;", 1, 5);
        CHECK.fault("damp 10 11 99999;", 4, 5);
        CHECK.fault("damp 1;damp 10;", 3, 7);
        CHECK.fault("swells (1 2) toad;", 1, 10);
        CHECK.fault("person p in b;person p", 2, 12);
        CHECK.fault("door a b oak gap 13;", 2, 5);
        CHECK.fault("room a;room b;door a a fir gap 13;", 3, 21);
        CHECK.fault("room a;room b;door a b oak gap 13 %", 4, 31);
        CHECK.fault(SEVEN + "room room;", 5, SEVEN.length());
        CHECK.due("days", days("walk q 8;toad"), 2 + 16 * 5);
        CHECK.due("days", days("walk p 8;walk q 0;"), 4 + 16 * 7);
    }

    private static void theLeast() {
        CHECK.says("that is wrong the least");
        // A thirteenth NUMBER is one too many, above 9 it is not as told, too, and of five digits it is none.
        CHECK.fault(TWELVE + " 9;", 5, 29);
        CHECK.fault(TWELVE + " 10;", 4, 29);
        CHECK.fault(TWELVE + " 99999;", 1, 29);
        // A word within 5 others that is no PART, and one of a 41st line that tells no deed, can't stand there.
        CHECK.fault("swells (((((1", 5, 12);
        CHECK.fault("swells (((((room", 1, 12);
        CHECK.due("41st", days("day;".repeat(40) + "day;"), 5 + 16 * 160);
        CHECK.due("41st", days("day;".repeat(40) + "room;"), 1 + 16 * 160);
        CHECK.due("41st", days("day;".repeat(40) + "7;"), 1 + 16 * 160);
    }

    private static void one() {
        CHECK.says("1 it is none, or can't stand there");
        for (String text : new String[] {"%", "roomroomr", "12345", "7", "toad", "a", "oak", "gap", "in", "day", "walk",
            "plane", "wedge", "force", "not", "and", "or", "wet", "(", ")", "<", "=", "+", "-", "*", ";"}) {
            CHECK.fault(text, 1, 0);
            CHECK.fault("room a;" + text, 1, 7);
            CHECK.fault("room a " + text.replace(";", "<"), 1, 7);
        }
        for (String text : new String[] {"%", "daydayday", "12345", "7", "toad", "p", "room", "door", "person", "damp",
            "swells", "not", "(", ";"}) {
            CHECK.due("days <" + text + ">", days(text), 1);
            CHECK.due("days <day;" + text + ">", days("day;" + text), 1 + 16 * 4);
            CHECK.due("days <day " + text + ">", days("day " + text.replace(";", "<")), 1 + 16 * 4);
        }
    }

    private static void oneOfAnotherLine() {
        CHECK.says("can't stand there");
        // What begins a line can't stand where the one before it has not ended.
        for (String word : new String[] {"room", "door", "person", "damp", "swells"}) {
            CHECK.fault("room " + word + " a;", 1, 5);
            CHECK.fault("room a " + word + " b;", 1, 7);
            CHECK.fault("room a;room b;door " + word + " a;", 1, 19);
            CHECK.fault("room a;room b;door a " + word + " b;", 1, 21);
            CHECK.fault("room a;room b;door a b " + word + " c;", 1, 23);
            CHECK.fault("room a;room b;door a b oak " + word + " c;", 1, 27);
            CHECK.fault("room a;room b;door a b oak gap " + word + " c;", 1, 31);
            CHECK.fault("room a;room b;door a b oak gap 1 " + word + " c;", 1, 33);
            CHECK.fault("room a;person " + word + " c;", 1, 14);
            CHECK.fault("room a;person p " + word + " c;", 1, 16);
            CHECK.fault("room a;person p in " + word + " c;", 1, 19);
            CHECK.fault("room a;person p in a " + word + " c;", 1, 21);
            CHECK.fault("damp " + word + " c;", 1, 5);
            CHECK.fault("damp 1 " + word + " c;", 1, 7);
            CHECK.fault("swells " + word + " c;", 1, 7);
            CHECK.fault("swells 1 " + word + " c;", 1, 9);
            CHECK.fault("swells (1 " + word + " c;", 1, 10);
        }
        for (String word : new String[] {"day", "walk", "plane", "wedge", "force"}) {
            CHECK.due("days", days("day " + word + " 0;"), 1 + 16 * 4);
            CHECK.due("days", days("walk " + word + " 0;"), 1 + 16 * 5);
            CHECK.due("days", days("walk p " + word + " 0;"), 1 + 16 * 7);
            CHECK.due("days", days("walk p 0 " + word + " 0;"), 1 + 16 * 9);
            CHECK.due("days", days("plane " + word + " 0;"), 1 + 16 * 6);
            CHECK.due("days", days("wedge 0 " + word + " 0;"), 1 + 16 * 8);
        }
    }

    private static void two() {
        CHECK.says("2 a NAME of no ROOM (behind door, its second, behind in), of no PERSON (behind walk) told");
        CHECK.fault("door a", 2, 5);
        CHECK.fault("room a;door b", 2, 12);
        CHECK.fault("room a;door a b", 2, 14);
        CHECK.fault("person p in a", 2, 12);
        CHECK.fault("room a;person p in a;door p", 2, 26);
        CHECK.fault("room a;person p in a;door a p", 2, 28);
        CHECK.fault("room a;person p in p", 2, 19);
        CHECK.fault("room a;door wet", 2, 12);
        CHECK.due("days", days("walk q"), 2 + 16 * 5);
        CHECK.due("a room is no person", days("walk a"), 2 + 16 * 5);
        CHECK.due("the rooms of the house before", roomsBefore(), 2 + 16 * 5);
    }

    private static int roomsBefore() {
        SwollenHouse x = CHECK.told("room a;room b;");
        return Check.house(x, "door a b oak gap 0;");
    }

    private static void three() {
        CHECK.says("3 a NAME told already");
        CHECK.fault("room a;room a", 3, 12);
        CHECK.fault("room a;person a", 3, 14);
        CHECK.fault("room a;person p in a;room p", 3, 26);
        CHECK.fault("room a;person p in a;person p", 3, 28);
        CHECK.fault("room a;door a a", 3, 14);
        CHECK.fault("room a;room b;door a b oak gap 0;door a b", 3, 40);
        CHECK.fault("room a;room b;door a b oak gap 0;door b a", 3, 40);
        CHECK.fault("damp 1;damp", 3, 7);
        CHECK.fault("swells 1;swells", 3, 9);
        SwollenHouse x = CHECK.told("room a;person p in a;damp 1;swells 1;");
        CHECK.due("not by the house before", Check.house(x, "room p;person a in p;damp 1;swells 1;"), 0);
        CHECK.due("nor by one with a fault", Check.house(x, "room z;damp 1;%"), 1 + 16 * 14);
        CHECK.due("told", Check.house(x, "room z;damp 1;"), 0);
    }

    private static void four() {
        CHECK.says("4 a NUMBER that is not as told");
        CHECK.fault("room a;room b;door a b oak gap 13", 4, 31);
        CHECK.fault("damp 10", 4, 5);
        CHECK.fault("damp 0 0 0 0 0 0 0 0 0 0 0 10", 4, 27);
        CHECK.due("days", days("walk p 8"), 4 + 16 * 7);
        CHECK.due("days", days("plane 8"), 4 + 16 * 6);
        CHECK.due("days", days("wedge 8"), 4 + 16 * 6);
        CHECK.due("days", days("force 8"), 4 + 16 * 6);
        CHECK.told("swells 9999;");
    }

    private static void five() {
        CHECK.says("5 one too many: the words room of an eighth, door of a ninth, person of a sixth, "
            + "a thirteenth NUMBER of damp, the first word of a 41st line of DAYS; not, or a PART, within 5 others.");
        CHECK.fault(SEVEN + "room", 5, 49);
        String eight = SEVEN + "door a b oak gap 0;door a c oak gap 0;door a d oak gap 0;door a e oak gap 0;"
            + "door a f oak gap 0;door a g oak gap 0;door b c oak gap 0;door b d oak gap 0;";
        CHECK.told(eight);
        CHECK.fault(eight + "door", 5, eight.length());
        CHECK.fault("room a;person p in a;person q in a;person r in a;person s in a;person t in a;person", 5, 77);
        CHECK.fault(TWELVE + " 0", 5, 29);
        CHECK.due("days", days("day;".repeat(40) + "walk"), 5 + 16 * 160);
        CHECK.fault("swells (((((1", 5, 12);
        CHECK.fault("swells not not not not not 1", 5, 27);
    }

    private static void atFirst() {
        CHECK.says("At first: nothing.");
        SwollenHouse x = new SwollenHouse();
        for (int what = 0; what <= 12; what++) {
            CHECK.due("count(" + what + ")", x.count(what), 0);
        }
        CHECK.due("door", x.door(0, 0), -2);
        CHECK.due("person", x.person(0), -1);
        CHECK.due("undo", x.undo(), false);
        for (int mark = 0; mark < 4; mark++) {
            CHECK.due("mark " + mark, x.mark(mark, true), false);
        }
        CHECK.says("Nothing.");
        CHECK.due("deeds", x.walk(0, 0) + x.plane(0) + x.wedge(0) + x.force(0), -4);
        CHECK.due("rooms", x.range(0) + x.company(0) + x.deep(0) + x.cut(0, 1) + x.from(0, 0), -5);
        CHECK.due("doors", x.later(0, 0) + x.closes(0) + x.gives(0) + x.chance(0, 1, 5), -4);
        CHECK.due("persons", x.arrives(0, 0) + x.both(0, 1) + x.bride(), -3);
        CHECK.due("bits", x.shut() | x.who() | x.rattles() | x.spared() | x.alone() | x.parts(), 0);
        CHECK.due("worst", x.worst(), -1);
        CHECK.due("opened", x.opened(), -1);
        CHECK.due("calm", x.calm(), 0);
        CHECK.due("hard", x.hard(), 0);
        CHECK.due("planed", x.planed(30, -1), 0);
        CHECK.due("wets", x.wets(), 1023);
        CHECK.due("tries", x.tries(), -1);
        CHECK.due("feel", x.feel(0, 1, true), false);
        CHECK.due("say", x.say(0, 0), false);
        CHECK.due("years", x.years(0, 99, 0) + x.years(0, 99, 1) + x.years(0, 99, 2), 0);
        CHECK.due("a day of an empty house", x.day(), 0);
        CHECK.due("the next day", x.count(3), 1);
        CHECK.due("undone", x.undo(), true);
        CHECK.due("day 0", x.count(3), 0);
    }
}
