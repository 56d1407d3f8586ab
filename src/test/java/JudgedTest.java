/** Promise 13: told days judged from the begin of the house. */
public final class JudgedTest {
    private static final Check CHECK = new Check("JudgedTest");
    private static final String HOUSE = "room a;room b;room c;door a b pine gap 0;door b c oak gap 1;"
        + "person p in a;person q in b;damp 9;swells 2;";

    public static void main(String[] args) {
        judged("", -1, -1, 0);
        judged("day;", -1, 0, 2);
        judged("plane 0;plane 0;day;", -1, -1, 1);
        judged("wedge 0;day;", -1, -1, 1);
        judged("wedge 0;day;wedge 0;", -1, 2, 2);
        judged("wedge 0;wedge 1;day;", -1, -1, 0);
        linesThatCantBe();
        leftOut();
        fromTheBegin();
        shutByWalking();
        CHECK.end();
    }

    private static void judged(String lines, int cant, int shut, int stuck) {
        SwollenHouse x = CHECK.told(HOUSE);
        CHECK.due("days", Check.days(x, lines), 0);
        CHECK.due("can't be in <" + lines + ">", x.judged(0), cant);
        CHECK.due("shut in <" + lines + ">", x.judged(1), shut);
        CHECK.due("stuck by <" + lines + ">", x.judged(2), stuck);
        for (int other : new int[] {-1, -2, 3, Integer.MIN_VALUE, Integer.MAX_VALUE}) {
            CHECK.due("judged " + other, x.judged(other), -2);
        }
    }

    private static void cant(String lines, int due) {
        SwollenHouse x = CHECK.told(HOUSE);
        CHECK.due("days", Check.days(x, lines), 0);
        CHECK.due("can't be in <" + lines + ">", x.judged(0), due);
    }

    private static void linesThatCantBe() {
        cant("walk p 0;walk p 0;walk p 0;walk p 1;", -1);
        cant("walk p 1;", 0);
        cant("day;walk p 0;", 1);
        cant("wedge 0;day;walk p 0;", -1);
        cant("walk p 2;", 0);
        cant("plane 2;", 0);
        cant("day;wedge 7;", 1);
        cant("force 2;", 0);
        cant("force 0;", 0);
        cant("day;force 0;force 1;", -1);
        cant("day;day;force 0;", 2);
        cant("day;day;force 1;", 2);
        cant("day;wedge 0;", 1);
        cant("wedge 0;day;force 0;", 2);
        StringBuilder planings = new StringBuilder();
        for (int i = 0; i < 20; i++) {
            planings.append("plane 0;");
        }
        cant(planings.toString(), -1);
        cant(planings + "day;plane 0;", 21);
    }

    private static void leftOut() {
        SwollenHouse x = CHECK.told(HOUSE);
        CHECK.due("days", Check.days(x, "walk p 1;force 0;plane 0;plane 0;walk p 7;plane 1;day;day;"), 0);
        CHECK.due("the first", x.judged(0), 0);
        CHECK.due("shut behind the second day", x.judged(1), 7);
        CHECK.due("both stick", x.judged(2), 2);
    }

    private static void fromTheBegin() {
        SwollenHouse x = CHECK.told(HOUSE);
        x.plane(0);
        x.walk(0, 0);
        x.day();
        x.day();
        CHECK.due("days", Check.days(x, "walk p 0;day;"), 0);
        CHECK.due("from a, by an open door", x.judged(0), -1);
        // p and q are in b, both doors of which stick by 2 and 1.
        CHECK.due("shut", x.judged(1), 1);
        CHECK.due("stuck", x.judged(2), 2);
        CHECK.due("nothing is done by it", x.count(3), 2);
        CHECK.due("places", x.person(0), 1);
        CHECK.due("gap", x.door(0, 3), 1);
        CHECK.due("empty", Check.days(x, ""), 0);
        CHECK.due("the begin: none sticks", x.judged(2), 0);
    }

    private static void shutByWalking() {
        SwollenHouse x = CHECK.told("room a;room b;room c;door a b pine gap 0;door b c oak gap 9;person p in b;damp 9;");
        CHECK.due("days", Check.days(x, "wedge 0;day;walk p 0;day;wedge 0;walk p 0;"), 0);
        CHECK.due("the last can't be", x.judged(0), 5);
        CHECK.due("shut by the wedge", x.judged(1), 4);
        CHECK.due("one sticks", x.judged(2), 1);
    }
}
