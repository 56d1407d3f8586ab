/** The edges of what is asked of days to come, a method for each sentence (promises 17 to 24 and 26). */
public final class AheadEdgesTest {
    private static final Check CHECK = new Check("AheadEdgesTest");
    private static final int[] WILD = {Integer.MIN_VALUE, -2, -1, 8, 31, 32, 64, Integer.MAX_VALUE};
    private static final String PAIR = "room a;room b;person p in a;person q in b;";
    // An oak that swells on days 0, 3 and 6, stays on the next ones and shrinks by 1 on days 2, 5, 8 and so on.
    private static final String SLOW = PAIR + "door a b oak gap 0;damp 9 5 0;swells ";
    private static final String ROW = "room a;room b;room c;room d;room e;room f;room g;door a b oak gap 12;"
        + "door b c oak gap 12;door c d oak gap 12;door d e oak gap 12;door e f oak gap 12;door f g oak gap 12;";

    public static void main(String[] args) {
        later();
        closes();
        gives();
        calm();
        hard();
        arrives();
        arrivesByForty();
        from();
        both();
        fullHouse();
        planedDays();
        planedFewest();
        planedAsItCanBe();
        planedFirstRow();
        planedOthers();
        CHECK.end();
    }

    private static SwollenHouse behind(int days, String text) {
        SwollenHouse x = CHECK.told(text);
        for (int i = 0; i < days; i++) {
            x.day();
        }
        return x;
    }

    /** Its only door sticks behind so many days, and then for ever. */
    private static SwollenHouse closingBehind(int days) {
        return CHECK.told(PAIR + "door a b pine gap 0;damp 9;swells date = " + (days - 1) + ";");
    }

    /** Its only door is swollen 20 on day 9 and opens on day 69, behind the twentieth dry day. */
    private static SwollenHouse openingOnDay69(int day) {
        return behind(day, SLOW + "9 * (date < 6) + 5 * (date = 6);");
    }

    /** Its only door is swollen 13 on day 15 and opens on day 54, behind the thirteenth dry day. */
    private static SwollenHouse openingOnDay54(int day) {
        return behind(day, SLOW + "9 * (date < 6);");
    }

    private static void later() {
        CHECK.says("LATER: how far a DOOR is swollen behind so many (0 to 60) DAYS.");
        SwollenHouse x = CHECK.told(PAIR + "door a b pine gap 0;damp 9;swells (58 < date) * 7 + (date = 0);");
        CHECK.due("now", x.later(0, 0), 0);
        CHECK.due("1", x.later(0, 1), 1);
        CHECK.due("59", x.later(0, 59), 1);
        CHECK.due("60", x.later(0, 60), 8);
        x.day();
        CHECK.due("now", x.later(0, 0), 1);
        CHECK.due("59, from day 1", x.later(0, 59), 8);
        CHECK.due("60, from day 1", x.later(0, 60), 15);
        CHECK.says("LATER; NONE: others.");
        for (int days : new int[] {Integer.MIN_VALUE, -60, -1, 61, 62, Integer.MAX_VALUE}) {
            CHECK.due("days " + days, x.later(0, days), -1);
        }
        for (int door : WILD) {
            CHECK.due("door " + door, x.later(door, 1), -1);
        }
        CHECK.due("no second", x.later(1, 0), -1);
        SwollenHouse y = CHECK.told(PAIR + "door a b pine gap 3;damp 9;swells space;");
        y.wedge(0);
        CHECK.due("with a wedge, too", y.later(0, 2), 6);
    }

    private static void closes() {
        CHECK.says("CLOSES: behind how many (0 to 60) a DOOR STICKS.");
        for (int days : new int[] {1, 2, 12, 13, 30, 59, 60}) {
            CHECK.due("behind " + days, closingBehind(days).closes(0), days);
        }
        SwollenHouse x = closingBehind(1);
        x.day();
        CHECK.due("it sticks now", x.closes(0), 0);
        CHECK.says("CLOSES; NONE: others, not by 60.");
        CHECK.due("behind 61", closingBehind(61).closes(0), -1);
        SwollenHouse y = closingBehind(61);
        y.day();
        CHECK.due("behind 60, from day 1", y.closes(0), 60);
        for (int door : WILD) {
            CHECK.due("door " + door, x.closes(door), -1);
        }
        CHECK.due("no second", x.closes(1), -1);
        x.undo();
        x.wedge(0);
        CHECK.due("with a wedge", x.closes(0), -1);
    }

    private static void gives() {
        CHECK.says("GIVES: behind how many (0 to 60) it is OPEN.");
        CHECK.due("it is open now", closingBehind(1).gives(0), 0);
        CHECK.due("behind 59", openingOnDay69(10).gives(0), 59);
        CHECK.due("behind 60", openingOnDay69(9).gives(0), 60);
        CHECK.due("behind 1", openingOnDay69(68).gives(0), 1);
        CHECK.due("now", openingOnDay69(69).gives(0), 0);
        CHECK.says("GIVES; NONE: others, not by 60.");
        CHECK.due("behind 61", openingOnDay69(8).gives(0), -1);
        SwollenHouse x = behind(1, PAIR + "door a b pine gap 0;damp 9;");
        CHECK.due("never", x.gives(0), -1);
        for (int door : WILD) {
            CHECK.due("door " + door, x.gives(door), -1);
        }
        CHECK.due("no second", x.gives(1), -1);
        x.plane(0);
        CHECK.due("at its gap it is open", x.gives(0), 0);
    }

    private static void calm() {
        CHECK.says("CALM: behind how many (0 to 60) all DOORS are OPEN.");
        CHECK.due("no doors", new SwollenHouse().calm(), 0);
        CHECK.due("all open now", closingBehind(1).calm(), 0);
        CHECK.due("behind 60", openingOnDay69(9).calm(), 60);
        CHECK.due("behind 59", openingOnDay69(10).calm(), 59);
        SwollenHouse x = behind(1, PAIR + "room c;door a b oak gap 0;door b c elm gap 0;damp 9 0 0 0 0 0;swells 4;");
        CHECK.due("the elm gives", x.gives(1), 2);
        CHECK.due("the oak gives", x.gives(0), 4);
        CHECK.due("both", x.calm(), 4);
        CHECK.says("CALM; NONE: not by 60.");
        CHECK.due("behind 61", openingOnDay69(8).calm(), -1);
        // One of these is open on every second or third day, but never both of them.
        SwollenHouse y = behind(1, PAIR + "room c;door a b pine gap 1;door b c lime gap 0;damp 9 0 5 3;"
            + "swells (space = 1) * (wet = 9) * 4 + (space = 0) * (wet = 5);");
        CHECK.due("the pine gives", y.gives(0), 3);
        CHECK.due("the lime is open", y.gives(1), 0);
        CHECK.due("never both", y.calm(), -1);
    }

    private static void hard() {
        CHECK.says("HARD: behind how many (0 to 60) the most of them STICK; of equal ones the first.");
        CHECK.due("no doors", new SwollenHouse().hard(), 0);
        CHECK.due("none by 60: all are equal", closingBehind(61).hard(), 0);
        CHECK.due("behind 60", closingBehind(60).hard(), 60);
        CHECK.due("behind 1, and as many ever after", closingBehind(1).hard(), 1);
        SwollenHouse x = closingBehind(1);
        x.day();
        CHECK.due("now", x.hard(), 0);
        CHECK.says("HARD.");
        String two = PAIR + "room c;door a b pine gap 0;door b c pine gap 1;damp 9;swells (date = 4) + (date = %);";
        CHECK.due("one behind 5, two behind 60", CHECK.told(two.replace("%", "59")).hard(), 60);
        CHECK.due("two behind 61 are not seen", CHECK.told(two.replace("%", "60")).hard(), 5);
        // Dry again and again: the pine sticks behind 1, 13, 25 and so on.
        SwollenHouse y = CHECK.told(PAIR + "door a b pine gap 0;damp 9 0 0 0 0 0 0 0 0 0 0 0;");
        CHECK.due("the first", y.hard(), 1);
        y.day();
        y.day();
        CHECK.due("the first from now on", y.hard(), 11);
    }

    private static void arrives() {
        CHECK.says("ARRIVES: (ahead of each DAY one WALKS through one DOOR, if one likes, as these are then)");
        SwollenHouse x = CHECK.told(ROW + "person p in a;person q in d;");
        for (int room = 0; room < 7; room++) {
            CHECK.due("one door a day to " + room, x.arrives(0, room), room);
            CHECK.due("either way to " + room, x.arrives(1, room), Math.abs(room - 3));
        }
        // The second door sticks behind a day, before one is there.
        CHECK.due("too late", CHECK.told(PAIR + "room c;door a b oak gap 9;door b c pine gap 0;damp 9;").arrives(0, 2), -1);
        CHECK.due("in time", CHECK.told(PAIR + "room c;door a b oak gap 9;door b c pine gap 1;damp 9;").arrives(0, 2), 2);
        // It sticks behind 1, and is open behind 2: one waits at it.
        CHECK.due("one waits", CHECK.told(PAIR + "room c;door a b oak gap 9;door b c pine gap 0;damp 9 0;").arrives(0, 2), 3);
        CHECK.says("(0: they are; a WALK now, ahead of the first DAY: 1)");
        CHECK.due("they are", closingBehind(1).arrives(0, 0), 0);
        CHECK.due("now, though it sticks behind 1", closingBehind(1).arrives(0, 1), 1);
        CHECK.due("not now", behind(1, PAIR + "door a b pine gap 0;damp 9;").arrives(0, 1), -1);
        CHECK.due("they are, though shut in", behind(1, PAIR + "door a b pine gap 0;damp 9;").arrives(0, 0), 0);
    }

    private static void arrivesByForty() {
        CHECK.says("in how many DAYS (0 to 40), at the least, a PERSON is in a ROOM behind the last WALK");
        CHECK.due("open behind 37", openingOnDay54(17).arrives(0, 1), 38);
        CHECK.due("open behind 38", openingOnDay54(16).arrives(0, 1), 39);
        CHECK.due("open behind 39", openingOnDay54(15).arrives(0, 1), 40);
        CHECK.due("open now", openingOnDay54(54).arrives(0, 1), 1);
        CHECK.says("ARRIVES; NONE: others, not by 40.");
        CHECK.due("open behind 40", openingOnDay54(14).arrives(0, 1), -1);
        SwollenHouse x = openingOnDay54(15);
        for (int other : WILD) {
            CHECK.due("person " + other, x.arrives(other, 0), -1);
            CHECK.due("room " + other, x.arrives(0, other), -1);
        }
        CHECK.due("no third person", x.arrives(2, 0), -1);
        CHECK.due("no third room", x.arrives(0, 2), -1);
        CHECK.due("no way", CHECK.told("room a;room b;person p in a;").arrives(0, 1), -1);
    }

    private static void from() {
        CHECK.says("FROM of a ROOM: the ROOMS from which one, there now, can be in it so in so many (0 to 40) DAYS, or less "
            + "(bits).");
        SwollenHouse x = CHECK.told(ROW);
        int[] toFirst = {1, 3, 7, 15, 31, 63, 127, 127};
        int[] toLast = {64, 96, 112, 120, 124, 126, 127, 127};
        for (int days = 0; days <= 7; days++) {
            CHECK.due("to a in " + days, x.from(0, days), toFirst[days]);
            CHECK.due("to g in " + days, x.from(6, days), toLast[days]);
        }
        CHECK.due("in 40, or less", x.from(0, 40), 127);
        SwollenHouse late = CHECK.told(PAIR + "room c;door a b oak gap 9;door b c pine gap 0;damp 9;");
        CHECK.due("from a it is too late", late.from(2, 40), 6);
        CHECK.due("from c it is not", late.from(0, 40), 7);
        CHECK.due("open behind 39: in 40", openingOnDay54(15).from(1, 40), 3);
        CHECK.due("not in 39", openingOnDay54(15).from(1, 39), 2);
        CHECK.due("open behind 40: not in 40", openingOnDay54(14).from(1, 40), 2);
        CHECK.says("FROM, as bits; NONE: others.");
        for (int other : WILD) {
            CHECK.due("room " + other, x.from(other, 1), -1);
        }
        CHECK.due("room 7", x.from(7, 1), -1);
        CHECK.due("no fourth", late.from(3, 1), -1);
        for (int days : new int[] {Integer.MIN_VALUE, -1, 41, 60, Integer.MAX_VALUE}) {
            CHECK.due("days " + days, x.from(0, days), -1);
        }
    }

    private static void both() {
        CHECK.says("BOTH of two PERSONS: in how many DAYS (0 to 40), at the least, they can be in one ROOM, each WALKING so.");
        SwollenHouse x = CHECK.told(ROW + "person p in a;person q in a;person r in b;person s in c;person t in g;");
        CHECK.due("in one room", x.both(0, 1), 0);
        CHECK.due("one door", x.both(0, 2), 1);
        CHECK.due("two doors, each one", x.both(0, 3), 1);
        CHECK.due("six doors, each three", x.both(0, 4), 3);
        CHECK.due("five doors, one waits", x.both(2, 4), 3);
        CHECK.due("the other way", x.both(4, 2), 3);
        CHECK.due("in 40", openingOnDay54(15).both(0, 1), 40);
        CHECK.due("the other way", openingOnDay54(15).both(1, 0), 40);
        CHECK.due("in 39", openingOnDay54(16).both(0, 1), 39);
        CHECK.says("BOTH; NONE: others, the same, not by 40.");
        CHECK.due("in 41", openingOnDay54(14).both(0, 1), -1);
        CHECK.due("no way", CHECK.told(PAIR).both(0, 1), -1);
        for (int i = 0; i < 5; i++) {
            CHECK.due("the same", x.both(i, i), -1);
        }
        for (int other : WILD) {
            CHECK.due("both " + other, x.both(other, 0), -1);
            CHECK.due("both 0 " + other, x.both(0, other), -1);
            CHECK.due("twice " + other, x.both(other, other), -1);
        }
        CHECK.due("person 5", x.both(0, 5), -1);
        CHECK.due("person 5", x.both(5, 0), -1);
    }

    /** Seven rooms in a ring of oaks, a lime across it, which sticks behind a day, and five persons. */
    private static SwollenHouse full() {
        return CHECK.told(ROW + "door g a oak gap 12;door a d lime gap 0;person p in a;person q in b;person r in b;"
            + "person s in g;person t in e;damp 9;");
    }

    private static void fullHouse() {
        CHECK.says("(DAYS going by, nothing else being done.)");
        SwollenHouse x = full();
        CHECK.due("later", x.later(7, 60), 30);
        CHECK.due("the lime closes", x.closes(7), 1);
        CHECK.due("an oak closes", x.closes(6), 13);
        CHECK.due("the lime gives", x.gives(7), 0);
        CHECK.due("calm", x.calm(), 0);
        CHECK.due("all eight stick", x.hard(), 13);
        CHECK.due("by the lime", x.arrives(0, 4), 2);
        CHECK.due("too late for the lime", x.arrives(1, 3), 2);
        CHECK.due("from a, c, d, e, f, g", x.from(4, 2), 125);
        CHECK.due("both by the lime", x.both(0, 4), 1);
        CHECK.due("said", x.say(4, 2), true);
        CHECK.due("p, s and t", x.who(), 25);
        CHECK.due("three oaks are too few", x.planed(13, -1), -2);
        for (int i = 0; i < 14; i++) {
            x.day();
        }
        CHECK.due("never", x.calm(), -1);
        CHECK.due("t is there, and nobody else comes", x.who(), 16);
    }

    private static void row(SwollenHouse x, int days, int... row) {
        CHECK.due("how many for " + days, x.planed(days, -1), row.length);
        for (int i = 0; i < row.length; i++) {
            CHECK.due("the " + i + "-th for " + days, x.planed(days, i), row[i]);
        }
        CHECK.due("no more for " + days, x.planed(days, row.length), -2);
    }

    private static void never(SwollenHouse x, int days) {
        for (int what = -1; what <= 3; what++) {
            CHECK.due("not by 3 for " + days + ", " + what, x.planed(days, what), -2);
        }
    }

    private static void planedDays() {
        CHECK.says("PLANED for so many (0 to 30) DAYS");
        row(closingBehind(30), 29);
        row(closingBehind(30), 30, 0);
        row(closingBehind(31), 30);
        row(closingBehind(1), 0);
        row(closingBehind(1), 1, 0);
        for (int days : new int[] {Integer.MIN_VALUE, -1, 31, 60, Integer.MAX_VALUE}) {
            never(closingBehind(1), days);
            never(CHECK.told(""), days);
        }
    }

    private static void planedFewest() {
        CHECK.says("the fewest PLANINGS now (0 to 3, a DOOR more than once, too, as it can be) so that behind these all "
            + "PERSONS are in one RANGE");
        for (int by = 0; by <= 5; by++) {
            SwollenHouse x = CHECK.told(PAIR + "door a b pine gap 2;damp 9;swells " + (2 + by) + ";");
            if (by > 3) {
                never(x, 1);
            } else {
                row(x, 1, new int[by]);
            }
        }
        row(CHECK.told(""), 30);
        row(CHECK.told("room a;room b;door a b pine gap 0;damp 9;"), 30);
        row(CHECK.told("room a;room b;door a b pine gap 0;person p in a;damp 9;"), 30);
        row(CHECK.told("room a;room b;door a b pine gap 0;person p in a;person q in a;damp 9;"), 30);
        never(CHECK.told(PAIR), 0);
        never(CHECK.told(PAIR + "room c;door a c pine gap 0;"), 0);
        String three = PAIR + "room c;room d;door a c pine gap 0;door c d pine gap 0;door d b pine gap 0;damp 9;";
        row(CHECK.told(three), 1, 0, 1, 2);
        never(CHECK.told(three), 2);
        SwollenHouse wedged = CHECK.told(PAIR + "door a b pine gap 0;damp 9;");
        wedged.wedge(0);
        row(wedged, 30);
        SwollenHouse stuck = behind(1, PAIR + "door a b pine gap 0;damp 9;swells 3;");
        row(stuck, 0, 0, 0, 0);
        never(stuck, 1);
        SwollenHouse five = CHECK.told("room a;room b;room c;room d;room e;door a b pine gap 0;door b c pine gap 9;"
            + "door c d pine gap 9;door d e pine gap 0;person p in a;person q in b;person r in c;person s in d;"
            + "person t in e;damp 9;");
        row(five, 1, 0, 3);
        // The gap is a fact of the law: planed twice, it swells by 1 alone.
        row(CHECK.told(PAIR + "door a b pine gap 0;damp 9;swells 3 - space;"), 1, 0, 0);
    }

    private static SwollenHouse planedTo(int gap, int growth) {
        SwollenHouse x = CHECK.told(PAIR + "door a b pine gap 12;damp 9;swells " + growth + ";");
        for (int i = 12; i < gap; i++) {
            x.plane(0);
        }
        return x;
    }

    private static void planedAsItCanBe() {
        CHECK.says("a DOOR more than once, too, as it can be");
        row(planedTo(17, 5), 4, 0, 0, 0);
        row(planedTo(18, 5), 4, 0, 0);
        row(planedTo(19, 5), 4, 0);
        row(planedTo(20, 5), 4);
        never(planedTo(18, 7), 3);
        never(planedTo(19, 7), 3);
        never(planedTo(20, 7), 3);
    }

    private static void planedFirstRow() {
        CHECK.says("how many; of equal ones the first row (of DOORS, the least first): which.");
        String ways = PAIR + "room c;room d;damp 9;swells 2;";
        row(CHECK.told(ways + "door a c pine gap 1;door a b pine gap 0;door c b pine gap 1;"), 1, 0, 2);
        row(CHECK.told(ways + "door a b pine gap 0;door a c pine gap 1;door c b pine gap 1;"), 1, 0, 0);
        row(CHECK.told(ways + "door a c pine gap 1;door c b pine gap 1;door a b pine gap 0;"), 1, 0, 1);
        row(CHECK.told(ways + "door a c pine gap 2;door c b pine gap 0;door a d pine gap 1;door d b pine gap 1;"), 1, 1, 1);
        row(CHECK.told(ways + "door a c pine gap 0;door c b pine gap 1;door a d pine gap 1;door d b pine gap 0;"), 1, 0, 0, 1);
        row(CHECK.told(ways + "door d b pine gap 0;door c b pine gap 2;door a d pine gap 1;door d c pine gap 1;"), 1, 2, 3);
        row(CHECK.told(ways + "door a c pine gap 1;door c d pine gap 0;door d b pine gap 2;"), 1, 0, 1, 1);
        // Eight doors, of which only the last is on a way.
        row(CHECK.told("room a;room b;room c;room d;room e;room f;room g;door a b pine gap 0;door a c pine gap 0;"
            + "door a d pine gap 0;door a e pine gap 0;door b c pine gap 0;door b d pine gap 0;door b e pine gap 0;"
            + "door f g pine gap 0;person p in f;person q in g;damp 9;swells 3;"), 1, 7, 7, 7);
    }

    private static void planedOthers() {
        CHECK.says("PLANED, what NONE: how many; i: the i-th DOOR; -2: others, not by 3, no i-th one.");
        SwollenHouse x = CHECK.told(PAIR + "door a b pine gap 0;damp 9;");
        for (int what : new int[] {Integer.MIN_VALUE, -3, -2, 2, 3, 4, 31, Integer.MAX_VALUE}) {
            CHECK.due("what " + what, x.planed(2, what), -2);
        }
        CHECK.due("how many", x.planed(2, -1), 2);
        CHECK.due("the 0-th", x.planed(2, 0), 0);
        CHECK.due("the 1-th", x.planed(2, 1), 0);
        CHECK.due("of three the 2-th", x.planed(3, 2), 0);
        CHECK.due("no 3-th", x.planed(3, 3), -2);
        CHECK.due("of none the 0-th", x.planed(0, 0), -2);
    }
}
