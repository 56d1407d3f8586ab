/** The edges of what is asked of a day, behind ==== 3, a method for each sentence (promises 14 to 16, 25, 32 to 39). */
public final class TodayEdgesTest {
    private static final Check CHECK = new Check("TodayEdgesTest");
    private static final int[] WILD = {Integer.MIN_VALUE, -2, -1, 7, 8, 31, 32, 64, Integer.MAX_VALUE};
    private static final String SEVEN = "room a;room b;room c;room d;room e;room f;room g;";
    private static final String ROW = SEVEN + "door a b oak gap 0;door b c oak gap 0;door c d oak gap 0;"
        + "door d e oak gap 0;door e f oak gap 0;door f g oak gap 0;";
    private static final String STAR = SEVEN + "door a b oak gap 0;door a c oak gap 0;door a d oak gap 0;"
        + "door a e oak gap 0;door a f oak gap 0;door a g oak gap 0;door b c oak gap 0;door b d oak gap 0;";
    private static final String FIVE = "person p in a;person q in b;person r in c;person s in d;person t in e;";

    public static void main(String[] args) {
        shut();
        range();
        rangeOthers();
        company();
        cut();
        cutEqual();
        cutOthers();
        rattles();
        parts();
        bride();
        worst();
        spared();
        opened();
        openedOfEight();
        openedEqual();
        deep();
        alone();
        CHECK.end();
    }

    private static SwollenHouse behindADay(String text) {
        SwollenHouse x = CHECK.told(text);
        x.day();
        return x;
    }

    private static void shut() {
        CHECK.says("SHUT: PERSONS in whose ROOM there are DOORS, and all of these STICK.");
        CHECK.due("all open", CHECK.told(STAR + FIVE + "damp 9;").shut(), 0);
        CHECK.due("all five", behindADay(STAR + FIVE + "damp 9;").shut(), 31);
        SwollenHouse x = behindADay(STAR + FIVE + "damp 9;");
        x.force(0);
        CHECK.due("one of six open lets p out, one of three q", x.shut(), 28);
        CHECK.due("no doors at all", behindADay("room a;person p in a;damp 9;").shut(), 0);
        CHECK.due("no doors of that room", behindADay(
            "room a;room b;room c;door a b pine gap 0;person p in c;person q in a;damp 9;").shut(), 2);
        SwollenHouse y = CHECK.told("room a;room b;door a b pine gap 0;person p in a;person q in b;damp 9;");
        y.wedge(0);
        y.day();
        CHECK.due("a wedge", y.shut(), 0);
        y.wedge(0);
        CHECK.due("without it", y.shut(), 3);
        CHECK.due("nobody", behindADay("room a;room b;door a b pine gap 0;damp 9;").shut(), 0);
        CHECK.says("SHUT, as bits.");
        CHECK.due("the last", behindADay("room a;room b;room c;room d;door a b pine gap 0;person p in c;person q in c;"
            + "person r in c;person s in d;person t in b;damp 9;").shut(), 16);
    }

    private static void range() {
        CHECK.says("RANGE of a ROOM: all ROOMS to which one comes from it by OPEN DOORS, itself too (bits).");
        SwollenHouse x = CHECK.told(ROW);
        for (int room = 0; room < 7; room++) {
            CHECK.due("a row: all from " + room, x.range(room), 127);
        }
        SwollenHouse y = behindADay(ROW + "damp 9;");
        for (int room = 0; room < 7; room++) {
            CHECK.due("all stick: itself", y.range(room), 1 << room);
        }
        y.force(2);
        CHECK.due("c", y.range(2), 12);
        CHECK.due("d", y.range(3), 12);
        CHECK.due("b", y.range(1), 2);
        CHECK.due("no doors", CHECK.told(SEVEN).range(6), 64);
        CHECK.due("told backwards", CHECK.told(SEVEN + "door g f oak gap 0;door f e oak gap 0;door e d oak gap 0;"
            + "door d c oak gap 0;door c b oak gap 0;door b a oak gap 0;").range(0), 127);
    }

    private static void rangeOthers() {
        CHECK.says("RANGE, as bits; NONE: others.");
        for (int other : WILD) {
            CHECK.due("range " + other, CHECK.told(ROW).range(other), -1);
        }
        CHECK.due("the last", CHECK.told("room a;room b;").range(1), 2);
        CHECK.due("behind the last", CHECK.told("room a;room b;").range(2), -1);
    }

    private static void company() {
        CHECK.says("COMPANY of a PERSON: PERSONS in the RANGE of their ROOM, themselves left out (bits).");
        SwollenHouse x = CHECK.told(ROW + FIVE + "damp 9;");
        for (int i = 0; i < 5; i++) {
            CHECK.due("all but " + i, x.company(i), 31 & ~(1 << i));
        }
        x.day();
        for (int i = 0; i < 5; i++) {
            CHECK.due("none of " + i, x.company(i), 0);
        }
        CHECK.due("in one room", CHECK.told("room a;person p in a;person q in a;").company(1), 1);
        CHECK.due("one person", CHECK.told("room a;person p in a;").company(0), 0);
        CHECK.says("COMPANY, as bits; NONE: others.");
        for (int other : WILD) {
            CHECK.due("company " + other, x.company(other), -1);
        }
        CHECK.due("company 5", x.company(5), -1);
        CHECK.due("behind the last", CHECK.told("room a;person p in a;").company(1), -1);
    }

    private static void cut() {
        CHECK.says("CUT of two ROOMS: the fewest OPEN DOORS that would have to STICK so that one does not come from one "
            + "to the other");
        CHECK.due("one door", CHECK.told("room a;room b;door a b oak gap 0;").cut(0, 1), 1);
        CHECK.due("the last of eight", CHECK.told(SEVEN + "door a b oak gap 0;door a c oak gap 0;door b c oak gap 0;"
            + "door a d oak gap 0;door b d oak gap 0;door c d oak gap 0;door e f oak gap 0;door f g oak gap 0;").cut(5, 6), 128);
        // Two rooms of three doors each, joined by three ways.
        CHECK.due("three", CHECK.told(SEVEN + "door a b oak gap 0;door a c oak gap 0;door a d oak gap 0;door b e oak gap 0;"
            + "door c e oak gap 0;door d e oak gap 0;").cut(0, 4), 7);
        SwollenHouse x = CHECK.told("room a;room b;room c;room d;door a b oak gap 0;door a c oak gap 0;door a d oak gap 0;"
            + "door b c oak gap 0;door b d oak gap 0;door c d oak gap 0;");
        CHECK.due("all joined: the three of a", x.cut(0, 3), 7);
        CHECK.due("or of b", x.cut(1, 2), 25);
        CHECK.says("CUT, as bits (0: none need)");
        CHECK.due("no door", CHECK.told("room a;room b;").cut(0, 1), 0);
        SwollenHouse y = CHECK.told("room a;room b;room c;door a b pine gap 0;door b c oak gap 9;door c a oak gap 9;damp 9;");
        CHECK.due("two ways", y.cut(0, 1), 3);
        y.day();
        CHECK.due("one sticks: it need not", y.cut(0, 1), 2);
        y.day();
        y.plane(0);
        y.plane(0);
        CHECK.due("open again", y.cut(0, 1), 3);
        CHECK.due("apart", behindADay(ROW + "damp 9;").cut(0, 6), 0);
    }

    private static void cutEqual() {
        CHECK.says("of equal ones the least set (bits)");
        SwollenHouse x = CHECK.told(ROW);
        for (int one = 0; one < 7; one++) {
            for (int other = 0; other < 7; other++) {
                int least = Math.min(one, other);
                CHECK.due("a row, " + one + " and " + other, x.cut(one, other), one == other ? -1 : 1 << least);
            }
        }
        // A ring of four: 0 and 2 part a from b and c, 1 and 2 would too, and 0 and 3, 1 and 3.
        SwollenHouse y = CHECK.told("room a;room b;room c;room d;door a b oak gap 0;door b c oak gap 0;"
            + "door a d oak gap 0;door d c oak gap 0;");
        CHECK.due("a from c", y.cut(0, 2), 5);
        CHECK.due("b from d", y.cut(1, 3), 3);
        CHECK.due("a from d", y.cut(0, 3), 5);
        CHECK.due("d from c", y.cut(3, 2), 9);
    }

    private static void cutOthers() {
        CHECK.says("NONE: others, the same.");
        SwollenHouse x = CHECK.told(ROW);
        for (int other : WILD) {
            CHECK.due("cut " + other, x.cut(other, 0), -1);
            CHECK.due("cut 0 " + other, x.cut(0, other), -1);
            CHECK.due("twice " + other, x.cut(other, other), -1);
        }
        SwollenHouse y = CHECK.told("room a;room b;");
        CHECK.due("behind the last", y.cut(0, 2), -1);
        CHECK.due("behind the last", y.cut(2, 1), -1);
        CHECK.due("the same", y.cut(1, 1), -1);
    }

    private static void rattles() {
        CHECK.says("RATTLES (bits).");
        CHECK.due("none", CHECK.told(STAR).rattles(), 0);
        CHECK.due("all", CHECK.told(STAR.replace("gap 0", "gap 6")).rattles(), 255);
        CHECK.due("not by 5", CHECK.told(STAR.replace("gap 0", "gap 5")).rattles(), 0);
        CHECK.says("RATTLES, as bits.");
        CHECK.due("the first and the last", CHECK.told("room a;room b;room c;door a b oak gap 6;door b c oak gap 5;"
            + "door c a oak gap 12;").rattles(), 5);
        SwollenHouse x = CHECK.told("room a;room b;door a b pine gap 12;damp 9;");
        for (int i = 0; i < 6; i++) {
            x.day();
        }
        CHECK.due("12 is 6 more than 6", x.rattles(), 1);
        x.day();
        CHECK.due("not than 7", x.rattles(), 0);
        x.plane(0);
        CHECK.due("13 is", x.rattles(), 1);
    }

    private static void parts() {
        CHECK.says("PARTS: how many there are, of ROOMS that are in one RANGE.");
        CHECK.due("no rooms", new SwollenHouse().parts(), 0);
        CHECK.due("one", CHECK.told("room a;").parts(), 1);
        CHECK.due("seven", CHECK.told(SEVEN).parts(), 7);
        CHECK.due("a row", CHECK.told(ROW).parts(), 1);
        SwollenHouse x = behindADay(ROW + "damp 9;");
        for (int parts = 7; parts >= 2; parts--) {
            CHECK.due("parts", x.parts(), parts);
            x.force(7 - parts);
        }
        CHECK.due("one again", x.parts(), 1);
        CHECK.says("PARTS, how many.");
        CHECK.due("the first and the last", CHECK.told("room a;room b;room c;door a c oak gap 0;").parts(), 2);
    }

    private static void bride() {
        CHECK.says("BRIDE: the PERSON who is in the least RANGE; of equal ones the first.");
        CHECK.due("all equal", CHECK.told(ROW + FIVE).bride(), 0);
        CHECK.due("alone in one room", CHECK.told(SEVEN + FIVE).bride(), 0);
        CHECK.due("the last", CHECK.told("room a;room b;room c;door a b oak gap 0;person p in a;person q in b;person r in a;"
            + "person s in b;person t in c;").bride(), 4);
        CHECK.due("the first of two", CHECK.told("room a;room b;room c;room d;door a b oak gap 0;person p in a;"
            + "person q in d;person r in c;").bride(), 1);
        CHECK.due("in a room of one, though with others", CHECK.told("room a;room b;room c;door a b oak gap 0;person p in a;"
            + "person q in c;person r in c;").bride(), 1);
        CHECK.due("seven rooms", CHECK.told(ROW + "person p in d;").bride(), 0);
        CHECK.says("BRIDE; NONE: nobody.");
        CHECK.due("nobody", CHECK.told(ROW).bride(), -1);
        CHECK.due("no house", new SwollenHouse().bride(), -1);
    }

    private static void worst() {
        CHECK.says("WORST: the DOOR that STICKS the farthest; of equal ones the first.");
        String three = "room a;room b;room c;door a b pine gap %;door b c pine gap %;door c a pine gap %;damp 9;swells 5;";
        int[][] due = {{0, 0, 0, 0}, {1, 0, 0, 1}, {2, 1, 0, 2}, {0, 1, 2, 0}, {4, 4, 4, 0}, {5, 4, 4, 1}, {5, 5, 4, 2},
            {5, 5, 5, -1}, {4, 5, 4, 0}, {12, 9, 6, -1}};
        for (int[] gaps : due) {
            String text = three;
            for (int i = 0; i < 3; i++) {
                text = text.replaceFirst("%", String.valueOf(gaps[i]));
            }
            CHECK.due("gaps " + gaps[0] + " " + gaps[1] + " " + gaps[2], behindADay(text).worst(), gaps[3]);
        }
        CHECK.due("the last of eight", behindADay(STAR.replace("gap 0", "gap 1").replace("b d oak gap 1", "b d oak gap 0")
            + "damp 9;swells 3;").worst(), 7);
        SwollenHouse x = CHECK.told("room a;room b;room c;door a b pine gap 0;door b c pine gap 1;damp 9;swells 2;");
        x.wedge(0);
        x.day();
        CHECK.due("one with a wedge does not stick", x.worst(), 1);
        CHECK.due("how far it is swollen is no matter", farSwollen().worst(), 1);
        CHECK.says("WORST; NONE: none STICKS.");
        CHECK.due("none", CHECK.told(STAR).worst(), -1);
        CHECK.due("no doors", new SwollenHouse().worst(), -1);
    }

    /** The first door is swollen 6 at a gap of 5, the second 4 at a gap of 2. */
    private static SwollenHouse farSwollen() {
        SwollenHouse x = CHECK.told("room a;room b;room c;door a b lime gap 5;door b c oak gap 2;damp 9 4;swells 4 - date * 2;");
        x.day();
        x.day();
        return x;
    }

    private static void spared() {
        CHECK.says("SPARED: OPEN DOORS, each alone, without which no RANGE would be less (bits).");
        CHECK.due("none in a row", CHECK.told(ROW).spared(), 0);
        CHECK.due("all in a ring, each alone", CHECK.told("room a;room b;room c;door a b oak gap 0;door b c oak gap 0;"
            + "door c a oak gap 0;").spared(), 7);
        CHECK.due("two rings, a b c and a b d", CHECK.told(STAR).spared(), 0xc7);
        CHECK.due("no doors", CHECK.told(SEVEN).spared(), 0);
        SwollenHouse x = CHECK.told("room a;room b;room c;door a b pine gap 0;door b c oak gap 9;door c a oak gap 9;damp 9;");
        x.day();
        CHECK.due("one sticks: it is not open, the others are needed", x.spared(), 0);
        x.plane(0);
        CHECK.due("open at its gap", x.spared(), 7);
        CHECK.says("SPARED, as bits.");
        CHECK.due("the last of eight", CHECK.told(SEVEN + "door a b oak gap 0;door a c oak gap 0;door a d oak gap 0;"
            + "door a e oak gap 0;door a f oak gap 0;door e g oak gap 0;door f g oak gap 0;door c d oak gap 0;").spared(), 0xfe);
    }

    private static void opened() {
        CHECK.says("OPENED: the DOOR that STICKS by whose wedge (were it OPEN now) the most pairs of PERSONS more were in "
            + "one RANGE");
        SwollenHouse x = behindADay(ROW + "person p in a;person q in b;person r in b;person s in g;person t in f;damp 9;");
        CHECK.due("two pairs by a b", x.opened(), 0);
        x.force(0);
        CHECK.due("one by f g", x.opened(), 5);
        x.force(5);
        CHECK.due("six pairs by all between, none by one", x.opened(), -1);
        x.force(2);
        x.force(3);
        CHECK.due("none by b c, e f yet", x.opened(), -1);
        x.force(4);
        CHECK.due("six by b c", x.opened(), 1);
        SwollenHouse y = behindADay("room a;room b;room c;door b c pine gap 0;door a b pine gap 0;person p in a;person q in a;"
            + "person r in b;person s in b;person t in c;damp 9;");
        CHECK.due("four by a b, two by b c", y.opened(), 1);
        CHECK.says("OPENED; NONE: none STICKS, by none.");
        CHECK.due("none sticks", CHECK.told(ROW + FIVE).opened(), -1);
        CHECK.due("by none: nobody", behindADay(ROW + "damp 9;").opened(), -1);
        CHECK.due("by none: one person", behindADay(ROW + "person p in a;damp 9;").opened(), -1);
        CHECK.due("by none: together already", behindADay(ROW + "person p in a;person q in a;damp 9;").opened(), -1);
        CHECK.due("no doors", new SwollenHouse().opened(), -1);
        SwollenHouse z = CHECK.told("room a;room b;door a b pine gap 0;person p in a;person q in b;damp 9;");
        z.wedge(0);
        z.day();
        CHECK.due("it has one", z.opened(), -1);
        z.wedge(0);
        CHECK.due("it had one", z.opened(), 0);
    }

    private static void openedOfEight() {
        CHECK.says("OPENED: the DOOR that STICKS by whose wedge");
        SwollenHouse x = behindADay(STAR + "person p in b;person q in d;person r in d;person s in e;person t in f;damp 9;");
        CHECK.due("all stick", x.count(5), 255);
        CHECK.due("the last of eight", x.opened(), 7);
        SwollenHouse y = CHECK.told(STAR + FIVE);
        CHECK.due("none of eight sticks", y.opened(), -1);
    }

    private static void openedEqual() {
        CHECK.says("of equal ones the first. DEEP");
        CHECK.due("of equal ones the first", behindADay(ROW + FIVE + "damp 9;").opened(), 0);
        CHECK.due("not the first door", behindADay(ROW + "person p in c;person q in d;person r in e;damp 9;").opened(), 2);
        CHECK.due("two ways for one pair", behindADay("room a;room b;room c;door a b pine gap 0;door a c pine gap 0;"
            + "door b c pine gap 9;person p in a;person q in c;damp 9;").opened(), 0);
    }

    private static void deep() {
        CHECK.says("DEEP of a ROOM: the most DOORS, at least, to any ROOM in its RANGE.");
        int[] row = {6, 5, 4, 3, 4, 5, 6};
        SwollenHouse x = CHECK.told(ROW);
        for (int room = 0; room < 7; room++) {
            CHECK.due("a row, " + room, x.deep(room), row[room]);
        }
        int[] star = {1, 2, 2, 2, 2, 2, 2};
        SwollenHouse y = CHECK.told(STAR);
        for (int room = 0; room < 7; room++) {
            CHECK.due("a star, " + room, y.deep(room), star[room]);
        }
        CHECK.due("its range is itself", CHECK.told(SEVEN).deep(6), 0);
        CHECK.due("all stick", behindADay(ROW + "damp 9;").deep(0), 0);
        CHECK.due("a ring of seven", CHECK.told(ROW + "door g a oak gap 0;").deep(0), 3);
        CHECK.says("DEEP; NONE: others.");
        for (int other : WILD) {
            CHECK.due("deep " + other, x.deep(other), -1);
        }
        CHECK.due("behind the last", CHECK.told("room a;").deep(1), -1);
    }

    private static void alone() {
        CHECK.says("ALONE: PERSONS without COMPANY (bits).");
        CHECK.due("nobody", CHECK.told(ROW).alone(), 0);
        CHECK.due("one", CHECK.told("room a;person p in a;").alone(), 1);
        CHECK.due("all five", CHECK.told(SEVEN + FIVE).alone(), 31);
        CHECK.due("none of five", CHECK.told(ROW + FIVE).alone(), 0);
        CHECK.due("two in one room are not", CHECK.told("room a;person p in a;person q in a;").alone(), 0);
        CHECK.says("ALONE, as bits.");
        CHECK.due("the last", CHECK.told("room a;room b;room c;door a b oak gap 0;person p in a;person q in b;"
            + "person r in c;").alone(), 4);
        CHECK.due("behind a day", behindADay(ROW + FIVE + "damp 9;").alone(), 31);
    }
}
