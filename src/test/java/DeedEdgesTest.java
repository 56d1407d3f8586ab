/** The edges of what is done, behind ==== 2, a method for each sentence of the document (promises 5 to 12). */
public final class DeedEdgesTest {
    private static final Check CHECK = new Check("DeedEdgesTest");
    private static final int[] WILD = {Integer.MIN_VALUE, -2, -1, 8, 9, 31, 32, 64, Integer.MAX_VALUE};
    private static final String[] WOODS = {"oak", "pine", "elm", "lime"};
    // By damps 0 to 9: how a door of each wood that is swollen far enough changes, where it swells by 1.
    private static final int[][] CHANGE = {
        {-1, -1, 0, 0, 0, 0, 0, 1, 1, 1},
        {-2, -2, -2, -2, 0, 1, 1, 1, 1, 1},
        {-3, 0, 0, 0, 0, 0, 1, 1, 1, 1},
        {-1, -1, -1, 0, 1, 1, 1, 1, 1, 1}
    };
    private static final String EIGHT = "room a;room b;room c;room d;room e;room f;room g;door a b oak gap 0;"
        + "door a c pine gap 0;door a d elm gap 0;door a e lime gap 0;door a f oak gap 0;door a g pine gap 0;"
        + "door b c elm gap 0;door b d lime gap 0;person p in a;person q in b;person r in c;person s in d;person t in a;";

    public static void main(String[] args) {
        sticks();
        rattles();
        growthOfADay();
        thirtyAtMost();
        marksOfWoods();
        zeroAtLeast();
        theNextDay();
        walks();
        planings();
        wedges();
        forcings();
        undoOne();
        undoSixteen();
        undoOneByOne();
        undoNone();
        doorAnswers();
        personAnswers();
        dayAnswers();
        deedAnswers();
        lastCall();
        CHECK.end();
    }

    private static SwollenHouse pair(String wood, int gap, String rest) {
        return CHECK.told("room a;room b;person p in a;door a b " + wood + " gap " + gap + ";" + rest);
    }

    private static void sticks() {
        CHECK.says("A DOOR STICKS if it is swollen farther than its gap, and has no wedge; all others are OPEN.");
        for (int gap = 0; gap <= 12; gap += 4) {
            SwollenHouse x = pair("pine", gap, "damp 9;");
            for (int far = 0; far <= gap; far++) {
                CHECK.due("swollen " + far + " at gap " + gap, x.door(0, 6), 0);
                x.day();
            }
            CHECK.due("farther than gap " + gap, x.door(0, 6), 1);
            CHECK.due("no way", x.walk(0, 0), -1);
            x.undo();
            CHECK.due("a wedge", x.wedge(0), 1);
            CHECK.due("open by it", x.day(), 0);
            CHECK.due("open", x.door(0, 6), 0);
            CHECK.due("a way", x.walk(0, 0), 1);
        }
    }

    private static void rattles() {
        CHECK.says("It RATTLES if its gap is 6 more than it is swollen, or more.");
        for (int gap = 0; gap <= 12; gap++) {
            CHECK.due("gap " + gap, pair("oak", gap, "").rattles(), gap >= 6 ? 1 : 0);
        }
        SwollenHouse x = pair("pine", 12, "damp 9;");
        for (int far = 0; far <= 13; far++) {
            CHECK.due("swollen " + far + " at gap 12", x.rattles(), far <= 6 ? 1 : 0);
            x.day();
        }
        SwollenHouse y = pair("pine", 12, "damp 9;");
        y.wedge(0);
        CHECK.due("with a wedge, too", y.rattles(), 1);
    }

    private static void growth(String law, int due) {
        SwollenHouse x = pair("oak", 0, "damp 9;swells " + law + ";");
        x.day();
        CHECK.due("swells " + law, x.door(0, 4), due);
        CHECK.due("swells " + law, x.count(7), due);
    }

    private static void growthOfADay() {
        CHECK.says("DAY: by the day's damp each DOOR swells by the E of swells (0 to 9; 30 at most)");
        growth("0 - 9999", 0);
        growth("0 - 1", 0);
        for (int n = 0; n <= 9; n++) {
            growth(String.valueOf(n), n);
        }
        growth("10", 9);
        growth("9999", 9);
        growth("8192 * 8192 * 32", 0);
        growth("8192 * 8192 * 32 - 1", 9);
        SwollenHouse x = pair("oak", 0, "damp 9;swells 5 - 9 * swell;");
        x.day();
        x.day();
        CHECK.due("it does not shrink by a law below 0", x.door(0, 4), 5);
    }

    private static void thirtyAtMost() {
        CHECK.says("30 at most");
        int[] byNine = {9, 18, 27, 30, 30, 30};
        int[] byTwo = {9, 18, 27, 29, 30, 30};
        int[] byOne = {9, 18, 27, 28, 29, 30, 30, 30};
        swollen("9", byNine);
        swollen("9 * (swell < 27) + 2 * (26 < swell)", byTwo);
        swollen("9 * (swell < 27) + (26 < swell)", byOne);
        swollen("9 * (swell < 27) + 3 * (26 < swell)", byNine);
        SwollenHouse x = CHECK.told(EIGHT + "damp 9;swells 9;");
        for (int i = 0; i < 5; i++) {
            x.day();
        }
        CHECK.due("eight of 30", x.count(7), 240);
    }

    private static void swollen(String law, int... due) {
        SwollenHouse x = pair("lime", 0, "damp 9;swells " + law + ";");
        for (int i = 0; i < due.length; i++) {
            x.day();
            CHECK.due("swells " + law + " behind day " + i, x.door(0, 4), due[i]);
        }
    }

    private static void marksOfWoods() {
        CHECK.says("if that is above its wood's upper mark: oak 6, pine 4, elm 5, lime 3");
        markOfWoods(true);
        CHECK.says("if it is below its lower mark: oak below 2 by 1, pine below 4 by 2, elm below 1 by 3, lime below 3 by 1; "
            + "else it stays.");
        markOfWoods(false);
    }

    private static void markOfWoods(boolean upper) {
        for (int wood = 0; wood < 4; wood++) {
            for (int damp = 0; damp <= 9; damp++) {
                SwollenHouse x = pair(WOODS[wood], 0, "damp 9 " + damp + ";swells 8 * (date = 0) + (0 < date);");
                x.day();
                CHECK.due(WOODS[wood] + " swollen", x.door(0, 4), 9 - 1);
                x.day();
                int change = CHANGE[wood][damp];
                if (upper == change > 0) {
                    CHECK.due(WOODS[wood] + " by damp " + damp, x.door(0, 4), 8 + change);
                }
            }
        }
    }

    private static void zeroAtLeast() {
        CHECK.says("it shrinks (0 at least)");
        int[] by = {1, 2, 3, 1};
        for (int wood = 0; wood < 4; wood++) {
            for (int far = 0; far <= 4; far++) {
                SwollenHouse x = pair(WOODS[wood], 0, "damp 9 0 0 0 0 0 0 0 0 0 0 0;swells " + far + ";");
                x.day();
                CHECK.due(WOODS[wood] + " swollen", x.door(0, 4), far);
                for (int left = far; left > -4; left -= by[wood]) {
                    CHECK.due(WOODS[wood] + " from " + far, x.door(0, 4), left > 0 ? left : 0);
                    x.day();
                }
            }
        }
    }

    private static void theNextDay() {
        CHECK.says("It is the next day.");
        SwollenHouse x = pair("oak", 0, "damp 9 0;");
        for (int day = 0; day < 100; day++) {
            CHECK.due("day", x.count(3), day);
            CHECK.due("its damp", x.count(4), day % 2 == 0 ? 9 : 0);
            CHECK.due("the damp of the day that goes by", x.day(), day % 2 == 0 ? 1 : 0);
        }
    }

    private static void walks() {
        CHECK.says("WALK: a PERSON goes through an OPEN DOOR of the ROOM where they are into the other one.");
        SwollenHouse x = CHECK.told(EIGHT + "damp 9;");
        for (int i = 1; i <= 6; i++) {
            CHECK.due("from a by " + (i - 1), x.walk(0, i - 1), i);
            CHECK.due("back", x.walk(0, i - 1), 0);
        }
        CHECK.due("none of a", x.walk(0, 6), -1);
        CHECK.due("none of a", x.walk(0, 7), -1);
        CHECK.due("the first person stays", x.person(0), 0);
        CHECK.due("another", x.walk(4, 5), 6);
        CHECK.due("alone", x.person(0), 0);
        CHECK.due("b to d", x.walk(1, 7), 3);
        CHECK.due("all stick", x.day(), 255);
        for (int door = 0; door < 8; door++) {
            CHECK.due("door " + door, x.walk(0, door), -1);
        }
        CHECK.due("still in a", x.person(0), 0);
    }

    private static void planings() {
        CHECK.says("PLANE: a gap below 20 is 1 more.");
        SwollenHouse x = pair("pine", 0, "");
        for (int gap = 1; gap <= 20; gap++) {
            CHECK.due("planed", x.plane(0), gap);
            CHECK.due("gap", x.door(0, 3), gap);
        }
        CHECK.due("not at 20", x.plane(0), -1);
        CHECK.due("gap", x.door(0, 3), 20);
        CHECK.due("not done", x.count(11), 16);
        for (int forced = 21; forced <= 30; forced++) {
            SwollenHouse y = forcedTo(forced);
            CHECK.due("not at " + forced, y.plane(0), -1);
            CHECK.due("gap", y.door(0, 3), forced);
        }
        SwollenHouse z = pair("pine", 0, "damp 9;");
        z.day();
        CHECK.due("one that sticks", z.plane(0), 1);
        CHECK.due("open", z.count(5), 0);
        z.wedge(0);
        CHECK.due("one with a wedge", z.plane(0), 2);
    }

    /** A door whose gap was forced up to 21 to 30. */
    private static SwollenHouse forcedTo(int gap) {
        SwollenHouse x = pair("pine", 12, "damp 9;");
        for (int far = 1; far <= gap; far++) {
            x.day();
            if (far > 12) {
                CHECK.due("forced", x.force(0), far);
            }
        }
        return x;
    }

    private static void wedges() {
        CHECK.says("WEDGE a DOOR that is OPEN; one with a wedge has none then (also if it STICKS by that).");
        SwollenHouse x = pair("pine", 1, "damp 9;");
        CHECK.due("in", x.wedge(0), 1);
        CHECK.due("out", x.wedge(0), 0);
        x.day();
        CHECK.due("in at its gap", x.wedge(0), 1);
        x.day();
        CHECK.due("it would stick", x.door(0, 4), 2);
        CHECK.due("out, and it sticks by that", x.wedge(0), 0);
        CHECK.due("it sticks", x.door(0, 6), 1);
        CHECK.due("not in", x.wedge(0), -1);
        CHECK.due("none", x.door(0, 5), 0);
        CHECK.due("forced", x.force(0), 2);
        CHECK.due("in again", x.wedge(0), 1);
        SwollenHouse y = CHECK.told(EIGHT);
        for (int door = 0; door < 8; door++) {
            CHECK.due("each its own", y.wedge(door), 1);
            CHECK.due("wedges", y.count(6), (2 << door) - 1);
        }
        for (int door = 0; door < 8; door++) {
            CHECK.due("out", y.wedge(door), 0);
            CHECK.due("wedges", y.count(6), 255 & -(2 << door));
        }
    }

    private static void forcings() {
        CHECK.says("FORCE a DOOR that STICKS by no more than 2: its gap is as far as it is swollen.");
        for (int by = -1; by <= 5; by++) {
            SwollenHouse x = pair("pine", 2, "damp 9;swells " + (2 + by) + ";");
            x.day();
            boolean can = by == 1 || by == 2;
            CHECK.due("by " + by, x.force(0), can ? 2 + by : -1);
            CHECK.due("gap", x.door(0, 3), can ? 2 + by : 2);
            CHECK.due("swollen as before", x.door(0, 4), 2 + by);
            CHECK.due("sticks", x.door(0, 6), by > 2 ? 1 : 0);
            CHECK.due("done", x.count(11), can ? 2 : 1);
        }
        CHECK.due("to 30", forcedTo(30).door(0, 3), 30);
        SwollenHouse y = pair("pine", 0, "damp 9;");
        y.wedge(0);
        y.day();
        CHECK.due("one with a wedge is open", y.force(0), -1);
    }

    private static void undoOne() {
        CHECK.says("UNDO: DAYS and these");
        SwollenHouse x = pair("pine", 0, "damp 9;");
        x.day();
        CHECK.due("a day", x.undo(), true);
        CHECK.due("day", x.count(3) + x.count(7), 0);
        x.walk(0, 0);
        CHECK.due("a walk", x.undo(), true);
        CHECK.due("place", x.person(0), 0);
        x.plane(0);
        CHECK.due("a planing", x.undo(), true);
        CHECK.due("gap", x.door(0, 3), 0);
        x.wedge(0);
        CHECK.due("a wedge", x.undo(), true);
        CHECK.due("none", x.count(6), 0);
        x.wedge(0);
        x.day();
        x.wedge(0);
        CHECK.due("a wedge taken out", x.undo(), true);
        CHECK.due("it is there", x.count(6), 1);
        x.wedge(0);
        x.force(0);
        CHECK.due("a forcing", x.undo(), true);
        CHECK.due("gap", x.door(0, 3), 0);
        CHECK.due("it sticks", x.count(5), 1);
        CHECK.due("three are left", x.count(11), 3);
    }

    private static void undoSixteen() {
        CHECK.says("the last 16");
        for (int deeds = 14; deeds <= 18; deeds++) {
            SwollenHouse x = pair("pine", 0, "");
            for (int i = 0; i < deeds; i++) {
                x.plane(0);
            }
            int held = deeds < 16 ? deeds : 16;
            CHECK.due("of " + deeds, x.count(11), held);
            for (int i = 0; i < held; i++) {
                CHECK.due("undone", x.undo(), true);
            }
            CHECK.due("no more", x.undo(), false);
            CHECK.due("as ahead of these", x.door(0, 3), deeds - held);
        }
        SwollenHouse y = pair("pine", 0, "damp 9 0;");
        for (int i = 0; i < 100; i++) {
            y.day();
            CHECK.due("full", y.count(11), i < 15 ? i + 1 : 16);
        }
        for (int i = 99; i >= 84; i--) {
            CHECK.due("undone", y.undo(), true);
            CHECK.due("day", y.count(3), i);
            CHECK.due("swollen", y.door(0, 4), i % 2);
        }
        CHECK.due("no more", y.undo(), false);
        CHECK.due("day 84", y.count(3), 84);
    }

    private static void undoOneByOne() {
        CHECK.says("one by one.");
        SwollenHouse x = pair("pine", 0, "damp 9;");
        for (int round = 0; round < 5; round++) {
            for (int i = 0; i < 12; i++) {
                x.day();
            }
            CHECK.due("held", x.count(11), 12);
            for (int i = 11; i >= 0; i--) {
                CHECK.due("undone", x.undo(), true);
                CHECK.due("day", x.count(3), i);
                CHECK.due("held", x.count(11), i);
            }
        }
        for (int i = 0; i < 16; i++) {
            x.day();
        }
        x.undo();
        x.undo();
        x.plane(0);
        CHECK.due("a new one behind those undone", x.count(11), 15);
        CHECK.due("is undone first", x.undo(), true);
        CHECK.due("gap", x.door(0, 3), 0);
        CHECK.due("then the day", x.undo(), true);
        CHECK.due("13", x.count(3), 13);
        CHECK.due("an undoing is not done", x.count(11), 13);
    }

    private static void undoNone() {
        CHECK.says("UNDO: true; false: nothing can be.");
        CHECK.due("a new object", new SwollenHouse().undo(), false);
        SwollenHouse x = pair("pine", 0, "damp 9;");
        CHECK.due("a new house", x.undo(), false);
        x.walk(1, 0);
        x.plane(1);
        x.wedge(1);
        x.force(0);
        x.feel(0, 1, true);
        x.say(0, 1);
        x.mark(0, false);
        x.years(1, 9, 0);
        CHECK.due("days", Check.days(x, "day;"), 0);
        CHECK.due("what was refused, asked or told is not done", x.undo(), false);
        CHECK.due("felt", x.count(9), 1);
        CHECK.due("said", x.count(10), 1);
        CHECK.due("lines", x.count(8), 1);
        x.day();
        CHECK.due("a day", x.undo(), true);
        CHECK.due("and no more", x.undo(), false);
        CHECK.due("day 0", x.count(3), 0);
    }

    private static void doorAnswers() {
        CHECK.says("Of a DOOR, what 0: its first ROOM, 1: its second, 2: WOOD (0 oak, 1 pine, 2 elm, 3 lime), 3: gap, "
            + "4: how far it is swollen, 5: 1 a wedge, 6: 1 it STICKS; -2: others.");
        SwollenHouse x = CHECK.told(EIGHT + "damp 9;swells 3;");
        x.wedge(7);
        x.plane(0);
        x.day();
        int[] first = {0, 1, 0, 1, 3, 0, 1};
        int[] last = {1, 3, 3, 0, 3, 1, 0};
        for (int what = 0; what <= 6; what++) {
            CHECK.due("door(0, " + what + ")", x.door(0, what), first[what]);
            CHECK.due("door(7, " + what + ")", x.door(7, what), last[what]);
        }
        for (int other : WILD) {
            CHECK.due("door " + other, x.door(other, 0), -2);
            CHECK.due("what " + other, x.door(0, other), -2);
        }
        CHECK.due("what 7", x.door(0, 7), -2);
        SwollenHouse y = pair("oak", 0, "");
        CHECK.due("one door", y.door(0, 0), 0);
        CHECK.due("no second", y.door(1, 0), -2);
        CHECK.due("no second's gap", y.door(1, 3), -2);
    }

    private static void personAnswers() {
        CHECK.says("Where a PERSON is; NONE: others.");
        SwollenHouse x = CHECK.told(EIGHT);
        int[] rooms = {0, 1, 2, 3, 0};
        for (int i = 0; i < 5; i++) {
            CHECK.due("person " + i, x.person(i), rooms[i]);
        }
        CHECK.due("person 5", x.person(5), -1);
        for (int other : WILD) {
            CHECK.due("person " + other, x.person(other), -1);
        }
        CHECK.due("one person", pair("oak", 0, "").person(1), -1);
    }

    private static void dayAnswers() {
        CHECK.says("DAY: DOORS that STICK then, as bits.");
        CHECK.due("none", CHECK.told(EIGHT).day(), 0);
        CHECK.due("all", CHECK.told(EIGHT + "damp 9;").day(), 255);
        // By damps 4, 5, 6: the limes, the pines too, the elms too.
        CHECK.due("limes", CHECK.told(EIGHT + "damp 4;").day(), 0x88);
        CHECK.due("pines", CHECK.told(EIGHT + "damp 5;").day(), 0xaa);
        CHECK.due("elms", CHECK.told(EIGHT + "damp 6;").day(), 0xee);
        CHECK.due("oaks", CHECK.told(EIGHT + "damp 7;").day(), 0xff);
    }

    private static void deedAnswers() {
        SwollenHouse x = CHECK.told(EIGHT);
        CHECK.says("WALK: where they are then; NONE: others, it can't be.");
        for (int other : WILD) {
            CHECK.due("walk " + other, x.walk(other, 0), -1);
            CHECK.due("walk 0 " + other, x.walk(0, other), -1);
        }
        CHECK.due("walk 5", x.walk(5, 0), -1);
        CHECK.says("PLANE: the gap then; NONE: others, it can't be.");
        for (int other : WILD) {
            CHECK.due("plane " + other, x.plane(other), -1);
        }
        CHECK.says("WEDGE: 1 it has one then, 0 it has none; NONE: others, it can't be.");
        for (int other : WILD) {
            CHECK.due("wedge " + other, x.wedge(other), -1);
        }
        CHECK.says("FORCE: the gap then; NONE: others, it can't be.");
        for (int other : WILD) {
            CHECK.due("force " + other, x.force(other), -1);
        }
        CHECK.due("nothing was done", x.count(11), 0);
        SwollenHouse y = pair("oak", 0, "");
        CHECK.due("no second door", y.walk(0, 1) + y.plane(1) + y.wedge(1) + y.force(1), -4);
        CHECK.due("no second person", y.walk(1, 0), -1);
    }

    private static void lastCall() {
        CHECK.says("An object is used for at most 512 calls after it has been made");
        SwollenHouse x = new SwollenHouse();
        for (int i = 0; i < 511; i++) {
            x.day();
        }
        CHECK.due("the 512th", x.count(3), 511);
        // 72 signs come by three calls, the house by a fourth: 507 days, 0 to 506, and the question make 512.
        String text = "room a;room b;door a b pine gap 0;damp 9;swells date = 506;";
        SwollenHouse y = CHECK.told(text + " ".repeat(72 - text.length()));
        for (int i = 0; i < 507; i++) {
            CHECK.due("day " + i, y.day(), i == 506 ? 1 : 0);
        }
        CHECK.due("the 512th", y.count(7), 1);
    }
}
