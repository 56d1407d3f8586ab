/** Promises 5 to 12, 43 and 44: doors, persons, days, deeds, undoing, marks and counts. */
public final class DeedsTest {
    private static final Check CHECK = new Check("DeedsTest");
    private static final String HOUSE = "room a;room b;room c;door a b oak gap 1;door b c pine gap 0;"
        + "door c a lime gap 12;person p in a;person q in c;damp 9 0 5;";
    private static final String PAIR = "room a;room b;person p in a;door a b pine gap ";

    public static void main(String[] args) {
        doorsAndPersons();
        days();
        woods();
        laws();
        lawFacts();
        walks();
        planings();
        wedges();
        forcings();
        undoing();
        undoingSixteen();
        toldDaysAreNotUndone();
        marksHoldNoDays();
        sixteenDeedsStayBehindDays();
        marks();
        counts();
        CHECK.end();
    }

    private static void doorsAndPersons() {
        SwollenHouse x = CHECK.told(HOUSE);
        int[][] due = {{0, 1, 0, 1, 0, 0, 0}, {1, 2, 1, 0, 0, 0, 0}, {2, 0, 3, 12, 0, 0, 0}};
        for (int door = 0; door < 3; door++) {
            for (int what = 0; what < 7; what++) {
                CHECK.due("door(" + door + ", " + what + ")", x.door(door, what), due[door][what]);
            }
        }
        CHECK.due("elm", CHECK.told("room a;room b;door a b elm gap 0;").door(0, 2), 2);
        for (int other : new int[] {-1, 3, 8, Integer.MIN_VALUE, Integer.MAX_VALUE}) {
            CHECK.due("door " + other, x.door(other, 0), -2);
        }
        for (int other : new int[] {-1, 7, Integer.MIN_VALUE, Integer.MAX_VALUE}) {
            CHECK.due("door what " + other, x.door(0, other), -2);
        }
        CHECK.due("person", x.person(0), 0);
        CHECK.due("person", x.person(1), 2);
        for (int other : new int[] {-1, 2, 5, Integer.MIN_VALUE, Integer.MAX_VALUE}) {
            CHECK.due("person " + other, x.person(other), -1);
        }
    }

    private static void days() {
        SwollenHouse x = CHECK.told(HOUSE);
        CHECK.due("damp", x.count(4), 9);
        CHECK.due("pine sticks", x.day(), 2);
        CHECK.due("oak", x.door(0, 4), 1);
        CHECK.due("pine", x.door(1, 4), 1);
        CHECK.due("lime", x.door(2, 4), 1);
        CHECK.due("pine sticks", x.door(1, 6), 1);
        CHECK.due("oak does not at its gap", x.door(0, 6), 0);
        CHECK.due("damp", x.count(4), 0);
        CHECK.due("all shrink, not below 0", x.day(), 0);
        CHECK.due("together", x.count(7), 0);
        CHECK.due("damp", x.count(4), 5);
        CHECK.due("pine and lime swell", x.day(), 2);
        CHECK.due("together", x.count(7), 2);
        CHECK.due("day", x.count(3), 3);
        CHECK.due("damp comes again", x.count(4), 9);
        SwollenHouse dry = CHECK.told("room a;room b;door a b lime gap 0;");
        CHECK.due("no damp told is 0", dry.day(), 0);
        CHECK.due("not swollen", dry.door(0, 4), 0);
        CHECK.due("an empty house has days", new SwollenHouse().day(), 0);
    }

    private static void woods() {
        for (int damp = 0; damp <= 9; damp++) {
            SwollenHouse x = CHECK.told("room a;room b;room c;room d;door a b oak gap 9;door a c pine gap 9;"
                + "door a d elm gap 9;door b c lime gap 9;damp 9 9 9 9 " + damp + ";");
            for (int i = 0; i < 5; i++) {
                x.day();
            }
            CHECK.due("oak by " + damp, x.door(0, 4), damp > 6 ? 5 : damp < 2 ? 3 : 4);
            CHECK.due("pine by " + damp, x.door(1, 4), damp > 4 ? 5 : damp < 4 ? 2 : 4);
            CHECK.due("elm by " + damp, x.door(2, 4), damp > 5 ? 5 : damp < 1 ? 1 : 4);
            CHECK.due("lime by " + damp, x.door(3, 4), damp > 3 ? 5 : damp < 3 ? 3 : 4);
        }
    }

    private static void growth(String law, int due) {
        SwollenHouse x = CHECK.told(PAIR + "3;damp 9;swells " + law + ";");
        x.day();
        CHECK.due("swells " + law, x.door(0, 4), due);
    }

    private static void laws() {
        growth("7", 7);
        growth("9", 9);
        growth("10", 9);
        growth("0 - 5", 0);
        growth("1 + 2 * 3", 7);
        growth("2 * 3 + 1", 7);
        growth("(1 + 2) * 3", 9);
        growth("9 - 3 - 2", 4);
        growth("9 - 3 + 2", 8);
        growth("1 or 0 and 0", 0);
        growth("0 and 0 or 1", 1);
        growth("2 and 3", 1);
        growth("0 or 3", 1);
        growth("0 or 0", 0);
        growth("3 and 0", 0);
        growth("not 0 + 5", 6);
        growth("not 7", 0);
        growth("not not 7", 1);
        growth("5 < 6", 1);
        growth("6 < 6", 0);
        growth("6 = 6", 1);
        growth("5 = 6", 0);
        growth("3 + 4 < 2 * 4", 1);
        growth("1 < 2 and 3", 1);
        growth("1 and 5 < 6", 1);
        growth("(1 < 2) * 5 + (2 < 1) * 3", 5);
        growth("0 - 1 < 0", 1);
        growth("9999 * 9999 * 22 < 0", 1);
        growth("9999 * 9999 * 22", 0);
        growth("wet - 1", 8);
        growth("space", 3);
        growth("swell", 0);
        growth("date", 0);
        growth("((((2) * 2) + 1))", 5);
    }

    private static void grown(String law, int... due) {
        SwollenHouse x = CHECK.told(PAIR + "3;damp 9 8;swells " + law + ";");
        for (int far : due) {
            x.day();
            CHECK.due("swells " + law, x.door(0, 4), far);
        }
    }

    private static void lawFacts() {
        grown("date", 0, 1, 3, 6);
        grown("swell + 1", 1, 3, 7, 15, 24, 30, 30);
        grown("9", 9, 18, 27, 30, 30);
        grown("wet - 7", 2, 3, 5, 6);
        grown("space - swell", 3, 3);
        SwollenHouse x = CHECK.told(PAIR + "3;damp 9;swells space;");
        x.plane(0);
        x.day();
        CHECK.due("the gap as it is now", x.door(0, 4), 4);
    }

    private static void walks() {
        SwollenHouse x = CHECK.told(HOUSE);
        CHECK.due("through", x.walk(0, 0), 1);
        CHECK.due("on", x.walk(0, 1), 2);
        CHECK.due("and round", x.walk(0, 2), 0);
        CHECK.due("the other way", x.walk(0, 2), 2);
        CHECK.due("is there", x.person(0), 2);
        CHECK.due("no door of that room", x.walk(0, 0), -1);
        CHECK.due("stays", x.person(0), 2);
        for (int other : new int[] {-1, 2, 5, Integer.MIN_VALUE, Integer.MAX_VALUE}) {
            CHECK.due("person " + other, x.walk(other, 0), -1);
        }
        for (int other : new int[] {-1, 3, 8, Integer.MIN_VALUE, Integer.MAX_VALUE}) {
            CHECK.due("door " + other, x.walk(0, other), -1);
        }
        CHECK.due("done", x.count(11), 4);
        x.day();
        CHECK.due("it sticks", x.walk(0, 1), -1);
        x.undo();
        x.wedge(1);
        x.day();
        CHECK.due("by its wedge", x.walk(0, 1), 1);
    }

    private static void planings() {
        SwollenHouse x = CHECK.told(HOUSE);
        for (int gap = 13; gap <= 20; gap++) {
            CHECK.due("planed", x.plane(2), gap);
        }
        CHECK.due("20 at most", x.plane(2), -1);
        CHECK.due("gap", x.door(2, 3), 20);
        CHECK.due("done", x.count(11), 8);
        for (int other : new int[] {-1, 3, 8, Integer.MIN_VALUE, Integer.MAX_VALUE}) {
            CHECK.due("door " + other, x.plane(other), -1);
        }
        x.day();
        CHECK.due("one that sticks, too", x.plane(1), 1);
        CHECK.due("open", x.door(1, 6), 0);
    }

    private static void wedges() {
        SwollenHouse x = CHECK.told(HOUSE);
        CHECK.due("a wedge", x.wedge(1), 1);
        CHECK.due("it has one", x.door(1, 5), 1);
        CHECK.due("by it none sticks", x.day(), 0);
        CHECK.due("it swells", x.door(1, 4), 1);
        CHECK.due("open", x.door(1, 6), 0);
        CHECK.due("with wedges", x.count(6), 2);
        CHECK.due("taken out", x.wedge(1), 0);
        CHECK.due("it has none", x.door(1, 5), 0);
        CHECK.due("it sticks by that", x.door(1, 6), 1);
        CHECK.due("none into one that sticks", x.wedge(1), -1);
        for (int other : new int[] {-1, 3, 8, 32, Integer.MIN_VALUE, Integer.MAX_VALUE}) {
            CHECK.due("door " + other, x.wedge(other), -1);
        }
        CHECK.due("done", x.count(11), 3);
    }

    private static void forced(int by, int due) {
        SwollenHouse x = CHECK.told(PAIR + "1;damp 9;swells " + (1 + by) + ";");
        x.day();
        CHECK.due("forced by " + by, x.force(0), due);
        CHECK.due("gap by " + by, x.door(0, 3), due == -1 ? 1 : due);
        CHECK.due("sticks by " + by, x.door(0, 6), due == -1 && by > 0 ? 1 : 0);
    }

    private static void forcings() {
        forced(0, -1);
        forced(1, 2);
        forced(2, 3);
        forced(3, -1);
        SwollenHouse x = CHECK.told(PAIR + "0;damp 9;swells 2;");
        x.wedge(0);
        x.day();
        CHECK.due("one with a wedge is open", x.force(0), -1);
        for (int other : new int[] {-1, 1, 8, Integer.MIN_VALUE, Integer.MAX_VALUE}) {
            CHECK.due("door " + other, x.force(other), -1);
        }
        SwollenHouse y = CHECK.told(PAIR + "12;damp 9;swells 2;");
        for (int i = 0; i < 11; i++) {
            y.plane(0);
            y.day();
        }
        CHECK.due("beyond 20", y.force(0), 22);
        CHECK.due("no planing there", y.plane(0), -1);
    }

    private static void undoing() {
        SwollenHouse x = CHECK.told(HOUSE);
        CHECK.due("nothing", x.undo(), false);
        x.walk(0, 0);
        x.plane(0);
        x.wedge(0);
        x.day();
        x.force(1);
        CHECK.due("days", Check.days(x, "day; day;"), 0);
        x.feel(0, 1, true);
        x.say(0, 1);
        x.walk(0, 2);
        CHECK.due("what can't be is not done, nor what is told", x.count(11), 5);
        CHECK.due("forced still", x.door(1, 3), 1);
        CHECK.due("undo force", x.undo(), true);
        CHECK.due("lines stay", x.count(8), 2);
        CHECK.due("gap", x.door(1, 3), 0);
        CHECK.due("day still", x.count(3), 1);
        CHECK.due("undo day", x.undo(), true);
        CHECK.due("day", x.count(3), 0);
        CHECK.due("together", x.count(7), 0);
        CHECK.due("wedge still", x.count(6), 1);
        CHECK.due("undo wedge", x.undo(), true);
        CHECK.due("wedges", x.count(6), 0);
        CHECK.due("undo plane", x.undo(), true);
        CHECK.due("gap", x.door(0, 3), 1);
        CHECK.due("walked still", x.person(0), 1);
        CHECK.due("undo walk", x.undo(), true);
        CHECK.due("place", x.person(0), 0);
        CHECK.due("no more", x.undo(), false);
        CHECK.due("felt stays", x.count(9), 1);
        CHECK.due("said stays", x.count(10), 1);
        CHECK.due("lines stay", x.count(8), 2);
    }

    private static void toldDaysAreNotUndone() {
        SwollenHouse x = new SwollenHouse();
        CHECK.due("empty days", x.days(), 0);
        CHECK.due("nothing was done", x.undo(), false);
        SwollenHouse y = CHECK.told(HOUSE);
        CHECK.due("days", Check.days(y, "plane 0;day;wedge 7;"), 0);
        CHECK.due("none can be undone", y.count(11), 0);
        CHECK.due("nothing to undo", y.undo(), false);
        CHECK.due("lines", y.count(8), 3);
        y.walk(0, 0);
        CHECK.due("other days", Check.days(y, "wedge 7;"), 0);
        CHECK.due("the walk", y.count(11), 1);
        CHECK.due("undo the walk", y.undo(), true);
        CHECK.due("place", y.person(0), 0);
        CHECK.due("the other days are judged", y.judged(0), 0);
        CHECK.due("lines", y.count(8), 1);
        CHECK.due("days with a fault", Check.days(y, "day;toads"), 1 + 16 * 4);
        CHECK.due("nothing to undo", y.undo(), false);
        CHECK.due("lines", y.count(8), 1);
    }

    private static void marksHoldNoDays() {
        SwollenHouse x = CHECK.told(HOUSE);
        CHECK.due("laid without days", x.mark(0, false), true);
        CHECK.due("days", Check.days(x, "day;wedge 7;"), 0);
        CHECK.due("back", x.mark(0, true), true);
        CHECK.due("lines stay", x.count(8), 2);
        CHECK.due("judged", x.judged(0), 1);
    }

    private static void sixteenDeedsStayBehindDays() {
        SwollenHouse x = CHECK.told(PAIR + "0;");
        for (int i = 0; i < 16; i++) {
            x.plane(0);
            CHECK.due("days", Check.days(x, "day;"), 0);
        }
        CHECK.due("deeds", x.count(11), 16);
        for (int gap = 15; gap >= 0; gap--) {
            CHECK.due("undone", x.undo(), true);
            CHECK.due("gap", x.door(0, 3), gap);
        }
        CHECK.due("no more", x.undo(), false);
    }

    private static void undoingSixteen() {
        SwollenHouse x = CHECK.told(PAIR + "0;");
        for (int i = 0; i < 19; i++) {
            x.plane(0);
        }
        CHECK.due("16 at most", x.count(11), 16);
        for (int gap = 18; gap >= 3; gap--) {
            CHECK.due("undone", x.undo(), true);
            CHECK.due("gap", x.door(0, 3), gap);
        }
        CHECK.due("no more", x.undo(), false);
        CHECK.due("planed anew", x.plane(0), 4);
        CHECK.due("one", x.count(11), 1);
    }

    private static void marks() {
        SwollenHouse x = CHECK.told(HOUSE);
        for (int other : new int[] {-1, 4, Integer.MIN_VALUE, Integer.MAX_VALUE}) {
            CHECK.due("mark " + other, x.mark(other, false), false);
            CHECK.due("back to " + other, x.mark(other, true), false);
        }
        CHECK.due("nothing on it", x.mark(3, true), false);
        CHECK.due("days", Check.days(x, "day;"), 0);
        x.walk(0, 0);
        x.feel(0, 2, true);
        CHECK.due("laid", x.mark(3, false), true);
        CHECK.due("laying is not done", x.count(11), 1);
        x.day();
        x.plane(0);
        x.wedge(2);
        x.walk(0, 0);
        x.feel(1, 3, false);
        x.say(2, 7);
        CHECK.due("days", Check.days(x, "day;day;"), 0);
        CHECK.due("another", x.mark(0, false), true);
        Check.feed(x, "room");
        for (int i = 0; i < 2; i++) {
            CHECK.due("back", x.mark(3, true), true);
            int[] due = {3, 3, 2, 0, 9, 0, 0, 0, 2, 1, 0, 0, 4};
            for (int what = 0; what < due.length; what++) {
                CHECK.due("count(" + what + ")", x.count(what), due[what]);
            }
            CHECK.due("gap", x.door(0, 3), 1);
            CHECK.due("place", x.person(0), 1);
            CHECK.due("felt", x.wets(), 0x380);
            CHECK.due("nothing to undo", x.undo(), false);
            x.day();
        }
        CHECK.due("to the other", x.mark(0, true), true);
        CHECK.due("gap", x.door(0, 3), 2);
        CHECK.due("wedges", x.count(6), 4);
        CHECK.due("lines", x.count(8), 2);
        CHECK.due("felt", x.count(9), 2);
        CHECK.due("said", x.count(10), 1);
        CHECK.due("laid anew", x.mark(3, false), true);
        x.plane(0);
        CHECK.due("back", x.mark(3, true), true);
        CHECK.due("gap", x.door(0, 3), 2);
        CHECK.due("laid in an empty house", new SwollenHouse().mark(0, false), true);
    }

    private static void counts() {
        SwollenHouse x = CHECK.told(HOUSE);
        x.wedge(0);
        x.wedge(2);
        x.day();
        x.say(0, 0);
        x.say(0, 0);
        x.feel(0, 1, true);
        CHECK.due("days", Check.days(x, "plane 0;plane 1;day;"), 0);
        Check.feed(x, "toads");
        int[] due = {3, 3, 2, 1, 0, 2, 5, 3, 3, 1, 2, 3, 5};
        for (int what = 0; what < due.length; what++) {
            CHECK.due("count(" + what + ")", x.count(what), due[what]);
        }
        for (int other : new int[] {-1, 13, Integer.MIN_VALUE, Integer.MAX_VALUE}) {
            CHECK.due("count " + other, x.count(other), -1);
        }
    }
}
