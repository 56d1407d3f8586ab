/** Promises 14 to 16, 25 and 32 to 39: who is shut in, with whom, which doors matter. */
public final class TodayTest {
    private static final Check CHECK = new Check("TodayTest");
    private static final int[] NO_ROOMS = {-1, 7, 31, Integer.MIN_VALUE, Integer.MAX_VALUE};

    // A ring a b c d with a tail d e; f has one door to g, and a stuck one leads from e to f behind a day.
    private static final String RING = "room a;room b;room c;room d;room e;room f;room g;"
        + "door a b oak gap 9;door b c oak gap 9;door c d oak gap 9;door d a oak gap 9;"
        + "door d e oak gap 9;door e f pine gap 0;door f g elm gap 3;"
        + "person p in a;person q in c;person r in e;person s in f;person t in g;damp 9;";

    public static void main(String[] args) {
        shut();
        ranges();
        company();
        bride();
        deep();
        cuts();
        spared();
        rattles();
        worst();
        opened();
        CHECK.end();
    }

    private static SwollenHouse ring() {
        SwollenHouse x = CHECK.told(RING);
        CHECK.due("the pine sticks", x.day(), 32);
        return x;
    }

    private static void shut() {
        SwollenHouse x = CHECK.told("room a;room b;room c;room d;door a b pine gap 0;door b c pine gap 1;"
            + "person p in a;person q in b;person r in c;person s in d;damp 9;");
        CHECK.due("none", x.shut(), 0);
        x.day();
        CHECK.due("who has one door", x.shut(), 1);
        x.day();
        CHECK.due("not who has none", x.shut(), 7);
        x.plane(1);
        CHECK.due("one way out", x.shut(), 1);
        x.undo();
        x.undo();
        x.wedge(1);
        x.day();
        CHECK.due("a wedge is a way out", x.shut(), 1);
    }

    private static void ranges() {
        SwollenHouse x = CHECK.told(RING);
        CHECK.due("all", x.range(3), 127);
        CHECK.due("parts", x.parts(), 1);
        x.day();
        CHECK.due("this side", x.range(0), 31);
        CHECK.due("this side", x.range(4), 31);
        CHECK.due("that side", x.range(5), 96);
        CHECK.due("that side", x.range(6), 96);
        CHECK.due("parts", x.parts(), 2);
        x.day();
        x.day();
        x.day();
        CHECK.due("the elm sticks too", x.range(6), 64);
        CHECK.due("parts", x.parts(), 3);
        for (int other : NO_ROOMS) {
            CHECK.due("range " + other, x.range(other), -1);
        }
        CHECK.due("no room yet", CHECK.told("room a;").range(1), -1);
        CHECK.due("rooms without doors", CHECK.told("room a;room b;room c;").parts(), 3);
        CHECK.due("a range of one", CHECK.told("room a;room b;").range(1), 2);
    }

    private static void company() {
        SwollenHouse x = ring();
        CHECK.due("p", x.company(0), 6);
        CHECK.due("q", x.company(1), 5);
        CHECK.due("r", x.company(2), 3);
        CHECK.due("s", x.company(3), 16);
        CHECK.due("t", x.company(4), 8);
        CHECK.due("none alone", x.alone(), 0);
        x.day();
        x.day();
        x.day();
        CHECK.due("s", x.company(3), 0);
        CHECK.due("s and t alone", x.alone(), 24);
        for (int other : new int[] {-1, 5, Integer.MIN_VALUE, Integer.MAX_VALUE}) {
            CHECK.due("company " + other, x.company(other), -1);
        }
        CHECK.due("in one room", CHECK.told("room a;person p in a;person q in a;").company(0), 2);
        CHECK.due("all alone", CHECK.told("room a;room b;person p in a;person q in b;").alone(), 3);
    }

    private static void bride() {
        SwollenHouse x = CHECK.told(RING);
        CHECK.due("all are equal: the first", x.bride(), 0);
        x.day();
        CHECK.due("the first in two rooms", x.bride(), 3);
        x.walk(3, 6);
        x.walk(4, 6);
        CHECK.due("still", x.bride(), 3);
        CHECK.due("nobody", CHECK.told("room a;").bride(), -1);
        CHECK.due("by rooms, not by bits", CHECK.told(
            "room a;room b;room c;door a b oak gap 0;person p in a;person q in c;").bride(), 1);
    }

    private static void deep() {
        SwollenHouse x = CHECK.told(RING);
        int[] due = {4, 5, 4, 3, 3, 4, 5};
        for (int room = 0; room < 7; room++) {
            CHECK.due("deep " + room, x.deep(room), due[room]);
        }
        x.day();
        int[] then = {2, 3, 2, 2, 3, 1, 1};
        for (int room = 0; room < 7; room++) {
            CHECK.due("deep " + room, x.deep(room), then[room]);
        }
        for (int other : NO_ROOMS) {
            CHECK.due("deep " + other, x.deep(other), -1);
        }
        CHECK.due("a row of seven", CHECK.told("room a;room b;room c;room d;room e;room f;room g;door a b oak gap 0;"
            + "door b c oak gap 0;door c d oak gap 0;door d e oak gap 0;door e f oak gap 0;door f g oak gap 0;")
            .deep(0), 6);
    }

    private static void cuts() {
        SwollenHouse x = ring();
        CHECK.due("across the ring, a door of each way", x.cut(0, 2), 5);
        CHECK.due("the other way round", x.cut(2, 0), 5);
        CHECK.due("neighbours", x.cut(0, 1), 3);
        CHECK.due("b from d", x.cut(1, 3), 3);
        CHECK.due("c from d", x.cut(2, 3), 5);
        CHECK.due("the tail", x.cut(0, 4), 16);
        CHECK.due("apart already", x.cut(0, 6), 0);
        CHECK.due("f from g", x.cut(5, 6), 64);
        CHECK.due("the same", x.cut(3, 3), -1);
        for (int other : NO_ROOMS) {
            CHECK.due("cut " + other, x.cut(other, 0), -1);
            CHECK.due("cut 0 " + other, x.cut(0, other), -1);
        }
        SwollenHouse y = CHECK.told("room a;room b;room c;room d;room e;door a b oak gap 0;door a c oak gap 0;"
            + "door a d oak gap 0;door b e oak gap 0;door c e oak gap 0;door d e oak gap 0;");
        CHECK.due("three ways", y.cut(0, 4), 7);
        CHECK.due("from the end", y.cut(4, 0), 7);
        CHECK.due("b has two", y.cut(0, 1), 9);
    }

    private static void spared() {
        SwollenHouse x = ring();
        CHECK.due("the ring's, not the tail's", x.spared(), 15);
        SwollenHouse y = CHECK.told("room a;room b;room c;door a b pine gap 0;door b c oak gap 2;door c a oak gap 2;damp 9;");
        CHECK.due("each of three", y.spared(), 7);
        y.day();
        CHECK.due("one sticks: none", y.spared(), 0);
        y.undo();
        y.wedge(0);
        y.day();
        CHECK.due("by a wedge", y.spared(), 7);
    }

    private static void rattles() {
        SwollenHouse x = CHECK.told("room a;room b;room c;door a b pine gap 5;door b c pine gap 6;door c a oak gap 12;damp 9;");
        CHECK.due("6 more", x.rattles(), 6);
        x.wedge(2);
        CHECK.due("a wedge is no matter", x.rattles(), 6);
        x.day();
        CHECK.due("5 more does not", x.rattles(), 4);
        x.plane(1);
        CHECK.due("planed", x.rattles(), 6);
        x.plane(0);
        x.plane(0);
        CHECK.due("all", x.rattles(), 7);
    }

    private static void worst() {
        SwollenHouse x = CHECK.told("room a;room b;room c;room d;door a b pine gap 2;door b c pine gap 1;"
            + "door c d pine gap 1;door d a pine gap 0;damp 9;swells 2;");
        CHECK.due("none", x.worst(), -1);
        x.wedge(3);
        x.day();
        CHECK.due("the first of equal ones, a wedge none", x.worst(), 1);
        x.force(1);
        CHECK.due("the other", x.worst(), 2);
        x.wedge(3);
        CHECK.due("the farthest", x.worst(), 3);
    }

    private static void opened() {
        SwollenHouse x = CHECK.told("room a;room b;room c;room d;door a b pine gap 0;door b c pine gap 0;"
            + "door c d pine gap 0;person p in a;person q in b;person r in c;person s in c;damp 9;");
        CHECK.due("none sticks", x.opened(), -1);
        x.day();
        CHECK.due("the most pairs", x.opened(), 1);
        x.force(1);
        CHECK.due("then p", x.opened(), 0);
        x.force(0);
        CHECK.due("by none", x.opened(), -1);
        CHECK.due("one sticks though", x.count(5), 4);
        SwollenHouse y = CHECK.told("room a;room b;room c;door a b pine gap 0;door b c pine gap 0;"
            + "person p in a;person q in b;person r in c;damp 9;");
        y.day();
        CHECK.due("of equal ones the first", y.opened(), 0);
    }
}
