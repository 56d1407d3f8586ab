/** Promises 17 to 24 and 26: when doors stick and give, who gets where by walking, planing for a day. */
public final class AheadTest {
    private static final Check CHECK = new Check("AheadTest");
    private static final int[] NO_DOORS = {-1, 3, 8, Integer.MIN_VALUE, Integer.MAX_VALUE};

    // Three wet days and three dry ones: the pine sticks on days 1 to 4, the lime on 2 to 5, the oak never.
    private static final String WAVES = "room a;room b;room c;door a b pine gap 0;door b c lime gap 1;door c a oak gap 3;"
        + "person p in a;person q in b;person r in c;damp 9 9 9 0 0 0;";

    public static void main(String[] args) {
        later();
        closesAndGives();
        calmAndHard();
        arrives();
        arrivesByForty();
        from();
        both();
        planed();
        planedRows();
        planedAsItCanBe();
        CHECK.end();
    }

    private static void later() {
        SwollenHouse x = CHECK.told(WAVES);
        int[] pine = {0, 1, 2, 3, 1, 0, 0, 1};
        int[] lime = {0, 1, 2, 3, 2, 1, 0, 1};
        for (int i = 0; i < pine.length; i++) {
            CHECK.due("pine behind " + i, x.later(0, i), pine[i]);
            CHECK.due("lime behind " + i, x.later(1, i), lime[i]);
        }
        CHECK.due("60", x.later(0, 60), 0);
        CHECK.due("57", x.later(0, 57), 3);
        x.day();
        x.day();
        CHECK.due("from now on", x.later(0, 2), 1);
        CHECK.due("now", x.later(0, 0), 2);
        CHECK.due("nothing is done", x.count(3), 2);
        for (int other : NO_DOORS) {
            CHECK.due("later " + other, x.later(other, 0), -1);
        }
        for (int other : new int[] {-1, 61, Integer.MIN_VALUE, Integer.MAX_VALUE}) {
            CHECK.due("later 0 " + other, x.later(0, other), -1);
        }
        SwollenHouse y = CHECK.told("room a;room b;door a b pine gap 0;damp 9;swells date;");
        y.day();
        CHECK.due("the date goes on", y.later(0, 3), 6);
    }

    private static void closesAndGives() {
        SwollenHouse x = CHECK.told(WAVES);
        CHECK.due("pine closes", x.closes(0), 1);
        CHECK.due("lime closes", x.closes(1), 2);
        CHECK.due("oak never", x.closes(2), -1);
        CHECK.due("all are open", x.gives(0), 0);
        x.day();
        x.day();
        CHECK.due("pine is stuck", x.closes(0), 0);
        CHECK.due("pine gives", x.gives(0), 3);
        CHECK.due("lime gives", x.gives(1), 3);
        x.undo();
        x.undo();
        x.wedge(0);
        CHECK.due("a wedge: never", x.closes(0), -1);
        for (int other : NO_DOORS) {
            CHECK.due("closes " + other, x.closes(other), -1);
            CHECK.due("gives " + other, x.gives(other), -1);
        }
        SwollenHouse y = CHECK.told("room a;room b;door a b pine gap 1;damp 9;swells date = 58 or date = 59;");
        CHECK.due("by 60", y.closes(0), 60);
        SwollenHouse z = CHECK.told("room a;room b;door a b pine gap 1;damp 9;swells date = 58 or date = 60;");
        CHECK.due("not by 60", z.closes(0), -1);
        SwollenHouse w = CHECK.told("room a;room b;door a b pine gap 0;damp 9;");
        w.day();
        CHECK.due("never gives", w.gives(0), -1);
    }

    private static void calmAndHard() {
        SwollenHouse x = CHECK.told(WAVES);
        CHECK.due("calm", x.calm(), 0);
        CHECK.due("two stick behind two", x.hard(), 2);
        x.day();
        CHECK.due("calm behind four", x.calm(), 4);
        CHECK.due("hard behind one", x.hard(), 1);
        x.day();
        x.day();
        CHECK.due("hard now", x.hard(), 0);
        CHECK.due("calm behind two", x.calm(), 2);
        SwollenHouse y = CHECK.told("room a;room b;door a b pine gap 0;damp 9;");
        CHECK.due("open now", y.calm(), 0);
        y.day();
        CHECK.due("never calm", y.calm(), -1);
        y.wedge(0);
        CHECK.due("hard from now on", y.hard(), 0);
        SwollenHouse z = CHECK.told("room a;room b;door a b pine gap 1;damp 9;swells date = 58 or date = 59;");
        CHECK.due("hard behind 60", z.hard(), 60);
    }

    private static void arrives() {
        SwollenHouse x = CHECK.told(WAVES);
        CHECK.due("there", x.arrives(0, 0), 0);
        CHECK.due("a walk now", x.arrives(0, 1), 1);
        CHECK.due("by the oak", x.arrives(0, 2), 1);
        x.day();
        CHECK.due("the pine is stuck, the lime not yet when there", x.arrives(0, 1), 5);
        CHECK.due("by the lime", x.arrives(2, 1), 1);
        CHECK.due("nothing is done", x.person(0), 0);
        for (int other : new int[] {-1, 3, 5, Integer.MIN_VALUE, Integer.MAX_VALUE}) {
            CHECK.due("arrives " + other, x.arrives(other, 0), -1);
            CHECK.due("arrives 0 " + other, x.arrives(0, other), -1);
        }
    }

    private static void arrivesByForty() {
        String stuck = "room a;room b;person p in a;person q in b;door a b oak gap 0;damp 9";
        SwollenHouse x = CHECK.told(stuck + " 0;swells date = 0;");
        CHECK.due("before it sticks", x.arrives(0, 1), 1);
        x.day();
        CHECK.due("behind a dry day", x.arrives(0, 1), 2);
        CHECK.due("both", x.both(0, 1), 2);
        // Swollen 9 on day 1, shrunk by 1 in every second day, open behind 17 of them, so ahead of the 18th.
        SwollenHouse y = CHECK.told(stuck + " 0;swells 9 * (date = 0);");
        y.day();
        CHECK.due("in eighteen", y.arrives(0, 1), 18);
        CHECK.due("from in seventeen", y.from(1, 17), 2);
        CHECK.due("from in eighteen", y.from(1, 18), 3);
        // Swollen 20: open behind 39 days, so ahead of the 40th.
        SwollenHouse z = CHECK.told(stuck + " 0 9 0;swells (date = 0) * 9 + (date = 2) * 9 + (date = 4) * 5;");
        for (int i = 0; i < 5; i++) {
            z.day();
        }
        CHECK.due("swollen", z.door(0, 4), 21);
        z.day();
        z.day();
        CHECK.due("swollen", z.door(0, 4), 20);
        CHECK.due("by forty", z.arrives(0, 1), 40);
        CHECK.due("both by forty", z.both(0, 1), 40);
        CHECK.due("from by forty", z.from(1, 40), 3);
        CHECK.due("from by less", z.from(1, 39), 2);
        z.undo();
        CHECK.due("in forty one: not by forty", z.arrives(0, 1), -1);
        CHECK.due("both not", z.both(0, 1), -1);
    }

    private static void from() {
        SwollenHouse x = CHECK.told(WAVES);
        CHECK.due("itself", x.from(1, 0), 2);
        CHECK.due("all in one", x.from(1, 1), 7);
        x.day();
        CHECK.due("c by the lime", x.from(1, 1), 6);
        CHECK.due("a not in two: the lime is stuck then", x.from(1, 2), 6);
        CHECK.due("a in five", x.from(1, 5), 7);
        CHECK.due("a not in four", x.from(1, 4), 6);
        CHECK.due("from b to a in two, by c", x.from(0, 2), 7);
        CHECK.due("forty", x.from(0, 40), 7);
        for (int other : new int[] {-1, 3, 7, Integer.MIN_VALUE, Integer.MAX_VALUE}) {
            CHECK.due("from " + other, x.from(other, 0), -1);
        }
        for (int other : new int[] {-1, 41, Integer.MIN_VALUE, Integer.MAX_VALUE}) {
            CHECK.due("from 0 " + other, x.from(0, other), -1);
        }
    }

    private static void both() {
        SwollenHouse x = CHECK.told("room a;room b;room c;room d;room e;door a b oak gap 9;door b c oak gap 9;"
            + "door c d oak gap 9;person p in a;person q in d;person r in a;person s in e;person t in c;damp 9;");
        CHECK.due("in one room", x.both(0, 2), 0);
        CHECK.due("each one or two doors", x.both(0, 1), 2);
        CHECK.due("two doors between", x.both(0, 4), 1);
        CHECK.due("the other way", x.both(4, 0), 1);
        CHECK.due("never", x.both(0, 3), -1);
        CHECK.due("the same", x.both(1, 1), -1);
        for (int other : new int[] {-1, 5, Integer.MIN_VALUE, Integer.MAX_VALUE}) {
            CHECK.due("both " + other, x.both(other, 0), -1);
            CHECK.due("both 0 " + other, x.both(0, other), -1);
        }
    }

    private static void row(SwollenHouse x, int days, int... row) {
        CHECK.due("how many for " + days, x.planed(days, -1), row.length);
        for (int i = 0; i < row.length; i++) {
            CHECK.due("planed " + i + " for " + days, x.planed(days, i), row[i]);
        }
        for (int other : new int[] {row.length, -2, Integer.MIN_VALUE, Integer.MAX_VALUE}) {
            CHECK.due("planed what " + other, x.planed(days, other), -2);
        }
    }

    private static void planed() {
        SwollenHouse x = CHECK.told("room a;room b;room c;door a b pine gap 0;door b c pine gap 1;"
            + "person p in a;person q in b;person r in c;damp 9;");
        row(x, 0);
        row(x, 1, 0);
        row(x, 2, 0, 0, 1);
        CHECK.due("not by three", x.planed(3, -1), -2);
        CHECK.due("nor one of them", x.planed(3, 0), -2);
        x.wedge(1);
        row(x, 3, 0, 0, 0);
        CHECK.due("nothing is done", x.door(0, 3), 0);
        for (int other : new int[] {-1, 31, Integer.MIN_VALUE, Integer.MAX_VALUE}) {
            CHECK.due("planed days " + other, x.planed(other, -1), -2);
        }
        CHECK.due("30", x.planed(30, -1), -2);
        SwollenHouse y = CHECK.told("room a;room b;door a b pine gap 0;person p in a;damp 9;");
        row(y, 30);
        CHECK.due("31", y.planed(31, -1), -2);
        SwollenHouse z = CHECK.told("room a;room b;person p in a;person q in b;");
        CHECK.due("no doors", z.planed(0, -1), -2);
    }

    private static void planedRows() {
        SwollenHouse x = CHECK.told("room a;room b;room c;door a b pine gap 0;door b c pine gap 0;door a c pine gap 0;"
            + "person p in a;person q in c;person r in a;damp 9;");
        row(x, 1, 2);
        row(x, 2, 2, 2);
        row(x, 3, 2, 2, 2);
        SwollenHouse y = CHECK.told("room a;room b;room c;door a b pine gap 0;door b c pine gap 0;door a c pine gap 0;"
            + "person p in a;person q in b;person r in c;damp 9;");
        row(y, 1, 0, 1);
        CHECK.due("four are too many", y.planed(2, -1), -2);
        SwollenHouse z = CHECK.told("room a;room b;door a b pine gap 0;person p in a;person q in b;damp 9;"
            + "swells 3 - space;");
        row(z, 1, 0, 0);
        row(z, 2, 0, 0);
        row(z, 3, 0, 0, 0);
    }

    private static void planedAsItCanBe() {
        SwollenHouse x = CHECK.told("room a;room b;door a b pine gap 12;person p in a;person q in b;damp 9;swells 3;");
        for (int i = 0; i < 7; i++) {
            x.plane(0);
        }
        CHECK.due("gap", x.door(0, 3), 19);
        row(x, 6);
        CHECK.due("21 needs two: only one can be", x.planed(7, -1), -2);
        x.undo();
        CHECK.due("21 needs three: only two can be", x.planed(7, -1), -2);
        SwollenHouse y = CHECK.told("room a;room b;door a b pine gap 12;person p in a;person q in b;damp 9;swells 5;");
        for (int i = 0; i < 5; i++) {
            y.plane(0);
        }
        row(y, 4, 0, 0, 0);
        SwollenHouse z = CHECK.told("room a;room b;door a b pine gap 12;person p in a;person q in b;damp 9;swells 7;");
        for (int i = 0; i < 8; i++) {
            z.plane(0);
        }
        row(z, 2);
        CHECK.due("21 needs one: none can be", z.planed(3, -1), -2);
    }
}
