import java.util.NoSuchElementException;

/** What is refused, and what is only asked, changes nothing: each such call is heard by one of two twins. */
public final class RefusedTest {
    private static final Check CHECK = new Check("RefusedTest");
    private static final int[] WILD = {Integer.MIN_VALUE, -3, -2, -1, 7, 8, 9, 10, 11, 13, 31, 32, 41, 61, 100, 10000,
        Integer.MAX_VALUE};
    // Behind the deeds below: door 0 sticks by 3, door 1 by 1, door 2 has a wedge, door 3 a gap of 20 and is open.
    private static final String HOUSE = "room a;room b;room c;room d;door a b pine gap 0;door b c lime gap 2;"
        + "door c d elm gap 1;door d a oak gap 12;person p in a;person q in b;person r in d;damp 9 8 9 1;swells 1 + wet - wet;";

    private interface Refused {
        int on(SwollenHouse x);
    }

    public static void main(String[] args) {
        setting();
        faults();
        deeds();
        doorsAndRooms();
        daysAndNumbers();
        full();
        rests();
        questions();
        CHECK.end();
    }

    /** Deeds, days, marks, things felt and said, and a tape half told. */
    private static void live(SwollenHouse x) {
        Check.feed(x, HOUSE);
        x.house();
        Check.feed(x, "day;walk p 0;force 0;plane 3;");
        x.days();
        x.mark(1, false);
        x.feel(1, 3, true);
        for (int i = 0; i < 8; i++) {
            x.plane(3);
        }
        x.mark(2, false);
        x.wedge(2);
        x.walk(2, 3);
        x.say(1, 2);
        x.day();
        x.day();
        x.day();
        Check.feed(x, "room toad");
    }

    private static void setting() {
        SwollenHouse x = new SwollenHouse();
        live(x);
        CHECK.due("stuck", x.count(5), 3);
        CHECK.due("by 3", x.door(0, 4) - x.door(0, 3), 3);
        CHECK.due("by 1", x.door(1, 4) - x.door(1, 3), 1);
        CHECK.due("a wedge", x.count(6), 4);
        CHECK.due("20", x.door(3, 3), 20);
        CHECK.due("done", x.count(11), 13);
        CHECK.due("p in a", x.person(0), 0);
        CHECK.due("q in b", x.person(1), 1);
        CHECK.due("r in a", x.person(2), 0);
        Twins t = new Twins(RefusedTest::live);
        t.alike(CHECK, "nothing");
    }

    private static void refused(String call, int due, Refused refused) {
        Twins t = new Twins(RefusedTest::live);
        CHECK.due(call, refused.on(t.asked), due);
        t.alike(CHECK, call);
    }

    /** The tape is taken by both, but only one of them by a text that has a fault. */
    private static void faulty(String text, boolean asHouse, int due) {
        Twins t = new Twins(x -> {
            live(x);
            x.mark(3, false);
            // Taken by a reading that has a fault, as the tape must be empty for both.
            x.house();
        });
        CHECK.due("fault of <" + text + ">", asHouse ? Check.house(t.asked, text) : Check.days(t.asked, text), due);
        CHECK.due("taken", t.asked.count(12), 0);
        t.alike(CHECK, "<" + text + ">");
    }

    private static void faults() {
        CHECK.says("The TAPE is read as a HOUSE: 0, or its FAULT (all stays then).");
        String other = "room z;room y;door z y oak gap 5;person x in z;damp 1;swells 7;";
        faulty(other + "%", true, 1 + 16 * other.length());
        faulty(other + "person v in b;", true, 2 + 16 * (other.length() + 12));
        faulty(other + "damp 2;", true, 3 + 16 * other.length());
        faulty(other + "room w;door z w elm gap 13;", true, 4 + 16 * (other.length() + 24));
        faulty(other + "room t;room u;room v;room w;room x", true, 3 + 16 * (other.length() + 33));
        faulty("room t;room u;room v;room w;room x;room y;room z;room s;", true, 5 + 16 * 49);
        faulty("swells 7", true, 1 + 16 * 8);
        faulty("damp 1 2 3 4 10;", true, 4 + 16 * 13);
        CHECK.says("The TAPE is read as DAYS, likewise.");
        faulty("day;day;day;toad;", false, 1 + 16 * 12);
        faulty("day;walk a 0;", false, 2 + 16 * 9);
        faulty("plane 8;", false, 4 + 16 * 6);
        faulty("day;".repeat(41), false, 5 + 16 * 160);
        faulty("force 0", false, 1 + 16 * 7);
    }

    private static void deeds() {
        CHECK.says("NONE: others, it can't be.");
        for (int other : new int[] {Integer.MIN_VALUE, -1, 3, 5, 32, Integer.MAX_VALUE}) {
            refused("walk(" + other + ", 3)", -1, x -> x.walk(other, 3));
        }
        for (int other : new int[] {Integer.MIN_VALUE, -1, 4, 8, 32, Integer.MAX_VALUE}) {
            refused("walk(0, " + other + ")", -1, x -> x.walk(0, other));
            refused("plane(" + other + ")", -1, x -> x.plane(other));
            refused("wedge(" + other + ")", -1, x -> x.wedge(other));
            refused("force(" + other + ")", -1, x -> x.force(other));
        }
        refused("walk through one that sticks", -1, x -> x.walk(0, 0));
        refused("walk through one of another room", -1, x -> x.walk(0, 2));
        refused("plane at 20", -1, x -> x.plane(3));
        refused("wedge at one that sticks", -1, x -> x.wedge(0));
        refused("wedge at one that sticks by 1", -1, x -> x.wedge(1));
        refused("force by 3", -1, x -> x.force(0));
        refused("force one with a wedge", -1, x -> x.force(2));
        refused("force an open one", -1, x -> x.force(3));
        CHECK.says("false: none such, nothing is on it (back).");
        for (int other : new int[] {Integer.MIN_VALUE, -1, 4, 5, 32, Integer.MAX_VALUE}) {
            refused("mark(" + other + ", false)", 0, x -> x.mark(other, false) ? 1 : 0);
            refused("mark(" + other + ", true)", 0, x -> x.mark(other, true) ? 1 : 0);
        }
        refused("mark(0, true)", 0, x -> x.mark(0, true) ? 1 : 0);
        refused("mark(3, true)", 0, x -> x.mark(3, true) ? 1 : 0);
        CHECK.says("UNDO: true; false: nothing can be.");
        Twins t = new Twins(x -> {
            live(x);
            x.mark(2, true);
        });
        CHECK.due("nothing to undo", t.asked.undo(), false);
        t.alike(CHECK, "undo");
    }

    private static void doorsAndRooms() {
        CHECK.says("NONE: others.");
        for (int other : new int[] {Integer.MIN_VALUE, -1, 4, 7, 8, 32, Integer.MAX_VALUE}) {
            refused("door(" + other + ", 0)", -2, x -> x.door(other, 0));
            refused("later(" + other + ", 0)", -1, x -> x.later(other, 0));
            refused("closes(" + other + ")", -1, x -> x.closes(other));
            refused("gives(" + other + ")", -1, x -> x.gives(other));
            refused("feel(" + other + ", 1, true)", 0, x -> x.feel(other, 1, true) ? 1 : 0);
            refused("chance(" + other + ", 1, 5)", -1, x -> x.chance(other, 1, 5));
            refused("range(" + other + ")", -1, x -> x.range(other));
            refused("deep(" + other + ")", -1, x -> x.deep(other));
            refused("from(" + other + ", 1)", -1, x -> x.from(other, 1));
            refused("say(" + other + ", 1)", 0, x -> x.say(other, 1) ? 1 : 0);
            refused("cut(" + other + ", 0)", -1, x -> x.cut(other, 0));
            refused("cut(0, " + other + ")", -1, x -> x.cut(0, other));
            refused("arrives(0, " + other + ")", -1, x -> x.arrives(0, other));
        }
        refused("cut(2, 2)", -1, x -> x.cut(2, 2));
        for (int other : new int[] {Integer.MIN_VALUE, -1, 3, 5, 32, Integer.MAX_VALUE}) {
            refused("person(" + other + ")", -1, x -> x.person(other));
            refused("company(" + other + ")", -1, x -> x.company(other));
            refused("arrives(" + other + ", 0)", -1, x -> x.arrives(other, 0));
            refused("both(" + other + ", 0)", -1, x -> x.both(other, 0));
            refused("both(0, " + other + ")", -1, x -> x.both(0, other));
        }
        refused("both(1, 1)", -1, x -> x.both(1, 1));
    }

    private static void daysAndNumbers() {
        CHECK.says("NONE: others.");
        for (int other : WILD) {
            if (other < 0 || other > 6) {
                refused("door(0, " + other + ")", -2, x -> x.door(0, other));
                refused("chance(0, " + other + ", 5)", -1, x -> x.chance(0, other, 5));
            }
            if (other < 0 || other > 60) {
                refused("later(0, " + other + ")", -1, x -> x.later(0, other));
            }
            if (other < 0 || other > 40) {
                refused("from(0, " + other + ")", -1, x -> x.from(0, other));
                refused("say(0, " + other + ")", 0, x -> x.say(0, other) ? 1 : 0);
            }
            if (other < 0 || other > 30) {
                refused("planed(" + other + ", -1)", -2, x -> x.planed(other, -1));
                refused("feel(0, " + other + ", true)", 0, x -> x.feel(0, other, true) ? 1 : 0);
            }
            if (other < 0 || other > 10) {
                refused("chance(0, 1, " + other + ")", -1, x -> x.chance(0, 1, other));
            }
            if (other < 0 || other > 99) {
                refused("years(1, " + other + ", 0)", -1, x -> x.years(1, other, 0));
            }
            if (other < 0 || other > 9999) {
                refused("years(" + other + ", 1, 0)", -1, x -> x.years(other, 1, 0));
            }
            if (other < 0 || other > 2) {
                refused("years(1, 1, " + other + ")", -1, x -> x.years(1, 1, other));
                refused("judged(" + other + ")", -2, x -> x.judged(other));
            }
            if (other < 0 || other > 12) {
                refused("count(" + other + ")", -1, x -> x.count(other));
            }
            if (other != -1) {
                refused("planed(0, " + other + ")", -2, x -> x.planed(0, other));
            }
        }
        refused("chance(0, 0, 5)", -1, x -> x.chance(0, 0, 5));
        refused("feel(0, 0, true)", 0, x -> x.feel(0, 0, true) ? 1 : 0);
        refused("years(1, 0, 0)", -1, x -> x.years(1, 0, 0));
    }

    private static void full() {
        CHECK.says("FELT: true; false: others, 8 there are.");
        Twins felt = new Twins(x -> {
            live(x);
            for (int i = 1; i < 8; i++) {
                x.feel(i % 4, i, i % 3 == 0);
            }
        });
        CHECK.due("eight", felt.asked.count(9), 8);
        CHECK.due("a ninth", felt.asked.feel(0, 1, true), false);
        felt.alike(CHECK, "a ninth felt");
        CHECK.says("SAID: true; false: others, 8 there are.");
        Twins said = new Twins(x -> {
            live(x);
            for (int i = 1; i < 8; i++) {
                x.say(i % 4, 40 - i);
            }
        });
        CHECK.due("eight", said.asked.count(10), 8);
        CHECK.due("a ninth", said.asked.say(0, 1), false);
        said.alike(CHECK, "a ninth said");
        CHECK.says("and what is beyond 1,000, are left out");
        Twins tape = new Twins(x -> {
            live(x);
            Check.feed(x, " ".repeat(991));
        });
        CHECK.due("full", tape.asked.count(12), 1000);
        CHECK.due("one more", tape.asked.feed(-1, 0x61, 0), 1000);
        tape.alike(CHECK, "a 1,001st sign");
    }

    /** 98 for the exception that the document names. */
    private static int rest(SwollenHouse x, int lose, int wets, int dries, int what) {
        try {
            return x.rests(lose, wets, dries, what);
        } catch (NoSuchElementException e) {
            return 98;
        }
    }

    private static void rests() {
        CHECK.says("NoSuchElementException: others, none such.");
        for (int other : new int[] {Integer.MIN_VALUE, -2, -1, 10, 11, Integer.MAX_VALUE}) {
            refused("rests(" + other + ", 1, 1, -1)", 98, x -> rest(x, other, 1, 1, -1));
            refused("rests(1, " + other + ", 1, -1)", 98, x -> rest(x, 1, other, 1, -1));
            refused("rests(1, 1, " + other + ", -1)", 98, x -> rest(x, 1, 1, other, -1));
        }
        for (int other : new int[] {Integer.MIN_VALUE, -3, -2, 2, 3, 4, Integer.MAX_VALUE}) {
            refused("rests(1, 1, 1, " + other + ")", 98, x -> rest(x, 1, 1, 1, other));
        }
    }

    private static void questions() {
        CHECK.says("(DAYS going by, nothing else being done.)");
        Refused[] asked = {x -> x.door(0, 3), x -> x.person(0), x -> x.judged(0), x -> x.judged(1), x -> x.judged(2),
            x -> x.shut(), x -> x.range(0), x -> x.company(0), x -> x.later(0, 60), x -> x.closes(3), x -> x.gives(0),
            x -> x.calm(), x -> x.hard(), x -> x.arrives(0, 1), x -> x.from(0, 40), x -> x.both(0, 1), x -> x.cut(0, 1),
            x -> x.planed(30, -1), x -> x.planed(0, 0), x -> x.wets(), x -> x.tries(), x -> x.who(), x -> x.rattles(),
            x -> x.parts(), x -> x.bride(), x -> x.worst(), x -> x.spared(), x -> x.opened(), x -> x.deep(0),
            x -> x.alone(), x -> x.chance(0, 6, 5), x -> x.rests(1, 2, 3, -1), x -> x.count(5)};
        for (int i = 0; i < asked.length; i++) {
            Twins t = new Twins(RefusedTest::live);
            asked[i].on(t.asked);
            t.alike(CHECK, "question " + i);
        }
        CHECK.says("from now on (all is as ahead then)");
        for (int seed = 0; seed < 20; seed++) {
            Twins t = new Twins(RefusedTest::live);
            t.asked.years(seed, 99, seed % 3);
            t.alike(CHECK, "years " + seed);
        }
        CHECK.says("A MARK is laid (back: gone back to): true");
        Twins t = new Twins(x -> {
            live(x);
            x.mark(1, false);
        });
        CHECK.due("laid once more", t.asked.mark(1, false), true);
        t.alike(CHECK, "a mark laid twice");
    }
}
