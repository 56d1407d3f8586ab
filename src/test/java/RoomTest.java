import java.lang.management.ManagementFactory;
import java.util.NoSuchElementException;

/**
 * All calls of a run live in one room of some 600,000 objects and 7.3 million elements: a call makes no
 * object (but for an exception), and a new object is small. Wild arguments, too: nothing is thrown.
 */
public final class RoomTest {
    private static final Check CHECK = new Check("RoomTest");
    private static final int[] WILD = {Integer.MIN_VALUE, -2, -1, 0, 1, 2, 3, 7, 8, 30, 40, 60, 99, Integer.MAX_VALUE};
    private static final String HOUSE = "room a;room b;room c;room d;room e;room f;room g;door a b oak gap 1;"
        + "door b c pine gap 0;door c d elm gap 2;door d e lime gap 3;door e f oak gap 0;door f g pine gap 1;"
        + "door g a elm gap 0;door a d lime gap 0;person p in a;person q in b;person r in c;person s in d;"
        + "person t in e;damp 9 8 7 6 5 4 3 2 1 0 0 0;swells 1 + (wet < 8) * (swell = space) + date - date;";

    public static void main(String[] args) {
        com.sun.management.ThreadMXBean threads = (com.sun.management.ThreadMXBean) ManagementFactory.getThreadMXBean();
        long self = Thread.currentThread().getId();
        SwollenHouse x = CHECK.told(HOUSE);
        allCalls(x);
        long before = threads.getThreadAllocatedBytes(self);
        for (int i = 0; i < WILD.length; i++) {
            allCalls(x);
        }
        long calls = threads.getThreadAllocatedBytes(self) - before;
        CHECK.due("bytes of some thousand calls: " + calls, calls < 20000, true);
        before = threads.getThreadAllocatedBytes(self);
        for (int i = 0; i < 100; i++) {
            x = new SwollenHouse();
        }
        long made = (threads.getThreadAllocatedBytes(self) - before) / 100;
        CHECK.due("bytes of an object: " + made, made < 40000, true);
        wildCalls(new SwollenHouse());
        wildCalls(CHECK.told(HOUSE));
        longestLaw();
        CHECK.end();
    }

    private static void allCalls(SwollenHouse x) {
        for (int i = 0; i < 5; i++) {
            x.feed(0x20L, 0x20L, 0x0aL);
            x.walk(i, i);
            x.plane(i);
            x.wedge(i);
            x.day();
            x.force(i);
            x.arrives(i, i);
            x.from(i, 40);
            x.both(i, 1);
            x.cut(i, 6);
            x.planed(30, -1);
            x.feel(i, 30, true);
            x.say(i, 40);
            x.chance(i, 6, 5);
            x.rests(1, 2, 3, -1);
            x.years(i, 99, 0);
            x.mark(i, i == 3);
            x.door(i, 6);
            x.person(i);
            x.later(i, 60);
            x.closes(i);
            x.gives(i);
            x.range(i);
            x.company(i);
            x.deep(i);
            x.count(5);
        }
        x.wets();
        x.tries();
        x.who();
        x.calm();
        x.hard();
        x.shut();
        x.rattles();
        x.parts();
        x.bride();
        x.worst();
        x.spared();
        x.opened();
        x.alone();
        x.days();
        x.judged(0);
        x.undo();
    }

    private static void wildCalls(SwollenHouse x) {
        for (int a : WILD) {
            for (int b : WILD) {
                x.door(a, b);
                x.walk(a, b);
                x.later(a, b);
                x.arrives(a, b);
                x.from(a, b);
                x.both(a, b);
                x.cut(a, b);
                x.planed(a, b);
                x.feel(a, b, a < b);
                x.say(a, b);
                x.feed(a, b, a);
                x.chance(a, b, 5);
                x.chance(0, a, b);
                x.years(a, b, 0);
                x.years(1, a, b);
                wildRest(x, a, b);
            }
            x.person(a);
            x.plane(a);
            x.wedge(a);
            x.force(a);
            x.day();
            x.judged(a);
            x.range(a);
            x.company(a);
            x.closes(a);
            x.gives(a);
            x.deep(a);
            x.mark(a, false);
            x.mark(a, true);
            x.count(a);
            x.wets();
            x.tries();
            x.who();
            x.house();
        }
        CHECK.due("nothing was thrown", true, true);
    }

    private static void wildRest(SwollenHouse x, int a, int b) {
        try {
            x.rests(a, b, a, b);
            x.rests(1, 1, 1, a);
        } catch (NoSuchElementException e) {
            // Promised, and looked at in OddsTest.
        }
    }

    /** The longest law that fits on the tape. */
    private static void longestLaw() {
        StringBuilder law = new StringBuilder("room a;room b;door a b pine gap 0;damp 9;swells 0");
        while (law.length() < 996) {
            law.append("+0");
        }
        while (law.length() < 997) {
            law.append(' ');
        }
        SwollenHouse x = CHECK.told(law + "+3;");
        x.day();
        CHECK.due("the law's end counts", x.door(0, 4), 3);
        SwollenHouse y = CHECK.told("room a;room b;door a b pine gap 0;damp 9;swells 1 and 1 < 1 + 1 * (1 and 1 < 1 + 1"
            + " * (1 and 1 < 1 + 1 * (1 and 1 < 1 + 1 * (1 and 1 < 1 + 1 * 1))));");
        y.day();
        CHECK.due("as much as can wait", y.door(0, 4), 1);
    }
}
