/** Promises 27 to 31: what is felt and said, and what follows from it. */
public final class RumoursTest {
    private static final Check CHECK = new Check("RumoursTest");
    private static final String HOUSE = "room a;room b;room c;room d;door a b oak gap 1;door b c pine gap 0;"
        + "door c d elm gap 2;door b d lime gap 0;person p in a;person q in b;person r in d;damp 0;";

    public static void main(String[] args) {
        feeling();
        wets();
        wetsFromNow();
        tries();
        saying();
        who();
        CHECK.end();
    }

    private static void feeling() {
        SwollenHouse x = CHECK.told(HOUSE);
        for (int other : new int[] {-1, 4, 8, Integer.MIN_VALUE, Integer.MAX_VALUE}) {
            CHECK.due("door " + other, x.feel(other, 1, true), false);
        }
        for (int other : new int[] {-1, 0, 31, Integer.MIN_VALUE, Integer.MAX_VALUE}) {
            CHECK.due("days " + other, x.feel(0, other, true), false);
        }
        CHECK.due("none", x.count(9), 0);
        for (int i = 1; i <= 8; i++) {
            CHECK.due("felt", x.feel(i % 4, i == 8 ? 30 : i, i % 2 == 0), true);
            CHECK.due("count", x.count(9), i);
        }
        CHECK.due("a ninth", x.feel(0, 1, true), false);
        CHECK.due("eight", x.count(9), 8);
        CHECK.due("feeling is not done", x.count(11), 0);
    }

    private static void wets() {
        SwollenHouse x = CHECK.told(HOUSE);
        CHECK.due("all", x.wets(), 1023);
        x.feel(0, 1, true);
        CHECK.due("an oak of gap 1 does not stick behind one", x.wets(), 0);
        x = CHECK.told(HOUSE);
        x.feel(0, 2, true);
        CHECK.due("oak", x.wets(), 0x380);
        x = CHECK.told(HOUSE);
        x.feel(1, 1, false);
        CHECK.due("not the pine", x.wets(), 0x1f);
        x.feel(3, 1, true);
        CHECK.due("the lime", x.wets(), 0x10);
        x.feel(2, 30, true);
        CHECK.due("by none", x.wets(), 0);
        x = CHECK.told(HOUSE);
        x.wedge(3);
        x.feel(3, 1, true);
        CHECK.due("one with a wedge sticks by none", x.wets(), 0);
        x = CHECK.told("room a;room b;door a b lime gap 3;swells wet - 4;");
        x.feel(0, 1, true);
        CHECK.due("wet is the unknown damp", x.wets(), 0x300);
    }

    private static void wetsFromNow() {
        SwollenHouse x = CHECK.told("room a;room b;door a b pine gap 1;damp 9;swells date;");
        x.feel(0, 2, true);
        CHECK.due("0 and 1 is not above 1", x.wets(), 0);
        x.day();
        CHECK.due("1 and 2 is", x.wets(), 0x3e0);
        x.plane(0);
        x.plane(0);
        CHECK.due("not above 3", x.wets(), 0);
        SwollenHouse y = CHECK.told("room a;room b;door a b pine gap 0;damp 9;");
        y.day();
        y.day();
        y.feel(0, 1, false);
        CHECK.due("shrunk to 0", y.wets(), 0xf);
    }

    private static void tries() {
        SwollenHouse x = CHECK.told(HOUSE);
        // One day: pine parts 5 from 5, and no other does better.
        CHECK.due("the pine", x.tries(), 8 + 1);
        x.feel(1, 1, true);
        CHECK.due("two days, oak: 3 of 5", x.tries(), 16);
        x.feel(0, 2, true);
        CHECK.due("7, 8, 9 are not parted", x.tries(), -1);
        x = CHECK.told(HOUSE);
        x.feel(1, 1, false);
        CHECK.due("0 to 4 by the lime: 4 and 1", x.tries(), 8 + 3);
        x.feel(3, 1, true);
        CHECK.due("one is not parted", x.tries(), -1);
        x.feel(3, 1, false);
        CHECK.due("none are not parted", x.tries(), -1);
        CHECK.due("no doors", CHECK.told("room a;").tries(), -1);
        // Swollen by wet - 4: one wet more sticks the lime each time the gap is passed; 30 days are looked at.
        SwollenHouse y = CHECK.told("room a;room b;door a b lime gap 9;swells date = 29 and wet = 9;");
        y.plane(0);
        CHECK.due("never above its gap", y.tries(), -1);
        SwollenHouse z = CHECK.told("room a;room b;door a b lime gap 0;swells date = 29 and wet = 9;");
        CHECK.due("behind 30", z.tries(), 8 * 30);
        SwollenHouse w = CHECK.told("room a;room b;door a b lime gap 0;swells date = 30 and wet = 9;");
        CHECK.due("not behind 31", w.tries(), -1);
    }

    private static void saying() {
        SwollenHouse x = CHECK.told(HOUSE);
        for (int other : new int[] {-1, 4, 7, Integer.MIN_VALUE, Integer.MAX_VALUE}) {
            CHECK.due("room " + other, x.say(other, 1), false);
        }
        for (int other : new int[] {-1, 41, Integer.MIN_VALUE, Integer.MAX_VALUE}) {
            CHECK.due("days " + other, x.say(0, other), false);
        }
        CHECK.due("none", x.count(10), 0);
        for (int i = 1; i <= 8; i++) {
            CHECK.due("said", x.say(i % 4, i == 8 ? 40 : i - 1), true);
            CHECK.due("count", x.count(10), i);
        }
        CHECK.due("a ninth", x.say(0, 1), false);
        CHECK.due("saying is not done", x.count(11), 0);
    }

    private static void who() {
        SwollenHouse x = CHECK.told(HOUSE);
        CHECK.due("all", x.who(), 7);
        x.mark(0, false);
        x.say(1, 0);
        CHECK.due("who is there", x.who(), 2);
        x.mark(0, true);
        x.say(2, 1);
        CHECK.due("by one door", x.who(), 6);
        x.mark(0, true);
        x.say(0, 1);
        x.say(2, 1);
        CHECK.due("each by itself: q is between", x.who(), 2);
        x.say(3, 0);
        CHECK.due("nobody", x.who(), 0);
        x.mark(0, true);
        x.say(3, 2);
        CHECK.due("in two", x.who(), 7);
        x.walk(2, 3);
        x.walk(2, 0);
        CHECK.due("from where they are now", x.who(), 7);
        x.say(3, 1);
        CHECK.due("q only", x.who(), 2);
        SwollenHouse y = CHECK.told("room a;room b;room c;door a b oak gap 9;door b c pine gap 0;person p in a;"
            + "person q in b;damp 9;");
        y.say(2, 40);
        CHECK.due("it sticks before p is there", y.who(), 2);
    }
}
