import java.util.NoSuchElementException;

/** Promises 40 to 42: chances, heirs at rest, years by draws. */
public final class OddsTest {
    private static final Check CHECK = new Check("OddsTest");

    public static void main(String[] args) {
        chances();
        chancesFromNow();
        rests();
        restsThatAreNot();
        years();
        yearsByHand();
        CHECK.end();
    }

    private static void chances() {
        SwollenHouse x = CHECK.told("room a;room b;room c;door a b oak gap 1;door b c pine gap 0;damp 5;");
        CHECK.due("one of one", x.chance(1, 1, 3), 300000);
        CHECK.due("never", x.chance(1, 1, 0), 0);
        CHECK.due("always", x.chance(1, 1, 10), 1000000);
        CHECK.due("the last of two", x.chance(1, 2, 3), 300000);
        // Oak, gap 1: of three days 9 9 9 (3), 9 9 0 (1), 9 0 9 (1), 0 9 9 (2): two of these are above 1.
        CHECK.due("oak by three", x.chance(0, 3, 5), 250000);
        CHECK.due("oak by three", x.chance(0, 3, 1), 1000 + 9000);
        CHECK.due("six", x.chance(0, 6, 10), 1000000);
        // Pine shrinks by 2: behind six days it sticks by a wet last day, or by 9 9 9 0 at the end, and so on.
        CHECK.due("pine by four", x.chance(1, 4, 1), 100000 + 900);
        CHECK.due("not one", x.chance(0, 1, 9), 0);
        for (int other : new int[] {-1, 2, 8, Integer.MIN_VALUE, Integer.MAX_VALUE}) {
            CHECK.due("door " + other, x.chance(other, 1, 5), -1);
        }
        for (int other : new int[] {-1, 0, 7, Integer.MIN_VALUE, Integer.MAX_VALUE}) {
            CHECK.due("days " + other, x.chance(0, other, 5), -1);
        }
        for (int other : new int[] {-1, 11, Integer.MIN_VALUE, Integer.MAX_VALUE}) {
            CHECK.due("odds " + other, x.chance(0, 1, other), -1);
        }
    }

    private static void chancesFromNow() {
        SwollenHouse x = CHECK.told("room a;room b;door a b pine gap 0;damp 9;swells date + wet - 8;");
        x.day();
        x.day();
        CHECK.due("swollen", x.door(0, 4), 3);
        CHECK.due("a dry day is not enough", x.chance(0, 1, 5), 1000000);
        CHECK.due("two are", x.chance(0, 2, 4), 640000);
        x.undo();
        x.undo();
        x.wedge(0);
        CHECK.due("a wedge", x.chance(0, 6, 10), 0);
        SwollenHouse y = CHECK.told("room a;room b;door a b pine gap 0;swells date;");
        CHECK.due("the date goes on", y.chance(0, 2, 3), 300000);
        CHECK.due("nothing on day 0", y.chance(0, 1, 10), 0);
    }

    /** 98 for the exception that the document names. */
    private static int rest(int lose, int wets, int dries, int what) {
        try {
            return new SwollenHouse().rests(lose, wets, dries, what);
        } catch (NoSuchElementException e) {
            return 98;
        }
    }

    private static void rests() {
        CHECK.due("two", rest(2, 5, 1, -1), 2);
        CHECK.due("the other wets", rest(2, 5, 1, 0), 1);
        CHECK.due("the first one wets", rest(2, 5, 1, 1), 2);
        CHECK.due("no third", rest(2, 5, 1, 2), 98);
        CHECK.due("both dry, too", rest(2, 0, 1, -1), 3);
        CHECK.due("both dry first", rest(2, 0, 1, 0), 0);
        CHECK.due("then", rest(2, 0, 1, 1), 1);
        CHECK.due("then", rest(2, 0, 1, 2), 2);
        CHECK.due("both wet, too", rest(0, 3, 0, -1), 3);
        CHECK.due("both wet last", rest(0, 3, 0, 2), 3);
        CHECK.due("all", rest(0, 0, 0, -1), 4);
        CHECK.due("the fourth", rest(0, 0, 0, 3), 3);
        CHECK.due("no fifth", rest(0, 0, 0, 4), 98);
        CHECK.due("nine", rest(9, 9, 9, -1), 2);
        CHECK.due("losing none, drying more", rest(0, 3, 1, -1), 2);
        CHECK.due("losing some, drying none", rest(1, 3, 0, -1), 2);
    }

    private static void restsThatAreNot() {
        for (int other : new int[] {-1, 10, Integer.MIN_VALUE, Integer.MAX_VALUE}) {
            CHECK.due("lose " + other, rest(other, 1, 1, -1), 98);
            CHECK.due("wets " + other, rest(1, other, 1, -1), 98);
            CHECK.due("dries " + other, rest(1, 1, other, -1), 98);
        }
        for (int other : new int[] {-2, 2, 4, Integer.MIN_VALUE, Integer.MAX_VALUE}) {
            CHECK.due("what " + other, rest(1, 1, 1, other), 98);
        }
    }

    private static void years() {
        SwollenHouse x = CHECK.told("room a;room b;door a b pine gap 0;person p in a;damp 9;");
        x.day();
        CHECK.due("days", Check.days(x, "day;"), 0);
        for (int seed = 0; seed <= 9999; seed += 1111) {
            for (int what = 0; what < 3; what++) {
                CHECK.due("the same again", x.years(seed, 99, what), x.years(seed, 99, what));
            }
        }
        int[] due = {2, 1, 1, 1, 9, 1, 0, 1, 1, 0, 0, 1, 0};
        for (int what = 0; what < due.length; what++) {
            CHECK.due("all is as ahead: count(" + what + ")", x.count(what), due[what]);
        }
        CHECK.due("gap", x.door(0, 3), 0);
        CHECK.due("place", x.person(0), 0);
        for (int other : new int[] {-1, 10000, Integer.MIN_VALUE, Integer.MAX_VALUE}) {
            CHECK.due("seed " + other, x.years(other, 1, 0), -1);
        }
        for (int other : new int[] {-1, 0, 100, Integer.MIN_VALUE, Integer.MAX_VALUE}) {
            CHECK.due("days " + other, x.years(1, other, 0), -1);
        }
        for (int other : new int[] {-1, 3, Integer.MIN_VALUE, Integer.MAX_VALUE}) {
            CHECK.due("what " + other, x.years(1, 1, other), -1);
        }
        SwollenHouse y = CHECK.told("room a;person p in a;damp 9;");
        CHECK.due("no doors, no draws", y.years(5, 99, 0), 0);
    }

    /** The draws of a seed, for deeds told by hand. */
    private static int[] draws(long seed, int... below) {
        int[] drawn = new int[below.length];
        long g = seed;
        for (int i = 0; i < below.length; i++) {
            g = (g * 1103515245L + 12345L) % 2147483648L;
            drawn[i] = (int) (g / 65536 % below[i]);
        }
        return drawn;
    }

    private static void yearsByHand() {
        // Seed 1: the first three draws of this well-known row are 16838, 5758, 10113.
        CHECK.due("16838 below 5", draws(1, 5)[0], 3);
        CHECK.due("5758 below 5", draws(1, 5, 5)[1], 3);
        CHECK.due("10113 below 5", draws(1, 5, 5, 5)[2], 3);
        String house = "room a;room b;room c;door a b lime gap 0;door b c pine gap 0;person p in a;person q in c;damp 9;";
        for (int seed = 0; seed < 200; seed++) {
            int[] first = draws(seed, 5, 2, 2);
            SwollenHouse x = CHECK.told(house);
            int walks = 0;
            int stuck = 2;
            if (first[0] == 0) {
                stuck = 1;
            } else if (first[0] == 1) {
                walks = first[1] == first[2] ? 1 : 0;
            }
            CHECK.due("walks by seed " + seed, x.years(seed, 1, 0), walks);
            CHECK.due("stuck by seed " + seed, x.years(seed, 1, 1), stuck);
            CHECK.due("swollen by seed " + seed, x.years(seed, 1, 2), 2);
            x.day();
            CHECK.due("planed or forced by " + seed, x.years(seed, 1, 1), 2);
            CHECK.due("forced by " + seed, forcedYears().years(seed, 1, 1), first[0] == 2 ? 0 : 1);
            SwollenHouse empty = CHECK.told("room a;room b;door a b lime gap 0;damp 9;");
            CHECK.due("no persons, no more draws", empty.years(seed, 2, 1),
                stuckOfEmpty(draws(seed, 5, 1, 5), draws(seed, 5, 5)));
        }
    }

    /** Wet on one day only, by 2: a forcing opens the door, a planing does not. */
    private static SwollenHouse forcedYears() {
        SwollenHouse x = CHECK.told("room a;room b;door a b oak gap 0;damp 9 5;swells 2;");
        x.day();
        return x;
    }

    /** Behind two days a door of gap 0 is swollen 2: two planings open it, or one and a forcing don't. */
    private static int stuckOfEmpty(int[] withDoor, int[] without) {
        boolean drew = withDoor[0] == 0 || withDoor[0] == 2;
        int second = drew ? withDoor[2] : without[1];
        return withDoor[0] == 0 && second == 0 ? 0 : 1;
    }
}
