import java.util.NoSuchElementException;

/** The edges of chances, heirs and draws, a method for each sentence of the document (promises 40 to 42). */
public final class OddsEdgesTest {
    private static final Check CHECK = new Check("OddsEdgesTest");
    private static final int[] WILD = {Integer.MIN_VALUE, -2, -1, 8, 31, 32, 64, Integer.MAX_VALUE};
    private static final String DOOR = "room a;room b;door a b pine gap 0;";

    public static void main(String[] args) {
        chanceDaysAndOdds();
        chanceInPlaceOfWhatIsTold();
        chanceSure();
        chanceOthers();
        heirs();
        heirsInOrder();
        heirsOthers();
        draws();
        drawsBelow();
        yearsDeeds();
        yearsWithoutDoorsOrPersons();
        yearsIfItCanBe();
        yearsAnswers();
        yearsFromNowOn();
        yearsOthers();
        CHECK.end();
    }

    private static int power(int base, int exponent) {
        int power = 1;
        for (int i = 0; i < exponent; i++) {
            power *= base;
        }
        return power;
    }

    private static void chanceDaysAndOdds() {
        CHECK.says("CHANCE: each of so many (1 to 6) DAYS has a damp of 9 by odds of ten, else of 0");
        for (int days = 1; days <= 6; days++) {
            SwollenHouse all = CHECK.told("room a;room b;door a b pine gap " + (days - 1) + ";");
            SwollenHouse last = CHECK.told(DOOR + "swells date = " + (days - 1) + ";");
            for (int odds = 0; odds <= 10; odds++) {
                CHECK.due("all of " + days + " wet, by " + odds, all.chance(0, days, odds),
                    power(odds, days) * power(10, 6 - days));
                CHECK.due("the last of " + days + " wet, by " + odds, last.chance(0, days, odds), 100000 * odds);
            }
        }
        CHECK.due("one in a million", CHECK.told("room a;room b;door a b pine gap 5;").chance(0, 6, 1), 1);
        CHECK.due("64 in a million", CHECK.told("room a;room b;door a b pine gap 5;").chance(0, 6, 2), 64);
        // Swollen 9 by a wet day, an oak gives behind nine dry ones: only six dry days leave it open.
        CHECK.due("all but one in a million", CHECK.told("room a;room b;door a b oak gap 0;swells 9;").chance(0, 6, 9), 999999);
    }

    private static void chanceInPlaceOfWhatIsTold() {
        CHECK.says("in place of what is told: that a DOOR STICKS behind these, in millionths, cut.");
        for (String damp : new String[] {"", "damp 0;", "damp 9;", "damp 5 4 3;"}) {
            CHECK.due(damp, CHECK.told(DOOR + damp).chance(0, 1, 7), 700000);
        }
        CHECK.due("wet is 9", CHECK.told(DOOR + "damp 5;swells wet = 9;").chance(0, 1, 7), 700000);
        // A dry day is one of 0: an elm, swollen 3, gives by it, and stays by any other.
        SwollenHouse x = CHECK.told("room a;room b;door a b elm gap 0;damp 9;swells 3;");
        x.day();
        CHECK.due("dry is 0", x.chance(0, 1, 7), 700000);
        SwollenHouse y = CHECK.told(DOOR + "swells date = 3;");
        y.day();
        y.day();
        CHECK.due("from now on: day 2 is no day 3", y.chance(0, 1, 7), 0);
        CHECK.due("day 3 is the second", y.chance(0, 2, 7), 700000);
        CHECK.due("nothing is done", y.count(3), 2);
    }

    private static void chanceSure() {
        CHECK.says("a damp of 9 by odds of ten, else of 0");
        SwollenHouse x = CHECK.told("room a;room b;door a b oak gap 0;damp 9;swells 9;");
        x.day();
        for (int odds = 0; odds <= 10; odds++) {
            CHECK.due("it sticks by any", x.chance(0, 6, odds), 1000000);
        }
        x.undo();
        x.wedge(0);
        for (int odds = 0; odds <= 10; odds++) {
            CHECK.due("a wedge: by none", x.chance(0, 6, odds), 0);
        }
        CHECK.due("dry for sure", CHECK.told(DOOR).chance(0, 6, 0), 0);
        CHECK.due("wet for sure", CHECK.told(DOOR).chance(0, 6, 10), 1000000);
    }

    private static void chanceOthers() {
        CHECK.says("CHANCE, by odds (0 to 10); NONE: others.");
        SwollenHouse x = CHECK.told(DOOR);
        for (int other : WILD) {
            CHECK.due("door " + other, x.chance(other, 1, 5), -1);
        }
        CHECK.due("no second", x.chance(1, 1, 5), -1);
        for (int days : new int[] {Integer.MIN_VALUE, -1, 0, 7, 8, 31, 32, 33, Integer.MAX_VALUE}) {
            CHECK.due("days " + days, x.chance(0, days, 5), -1);
        }
        for (int odds : new int[] {Integer.MIN_VALUE, -1, 11, 12, 100, Integer.MAX_VALUE}) {
            CHECK.due("odds " + odds, x.chance(0, 1, odds), -1);
        }
    }

    /** 98 for the exception that the document names. */
    private static int rest(int lose, int wets, int dries, int what) {
        try {
            return new SwollenHouse().rests(lose, wets, dries, what);
        } catch (NoSuchElementException e) {
            return 98;
        }
    }

    private static void heirs() {
        CHECK.says("HEIRS of two: each wets or dries: both wet: each loses so much (0 to 9); one wets: he gets so much "
            + "(0 to 9), the other one so much (0 to 9); both dry: nothing: RESTS: by which neither would get more by the other.");
        for (int lose = 0; lose <= 9; lose++) {
            for (int wets = 0; wets <= 9; wets++) {
                for (int dries = 0; dries <= 9; dries++) {
                    // One wets, one dries: neither ever gets more. Both dry rests if wetting alone gets nothing, both wet
                    // if neither is anything lost by it nor anything to be got by drying.
                    int due = 2 + (wets == 0 ? 1 : 0) + (lose + dries == 0 ? 1 : 0);
                    CHECK.due("rests " + lose + " " + wets + " " + dries, rest(lose, wets, dries, -1), due);
                }
            }
        }
    }

    private static void heirsInOrder() {
        CHECK.says("RESTS of HEIRS by what both lose that wet, who wets alone gets, who dries then gets, what NONE: how many; "
            + "i: the i-th as 2 * the first one's choice + the other one's (1 wets; the least first).");
        int[][] due = {{1, 1, 1, 1, 2, 98, 98}, {1, 0, 1, 0, 1, 2, 98}, {0, 1, 0, 1, 2, 3, 98}, {0, 0, 0, 0, 1, 2, 3},
            {0, 0, 1, 0, 1, 2, 98}, {1, 0, 0, 0, 1, 2, 98}, {9, 9, 9, 1, 2, 98, 98}, {0, 9, 0, 1, 2, 3, 98}};
        for (int[] row : due) {
            for (int i = 0; i < 4; i++) {
                CHECK.due("rests " + row[0] + " " + row[1] + " " + row[2] + ", " + i, rest(row[0], row[1], row[2], i), row[3 + i]);
            }
            CHECK.due("no fifth", rest(row[0], row[1], row[2], 4), 98);
        }
    }

    private static void heirsOthers() {
        CHECK.says("NoSuchElementException: others, none such.");
        for (int other : new int[] {Integer.MIN_VALUE, -10, -1, 10, 11, Integer.MAX_VALUE}) {
            CHECK.due("lose " + other, rest(other, 0, 0, -1), 98);
            CHECK.due("wets " + other, rest(0, other, 0, -1), 98);
            CHECK.due("dries " + other, rest(0, 0, other, -1), 98);
            CHECK.due("lose " + other, rest(other, 0, 0, 0), 98);
        }
        for (int what : new int[] {Integer.MIN_VALUE, -3, -2, 4, 5, Integer.MAX_VALUE}) {
            CHECK.due("what " + what, rest(0, 0, 0, what), 98);
        }
    }

    private static void draws() {
        CHECK.says("A DRAW below m: g becomes (g * 1103515245 + 12345) modulo 2147483648 (g is the SEED at first); it is "
            + "g / 65536, cut, modulo m.");
        // Seed 1: 16838, 5758, 10113, 17515, 31051: below 5 these are 3, 3, 3, 0 (a planing on the fourth day).
        SwollenHouse x = CHECK.told(DOOR + "damp 9;swells date = 3;");
        CHECK.due("seed 1: planed in time", x.years(1, 4, 1), 0);
        CHECK.due("planed too late", CHECK.told(DOOR + "damp 9;swells date = 2;").years(1, 3, 1), 1);
        // Seed 0: 0, 21468, 9988, 22117: below 5 a planing on the first day.
        CHECK.due("seed 0", CHECK.told(DOOR + "damp 9;").years(0, 1, 1), 0);
        // Seed 9999: 4241, 233, 22049: below 5 a walk on the first day.
        CHECK.due("seed 9999", CHECK.told(DOOR + "person p in a;").years(9999, 1, 0), 1);
        // Seed 42: 19081, 17033, 15269: a walk of the person 3 of five through the door 5 of eight.
        String eight = "room a;room b;room c;room d;room e;room f;room g;door a b oak gap 0;door a c oak gap 0;door a d oak gap 0;"
            + "door a e oak gap 0;door a f oak gap 0;door g f oak gap 0;door b c oak gap 0;door b d oak gap 0;";
        CHECK.due("seed 42", CHECK.told(eight + "person p in a;person q in a;person r in a;person s in g;person t in a;")
            .years(42, 1, 0), 1);
        CHECK.due("no other", CHECK.told(eight + "person p in g;person q in g;person r in g;person s in a;person t in g;")
            .years(42, 1, 0), 0);
    }

    private static void drawsBelow() {
        CHECK.says("a DRAW below 5: 0: one below DOORS is PLANED, if it can be");
        // Seed 0 planes on the first day: 21468 is 3 below 5, 6 below 7, 4 below 8, and 0 below the others.
        int[] planed = {0, 0, 0, 0, 3, 0, 6, 4};
        for (int doors = 1; doors <= 8; doors++) {
            for (int tight = 0; tight < doors; tight++) {
                SwollenHouse x = CHECK.told(houseOf(doors, tight));
                CHECK.due("of " + doors + ", only " + tight + " can stick", x.years(0, 1, 1), tight == planed[doors - 1] ? 0 : 1);
            }
        }
    }

    /** A wet house of so many doors, one of which alone has a gap of 0. */
    private static String houseOf(int doors, int tight) {
        String[] rooms = {"a b", "b c", "c d", "d e", "e f", "f g", "g a", "a c"};
        StringBuilder text = new StringBuilder("room a;room b;room c;room d;room e;room f;room g;damp 9;");
        for (int i = 0; i < doors; i++) {
            text.append("door ").append(rooms[i]).append(" pine gap ").append(i == tight ? 0 : 12).append(";");
        }
        return text.toString();
    }

    private static void yearsDeeds() {
        CHECK.says("1, if there are PERSONS: one below PERSONS, one below DOORS: that WALK, if it can be");
        // Seed 0 walks on the fifth and the sixth day: 19741, 12122, 8410 and 12261, 27052, and so on.
        SwollenHouse x = CHECK.told(DOOR + "person p in a;");
        CHECK.due("four days", x.years(0, 4, 0), 0);
        CHECK.due("five days", x.years(0, 5, 0), 1);
        CHECK.due("six days", x.years(0, 6, 0), 2);
        // Seed 7: 19564, 9806 (a walk: 10868, 22674), 32531 (a walk: 3365, 32034), 31790 (a planing: 7985).
        CHECK.due("seed 7, one day", x.years(7, 1, 0), 0);
        CHECK.due("two days", x.years(7, 2, 0), 1);
        CHECK.due("three days", x.years(7, 3, 0), 2);
        CHECK.says("2: one below DOORS is FORCED, if it can be; then the DAY");
        // Seed 3: 17747 (a forcing: 7107) on the first day.
        SwollenHouse y = CHECK.told(DOOR + "damp 9;swells 2 * (date = 0);");
        y.day();
        CHECK.due("forced by 2", y.years(3, 1, 1), 0);
        CHECK.due("ahead of the day", CHECK.told(DOOR + "damp 9;").years(3, 1, 1), 1);
        // Seeds 1 and 7 do nothing on the first day: 3 and 4 are drawn.
        CHECK.due("3: nothing", y.years(1, 1, 1), 1);
        CHECK.due("4: nothing", y.years(7, 1, 1), 1);
    }

    private static void yearsWithoutDoorsOrPersons() {
        CHECK.says("each, if there are DOORS");
        SwollenHouse none = CHECK.told("room a;person p in a;damp 9;");
        for (int what = 0; what < 3; what++) {
            CHECK.due("no doors", none.years(0, 99, what), 0);
            CHECK.due("nothing", new SwollenHouse().years(9999, 99, what), 0);
        }
        CHECK.says("1, if there are PERSONS");
        // Seed 7 with a person planes on the fourth day; without one 9806 draws no more, and the sixth day planes.
        String law = "damp 9;swells date = 4;";
        CHECK.due("with a person", CHECK.told(DOOR + "person p in a;" + law).years(7, 5, 1), 0);
        CHECK.due("without", CHECK.told(DOOR + law).years(7, 5, 1), 1);
        CHECK.due("without, by the sixth day", CHECK.told(DOOR + "damp 9;swells date = 5;").years(7, 6, 1), 0);
        CHECK.due("no walks", CHECK.told(DOOR + law).years(7, 99, 0), 0);
    }

    private static void yearsIfItCanBe() {
        CHECK.says("one below DOORS is PLANED, if it can be");
        SwollenHouse x = CHECK.told("room a;room b;door a b pine gap 12;damp 9;swells 7;");
        for (int i = 12; i < 20; i++) {
            x.plane(0);
        }
        // Swollen 7, 14, 21 at a gap of 20, which seed 0 would plane on the first day.
        CHECK.due("not at 20", x.years(0, 3, 1), 1);
        x.undo();
        CHECK.due("from 19 to 20", x.years(0, 3, 1), 1);
        SwollenHouse open = CHECK.told("room a;room b;door a b pine gap 12;damp 9;swells 5;");
        for (int i = 12; i < 19; i++) {
            open.plane(0);
        }
        CHECK.due("from 19 to 20, swollen 20", open.years(0, 4, 1), 0);
        CHECK.says("that WALK, if it can be");
        CHECK.due("it sticks", CHECK.told(DOOR + "person p in a;damp 9;").years(7, 3, 0), 0);
        CHECK.due("none of that room", CHECK.told("room a;room b;room c;door a b pine gap 0;person p in c;").years(7, 3, 0), 0);
        CHECK.says("one below DOORS is FORCED, if it can be");
        SwollenHouse y = CHECK.told(DOOR + "damp 9;swells 3 * (date = 0);");
        y.day();
        CHECK.due("not by 3", y.years(3, 1, 1), 1);
        SwollenHouse z = CHECK.told("room a;room b;door a b pine gap 5;damp 9 0 9 0;swells 2 + 2 * (date = 2);");
        CHECK.due("an open one stays at its gap", z.years(3, 3, 1), 0);
    }

    private static void yearsAnswers() {
        CHECK.says("then the DAY: how many WALKS there were by these; how many DOORS STICK at last; how far all are swollen at "
            + "last, together.");
        String three = "room a;room b;room c;door a b pine gap 0;door b c oak gap 1;door c a lime gap 12;damp 9;swells 4;";
        SwollenHouse x = CHECK.told(three);
        CHECK.due("none walks", x.years(1, 1, 0), 0);
        CHECK.due("two stick", x.years(1, 1, 1), 2);
        CHECK.due("three of 4", x.years(1, 1, 2), 12);
        CHECK.due("three of 8", x.years(1, 2, 2), 24);
        CHECK.due("three of 30", x.years(1, 99, 2), 90);
        CHECK.says("YEARS by a SEED of so many DAYS (1 to 99)");
        SwollenHouse y = CHECK.told(DOOR + "damp 9;swells (date = 0) + (date = 98) * 2;");
        CHECK.due("1", y.years(1, 1, 2), 1);
        CHECK.due("98", y.years(1, 98, 2), 1);
        CHECK.due("99", y.years(1, 99, 2), 3);
    }

    private static void yearsFromNowOn() {
        CHECK.says("from now on (all is as ahead then)");
        SwollenHouse x = CHECK.told(DOOR + "person p in a;damp 9 0;swells date + 1;");
        x.day();
        x.day();
        x.day();
        CHECK.due("swollen", x.count(7), 3);
        CHECK.due("day 3 is dry", x.years(1, 1, 2), 1);
        CHECK.due("day 4 is not", x.years(1, 2, 2), 6);
        CHECK.due("day", x.count(3), 3);
        CHECK.due("swollen", x.count(7), 3);
        CHECK.due("the same again", x.years(1, 2, 2), 6);
        CHECK.due("done", x.count(11), 3);
    }

    private static void yearsOthers() {
        CHECK.says("YEARS by a SEED (0 to 9999), what 0: WALKS, 1: how many, 2: how far; NONE: others.");
        SwollenHouse x = CHECK.told(DOOR + "damp 9;");
        CHECK.due("seed 0", x.years(0, 1, 2), 1);
        CHECK.due("seed 9999", x.years(9999, 1, 2), 1);
        for (int seed : new int[] {Integer.MIN_VALUE, -1, 10000, 10001, Integer.MAX_VALUE}) {
            CHECK.due("seed " + seed, x.years(seed, 1, 2), -1);
        }
        CHECK.due("99 days", x.years(1, 99, 2), 30);
        for (int days : new int[] {Integer.MIN_VALUE, -1, 0, 100, 101, Integer.MAX_VALUE}) {
            CHECK.due("days " + days, x.years(1, days, 2), -1);
        }
        for (int what : new int[] {Integer.MIN_VALUE, -2, -1, 3, 4, Integer.MAX_VALUE}) {
            CHECK.due("what " + what, x.years(1, 1, what), -1);
        }
    }
}
