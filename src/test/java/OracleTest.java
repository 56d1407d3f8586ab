import java.util.NoSuchElementException;
import java.util.Random;

/** Runs of drawn calls, each answered by SwollenHouse and by the Oracle: the answers must be alike. */
public final class OracleTest {
    private static final String[] NAMES = {"hall", "linen", "attic", "nook", "yard", "wet", "swell", "h", "toadroom",
        "ann", "bob", "cid", "dan", "eve", "date", "fay"};
    private static final String[] ODD = {";", "room", "door", "person", "in", "damp", "swells", "gap", "oak", "lime",
        "not", "and", "or", "(", ")", "<", "=", "+", "-", "*", "7", "12", "13", "99999", "9999", "longwords", "eightlet",
        "x", "A", "%", "day", "walk", "plane", "wedge", "force", "hall", "ann", "wet", "space", "", "0", "10", "8", "\n"};

    private final Check check = new Check("OracleTest");
    private final Random random;
    private SwollenHouse x = new SwollenHouse();
    private Oracle o = new Oracle();

    private OracleTest(long seed) {
        random = new Random(seed);
    }

    public static void main(String[] args) {
        long from = args.length > 0 ? Long.parseLong(args[0]) : 1;
        int runs = args.length > 1 ? Integer.parseInt(args[1]) : 150;
        OracleTest t = new OracleTest(from);
        for (int i = 0; i < runs; i++) {
            t.run(i);
        }
        t.check.end();
    }

    private int below(int n) {
        return random.nextInt(n);
    }

    private void run(int number) {
        x = new SwollenHouse();
        o = new Oracle();
        int calls = 0;
        while (calls < 380) {
            if (below(60) == 0 || calls == 0) {
                calls += tell(number, drawnHouse(), true);
            } else if (below(25) == 0) {
                calls += tell(number, drawnDays(), false);
            } else {
                ask(number);
                calls++;
            }
        }
    }

    private int tell(int number, String drawn, boolean asHouse) {
        String text = below(3) == 0 ? spoiled(drawn) : drawn;
        int calls = 1;
        for (int i = 0; i < text.length(); i += 24) {
            long a = Check.packed(text, i);
            long b = Check.packed(text, i + 8);
            long c = Check.packed(text, i + 16);
            check.due("feed", x.feed(a, b, c), o.feed(a, b, c));
            calls++;
        }
        if (asHouse) {
            check.due(number + " house of <" + text + ">", x.house(), o.house());
        } else {
            check.due(number + " days of <" + text + ">", x.days(), o.days());
        }
        return calls;
    }

    private String spoiled(String text) {
        String[] words = text.split(" ");
        int at = below(words.length);
        String odd = ODD[below(ODD.length)];
        switch (below(3)) {
            case 0: words[at] = odd; break;
            case 1: words[at] = words[at] + " " + odd; break;
            default: words[at] = words[at] + odd; break;
        }
        return String.join(" ", words);
    }

    private String drawnHouse() {
        int rooms = below(8);
        StringBuilder s = new StringBuilder();
        for (int i = 0; i < rooms; i++) {
            s.append("room ").append(NAMES[i]).append(" ; ");
        }
        boolean law = below(3) > 0;
        if (law && below(2) == 0) {
            s.append("swells ").append(drawnE(0)).append(" ; ");
            law = false;
        }
        int doors = rooms < 2 ? 0 : below(9);
        boolean[] taken = new boolean[64];
        for (int i = 0; i < doors; i++) {
            int a = below(rooms);
            int b = below(rooms);
            if (a != b && !taken[8 * a + b]) {
                taken[8 * a + b] = true;
                taken[8 * b + a] = true;
                int gap = below(4) == 0 ? below(13) : below(4);
                s.append("door ").append(NAMES[a]).append(" ").append(NAMES[b]).append(" ")
                    .append(new String[] {"oak", "pine", "elm", "lime"}[below(4)])
                    .append(" gap ").append(gap).append(" ; ");
            }
        }
        int persons = rooms == 0 ? 0 : below(6);
        for (int i = 0; i < persons; i++) {
            s.append("person ").append(NAMES[9 + i]).append(" in ").append(NAMES[below(rooms)]).append(" ; ");
        }
        if (below(8) > 0) {
            s.append("damp");
            int damps = 1 + below(12);
            for (int i = 0; i < damps; i++) {
                s.append(" ").append(below(3) == 0 ? 9 : below(10));
            }
            s.append(" ; ");
        }
        if (law) {
            s.append("swells ").append(drawnE(0)).append(" ;");
        }
        return s.toString();
    }

    private String drawnE(int depth) {
        String[] joins = {"and", "or", "<", "=", "+", "+", "-", "-", "*"};
        StringBuilder s = new StringBuilder(drawnPart(depth));
        boolean compared = false;
        int more = below(4);
        for (int i = 0; i < more; i++) {
            String join = joins[below(joins.length)];
            boolean compares = join.equals("<") || join.equals("=");
            if (compares && compared && below(20) > 0) {
                join = "and";
                compares = false;
            }
            compared = compares || compared && !join.equals("and") && !join.equals("or");
            s.append(" ").append(join).append(" ").append(drawnPart(depth));
        }
        return s.toString();
    }

    private String drawnPart(int depth) {
        int n = below(depth > 3 && below(30) > 0 ? 6 : 9);
        switch (n) {
            case 0: return "wet";
            case 1: return "swell";
            case 2: return "space";
            case 3: return "date";
            case 4:
            case 5: return String.valueOf(below(10) == 0 ? below(10000) : below(7));
            case 6: return "not " + drawnPart(depth + 1);
            default: return "( " + drawnE(depth + 1) + " )";
        }
    }

    private String drawnDays() {
        StringBuilder s = new StringBuilder();
        int lines = below(10) == 0 ? 39 + below(3) : below(20);
        for (int i = 0; i < lines; i++) {
            switch (below(7)) {
                case 0: s.append("plane ").append(below(8)); break;
                case 1: s.append("wedge ").append(below(8)); break;
                case 2: s.append("force ").append(below(8)); break;
                case 3:
                    if (o.count(2) > 0) {
                        s.append("walk ").append(NAMES[9 + below(o.count(2))]).append(" ").append(below(8));
                        break;
                    }
                    s.append("day");
                    break;
                default: s.append("day"); break;
            }
            s.append(" ; ");
        }
        return s.toString();
    }

    /** Mostly a number that is there, now and then one that is not. */
    private int some(int count) {
        return below(12) == 0 ? below(count + 3) - 1 : below(Math.max(1, count));
    }

    private void ask(int run) {
        int which = below(60);
        int room = some(7);
        int door = some(o.count(1));
        int person = some(o.count(2));
        int other = some(o.count(2));
        int days = below(15) == 0 ? below(70) - 2 : below(31);
        int what = below(6) - 2;
        boolean yes = below(2) == 0;
        String at = run + " ";
        if (which >= 44) {
            deed(at, which, person, door);
            return;
        }
        if (which < 22) {
            askEarlier(at, which, room, door, person, days);
            return;
        }
        String args = "(" + room + ", " + door + ", " + person + ", " + other + ", " + days + ", " + what + ")";
        switch (which) {
            case 22: check.due(at + "arrives" + args, x.arrives(person, room), o.arrives(person, room)); break;
            case 23: check.due(at + "from" + args, x.from(room, days), o.from(room, days)); break;
            case 24: check.due(at + "both" + args, x.both(person, other), o.both(person, other)); break;
            case 25: check.due(at + "cut" + args, x.cut(room, other), o.cut(room, other)); break;
            case 26: check.due(at + "planed" + args, x.planed(days, what), o.planed(days, what)); break;
            case 27: check.due(at + "feel" + args, x.feel(door, days, yes), o.feel(door, days, yes)); break;
            case 28: check.due(at + "wets" + args, x.wets(), o.wets()); break;
            case 29: check.due(at + "tries" + args, x.tries(), o.tries()); break;
            case 30: check.due(at + "say" + args, x.say(room, days), o.say(room, days)); break;
            case 31: check.due(at + "who" + args, x.who(), o.who()); break;
            case 32: check.due(at + "rattles" + args, x.rattles(), o.rattles()); break;
            case 33: check.due(at + "parts" + args, x.parts(), o.parts()); break;
            case 34: check.due(at + "bride" + args, x.bride(), o.bride()); break;
            case 35: check.due(at + "worst" + args, x.worst(), o.worst()); break;
            case 36: check.due(at + "spared" + args, x.spared(), o.spared()); break;
            case 37: check.due(at + "opened" + args, x.opened(), o.opened()); break;
            case 38: check.due(at + "deep" + args, x.deep(room), o.deep(room)); break;
            case 39: check.due(at + "alone" + args, x.alone(), o.alone()); break;
            case 40: chance(at, door); break;
            case 41: rests(at, what); break;
            case 42: years(at, what); break;
            default: mark(at, yes); break;
        }
    }

    private void chance(String at, int door) {
        int days = below(9) - 1;
        int odds = below(14) - 2;
        check.due(at + "chance(" + door + ", " + days + ", " + odds + ")", x.chance(door, days, odds),
            o.chance(door, days, odds));
    }

    private void years(String at, int what) {
        int seed = below(12) == 0 ? below(20000) - 5000 : below(10000);
        int days = below(103) - 1;
        check.due(at + "years(" + seed + ", " + days + ", " + what + ")", x.years(seed, days, what),
            o.years(seed, days, what));
    }

    private void mark(String at, boolean back) {
        int mark = below(6) - 1;
        check.due(at + "mark(" + mark + ", " + back + ")", x.mark(mark, back), o.mark(mark, back));
    }

    private void rests(String at, int what) {
        int lose = below(10) == 0 ? below(14) - 2 : below(3);
        int wets = below(10) == 0 ? below(14) - 2 : below(3);
        int dries = below(10) == 0 ? below(14) - 2 : below(3);
        long got = 99;
        long want = 99;
        try {
            got = x.rests(lose, wets, dries, what);
        } catch (NoSuchElementException e) {
            got = 98;
        }
        try {
            want = o.rests(lose, wets, dries, what);
        } catch (NoSuchElementException e) {
            want = 98;
        }
        check.due(at + "rests(" + lose + ", " + wets + ", " + dries + ", " + what + ")", got, want);
    }

    private void askEarlier(String at, int which, int room, int door, int person, int days) {
        int what = below(9) - 1;
        int counted = below(15) - 1;
        String args = "(" + room + ", " + door + ", " + person + ", " + days + ")";
        switch (which) {
            case 0:
            case 1: check.due(at + "door" + args + what, x.door(door, what), o.door(door, what)); break;
            case 2: check.due(at + "person" + args, x.person(person), o.person(person)); break;
            case 3: check.due(at + "judged 0", x.judged(0), o.judged(0)); break;
            case 4: check.due(at + "judged 1", x.judged(1), o.judged(1)); break;
            case 5: check.due(at + "judged 2", x.judged(2), o.judged(2)); break;
            case 6: check.due(at + "judged " + what, x.judged(what), o.judged(what)); break;
            case 7: check.due(at + "shut", x.shut(), o.shut()); break;
            case 8: check.due(at + "range" + args, x.range(room), o.range(room)); break;
            case 9: check.due(at + "company" + args, x.company(person), o.company(person)); break;
            case 10: check.due(at + "later" + args, x.later(door, days), o.later(door, days)); break;
            case 11: check.due(at + "closes" + args, x.closes(door), o.closes(door)); break;
            case 12: check.due(at + "gives" + args, x.gives(door), o.gives(door)); break;
            case 13: check.due(at + "calm", x.calm(), o.calm()); break;
            case 14: check.due(at + "hard", x.hard(), o.hard()); break;
            default: check.due(at + "count(" + counted + ")", x.count(counted), o.count(counted)); break;
        }
    }

    private void deed(String at, int which, int person, int door) {
        String args = "(" + person + ", " + door + ")";
        switch (which) {
            case 44:
            case 45:
            case 46: check.due(at + "walk" + args, x.walk(person, door), o.walk(person, door)); break;
            case 47:
            case 48: check.due(at + "plane" + args, x.plane(door), o.plane(door)); break;
            case 49: check.due(at + "wedge" + args, x.wedge(door), o.wedge(door)); break;
            case 50:
            case 51: check.due(at + "force" + args, x.force(door), o.force(door)); break;
            case 52:
            case 53: check.due(at + "undo", x.undo(), o.undo()); break;
            default: check.due(at + "day", x.day(), o.day()); break;
        }
    }
}
