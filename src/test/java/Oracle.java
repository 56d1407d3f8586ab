import java.util.ArrayDeque;
import java.util.ArrayList;
import java.util.Arrays;
import java.util.Comparator;
import java.util.HashMap;
import java.util.HashSet;
import java.util.List;
import java.util.Map;
import java.util.NoSuchElementException;
import java.util.Set;
import java.util.TreeSet;
import java.util.function.ToIntFunction;

/**
 * The document told a second time, by other means (texts, sets, plain search), so that OracleTest can
 * hold the answers of SwollenHouse against it.
 */
final class Oracle {
    private static final List<String> WOODS = List.of("oak", "pine", "elm", "lime");
    private static final Set<String> RESERVED = Set.of("room", "door", "gap", "person", "in", "damp", "swells",
        "day", "walk", "plane", "wedge", "force", "oak", "pine", "elm", "lime", "not", "and", "or");
    private static final Set<String> FACTS = Set.of("wet", "swell", "space", "date");

    /** A fault ends the reading. */
    private static final class Fault extends RuntimeException {
        private static final long serialVersionUID = 1L;
        final int number;

        Fault(int kind, Token token) {
            super("fault", null, false, false);
            number = kind + 16 * token.place;
        }
    }

    private record Token(String text, int place, char kind) { }

    private record Door(int one, int two, int wood) { }

    private record Facts(int wet, int swell, int space, int date) { }

    private record Line(String deed, int person, int door) { }

    private record Felt(int door, int days, boolean sticks) { }

    private record Said(int room, int days) { }

    private static final class House {
        final List<String> rooms = new ArrayList<>();
        final List<Door> doors = new ArrayList<>();
        final List<Integer> gaps = new ArrayList<>();
        final List<String> persons = new ArrayList<>();
        final List<Integer> starts = new ArrayList<>();
        List<Integer> damp;
        ToIntFunction<Facts> swells;
    }

    private static final class Present {
        int day;
        List<Integer> gaps = new ArrayList<>();
        List<Integer> swollen = new ArrayList<>();
        Set<Integer> wedges = new HashSet<>();
        List<Integer> places = new ArrayList<>();

        Present copy() {
            Present p = new Present();
            p.day = day;
            p.gaps = new ArrayList<>(gaps);
            p.swollen = new ArrayList<>(swollen);
            p.wedges = new HashSet<>(wedges);
            p.places = new ArrayList<>(places);
            return p;
        }
    }

    private record Laid(Present present, List<Felt> felt, List<Said> said) { }

    private final StringBuilder tape = new StringBuilder();
    private House house = new House();
    private List<Line> daysTold = List.of();
    private Present now = new Present();
    private final ArrayDeque<Present> past = new ArrayDeque<>();
    private List<Felt> felt = new ArrayList<>();
    private List<Said> said = new ArrayList<>();
    private final Map<Integer, Laid> marks = new HashMap<>();

    // ---- the tape

    int feed(long a, long b, long c) {
        for (long number : new long[] {a, b, c}) {
            for (int i = 7; i >= 0; i--) {
                int sign = (int) (number >>> 8 * i) & 0xff;
                if ((sign == 10 || sign >= 32 && sign < 127) && tape.length() < 1000) {
                    tape.append((char) sign);
                }
            }
        }
        return tape.length();
    }

    private static List<Token> tokens(String text) {
        List<Token> found = new ArrayList<>();
        int i = 0;
        while (i < text.length()) {
            String rest = text.substring(i);
            String word = rest.replaceFirst("(?s)[^a-z].*", "");
            String number = rest.replaceFirst("(?s)[^0-9].*", "");
            char sign = text.charAt(i);
            if (sign == 10 || sign == 32) {
                i++;
            } else if (!word.isEmpty()) {
                found.add(new Token(word, i, word.length() > 8 ? '?' : 'w'));
                i += word.length();
            } else if (!number.isEmpty()) {
                found.add(new Token(number, i, number.length() > 4 ? '?' : 'n'));
                i += number.length();
            } else {
                found.add(new Token(rest.substring(0, 1), i, "()<=+-*;".indexOf(sign) >= 0 ? 's' : '?'));
                i++;
            }
        }
        found.add(new Token("", text.length(), 'e'));
        return found;
    }

    /** Walks over the tokens and throws the first fault. */
    private static final class Walker {
        final List<Token> tokens;
        int at;

        Walker(String text) {
            tokens = tokens(text);
        }

        Token peek() {
            return tokens.get(at);
        }

        boolean ended() {
            return peek().kind == 'e';
        }

        boolean is(String text) {
            return peek().kind != '?' && !ended() && peek().text.equals(text);
        }

        boolean take(String text) {
            if (is(text)) {
                at++;
                return true;
            }
            return false;
        }

        void need(String text) {
            if (!take(text)) {
                throw new Fault(1, peek());
            }
        }

        Token name() {
            Token t = peek();
            if (t.kind != 'w' || RESERVED.contains(t.text)) {
                throw new Fault(1, t);
            }
            at++;
            return t;
        }

        int number(int most) {
            Token t = peek();
            if (t.kind != 'n') {
                throw new Fault(1, t);
            }
            if (Integer.parseInt(t.text) > most) {
                throw new Fault(4, t);
            }
            at++;
            return Integer.parseInt(t.text);
        }
    }

    int house() {
        String text = tape.toString();
        tape.setLength(0);
        House told = new House();
        try {
            readHouse(new Walker(text), told);
        } catch (Fault f) {
            return f.number;
        }
        house = told;
        now = begin();
        daysTold = List.of();
        past.clear();
        felt.clear();
        said.clear();
        marks.clear();
        return 0;
    }

    private Present begin() {
        Present p = new Present();
        p.gaps = new ArrayList<>(house.gaps);
        for (int i = 0; i < house.doors.size(); i++) {
            p.swollen.add(0);
        }
        p.places = new ArrayList<>(house.starts);
        return p;
    }

    private static void readHouse(Walker w, House h) {
        while (!w.ended()) {
            Token head = w.peek();
            if (w.take("room")) {
                if (h.rooms.size() == 7) {
                    throw new Fault(5, head);
                }
                h.rooms.add(newName(w, h));
            } else if (w.take("door")) {
                if (h.doors.size() == 8) {
                    throw new Fault(5, head);
                }
                readDoor(w, h);
            } else if (w.take("person")) {
                if (h.persons.size() == 5) {
                    throw new Fault(5, head);
                }
                String name = newName(w, h);
                w.need("in");
                h.starts.add(oldRoom(w, h));
                h.persons.add(name);
            } else if (w.take("damp")) {
                if (h.damp != null) {
                    throw new Fault(3, head);
                }
                readDamp(w, h);
            } else if (w.take("swells")) {
                if (h.swells != null) {
                    throw new Fault(3, head);
                }
                h.swells = readE(w, 0);
            } else {
                throw new Fault(1, head);
            }
            w.need(";");
        }
    }

    private static String newName(Walker w, House h) {
        Token t = w.name();
        if (h.rooms.contains(t.text) || h.persons.contains(t.text)) {
            throw new Fault(3, t);
        }
        return t.text;
    }

    private static int oldRoom(Walker w, House h) {
        Token t = w.name();
        if (!h.rooms.contains(t.text)) {
            throw new Fault(2, t);
        }
        return h.rooms.indexOf(t.text);
    }

    private static void readDoor(Walker w, House h) {
        int one = oldRoom(w, h);
        Token second = w.peek();
        int two = oldRoom(w, h);
        if (one == two) {
            throw new Fault(3, second);
        }
        for (Door d : h.doors) {
            if (Set.of(d.one, d.two).equals(Set.of(one, two))) {
                throw new Fault(3, second);
            }
        }
        Token wood = w.peek();
        if (wood.kind != 'w' || !WOODS.contains(wood.text)) {
            throw new Fault(1, wood);
        }
        w.need(wood.text);
        w.need("gap");
        h.gaps.add(w.number(12));
        h.doors.add(new Door(one, two, WOODS.indexOf(wood.text)));
    }

    private static void readDamp(Walker w, House h) {
        h.damp = new ArrayList<>();
        do {
            Token t = w.peek();
            int n = w.number(9);
            if (h.damp.size() == 12) {
                throw new Fault(5, t);
            }
            h.damp.add(n);
        } while (!w.is(";"));
    }

    private static int truth(boolean b) {
        return b ? 1 : 0;
    }

    private static ToIntFunction<Facts> readE(Walker w, int depth) {
        ToIntFunction<Facts> left = readTest(w, depth);
        while (w.is("and") || w.is("or")) {
            boolean and = w.take("and");
            if (!and) {
                w.need("or");
            }
            ToIntFunction<Facts> a = left;
            ToIntFunction<Facts> b = readTest(w, depth);
            left = and ? f -> truth(a.applyAsInt(f) != 0 && b.applyAsInt(f) != 0)
                : f -> truth(a.applyAsInt(f) != 0 || b.applyAsInt(f) != 0);
        }
        return left;
    }

    private static ToIntFunction<Facts> readTest(Walker w, int depth) {
        ToIntFunction<Facts> a = readSum(w, depth);
        if (w.take("<")) {
            ToIntFunction<Facts> b = readSum(w, depth);
            return f -> truth(a.applyAsInt(f) < b.applyAsInt(f));
        }
        if (w.take("=")) {
            ToIntFunction<Facts> b = readSum(w, depth);
            return f -> truth(a.applyAsInt(f) == b.applyAsInt(f));
        }
        return a;
    }

    private static ToIntFunction<Facts> readSum(Walker w, int depth) {
        ToIntFunction<Facts> left = readProduct(w, depth);
        while (w.is("+") || w.is("-")) {
            int sign = w.take("+") ? 1 : -1;
            if (sign == -1) {
                w.need("-");
            }
            ToIntFunction<Facts> a = left;
            ToIntFunction<Facts> b = readProduct(w, depth);
            left = f -> a.applyAsInt(f) + sign * b.applyAsInt(f);
        }
        return left;
    }

    private static ToIntFunction<Facts> readProduct(Walker w, int depth) {
        ToIntFunction<Facts> left = readPart(w, depth);
        while (w.take("*")) {
            ToIntFunction<Facts> a = left;
            ToIntFunction<Facts> b = readPart(w, depth);
            left = f -> a.applyAsInt(f) * b.applyAsInt(f);
        }
        return left;
    }

    private static ToIntFunction<Facts> readPart(Walker w, int depth) {
        Token t = w.peek();
        boolean fact = t.kind == 'w' && FACTS.contains(t.text);
        if (t.kind != 'n' && !fact && !w.is("not") && !w.is("(")) {
            throw new Fault(1, t);
        }
        if (depth == 5) {
            throw new Fault(5, t);
        }
        w.at++;
        if (t.kind == 'n') {
            int n = Integer.parseInt(t.text);
            return f -> n;
        }
        if (t.text.equals("(")) {
            ToIntFunction<Facts> e = readE(w, depth + 1);
            w.need(")");
            return e;
        }
        if (t.text.equals("not")) {
            ToIntFunction<Facts> e = readPart(w, depth + 1);
            return f -> truth(e.applyAsInt(f) == 0);
        }
        switch (t.text) {
            case "wet": return Facts::wet;
            case "swell": return Facts::swell;
            case "space": return Facts::space;
            default: return Facts::date;
        }
    }

    int days() {
        String text = tape.toString();
        tape.setLength(0);
        List<Line> lines = new ArrayList<>();
        try {
            Walker w = new Walker(text);
            while (!w.ended()) {
                readLine(w, lines);
            }
        } catch (Fault f) {
            return f.number;
        }
        daysTold = lines;
        return 0;
    }

    private void readLine(Walker w, List<Line> lines) {
        Token head = w.peek();
        if (head.kind != 'w' || !Set.of("day", "walk", "plane", "wedge", "force").contains(head.text)) {
            throw new Fault(1, head);
        }
        if (lines.size() == 40) {
            throw new Fault(5, head);
        }
        w.at++;
        int person = -1;
        int door = -1;
        if (head.text.equals("walk")) {
            Token t = w.name();
            person = house.persons.indexOf(t.text);
            if (person < 0) {
                throw new Fault(2, t);
            }
        }
        if (!head.text.equals("day")) {
            door = w.number(7);
        }
        lines.add(new Line(head.text, person, door));
        w.need(";");
    }

    // ---- the house by days

    private int doors() {
        return house.doors.size();
    }

    private boolean isDoor(int d) {
        return d >= 0 && d < doors();
    }

    private boolean isRoom(int r) {
        return r >= 0 && r < house.rooms.size();
    }

    private boolean isPerson(int p) {
        return p >= 0 && p < house.persons.size();
    }

    private int dampOf(int day) {
        return house.damp == null ? 0 : house.damp.get(day % house.damp.size());
    }

    private static boolean sticks(Present p, int d) {
        return p.swollen.get(d) > p.gaps.get(d) && !p.wedges.contains(d);
    }

    private Set<Integer> open(Present p) {
        Set<Integer> open = new TreeSet<>();
        for (int d = 0; d < doors(); d++) {
            if (!sticks(p, d)) {
                open.add(d);
            }
        }
        return open;
    }

    private Set<Integer> stuck(Present p) {
        Set<Integer> stuck = new TreeSet<>();
        for (int d = 0; d < doors(); d++) {
            if (sticks(p, d)) {
                stuck.add(d);
            }
        }
        return stuck;
    }

    private static int bits(Set<Integer> set) {
        return set.stream().mapToInt(i -> 1 << i).sum();
    }

    private Present dayOf(Present p, int wet) {
        Present q = p.copy();
        for (int d = 0; d < doors(); d++) {
            int far = p.swollen.get(d);
            int growth = house.swells == null ? 1
                : house.swells.applyAsInt(new Facts(wet, far, p.gaps.get(d), p.day));
            growth = growth < 0 ? 0 : growth > 9 ? 9 : growth;
            boolean wetter;
            int less;
            switch (house.doors.get(d).wood) {
                case 0: wetter = wet > 6; less = wet < 2 ? 1 : 0; break;
                case 1: wetter = wet > 4; less = wet < 4 ? 2 : 0; break;
                case 2: wetter = wet > 5; less = wet < 1 ? 3 : 0; break;
                default: wetter = wet > 3; less = wet < 3 ? 1 : 0; break;
            }
            if (wetter) {
                q.swollen.set(d, Math.min(30, far + growth));
            } else {
                q.swollen.set(d, Math.max(0, far - less));
            }
        }
        q.day++;
        return q;
    }

    private Present ahead(Present p, int days) {
        Present q = p;
        for (int i = 0; i < days; i++) {
            q = dayOf(q, dampOf(q.day));
        }
        return q;
    }

    private Present aheadBy(Present p, int days, int wet) {
        Present q = p;
        for (int i = 0; i < days; i++) {
            q = dayOf(q, wet);
        }
        return q;
    }

    private void keep() {
        past.addLast(now.copy());
        if (past.size() > 16) {
            past.removeFirst();
        }
    }

    private boolean canDo(Present p, Line l) {
        if (l.deed.equals("day")) {
            return true;
        }
        if (!isDoor(l.door)) {
            return false;
        }
        int by = p.swollen.get(l.door) - p.gaps.get(l.door);
        switch (l.deed) {
            case "walk":
                if (!isPerson(l.person) || sticks(p, l.door)) {
                    return false;
                }
                int at = p.places.get(l.person);
                return house.doors.get(l.door).one == at || house.doors.get(l.door).two == at;
            case "plane": return p.gaps.get(l.door) < 20;
            case "wedge": return !sticks(p, l.door);
            default: return sticks(p, l.door) && by <= 2;
        }
    }

    private Present doneBy(Present p, Line l) {
        if (l.deed.equals("day")) {
            return dayOf(p, dampOf(p.day));
        }
        Present q = p.copy();
        Door door = house.doors.get(l.door);
        switch (l.deed) {
            case "walk": q.places.set(l.person, p.places.get(l.person) == door.one ? door.two : door.one); break;
            case "plane": q.gaps.set(l.door, p.gaps.get(l.door) + 1); break;
            case "wedge":
                if (!q.wedges.remove(l.door)) {
                    q.wedges.add(l.door);
                }
                break;
            default: q.gaps.set(l.door, p.swollen.get(l.door)); break;
        }
        return q;
    }

    private boolean tryDeed(String deed, int person, int door) {
        Line l = new Line(deed, person, door);
        if (!canDo(now, l)) {
            return false;
        }
        keep();
        now = doneBy(now, l);
        return true;
    }

    int day() {
        tryDeed("day", -1, -1);
        return bits(stuck(now));
    }

    int walk(int person, int door) {
        return tryDeed("walk", person, door) ? now.places.get(person) : -1;
    }

    int plane(int door) {
        return tryDeed("plane", -1, door) ? now.gaps.get(door) : -1;
    }

    int wedge(int door) {
        return tryDeed("wedge", -1, door) ? truth(now.wedges.contains(door)) : -1;
    }

    int force(int door) {
        return tryDeed("force", -1, door) ? now.gaps.get(door) : -1;
    }

    boolean undo() {
        if (past.isEmpty()) {
            return false;
        }
        now = past.removeLast();
        return true;
    }

    boolean mark(int mark, boolean back) {
        if (mark < 0 || mark > 3) {
            return false;
        }
        if (!back) {
            marks.put(mark, new Laid(now.copy(), List.copyOf(felt), List.copyOf(said)));
            return true;
        }
        Laid laid = marks.get(mark);
        if (laid == null) {
            return false;
        }
        now = laid.present.copy();
        felt = new ArrayList<>(laid.felt);
        said = new ArrayList<>(laid.said);
        past.clear();
        return true;
    }

    int judged(int what) {
        Present p = begin();
        int cant = -1;
        int shut = -1;
        for (int i = 0; i < daysTold.size(); i++) {
            Line l = daysTold.get(i);
            if (canDo(p, l)) {
                p = doneBy(p, l);
                if (shut < 0 && shutOf(p) != 0) {
                    shut = i;
                }
            } else if (cant < 0) {
                cant = i;
            }
        }
        switch (what) {
            case 0: return cant;
            case 1: return shut;
            case 2: return stuck(p).size();
            default: return -2;
        }
    }

    int door(int door, int what) {
        if (!isDoor(door)) {
            return -2;
        }
        switch (what) {
            case 0: return house.doors.get(door).one;
            case 1: return house.doors.get(door).two;
            case 2: return house.doors.get(door).wood;
            case 3: return now.gaps.get(door);
            case 4: return now.swollen.get(door);
            case 5: return truth(now.wedges.contains(door));
            case 6: return truth(sticks(now, door));
            default: return -2;
        }
    }

    int person(int person) {
        return isPerson(person) ? now.places.get(person) : -1;
    }

    int count(int what) {
        int together = now.swollen.stream().mapToInt(i -> i).sum();
        int[] answers = {house.rooms.size(), doors(), house.persons.size(), now.day, dampOf(now.day),
            bits(stuck(now)), bits(now.wedges), together, daysTold.size(), felt.size(), said.size(),
            past.size(), tape.length()};
        return what >= 0 && what < answers.length ? answers[what] : -1;
    }

    // ---- what is asked

    private int shutOf(Present p) {
        Set<Integer> shut = new TreeSet<>();
        for (int i = 0; i < house.persons.size(); i++) {
            int at = p.places.get(i);
            int own = 0;
            int stuck = 0;
            for (int d = 0; d < doors(); d++) {
                if (house.doors.get(d).one == at || house.doors.get(d).two == at) {
                    own++;
                    stuck += truth(sticks(p, d));
                }
            }
            if (own > 0 && own == stuck) {
                shut.add(i);
            }
        }
        return bits(shut);
    }

    int shut() {
        return shutOf(now);
    }

    /** How many doors each room is away; rooms out of range are left out. */
    private Map<Integer, Integer> distances(int room, Set<Integer> open) {
        Map<Integer, Integer> far = new HashMap<>();
        ArrayDeque<Integer> queue = new ArrayDeque<>();
        far.put(room, 0);
        queue.add(room);
        while (!queue.isEmpty()) {
            int at = queue.remove();
            for (int d : open) {
                Door door = house.doors.get(d);
                int to = door.one == at ? door.two : door.two == at ? door.one : -1;
                if (to >= 0 && !far.containsKey(to)) {
                    far.put(to, far.get(at) + 1);
                    queue.add(to);
                }
            }
        }
        return far;
    }

    private Set<Integer> reach(int room, Set<Integer> open) {
        return distances(room, open).keySet();
    }

    int range(int room) {
        return isRoom(room) ? bits(reach(room, open(now))) : -1;
    }

    private Set<Integer> friends(int person, Set<Integer> open) {
        Set<Integer> found = new TreeSet<>();
        for (int i = 0; i < house.persons.size(); i++) {
            if (i != person && reach(now.places.get(person), open).contains(now.places.get(i))) {
                found.add(i);
            }
        }
        return found;
    }

    int company(int person) {
        return isPerson(person) ? bits(friends(person, open(now))) : -1;
    }

    int later(int door, int days) {
        return isDoor(door) && days >= 0 && days <= 60 ? ahead(now, days).swollen.get(door) : -1;
    }

    int closes(int door) {
        for (int i = 0; isDoor(door) && i <= 60; i++) {
            if (sticks(ahead(now, i), door)) {
                return i;
            }
        }
        return -1;
    }

    int gives(int door) {
        for (int i = 0; isDoor(door) && i <= 60; i++) {
            if (!sticks(ahead(now, i), door)) {
                return i;
            }
        }
        return -1;
    }

    int calm() {
        for (int i = 0; i <= 60; i++) {
            if (stuck(ahead(now, i)).isEmpty()) {
                return i;
            }
        }
        return -1;
    }

    int hard() {
        int best = 0;
        int most = -1;
        for (int i = 0; i <= 60; i++) {
            int n = stuck(ahead(now, i)).size();
            if (n > most) {
                most = n;
                best = i;
            }
        }
        return best;
    }

    /** For each number of days, 0 to 40, the rooms in which one who starts in a room can be. */
    private List<Set<Integer>> walks(int room) {
        List<Set<Integer>> all = new ArrayList<>();
        all.add(Set.of(room));
        Present p = now;
        for (int i = 1; i <= 40; i++) {
            Set<Integer> next = new TreeSet<>(all.get(i - 1));
            for (int d : open(p)) {
                Door door = house.doors.get(d);
                if (all.get(i - 1).contains(door.one)) {
                    next.add(door.two);
                }
                if (all.get(i - 1).contains(door.two)) {
                    next.add(door.one);
                }
            }
            all.add(next);
            p = ahead(p, 1);
        }
        return all;
    }

    int arrives(int person, int room) {
        if (!isPerson(person) || !isRoom(room)) {
            return -1;
        }
        List<Set<Integer>> walks = walks(now.places.get(person));
        for (int i = 0; i <= 40; i++) {
            if (walks.get(i).contains(room)) {
                return i;
            }
        }
        return -1;
    }

    private Set<Integer> starts(int room, int days) {
        Set<Integer> from = new TreeSet<>();
        for (int r = 0; r < house.rooms.size(); r++) {
            if (walks(r).get(days).contains(room)) {
                from.add(r);
            }
        }
        return from;
    }

    int from(int room, int days) {
        return isRoom(room) && days >= 0 && days <= 40 ? bits(starts(room, days)) : -1;
    }

    int both(int person, int other) {
        if (!isPerson(person) || !isPerson(other) || person == other) {
            return -1;
        }
        List<Set<Integer>> one = walks(now.places.get(person));
        List<Set<Integer>> two = walks(now.places.get(other));
        for (int i = 0; i <= 40; i++) {
            Set<Integer> shared = new HashSet<>(one.get(i));
            shared.retainAll(two.get(i));
            if (!shared.isEmpty()) {
                return i;
            }
        }
        return -1;
    }

    int cut(int room, int other) {
        if (!isRoom(room) || !isRoom(other) || room == other) {
            return -1;
        }
        Integer[] sets = new Integer[256];
        Arrays.setAll(sets, i -> i);
        Arrays.sort(sets, Comparator.comparing((Integer i) -> Integer.bitCount(i)).thenComparing(i -> i));
        for (int set : sets) {
            Set<Integer> left = new TreeSet<>(open(now));
            left.removeIf(d -> (set >> d & 1) == 1);
            boolean ofOpen = left.size() == open(now).size() - Integer.bitCount(set);
            if (ofOpen && !reach(room, left).contains(other)) {
                return set;
            }
        }
        throw new IllegalStateException();
    }

    /** All rows of so many doors, in any order, the first ones first. */
    private List<List<Integer>> rows(int size) {
        List<List<Integer>> rows = List.of(List.of());
        for (int i = 0; i < size; i++) {
            List<List<Integer>> longer = new ArrayList<>();
            for (List<Integer> row : rows) {
                for (int d = 0; d < doors(); d++) {
                    List<Integer> next = new ArrayList<>(row);
                    next.add(d);
                    longer.add(next);
                }
            }
            rows = longer;
        }
        return rows;
    }

    private boolean meets(List<Integer> row, int days) {
        Present p = now;
        for (int d : row) {
            Line l = new Line("plane", -1, d);
            if (!canDo(p, l)) {
                return false;
            }
            p = doneBy(p, l);
        }
        Set<Integer> open = open(ahead(p, days));
        for (int at : now.places) {
            if (!reach(now.places.get(0), open).contains(at)) {
                return false;
            }
        }
        return true;
    }

    int planed(int days, int what) {
        if (days < 0 || days > 30 || what < -1) {
            return -2;
        }
        for (int size = 0; size <= 3; size++) {
            for (List<Integer> row : rows(size)) {
                if (meets(row, days)) {
                    return what == -1 ? size : what < size ? row.get(what) : -2;
                }
            }
        }
        return -2;
    }

    boolean feel(int door, int days, boolean sticks) {
        return isDoor(door) && days >= 1 && days <= 30 && felt.size() < 8 && felt.add(new Felt(door, days, sticks));
    }

    private Set<Integer> wetsFelt() {
        Set<Integer> wets = new TreeSet<>();
        for (int w = 0; w <= 9; w++) {
            int wet = w;
            if (felt.stream().allMatch(f -> sticks(aheadBy(now, f.days, wet), f.door) == f.sticks)) {
                wets.add(w);
            }
        }
        return wets;
    }

    int wets() {
        return bits(wetsFelt());
    }

    int tries() {
        Set<Integer> wets = wetsFelt();
        int least = wets.size();
        int best = -1;
        for (int days = 1; days <= 30; days++) {
            for (int d = 0; d < doors(); d++) {
                int n = 0;
                for (int w : wets) {
                    n += truth(sticks(aheadBy(now, days, w), d));
                }
                int greater = Math.max(n, wets.size() - n);
                if (greater < least) {
                    least = greater;
                    best = 8 * days + d;
                }
            }
        }
        return best;
    }

    boolean say(int room, int days) {
        return isRoom(room) && days >= 0 && days <= 40 && said.size() < 8 && said.add(new Said(room, days));
    }

    int who() {
        Set<Integer> who = new TreeSet<>();
        for (int i = 0; i < house.persons.size(); i++) {
            List<Set<Integer>> walks = walks(now.places.get(i));
            if (said.stream().allMatch(s -> walks.get(s.days).contains(s.room))) {
                who.add(i);
            }
        }
        return bits(who);
    }

    int rattles() {
        Set<Integer> rattling = new TreeSet<>();
        for (int d = 0; d < doors(); d++) {
            if (now.gaps.get(d) - now.swollen.get(d) > 5) {
                rattling.add(d);
            }
        }
        return bits(rattling);
    }

    int parts() {
        Set<Set<Integer>> parts = new HashSet<>();
        for (int r = 0; r < house.rooms.size(); r++) {
            parts.add(Set.copyOf(reach(r, open(now))));
        }
        return parts.size();
    }

    int bride() {
        int best = -1;
        for (int i = 0; i < house.persons.size(); i++) {
            int size = reach(now.places.get(i), open(now)).size();
            if (best < 0 || size < reach(now.places.get(best), open(now)).size()) {
                best = i;
            }
        }
        return best;
    }

    int worst() {
        int best = -1;
        for (int d : stuck(now)) {
            int by = now.swollen.get(d) - now.gaps.get(d);
            if (best < 0 || by > now.swollen.get(best) - now.gaps.get(best)) {
                best = d;
            }
        }
        return best;
    }

    int spared() {
        Set<Integer> spared = new TreeSet<>();
        for (int d : open(now)) {
            Set<Integer> left = new TreeSet<>(open(now));
            left.remove(d);
            boolean less = false;
            for (int r = 0; r < house.rooms.size(); r++) {
                less |= reach(r, left).size() < reach(r, open(now)).size();
            }
            if (!less) {
                spared.add(d);
            }
        }
        return bits(spared);
    }

    private int pairs(Set<Integer> open) {
        int pairs = 0;
        for (int i = 0; i < house.persons.size(); i++) {
            for (int k = 0; k < i; k++) {
                pairs += truth(reach(now.places.get(i), open).contains(now.places.get(k)));
            }
        }
        return pairs;
    }

    int opened() {
        int best = -1;
        int most = 0;
        for (int d : stuck(now)) {
            Set<Integer> more = new TreeSet<>(open(now));
            more.add(d);
            int gained = pairs(more) - pairs(open(now));
            if (gained > most) {
                most = gained;
                best = d;
            }
        }
        return best;
    }

    int deep(int room) {
        if (!isRoom(room)) {
            return -1;
        }
        return distances(room, open(now)).values().stream().mapToInt(i -> i).max().orElse(0);
    }

    int alone() {
        Set<Integer> alone = new TreeSet<>();
        for (int i = 0; i < house.persons.size(); i++) {
            if (friends(i, open(now)).isEmpty()) {
                alone.add(i);
            }
        }
        return bits(alone);
    }

    /** The chance in parts of 10 to the days. */
    private long parts(Present p, int door, int days, int odds) {
        if (days == 0) {
            return truth(sticks(p, door));
        }
        return odds * parts(dayOf(p, 9), door, days - 1, odds)
            + (10 - odds) * parts(dayOf(p, 0), door, days - 1, odds);
    }

    int chance(int door, int days, int odds) {
        if (!isDoor(door) || days < 1 || days > 6 || odds < 0 || odds > 10) {
            return -1;
        }
        long of = 1;
        for (int i = 0; i < days; i++) {
            of *= 10;
        }
        return (int) (parts(now, door, days, odds) * 1000000L / of);
    }

    int rests(int lose, int wets, int dries, int what) {
        for (int n : new int[] {lose, wets, dries}) {
            if (n < 0 || n > 9) {
                throw new NoSuchElementException();
            }
        }
        // What the first one gets, by his choice and the other one's.
        int[][] gets = {{0, dries}, {wets, -lose}};
        List<Integer> rests = new ArrayList<>();
        for (int a = 0; a < 2; a++) {
            for (int b = 0; b < 2; b++) {
                if (gets[a][b] >= gets[1 - a][b] && gets[b][a] >= gets[1 - b][a]) {
                    rests.add(2 * a + b);
                }
            }
        }
        if (what == -1) {
            return rests.size();
        }
        if (what < 0 || what >= rests.size()) {
            throw new NoSuchElementException();
        }
        return rests.get(what);
    }

    private java.math.BigInteger g;

    private int draw(int m) {
        g = g.multiply(java.math.BigInteger.valueOf(1103515245)).add(java.math.BigInteger.valueOf(12345))
            .mod(java.math.BigInteger.valueOf(2147483648L));
        return (int) (g.longValue() / 65536 % m);
    }

    int years(int seed, int days, int what) {
        if (seed < 0 || seed > 9999 || days < 1 || days > 99 || what < 0 || what > 2) {
            return -1;
        }
        g = java.math.BigInteger.valueOf(seed);
        Present p = now.copy();
        int walks = 0;
        for (int i = 0; i < days; i++) {
            if (doors() > 0) {
                int deed = draw(5);
                Line l = null;
                if (deed == 0) {
                    l = new Line("plane", -1, draw(doors()));
                } else if (deed == 1 && !house.persons.isEmpty()) {
                    int person = draw(house.persons.size());
                    l = new Line("walk", person, draw(doors()));
                } else if (deed == 2) {
                    l = new Line("force", -1, draw(doors()));
                }
                if (l != null && canDo(p, l)) {
                    p = doneBy(p, l);
                    walks += truth(deed == 1);
                }
            }
            p = ahead(p, 1);
        }
        int together = p.swollen.stream().mapToInt(n -> n).sum();
        return what == 0 ? walks : what == 1 ? stuck(p).size() : together;
    }
}
