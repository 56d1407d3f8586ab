import java.util.NoSuchElementException;

/** A house whose doors swell with the damp: see ../shared/DOC.md for what each call promises. */
public final class SwollenHouse {
    public static final int NONE = -1;

    private static final int OTHERS = -2;

    private static final int TAPE_MOST = 1000;
    private static final int ROOMS_MOST = 7;
    private static final int DOORS_MOST = 8;
    private static final int PERSONS_MOST = 5;
    private static final int DAMPS_MOST = 12;
    private static final int LINES_MOST = 40;
    private static final int UNDONE_MOST = 16;
    private static final int MARKS_MOST = 4;
    private static final int NOTES_MOST = 8;
    private static final int PLANINGS_MOST = 3;

    private static final int DAMP_MOST = 9;
    private static final int GAP_TOLD_MOST = 12;
    private static final int GAP_PLANED_MOST = 20;
    private static final int GROWTH_MOST = 9;
    private static final int SWOLLEN_MOST = 30;
    private static final int FORCED_MOST = 2;
    private static final int RATTLE = 6;

    private static final int AHEAD_MOST = 60;
    private static final int WALKS_MOST = 40;
    private static final int PLANED_AHEAD_MOST = 30;
    private static final int FELT_AHEAD_MOST = 30;
    private static final int CHANCE_DAYS_MOST = 6;
    private static final int ODDS_MOST = 10;
    private static final int STAKE_MOST = 9;
    private static final int SEED_MOST = 9999;
    private static final int YEARS_DAYS_MOST = 99;

    private static final int CANT_STAND = 1;
    private static final int UNKNOWN = 2;
    private static final int TOLD_ALREADY = 3;
    private static final int NOT_AS_TOLD = 4;
    private static final int TOO_MANY = 5;

    private static final int LINE_DAY = 0;
    private static final int LINE_WALK = 1;
    private static final int LINE_PLANE = 2;
    private static final int LINE_WEDGE = 3;
    private static final int LINE_FORCE = 4;

    private final Plan plan;
    private final Plan draft;
    private final Tape tape;
    private final HouseReader houseReader;
    private final DaysReader daysReader;
    private final int[] lines;
    private final State now;
    private final State trial;
    private final History history;
    private final Rumours rumours;
    private final Mark[] marks;
    private final Outlook outlook;
    private final Planer planer;
    private int lineCount;
    private long drawn;

    public SwollenHouse() {
        plan = new Plan();
        draft = new Plan();
        tape = new Tape();
        houseReader = new HouseReader(tape);
        daysReader = new DaysReader(tape);
        lines = new int[LINES_MOST];
        now = new State(plan);
        trial = new State(plan);
        history = new History(plan);
        rumours = new Rumours();
        marks = new Mark[MARKS_MOST];
        for (int i = 0; i < MARKS_MOST; i++) {
            marks[i] = new Mark(plan);
        }
        outlook = new Outlook(now);
        planer = new Planer(now, outlook);
    }

    // ---- telling

    public int feed(long a, long b, long c) {
        tape.putBytes(a);
        tape.putBytes(b);
        tape.putBytes(c);
        return tape.length;
    }

    public int house() {
        int fault = houseReader.read(draft);
        tape.length = 0;
        if (fault == 0) {
            plan.copyFrom(draft);
            startAnew();
        }
        return fault;
    }

    private void startAnew() {
        now.begin();
        lineCount = 0;
        history.size = 0;
        rumours.felt = 0;
        rumours.said = 0;
        for (int i = 0; i < MARKS_MOST; i++) {
            marks[i].laid = false;
        }
    }

    public int days() {
        int fault = daysReader.read(plan);
        tape.length = 0;
        // What is told is not done: the history holds deeds alone, and no mark holds the DAYS.
        if (fault == 0) {
            lineCount = daysReader.count;
            System.arraycopy(daysReader.lines, 0, lines, 0, LINES_MOST);
        }
        return fault;
    }

    // ---- what is so

    public int door(int door, int what) {
        if (!plan.hasDoor(door)) {
            return OTHERS;
        }
        switch (what) {
            case 0: return plan.first[door];
            case 1: return plan.second[door];
            case 2: return plan.wood[door];
            case 3: return now.gap[door];
            case 4: return now.swollen[door];
            case 5: return now.hasWedge(door) ? 1 : 0;
            case 6: return now.isStuck(door) ? 1 : 0;
            default: return OTHERS;
        }
    }

    public int person(int person) {
        return plan.hasPerson(person) ? now.place[person] : NONE;
    }

    public int count(int what) {
        switch (what) {
            case 0: return plan.rooms;
            case 1: return plan.doors;
            case 2: return plan.persons;
            case 3: return now.day;
            case 4: return plan.dampOn(now.day);
            case 5: return now.stuckDoors();
            case 6: return now.wedges;
            case 7: return now.swollenTogether();
            case 8: return lineCount;
            case 9: return rumours.felt;
            case 10: return rumours.said;
            case 11: return history.size;
            case 12: return tape.length;
            default: return NONE;
        }
    }

    // ---- what is done

    public int day() {
        history.keep(now);
        now.passDay();
        return now.stuckDoors();
    }

    public int walk(int person, int door) {
        if (!now.canWalk(person, door)) {
            return NONE;
        }
        history.keep(now);
        now.makeWalk(person, door);
        return now.place[person];
    }

    public int plane(int door) {
        if (!now.canPlane(door)) {
            return NONE;
        }
        history.keep(now);
        now.makePlaning(door);
        return now.gap[door];
    }

    public int wedge(int door) {
        if (!now.canWedge(door)) {
            return NONE;
        }
        history.keep(now);
        now.turnWedge(door);
        return now.hasWedge(door) ? 1 : 0;
    }

    public int force(int door) {
        if (!now.canForce(door)) {
            return NONE;
        }
        history.keep(now);
        now.makeForcing(door);
        return now.gap[door];
    }

    public boolean undo() {
        return history.bringBack(now);
    }

    public boolean mark(int mark, boolean back) {
        if (mark < 0 || mark >= MARKS_MOST) {
            return false;
        }
        Mark chosen = marks[mark];
        if (!back) {
            chosen.lay(now, rumours);
            return true;
        }
        if (!chosen.laid) {
            return false;
        }
        chosen.bringBack(now, rumours);
        history.size = 0;
        return true;
    }

    public int judged(int what) {
        if (what < 0 || what > 2) {
            return OTHERS;
        }
        int impossible = NONE;
        int shutting = NONE;
        trial.begin();
        for (int i = 0; i < lineCount && i < LINES_MOST; i++) {
            boolean could = trial.followLine(lines[i]);
            if (!could && impossible == NONE) {
                impossible = i;
            }
            if (shutting == NONE && trial.shutPersons() != 0) {
                shutting = i;
            }
        }
        if (what == 0) {
            return impossible;
        }
        return what == 1 ? shutting : Integer.bitCount(trial.stuckDoors());
    }

    // ---- what is asked of this day

    public int shut() {
        return now.shutPersons();
    }

    public int range(int room) {
        return plan.hasRoom(room) ? plan.roomsReached(room, now.openDoors()) : NONE;
    }

    public int company(int person) {
        return plan.hasPerson(person) ? now.companyOf(person, now.openDoors()) : NONE;
    }

    public int alone() {
        int open = now.openDoors();
        int bits = 0;
        for (int i = 0; i < plan.persons; i++) {
            if (now.companyOf(i, open) == 0) {
                bits |= 1 << i;
            }
        }
        return bits;
    }

    public int rattles() {
        int bits = 0;
        for (int i = 0; i < plan.doors; i++) {
            if (now.gap[i] >= now.swollen[i] + RATTLE) {
                bits |= 1 << i;
            }
        }
        return bits;
    }

    public int parts() {
        int open = now.openDoors();
        int seen = 0;
        int parts = 0;
        for (int i = 0; i < plan.rooms; i++) {
            if ((seen >> i & 1) == 0) {
                seen |= plan.roomsReached(i, open);
                parts++;
            }
        }
        return parts;
    }

    public int bride() {
        int open = now.openDoors();
        int bride = NONE;
        int least = ROOMS_MOST + 1;
        for (int i = 0; i < plan.persons; i++) {
            int rooms = Integer.bitCount(plan.roomsReached(now.place[i], open));
            if (rooms < least) {
                least = rooms;
                bride = i;
            }
        }
        return bride;
    }

    public int worst() {
        int worst = NONE;
        int farthest = 0;
        for (int i = 0; i < plan.doors; i++) {
            int by = now.swollen[i] - now.gap[i];
            if (now.isStuck(i) && by > farthest) {
                farthest = by;
                worst = i;
            }
        }
        return worst;
    }

    public int spared() {
        int open = now.openDoors();
        int bits = 0;
        for (int i = 0; i < plan.doors; i++) {
            int bit = 1 << i;
            if ((open & bit) != 0 && plan.isJoined(plan.first[i], plan.second[i], open & ~bit)) {
                bits |= bit;
            }
        }
        return bits;
    }

    public int opened() {
        int open = now.openDoors();
        int most = now.pairsTogether(open);
        int opened = NONE;
        for (int i = 0; i < plan.doors; i++) {
            if (!now.isStuck(i)) {
                continue;
            }
            int pairs = now.pairsTogether(open | 1 << i);
            if (pairs > most) {
                most = pairs;
                opened = i;
            }
        }
        return opened;
    }

    public int deep(int room) {
        if (!plan.hasRoom(room)) {
            return NONE;
        }
        int open = now.openDoors();
        int reached = 1 << room;
        int deep = 0;
        for (int i = 0; i < ROOMS_MOST; i++) {
            int next = plan.oneDoorOn(reached, open);
            if (next != reached) {
                deep++;
            }
            reached = next;
        }
        return deep;
    }

    public int cut(int room, int other) {
        if (!plan.hasRoom(room) || !plan.hasRoom(other) || room == other) {
            return NONE;
        }
        int open = now.openDoors();
        int best = open;
        // The sets come from the least on, so of equal ones the first stays.
        for (int set = 0; set < 1 << DOORS_MOST; set++) {
            boolean fewer = Integer.bitCount(set) < Integer.bitCount(best) && (set & ~open) == 0;
            if (fewer && !plan.isJoined(room, other, open & ~set)) {
                best = set;
            }
        }
        return best;
    }

    // ---- what is asked of days to come

    public int later(int door, int days) {
        if (!plan.hasDoor(door) || days < 0 || days > AHEAD_MOST) {
            return NONE;
        }
        return outlook.swollenBehind(door, now.gap[door], days, Outlook.AS_TOLD);
    }

    public int closes(int door) {
        return plan.hasDoor(door) ? outlook.firstDay(1 << door, 0) : NONE;
    }

    public int gives(int door) {
        return plan.hasDoor(door) ? outlook.firstDay(1 << door, 1 << door) : NONE;
    }

    public int calm() {
        int all = plan.allDoors();
        return outlook.firstDay(all, all);
    }

    public int hard() {
        outlook.look(AHEAD_MOST);
        int hardest = 0;
        for (int i = 1; i <= AHEAD_MOST; i++) {
            if (Integer.bitCount(outlook.open[i]) < Integer.bitCount(outlook.open[hardest])) {
                hardest = i;
            }
        }
        return hardest;
    }

    public int arrives(int person, int room) {
        if (!plan.hasPerson(person) || !plan.hasRoom(room)) {
            return NONE;
        }
        return outlook.meetingDay(1 << now.place[person], 1 << room, false);
    }

    public int both(int person, int other) {
        if (!plan.hasPerson(person) || !plan.hasPerson(other) || person == other) {
            return NONE;
        }
        return outlook.meetingDay(1 << now.place[person], 1 << now.place[other], true);
    }

    public int from(int room, int days) {
        if (!plan.hasRoom(room) || days < 0 || days > WALKS_MOST) {
            return NONE;
        }
        outlook.look(days);
        return outlook.roomsBehind(room, days);
    }

    public int planed(int days, int what) {
        if (days < 0 || days > PLANED_AHEAD_MOST || what < NONE) {
            return OTHERS;
        }
        int needed = planer.fewest(days);
        if (needed == NONE) {
            return OTHERS;
        }
        if (what == NONE) {
            return needed;
        }
        return what < needed && what < PLANINGS_MOST ? planer.row[what] : OTHERS;
    }

    // ---- what is felt and said

    public boolean feel(int door, int days, boolean sticks) {
        if (!plan.hasDoor(door) || days < 1 || days > FELT_AHEAD_MOST) {
            return false;
        }
        return rumours.addFelt(door, days, sticks);
    }

    public int wets() {
        return outlook.wetsBy(rumours);
    }

    public int tries() {
        return outlook.bestTry(outlook.wetsBy(rumours));
    }

    public boolean say(int room, int days) {
        if (!plan.hasRoom(room) || days < 0 || days > WALKS_MOST) {
            return false;
        }
        return rumours.addSaid(room, days);
    }

    public int who() {
        int rooms = plan.allRooms();
        outlook.look(WALKS_MOST);
        for (int i = 0; i < rumours.said && i < NOTES_MOST; i++) {
            rooms &= outlook.roomsBehind(rumours.saidRoom[i], rumours.saidDays[i]);
        }
        return now.personsIn(rooms);
    }

    // ---- odds, heirs and draws

    public int chance(int door, int days, int odds) {
        boolean asked = days >= 1 && days <= CHANCE_DAYS_MOST && odds >= 0 && odds <= ODDS_MOST;
        return plan.hasDoor(door) && asked ? outlook.millionths(door, days, odds) : NONE;
    }

    public int rests(int lose, int wets, int dries, int what) throws NoSuchElementException {
        if (!isStake(lose) || !isStake(wets) || !isStake(dries) || what < NONE) {
            throw new NoSuchElementException("no such heirs");
        }
        int found = 0;
        for (int pair = 0; pair < 4; pair++) {
            if (!isRest(pair >> 1, pair & 1, lose, wets, dries)) {
                continue;
            }
            if (found == what) {
                return pair;
            }
            found++;
        }
        if (what != NONE) {
            throw new NoSuchElementException("no such rest");
        }
        return found;
    }

    private static boolean isStake(int stake) {
        return stake >= 0 && stake <= STAKE_MOST;
    }

    private static boolean isRest(int one, int other, int lose, int wets, int dries) {
        return gain(one, other, lose, wets, dries) >= gain(1 - one, other, lose, wets, dries)
            && gain(other, one, lose, wets, dries) >= gain(1 - other, one, lose, wets, dries);
    }

    private static int gain(int own, int others, int lose, int wets, int dries) {
        if (own == 1) {
            return others == 1 ? -lose : wets;
        }
        return others == 1 ? dries : 0;
    }

    public int years(int seed, int days, int what) {
        boolean asked = seed >= 0 && seed <= SEED_MOST && days >= 1 && days <= YEARS_DAYS_MOST;
        if (!asked || what < 0 || what > 2) {
            return NONE;
        }
        trial.copyFrom(now);
        drawn = seed;
        int walks = 0;
        for (int i = 0; i < days; i++) {
            if (plan.doors > 0 && makeDrawnDeed()) {
                walks++;
            }
            trial.passDay();
        }
        if (what == 0) {
            return walks;
        }
        return what == 1 ? Integer.bitCount(trial.stuckDoors()) : trial.swollenTogether();
    }

    /** True if the deed was a walk that could be. */
    private boolean makeDrawnDeed() {
        int deed = drawBelow(5);
        if (deed == 0) {
            trial.planeIfCan(drawBelow(plan.doors));
        } else if (deed == 1 && plan.persons > 0) {
            int walker = drawBelow(plan.persons);
            return trial.walkIfCan(walker, drawBelow(plan.doors));
        } else if (deed == 2) {
            trial.forceIfCan(drawBelow(plan.doors));
        }
        return false;
    }

    private int drawBelow(int most) {
        drawn = (drawn * 1103515245L + 12345L) % 2147483648L;
        return most > 0 ? (int) (drawn / 65536L % most) : 0;
    }

    /** The signs that were fed, and the token that is read now. */
    private static final class Tape {
        static final int END = 0;
        static final int WORD = 1;
        static final int NUMBER = 2;
        static final int SIGN = 3;
        static final int NO_TOKEN = 4;

        // A WORD has 8 letters at most, so its signs fill the bytes of one long.
        static final long ROOM = 0x726f6f6dL;
        static final long DOOR = 0x646f6f72L;
        static final long GAP = 0x676170L;
        static final long PERSON = 0x706572736f6eL;
        static final long IN = 0x696eL;
        static final long DAMP = 0x64616d70L;
        static final long SWELLS = 0x7377656c6c73L;
        static final long DAY = 0x646179L;
        static final long WALK = 0x77616c6bL;
        static final long PLANE = 0x706c616e65L;
        static final long WEDGE = 0x7765646765L;
        static final long FORCE = 0x666f726365L;
        static final long OAK = 0x6f616bL;
        static final long PINE = 0x70696e65L;
        static final long ELM = 0x656c6dL;
        static final long LIME = 0x6c696d65L;
        static final long NOT = 0x6e6f74L;
        static final long AND = 0x616e64L;
        static final long OR = 0x6f72L;
        static final long WET = 0x776574L;
        static final long SWELL = 0x7377656c6cL;
        static final long SPACE = 0x7370616365L;
        static final long DATE = 0x64617465L;

        private static final long[] NO_NAMES = {
            ROOM, DOOR, GAP, PERSON, IN, DAMP, SWELLS, DAY, WALK, PLANE, WEDGE, FORCE,
            OAK, PINE, ELM, LIME, NOT, AND, OR
        };
        private static final int WORD_MOST = 8;
        private static final int DIGITS_MOST = 4;

        final byte[] signs = new byte[TAPE_MOST];
        int length;
        int next;
        int kind;
        int place;
        long value;
        int fault;

        void putBytes(long bytes) {
            for (int shift = 56; shift >= 0; shift -= 8) {
                putSign((int) (bytes >> shift & 255L));
            }
        }

        private void putSign(int sign) {
            boolean known = sign == 10 || sign >= 32 && sign <= 126;
            if (known && length < TAPE_MOST) {
                signs[length] = (byte) sign;
                length++;
            }
        }

        void rewind() {
            next = 0;
            advance();
        }

        void advance() {
            while (next < length && isBlank(signs[next])) {
                next++;
            }
            place = next;
            value = 0;
            if (next >= length) {
                kind = END;
            } else if (isLetter(signs[next])) {
                readWord();
            } else if (isDigit(signs[next])) {
                readNumber();
            } else {
                value = signs[next];
                kind = isSignOfOwn(signs[next]) ? SIGN : NO_TOKEN;
                next++;
            }
        }

        private void readWord() {
            while (next < length && isLetter(signs[next])) {
                value = value << 8 | signs[next];
                next++;
            }
            kind = next - place <= WORD_MOST ? WORD : NO_TOKEN;
        }

        private void readNumber() {
            while (next < length && isDigit(signs[next])) {
                value = value * 10 + (signs[next] - '0');
                next++;
            }
            kind = next - place <= DIGITS_MOST ? NUMBER : NO_TOKEN;
        }

        private static boolean isBlank(int sign) {
            return sign == 10 || sign == 32;
        }

        private static boolean isLetter(int sign) {
            return sign >= 'a' && sign <= 'z';
        }

        private static boolean isDigit(int sign) {
            return sign >= '0' && sign <= '9';
        }

        private static boolean isSignOfOwn(int sign) {
            return sign >= '(' && sign <= '+' || sign == '-' || sign >= ';' && sign <= '=';
        }

        boolean isWord(long word) {
            return kind == WORD && value == word;
        }

        boolean isSign(int sign) {
            return kind == SIGN && value == sign;
        }

        boolean isName() {
            if (kind != WORD) {
                return false;
            }
            for (int i = 0; i < NO_NAMES.length; i++) {
                if (NO_NAMES[i] == value) {
                    return false;
                }
            }
            return true;
        }

        /** Always false, so that a reader can tell the fault and give up in one line. */
        boolean refuse(int faultKind) {
            fault = faultKind + 16 * place;
            return false;
        }

        boolean takeWord(long word) {
            if (!isWord(word)) {
                return refuse(CANT_STAND);
            }
            advance();
            return true;
        }

        boolean takeSign(int sign) {
            if (!isSign(sign)) {
                return refuse(CANT_STAND);
            }
            advance();
            return true;
        }

        /** NONE, with the fault told, if there is no NUMBER of 0 to most. */
        int takeNumber(int most) {
            if (kind != NUMBER || value > most) {
                refuse(kind != NUMBER ? CANT_STAND : NOT_AS_TOLD);
                return NONE;
            }
            int number = (int) value;
            advance();
            return number;
        }
    }

    /** Reads a HOUSE from the tape into a plan. */
    private static final class HouseReader {
        private static final int NESTED_MOST = 5;
        private static final int LOWEST = 0;
        private static final int COMPARING = 1;
        private static final int PART = 4;

        final Tape tape;

        HouseReader(Tape tape) {
            this.tape = tape;
        }

        int read(Plan plan) {
            plan.clear();
            tape.rewind();
            for (int i = 0; i < TAPE_MOST && tape.kind != Tape.END; i++) {
                if (!readLine(plan)) {
                    return tape.fault;
                }
            }
            return 0;
        }

        private boolean readLine(Plan plan) {
            if (tape.isWord(Tape.ROOM)) {
                return readRoom(plan);
            }
            if (tape.isWord(Tape.DOOR)) {
                return readDoor(plan);
            }
            if (tape.isWord(Tape.PERSON)) {
                return readPerson(plan);
            }
            if (tape.isWord(Tape.DAMP)) {
                return readDamp(plan);
            }
            if (tape.isWord(Tape.SWELLS)) {
                return readSwells(plan);
            }
            return tape.refuse(CANT_STAND);
        }

        private boolean readRoom(Plan plan) {
            if (plan.rooms >= ROOMS_MOST) {
                return tape.refuse(TOO_MANY);
            }
            tape.advance();
            if (!isNewName(plan)) {
                return false;
            }
            plan.addRoom(tape.value);
            tape.advance();
            return tape.takeSign(';');
        }

        private boolean readDoor(Plan plan) {
            if (plan.doors >= DOORS_MOST) {
                return tape.refuse(TOO_MANY);
            }
            tape.advance();
            int first = roomTold(plan);
            if (first == NONE) {
                return false;
            }
            tape.advance();
            int second = roomTold(plan);
            if (second == NONE) {
                return false;
            }
            if (second == first || plan.hasDoorBetween(first, second)) {
                return tape.refuse(TOLD_ALREADY);
            }
            tape.advance();
            int wood = woodTold();
            if (wood == NONE) {
                return tape.refuse(CANT_STAND);
            }
            tape.advance();
            if (!tape.takeWord(Tape.GAP)) {
                return false;
            }
            int gap = tape.takeNumber(GAP_TOLD_MOST);
            if (gap == NONE) {
                return false;
            }
            plan.addDoor(first, second, wood, gap);
            return tape.takeSign(';');
        }

        private boolean readPerson(Plan plan) {
            if (plan.persons >= PERSONS_MOST) {
                return tape.refuse(TOO_MANY);
            }
            tape.advance();
            if (!isNewName(plan)) {
                return false;
            }
            long name = tape.value;
            tape.advance();
            if (!tape.takeWord(Tape.IN)) {
                return false;
            }
            int room = roomTold(plan);
            if (room == NONE) {
                return false;
            }
            plan.addPerson(name, room);
            tape.advance();
            return tape.takeSign(';');
        }

        private boolean readDamp(Plan plan) {
            if (plan.damps > 0) {
                return tape.refuse(TOLD_ALREADY);
            }
            tape.advance();
            for (int i = 0; i <= DAMPS_MOST; i++) {
                if (i > 0 && tape.isSign(';')) {
                    break;
                }
                // A thirteenth NUMBER above 9 is first of all not as told: the lesser kind counts.
                if (i == DAMPS_MOST && tape.kind == Tape.NUMBER && tape.value <= DAMP_MOST) {
                    return tape.refuse(TOO_MANY);
                }
                int damp = tape.takeNumber(DAMP_MOST);
                if (damp == NONE) {
                    return false;
                }
                plan.addDamp(damp);
            }
            return tape.takeSign(';');
        }

        private boolean readSwells(Plan plan) {
            if (plan.law.length > 0) {
                return tape.refuse(TOLD_ALREADY);
            }
            tape.advance();
            return readTerm(tape, plan.law, LOWEST, 0) && tape.takeSign(';');
        }

        private boolean isNewName(Plan plan) {
            if (!tape.isName()) {
                return tape.refuse(CANT_STAND);
            }
            if (plan.roomNamed(tape.value) != NONE || plan.personNamed(tape.value) != NONE) {
                return tape.refuse(TOLD_ALREADY);
            }
            return true;
        }

        private int roomTold(Plan plan) {
            int room = tape.isName() ? plan.roomNamed(tape.value) : NONE;
            if (room == NONE) {
                tape.refuse(tape.isName() ? UNKNOWN : CANT_STAND);
            }
            return room;
        }

        private int woodTold() {
            if (tape.isWord(Tape.OAK)) {
                return 0;
            }
            if (tape.isWord(Tape.PINE)) {
                return 1;
            }
            if (tape.isWord(Tape.ELM)) {
                return 2;
            }
            return tape.isWord(Tape.LIME) ? 3 : NONE;
        }

        /** Levels from the loosest: and or, then < =, then + -, then *, then the PART. */
        private static boolean readTerm(Tape tape, Law law, int level, int nested) {
            if (level >= PART) {
                return readPart(tape, law, nested);
            }
            if (!readTerm(tape, law, level + 1, nested)) {
                return false;
            }
            int joinsMost = level == COMPARING ? 1 : TAPE_MOST;
            for (int i = 0; i < joinsMost; i++) {
                int join = joinOn(tape, level);
                if (join == 0) {
                    break;
                }
                tape.advance();
                if (!readTerm(tape, law, level + 1, nested)) {
                    return false;
                }
                law.put(join);
            }
            return true;
        }

        /** 0 if the token joins nothing on that level. */
        private static int joinOn(Tape tape, int level) {
            if (level == LOWEST) {
                return tape.isWord(Tape.AND) ? Law.AND : tape.isWord(Tape.OR) ? Law.OR : 0;
            }
            if (level == COMPARING) {
                return tape.isSign('<') ? Law.LESS : tape.isSign('=') ? Law.SAME : 0;
            }
            if (level == PART - 1) {
                return tape.isSign('*') ? Law.TIMES : 0;
            }
            return tape.isSign('+') ? Law.PLUS : tape.isSign('-') ? Law.MINUS : 0;
        }

        private static boolean readPart(Tape tape, Law law, int nested) {
            boolean opens = tape.isSign('(');
            boolean denies = tape.isWord(Tape.NOT);
            int fact = factTold(tape);
            if (!opens && !denies && fact == 0 && tape.kind != Tape.NUMBER) {
                return tape.refuse(CANT_STAND);
            }
            if (nested >= NESTED_MOST) {
                return tape.refuse(TOO_MANY);
            }
            int number = (int) tape.value;
            tape.advance();
            if (opens) {
                return readTerm(tape, law, LOWEST, nested + 1) && tape.takeSign(')');
            }
            if (denies) {
                if (!readPart(tape, law, nested + 1)) {
                    return false;
                }
                law.put(Law.NOT);
                return true;
            }
            law.put(fact == 0 ? number : fact);
            return true;
        }

        /** 0 if the token is no fact. */
        private static int factTold(Tape tape) {
            if (tape.isWord(Tape.WET)) {
                return Law.WET;
            }
            if (tape.isWord(Tape.SWELL)) {
                return Law.SWELL;
            }
            if (tape.isWord(Tape.SPACE)) {
                return Law.SPACE;
            }
            return tape.isWord(Tape.DATE) ? Law.DATE : 0;
        }
    }

    /** Reads DAYS from the tape into lines of its own, so that a fault leaves the told ones alone. */
    private static final class DaysReader {
        final Tape tape;
        final int[] lines = new int[LINES_MOST];
        int count;

        DaysReader(Tape tape) {
            this.tape = tape;
        }

        int read(Plan plan) {
            count = 0;
            tape.rewind();
            for (int i = 0; i < TAPE_MOST && tape.kind != Tape.END; i++) {
                if (!readLine(plan)) {
                    return tape.fault;
                }
            }
            return 0;
        }

        private boolean readLine(Plan plan) {
            int deed = deedTold();
            if (deed == NONE) {
                return tape.refuse(CANT_STAND);
            }
            if (count >= LINES_MOST) {
                return tape.refuse(TOO_MANY);
            }
            tape.advance();
            int walker = 0;
            if (deed == LINE_WALK) {
                walker = walkerTold(plan);
                if (walker == NONE) {
                    return false;
                }
                tape.advance();
            }
            int door = deed == LINE_DAY ? 0 : tape.takeNumber(DOORS_MOST - 1);
            if (door == NONE) {
                return false;
            }
            lines[count] = State.line(deed, door, walker);
            count++;
            return tape.takeSign(';');
        }

        private int deedTold() {
            if (tape.isWord(Tape.DAY)) {
                return LINE_DAY;
            }
            if (tape.isWord(Tape.WALK)) {
                return LINE_WALK;
            }
            if (tape.isWord(Tape.PLANE)) {
                return LINE_PLANE;
            }
            if (tape.isWord(Tape.WEDGE)) {
                return LINE_WEDGE;
            }
            return tape.isWord(Tape.FORCE) ? LINE_FORCE : NONE;
        }

        private int walkerTold(Plan plan) {
            int walker = tape.isName() ? plan.personNamed(tape.value) : NONE;
            if (walker == NONE) {
                tape.refuse(tape.isName() ? UNKNOWN : CANT_STAND);
            }
            return walker;
        }
    }

    /** The law of swelling, its joins behind what they join. */
    private static final class Law {
        // NUMBERS stand for themselves, so facts and joins are below 0.
        static final int WET = -1;
        static final int SWELL = -2;
        static final int SPACE = -3;
        static final int DATE = -4;
        static final int NOT = -5;
        static final int AND = -6;
        static final int OR = -7;
        static final int LESS = -8;
        static final int SAME = -9;
        static final int PLUS = -10;
        static final int MINUS = -11;
        static final int TIMES = -12;

        // Four levels wait at most in each of five nestings, and one value is at hand.
        private static final int WAITING_MOST = 32;

        final int[] code = new int[TAPE_MOST];
        final int[] waiting = new int[WAITING_MOST];
        int length;

        void put(int sign) {
            if (length < TAPE_MOST) {
                code[length] = sign;
                length++;
            }
        }

        void copyFrom(Law other) {
            length = other.length;
            System.arraycopy(other.code, 0, code, 0, TAPE_MOST);
        }

        int valueBy(int wet, int swell, int space, int date) {
            if (length == 0) {
                return 1;
            }
            int top = 0;
            for (int i = 0; i < length; i++) {
                int sign = code[i];
                if (sign >= DATE) {
                    if (top < WAITING_MOST) {
                        waiting[top] = sign >= 0 ? sign : fact(sign, wet, swell, space, date);
                        top++;
                    }
                } else if (sign == NOT && top >= 1) {
                    waiting[top - 1] = waiting[top - 1] == 0 ? 1 : 0;
                } else if (top >= 2) {
                    waiting[top - 2] = joined(sign, waiting[top - 2], waiting[top - 1]);
                    top--;
                }
            }
            return waiting[0];
        }

        private static int fact(int sign, int wet, int swell, int space, int date) {
            switch (sign) {
                case WET: return wet;
                case SWELL: return swell;
                case SPACE: return space;
                default: return date;
            }
        }

        private static int joined(int sign, int left, int right) {
            switch (sign) {
                case AND: return left != 0 && right != 0 ? 1 : 0;
                case OR: return left != 0 || right != 0 ? 1 : 0;
                case LESS: return left < right ? 1 : 0;
                case SAME: return left == right ? 1 : 0;
                case PLUS: return left + right;
                case MINUS: return left - right;
                default: return left * right;
            }
        }
    }

    /** A HOUSE as it was told: nothing in it changes until another is told. */
    private static final class Plan {
        private static final int[] UPPER_MARK = {6, 4, 5, 3};
        private static final int[] LOWER_MARK = {2, 4, 1, 3};
        private static final int[] SHRINKING = {1, 2, 3, 1};

        int rooms;
        int doors;
        int persons;
        int damps;
        final long[] roomName = new long[ROOMS_MOST];
        final long[] personName = new long[PERSONS_MOST];
        final int[] personStart = new int[PERSONS_MOST];
        final int[] first = new int[DOORS_MOST];
        final int[] second = new int[DOORS_MOST];
        final int[] wood = new int[DOORS_MOST];
        final int[] gapTold = new int[DOORS_MOST];
        final int[] damp = new int[DAMPS_MOST];
        final Law law = new Law();

        void clear() {
            rooms = 0;
            doors = 0;
            persons = 0;
            damps = 0;
            law.length = 0;
        }

        /** But for the rooms' names, which only its reading needs. */
        void copyFrom(Plan other) {
            rooms = other.rooms;
            doors = other.doors;
            persons = other.persons;
            damps = other.damps;
            System.arraycopy(other.personName, 0, personName, 0, PERSONS_MOST);
            System.arraycopy(other.personStart, 0, personStart, 0, PERSONS_MOST);
            System.arraycopy(other.first, 0, first, 0, DOORS_MOST);
            System.arraycopy(other.second, 0, second, 0, DOORS_MOST);
            System.arraycopy(other.wood, 0, wood, 0, DOORS_MOST);
            System.arraycopy(other.gapTold, 0, gapTold, 0, DOORS_MOST);
            System.arraycopy(other.damp, 0, damp, 0, DAMPS_MOST);
            law.copyFrom(other.law);
        }

        void addRoom(long name) {
            if (rooms < ROOMS_MOST) {
                roomName[rooms] = name;
                rooms++;
            }
        }

        void addDoor(int from, int to, int woodTold, int gap) {
            if (doors < DOORS_MOST) {
                first[doors] = from;
                second[doors] = to;
                wood[doors] = woodTold;
                gapTold[doors] = gap;
                doors++;
            }
        }

        void addPerson(long name, int room) {
            if (persons < PERSONS_MOST) {
                personName[persons] = name;
                personStart[persons] = room;
                persons++;
            }
        }

        void addDamp(int wet) {
            if (damps < DAMPS_MOST) {
                damp[damps] = wet;
                damps++;
            }
        }

        boolean hasRoom(int room) {
            return room >= 0 && room < rooms;
        }

        boolean hasDoor(int door) {
            return door >= 0 && door < doors;
        }

        boolean hasPerson(int person) {
            return person >= 0 && person < persons;
        }

        int allRooms() {
            return (1 << rooms) - 1;
        }

        int allDoors() {
            return (1 << doors) - 1;
        }

        int roomNamed(long name) {
            for (int i = 0; i < rooms; i++) {
                if (roomName[i] == name) {
                    return i;
                }
            }
            return NONE;
        }

        int personNamed(long name) {
            for (int i = 0; i < persons; i++) {
                if (personName[i] == name) {
                    return i;
                }
            }
            return NONE;
        }

        boolean hasDoorBetween(int room, int other) {
            for (int i = 0; i < doors; i++) {
                if (roomBehind(i, room) == other) {
                    return true;
                }
            }
            return false;
        }

        /** NONE if it is no door of that room. */
        int roomBehind(int door, int room) {
            if (first[door] == room) {
                return second[door];
            }
            return second[door] == room ? first[door] : NONE;
        }

        int dampOn(int day) {
            return damps > 0 && day >= 0 ? damp[day % damps] : 0;
        }

        int swollenNext(int door, int swollen, int gap, int wet, int date) {
            int kind = wood[door];
            if (wet > UPPER_MARK[kind]) {
                int growth = law.valueBy(wet, swollen, gap, date);
                growth = Math.max(0, Math.min(GROWTH_MOST, growth));
                return Math.min(SWOLLEN_MOST, swollen + growth);
            }
            return wet < LOWER_MARK[kind] ? Math.max(0, swollen - SHRINKING[kind]) : swollen;
        }

        /** These rooms, and those that are one open door away. */
        int oneDoorOn(int start, int open) {
            int reached = start;
            for (int i = 0; i < doors; i++) {
                int ends = 1 << first[i] | 1 << second[i];
                if ((open >> i & 1) != 0 && (start & ends) != 0) {
                    reached |= ends;
                }
            }
            return reached;
        }

        int roomsReached(int room, int open) {
            int reached = 1 << room;
            for (int i = 1; i < rooms; i++) {
                int next = oneDoorOn(reached, open);
                if (next == reached) {
                    break;
                }
                reached = next;
            }
            return reached;
        }

        boolean isJoined(int room, int other, int open) {
            return (roomsReached(room, open) >> other & 1) != 0;
        }
    }

    /** All that can be undone: the doors, the people, the day. */
    private static final class State {
        final Plan plan;
        int day;
        int wedges;
        final int[] gap = new int[DOORS_MOST];
        final int[] swollen = new int[DOORS_MOST];
        final int[] place = new int[PERSONS_MOST];

        State(Plan plan) {
            this.plan = plan;
        }

        void copyFrom(State other) {
            day = other.day;
            wedges = other.wedges;
            System.arraycopy(other.gap, 0, gap, 0, DOORS_MOST);
            System.arraycopy(other.swollen, 0, swollen, 0, DOORS_MOST);
            System.arraycopy(other.place, 0, place, 0, PERSONS_MOST);
        }

        /** All is as the house was told. */
        void begin() {
            day = 0;
            wedges = 0;
            for (int i = 0; i < DOORS_MOST; i++) {
                gap[i] = plan.gapTold[i];
                swollen[i] = 0;
            }
            System.arraycopy(plan.personStart, 0, place, 0, PERSONS_MOST);
        }

        boolean hasWedge(int door) {
            return (wedges >> door & 1) != 0;
        }

        boolean isStuck(int door) {
            return swollen[door] > gap[door] && !hasWedge(door);
        }

        int stuckDoors() {
            int bits = 0;
            for (int i = 0; i < plan.doors; i++) {
                if (isStuck(i)) {
                    bits |= 1 << i;
                }
            }
            return bits;
        }

        int openDoors() {
            return plan.allDoors() & ~stuckDoors();
        }

        int swollenTogether() {
            int together = 0;
            for (int i = 0; i < plan.doors; i++) {
                together += swollen[i];
            }
            return together;
        }

        int shutPersons() {
            int stuck = stuckDoors();
            int open = plan.allDoors() & ~stuck;
            int bits = 0;
            for (int i = 0; i < plan.persons; i++) {
                int own = 1 << place[i];
                // A room without doors shuts nobody in: one of its doors must stick.
                if (plan.oneDoorOn(own, open) == own && plan.oneDoorOn(own, stuck) != own) {
                    bits |= 1 << i;
                }
            }
            return bits;
        }

        int personsIn(int rooms) {
            int bits = 0;
            for (int i = 0; i < plan.persons; i++) {
                if ((rooms >> place[i] & 1) != 0) {
                    bits |= 1 << i;
                }
            }
            return bits;
        }

        int companyOf(int person, int open) {
            return personsIn(plan.roomsReached(place[person], open)) & ~(1 << person);
        }

        int pairsTogether(int open) {
            int ends = 0;
            for (int i = 0; i < plan.persons; i++) {
                ends += Integer.bitCount(companyOf(i, open));
            }
            return ends / 2;
        }

        boolean isAllTogether(int open) {
            int others = (1 << plan.persons) - 2;
            return plan.persons == 0 || companyOf(0, open) == others;
        }

        void passDay() {
            int wet = plan.dampOn(day);
            for (int i = 0; i < plan.doors; i++) {
                swollen[i] = plan.swollenNext(i, swollen[i], gap[i], wet, day);
            }
            day++;
        }

        boolean canWalk(int person, int door) {
            return plan.hasPerson(person) && plan.hasDoor(door) && !isStuck(door)
                && plan.roomBehind(door, place[person]) != NONE;
        }

        void makeWalk(int person, int door) {
            place[person] = plan.roomBehind(door, place[person]);
        }

        boolean walkIfCan(int person, int door) {
            boolean can = canWalk(person, door);
            if (can) {
                makeWalk(person, door);
            }
            return can;
        }

        boolean canPlane(int door) {
            return plan.hasDoor(door) && gap[door] < GAP_PLANED_MOST;
        }

        void makePlaning(int door) {
            gap[door]++;
        }

        boolean planeIfCan(int door) {
            boolean can = canPlane(door);
            if (can) {
                makePlaning(door);
            }
            return can;
        }

        boolean canWedge(int door) {
            return plan.hasDoor(door) && !isStuck(door);
        }

        void turnWedge(int door) {
            wedges ^= 1 << door;
        }

        boolean wedgeIfCan(int door) {
            boolean can = canWedge(door);
            if (can) {
                turnWedge(door);
            }
            return can;
        }

        boolean canForce(int door) {
            return plan.hasDoor(door) && isStuck(door) && swollen[door] - gap[door] <= FORCED_MOST;
        }

        void makeForcing(int door) {
            gap[door] = swollen[door];
        }

        boolean forceIfCan(int door) {
            boolean can = canForce(door);
            if (can) {
                makeForcing(door);
            }
            return can;
        }

        static int line(int deed, int door, int walker) {
            return deed | door << 3 | walker << 6;
        }

        /** False, and nothing done, if that line can't be. */
        boolean followLine(int line) {
            int door = line >> 3 & 7;
            switch (line & 7) {
                case LINE_WALK: return walkIfCan(line >> 6, door);
                case LINE_PLANE: return planeIfCan(door);
                case LINE_WEDGE: return wedgeIfCan(door);
                case LINE_FORCE: return forceIfCan(door);
                default:
                    passDay();
                    return true;
            }
        }
    }

    /** The last states that can be gone back to, in a ring. */
    private static final class History {
        final State[] states = new State[UNDONE_MOST];
        int newest;
        int size;

        History(Plan plan) {
            for (int i = 0; i < UNDONE_MOST; i++) {
                states[i] = new State(plan);
            }
        }

        void keep(State now) {
            newest = (newest + 1) % UNDONE_MOST;
            states[newest].copyFrom(now);
            size = Math.min(UNDONE_MOST, size + 1);
        }

        boolean bringBack(State now) {
            if (size == 0) {
                return false;
            }
            now.copyFrom(states[newest]);
            newest = (newest + UNDONE_MOST - 1) % UNDONE_MOST;
            size--;
            return true;
        }
    }

    /** What is FELT of doors, and SAID of an unknown person. */
    private static final class Rumours {
        int felt;
        int said;
        final int[] feltDoor = new int[NOTES_MOST];
        final int[] feltDays = new int[NOTES_MOST];
        final boolean[] feltSticks = new boolean[NOTES_MOST];
        final int[] saidRoom = new int[NOTES_MOST];
        final int[] saidDays = new int[NOTES_MOST];

        boolean addFelt(int door, int days, boolean sticks) {
            if (felt >= NOTES_MOST) {
                return false;
            }
            feltDoor[felt] = door;
            feltDays[felt] = days;
            feltSticks[felt] = sticks;
            felt++;
            return true;
        }

        boolean addSaid(int room, int days) {
            if (said >= NOTES_MOST) {
                return false;
            }
            saidRoom[said] = room;
            saidDays[said] = days;
            said++;
            return true;
        }

        void copyFrom(Rumours other) {
            felt = 0;
            for (int i = 0; i < other.felt; i++) {
                addFelt(other.feltDoor[i], other.feltDays[i], other.feltSticks[i]);
            }
            said = 0;
            for (int i = 0; i < other.said; i++) {
                addSaid(other.saidRoom[i], other.saidDays[i]);
            }
        }
    }

    /** A state that was laid aside, with what was felt and said then. */
    private static final class Mark {
        final State state;
        final Rumours rumours = new Rumours();
        boolean laid;

        Mark(Plan plan) {
            state = new State(plan);
        }

        void lay(State now, Rumours told) {
            state.copyFrom(now);
            rumours.copyFrom(told);
            laid = true;
        }

        void bringBack(State now, Rumours told) {
            now.copyFrom(state);
            told.copyFrom(rumours);
        }
    }

    /** What comes of the present state by days alone. */
    private static final class Outlook {
        static final int AS_TOLD = -1;

        private static final int WETS_MOST = DAMP_MOST + 1;
        private static final int MILLION = 1000000;

        final State now;
        final Plan plan;
        /** The open doors behind each number of days, and how far all are swollen behind the last one. */
        final int[] open = new int[AHEAD_MOST + 1];
        final int[] swollen = new int[DOORS_MOST];
        final int[] swollenByWet = new int[WETS_MOST * DOORS_MOST];

        Outlook(State now) {
            this.now = now;
            plan = now.plan;
        }

        void look(int days) {
            for (int i = 0; i <= days && i <= AHEAD_MOST; i++) {
                lookAt(i);
            }
        }

        /** Day by day from 0 on, so that who seeks a day can stop at it. */
        private void lookAt(int days) {
            if (days == 0) {
                System.arraycopy(now.swollen, 0, swollen, 0, DOORS_MOST);
                open[0] = now.openDoors();
                return;
            }
            int date = now.day + days - 1;
            int wet = plan.dampOn(date);
            open[days] = 0;
            for (int i = 0; i < plan.doors; i++) {
                swollen[i] = plan.swollenNext(i, swollen[i], now.gap[i], wet, date);
                if (!sticksAt(i, swollen[i])) {
                    open[days] |= 1 << i;
                }
            }
        }

        int swollenBehind(int door, int gap, int days, int wetOfAll) {
            int far = now.swollen[door];
            for (int i = 0; i < days; i++) {
                int date = now.day + i;
                int wet = wetOfAll == AS_TOLD ? plan.dampOn(date) : wetOfAll;
                far = plan.swollenNext(door, far, gap, wet, date);
            }
            return far;
        }

        private boolean sticksAt(int door, int far) {
            return far > now.gap[door] && !now.hasWedge(door);
        }

        /** Behind how many days just these of the doors are open; NONE if by no day. */
        int firstDay(int doors, int opens) {
            for (int i = 0; i <= AHEAD_MOST; i++) {
                lookAt(i);
                if ((open[i] & doors) == opens) {
                    return i;
                }
            }
            return NONE;
        }

        /** In how many days one walks from rooms to others, which may come towards one. */
        int meetingDay(int rooms, int others, boolean towards) {
            int mine = rooms;
            int theirs = others;
            for (int i = 0; i <= WALKS_MOST; i++) {
                if ((mine & theirs) != 0) {
                    return i;
                }
                lookAt(i);
                mine = plan.oneDoorOn(mine, open[i]);
                if (towards) {
                    theirs = plan.oneDoorOn(theirs, open[i]);
                }
            }
            return NONE;
        }

        /** Doors lead both ways, so the walk is followed back from its last day; look comes first. */
        int roomsBehind(int room, int days) {
            int rooms = 1 << room;
            for (int i = Math.min(days, AHEAD_MOST) - 1; i >= 0; i--) {
                rooms = plan.oneDoorOn(rooms, open[i]);
            }
            return rooms;
        }

        int wetsBy(Rumours rumours) {
            int wets = 0;
            for (int wet = 0; wet < WETS_MOST; wet++) {
                if (agreesWith(rumours, wet)) {
                    wets |= 1 << wet;
                }
            }
            return wets;
        }

        private boolean agreesWith(Rumours rumours, int wet) {
            for (int i = 0; i < rumours.felt && i < NOTES_MOST; i++) {
                int door = rumours.feltDoor[i];
                int far = swollenBehind(door, now.gap[door], rumours.feltDays[i], wet);
                if (sticksAt(door, far) != rumours.feltSticks[i]) {
                    return false;
                }
            }
            return true;
        }

        int bestTry(int wets) {
            int all = Integer.bitCount(wets);
            int least = all;
            int best = NONE;
            for (int i = 0; i < WETS_MOST; i++) {
                System.arraycopy(now.swollen, 0, swollenByWet, i * DOORS_MOST, DOORS_MOST);
            }
            for (int days = 1; days <= FELT_AHEAD_MOST; days++) {
                for (int door = 0; door < plan.doors; door++) {
                    int sticking = stickingNext(door, wets, now.day + days - 1);
                    int greater = Math.max(sticking, all - sticking);
                    if (greater < least) {
                        least = greater;
                        best = 8 * days + door;
                    }
                }
            }
            return best;
        }

        /** One day on: by how many of these wets the door sticks. */
        private int stickingNext(int door, int wets, int date) {
            int sticking = 0;
            for (int wet = 0; wet < WETS_MOST; wet++) {
                if ((wets >> wet & 1) == 0) {
                    continue;
                }
                int cell = wet * DOORS_MOST + door;
                int far = plan.swollenNext(door, swollenByWet[cell], now.gap[door], wet, date);
                swollenByWet[cell] = far;
                if (sticksAt(door, far)) {
                    sticking++;
                }
            }
            return sticking;
        }

        int millionths(int door, int days, int odds) {
            int parts = 0;
            for (int weather = 0; weather < 1 << days; weather++) {
                int far = now.swollen[door];
                int weight = 1;
                for (int i = 0; i < days; i++) {
                    boolean rains = (weather >> i & 1) != 0;
                    weight *= rains ? odds : ODDS_MOST - odds;
                    far = plan.swollenNext(door, far, now.gap[door], rains ? DAMP_MOST : 0, now.day + i);
                }
                if (sticksAt(door, far)) {
                    parts += weight;
                }
            }
            // Six days at most, so ten to their power divides a million.
            int whole = MILLION;
            for (int i = 0; i < days; i++) {
                whole /= ODDS_MOST;
            }
            return parts * whole;
        }
    }

    /** The fewest planings by which all can meet. */
    private static final class Planer {
        final State now;
        final Plan plan;
        final Outlook outlook;
        final int[] row = new int[PLANINGS_MOST];
        /** By how often each is planed, the doors that are open behind the days. */
        final int[] openBy = new int[PLANINGS_MOST + 1];

        Planer(State now, Outlook outlook) {
            this.now = now;
            plan = now.plan;
            this.outlook = outlook;
        }

        /** NONE if three are too few; else the row is the first of so many. */
        int fewest(int days) {
            for (int i = 0; i <= PLANINGS_MOST; i++) {
                lookAhead(i, days);
            }
            for (int i = 0; i <= PLANINGS_MOST; i++) {
                if (findRow(i)) {
                    return i;
                }
            }
            return NONE;
        }

        private void lookAhead(int planings, int days) {
            openBy[planings] = 0;
            for (int door = 0; door < plan.doors; door++) {
                int gap = now.gap[door] + planings;
                int far = outlook.swollenBehind(door, gap, days, Outlook.AS_TOLD);
                if (far <= gap || now.hasWedge(door)) {
                    openBy[planings] |= 1 << door;
                }
            }
        }

        /** The rows of one size are numbers whose digits are doors, so they come in their order. */
        private boolean findRow(int size) {
            int rows = 1;
            for (int i = 0; i < size; i++) {
                rows *= plan.doors;
            }
            for (int i = 0; i < rows; i++) {
                writeRow(i, size);
                if (canBePlaned(size) && now.isAllTogether(openByRow(size))) {
                    return true;
                }
            }
            return false;
        }

        private void writeRow(int number, int size) {
            int left = number;
            for (int i = Math.min(size, PLANINGS_MOST) - 1; i >= 0 && plan.doors > 0; i--) {
                row[i] = left % plan.doors;
                left /= plan.doors;
            }
        }

        /** A row that falls has come in its rising order already. */
        private boolean canBePlaned(int size) {
            for (int i = 0; i < size && i < PLANINGS_MOST; i++) {
                int door = row[i];
                boolean falls = i > 0 && row[i - 1] > door;
                if (falls || now.gap[door] + timesInRow(door, size) > GAP_PLANED_MOST) {
                    return false;
                }
            }
            return true;
        }

        private int timesInRow(int door, int size) {
            int times = 0;
            for (int i = 0; i < size && i < PLANINGS_MOST; i++) {
                if (row[i] == door) {
                    times++;
                }
            }
            return times;
        }

        private int openByRow(int size) {
            int open = 0;
            for (int door = 0; door < plan.doors; door++) {
                open |= openBy[timesInRow(door, size)] & 1 << door;
            }
            return open;
        }
    }
}
