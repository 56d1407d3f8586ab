import java.util.ArrayList;
import java.util.List;

/** Two objects that were told and did the same; one of them hears a call more, which must change nothing. */
final class Twins {
    interface Deed {
        void on(SwollenHouse x);
    }

    final SwollenHouse asked;
    private final SwollenHouse left;

    Twins(Deed deed) {
        asked = made(deed);
        left = made(deed);
    }

    private static SwollenHouse made(Deed deed) {
        SwollenHouse x = new SwollenHouse();
        deed.on(x);
        return x;
    }

    /** All that can be seen of both, what UNDO and the MARKS bring back, too; both are spent then. */
    void alike(Check check, String what) {
        List<Integer> due = new Answers(left).all;
        List<Integer> got = new Answers(asked).all;
        check.due("how many answers behind " + what, got.size(), due.size());
        for (int i = 0; i < due.size() && i < got.size(); i++) {
            check.due("answer " + i + " behind " + what, got.get(i), due.get(i));
        }
    }

    /** Some 350 calls, so that with those ahead of them they are fewer than the 512 that are promised. */
    private static final class Answers {
        final List<Integer> all = new ArrayList<>();
        private final SwollenHouse x;
        private final int doors;
        private final int persons;

        Answers(SwollenHouse x) {
            this.x = x;
            doors = x.count(1);
            persons = x.count(2);
            house();
            questions();
            state();
            for (int i = 0; i < 17 && x.undo(); i++) {
                state();
            }
            for (int mark = 0; mark < 4; mark++) {
                all.add(x.mark(mark, true) ? 1 : 0);
                state();
                all.add(x.wets());
                all.add(x.who());
            }
            all.add(x.house());
        }

        private void house() {
            for (int what = 0; what <= 12; what++) {
                all.add(x.count(what));
            }
            for (int door = 0; door < doors; door++) {
                for (int what = 0; what < 3; what++) {
                    all.add(x.door(door, what));
                }
            }
        }

        private void questions() {
            for (int what = 0; what < 3; what++) {
                all.add(x.judged(what));
                all.add(x.years(7, 30, what));
            }
            for (int door = 0; door < doors; door++) {
                all.add(x.door(door, 4));
                all.add(x.later(door, 1));
                all.add(x.later(door, 13));
            }
            all.add(x.wets());
            all.add(x.tries());
            all.add(x.who());
            all.add(x.shut());
            all.add(x.hard());
        }

        private void state() {
            for (int what : new int[] {3, 5, 6, 7, 8, 9, 10, 11}) {
                all.add(x.count(what));
            }
            for (int door = 0; door < doors; door++) {
                all.add(x.door(door, 3));
            }
            for (int person = 0; person < persons; person++) {
                all.add(x.person(person));
            }
        }
    }
}
