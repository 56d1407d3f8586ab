import java.lang.reflect.Constructor;
import java.lang.reflect.Field;
import java.lang.reflect.Method;
import java.lang.reflect.Modifier;
import java.util.Set;
import java.util.TreeSet;

/** The public face is the document's and nothing beside it; promise 1: a new object holds nothing. */
public final class FaceTest {
    private static final String[] FACE = {
        "int feed(long,long,long)", "int house()", "int days()", "int door(int,int)", "int person(int)", "int day()",
        "int walk(int,int)", "int plane(int)", "int wedge(int)", "int force(int)", "boolean undo()", "int judged(int)",
        "int shut()", "int range(int)", "int company(int)", "int later(int,int)", "int closes(int)", "int gives(int)",
        "int calm()", "int hard()", "int arrives(int,int)", "int from(int,int)", "int both(int,int)", "int cut(int,int)",
        "int planed(int,int)", "boolean feel(int,int,boolean)", "int wets()", "int tries()", "boolean say(int,int)",
        "int who()", "int rattles()", "int parts()", "int bride()", "int worst()", "int spared()", "int opened()",
        "int deep(int)", "int alone()", "int chance(int,int,int)", "int rests(int,int,int,int)",
        "int years(int,int,int)", "boolean mark(int,boolean)", "int count(int)"
    };

    public static void main(String[] args) throws Exception {
        Check check = new Check("FaceTest");
        face(check);
        nestedClasses(check);
        newObject(check);
        check.end();
    }

    private static String told(Method m) {
        StringBuilder s = new StringBuilder(m.getReturnType() + " " + m.getName() + "(");
        for (int i = 0; i < m.getParameterCount(); i++) {
            s.append(i > 0 ? "," : "").append(m.getParameterTypes()[i]);
        }
        return s.append(")").toString();
    }

    private static void face(Check check) throws Exception {
        Set<String> due = new TreeSet<>(Set.of(FACE));
        Set<String> found = new TreeSet<>();
        Set<String> names = new TreeSet<>();
        for (Method m : SwollenHouse.class.getDeclaredMethods()) {
            if (Modifier.isPublic(m.getModifiers())) {
                found.add(told(m));
                names.add(m.getName());
            }
        }
        check.due("public methods " + found, found.equals(due), true);
        for (Method m : SwollenHouse.class.getDeclaredMethods()) {
            boolean open = Modifier.isPublic(m.getModifiers());
            check.due("private or of the face: " + m, open || Modifier.isPrivate(m.getModifiers()), true);
            check.due("a name of its own: " + m, open || !names.contains(m.getName()), true);
        }
        for (Field f : SwollenHouse.class.getDeclaredFields()) {
            boolean open = f.getName().equals("NONE");
            check.due("private or NONE: " + f, open || Modifier.isPrivate(f.getModifiers()), true);
            check.due("static means final: " + f,
                !Modifier.isStatic(f.getModifiers()) || Modifier.isFinal(f.getModifiers()), true);
        }
        Constructor<?>[] makers = SwollenHouse.class.getDeclaredConstructors();
        check.due("constructors", makers.length, 1);
        check.due("public constructor", Modifier.isPublic(makers[0].getModifiers()), true);
        check.due("its parameters", makers[0].getParameterCount(), 0);
        check.due("final class", Modifier.isFinal(SwollenHouse.class.getModifiers()), true);
        check.due("NONE", SwollenHouse.NONE, -1);
        Class<?>[] thrown = SwollenHouse.class.getMethod("rests", int.class, int.class, int.class, int.class)
            .getExceptionTypes();
        check.due("rests tells what it throws",
            thrown.length == 1 && thrown[0] == java.util.NoSuchElementException.class, true);
    }

    private static void nestedClasses(Check check) {
        Set<String> names = new TreeSet<>();
        for (String f : FACE) {
            names.add(f.substring(f.indexOf(' ') + 1, f.indexOf('(')));
        }
        Class<?>[] nested = SwollenHouse.class.getDeclaredClasses();
        check.due("twelve classes at most", nested.length < 12, true);
        for (Class<?> c : nested) {
            check.due("static: " + c, Modifier.isStatic(c.getModifiers()), true);
            check.due("not public: " + c, !Modifier.isPublic(c.getModifiers()), true);
            check.due("fields of " + c, c.getDeclaredFields().length < 60, true);
            for (Method m : c.getDeclaredMethods()) {
                check.due("a name of its own: " + m, !names.contains(m.getName()), true);
                check.due("seven parameters at most: " + m, m.getParameterCount() <= 7, true);
            }
        }
    }

    private static void newObject(Check check) {
        SwollenHouse x = new SwollenHouse();
        for (int i = 0; i <= 12; i++) {
            check.due("count(" + i + ")", x.count(i), 0);
        }
        check.due("undo", x.undo(), false);
        for (int i = 0; i < 4; i++) {
            check.due("mark " + i, x.mark(i, true), false);
        }
        check.due("calm", x.calm(), 0);
        check.due("hard", x.hard(), 0);
        check.due("wets", x.wets(), 1023);
        check.due("planed", x.planed(30, -1), 0);
        check.due("years", x.years(9999, 99, 2), 0);
        SwollenHouse y = new SwollenHouse();
        Check.house(y, "room a ;");
        check.due("objects share nothing", x.count(0), 0);
    }
}
