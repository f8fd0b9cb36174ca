import java.lang.reflect.Constructor;
import java.lang.reflect.Field;
import java.lang.reflect.Method;
import java.lang.reflect.Modifier;
import java.util.TreeSet;

/** The class shows the document's face and nothing besides. */
public final class FaceTest {
    private static final String FACE = "int feed(int,int,int,int,int);boolean end(int);int fault(int);int text(int);int sun(int);"
        + "int parish(int,int);int desk(int,int);int paper(int,int);boolean rule(int);boolean eclipse(int);int file(int,int);"
        + "int withdraw(int);int go(int);int toil(int);int years(int,long);int undo();int log(int,int);int step(int,int,int);"
        + "int run(int);int perform(int);int ahead(int,int,int);int needed(int);int ring();int soonest(int,int);int waived(int);"
        + "int earliest();int share(int,int);int rests(int);int bribes(int,int,int,int);int see(int,int);int could(int);int sure();"
        + "int wrong();int works(int,int);int image();int back();int count(int)";

    public static void main(String[] args) {
        Due due = new Due("face");
        due.is("public and final", SunDesk.class.getModifiers() & (Modifier.PUBLIC | Modifier.FINAL), Modifier.PUBLIC | Modifier.FINAL);
        due.is("NONE", SunDesk.NONE, -1);
        due.is("HIDDEN", SunDesk.HIDDEN, -1000000);
        due.same("methods", methods(), new TreeSet<>(java.util.List.of(FACE.split(";"))).toString());
        due.same("fields", fields(), "[HIDDEN, NONE]");
        Constructor<?>[] made = SunDesk.class.getDeclaredConstructors();
        due.is("constructors", made.length, 1);
        due.is("public constructor", made[0].getModifiers() & Modifier.PUBLIC, Modifier.PUBLIC);
        due.is("without parameters", made[0].getParameterCount(), 0);
        due.same("exceptions", exceptions(), "[parish java.util.NoSuchElementException]");
        due.is("classes inside are static and not shown", shownClasses(), 0);
        due.is("private methods with a public one's name", sameNames(), 0);
        due.close();
    }

    private static String methods() {
        TreeSet<String> seen = new TreeSet<>();
        for (Method m : SunDesk.class.getDeclaredMethods()) {
            if (!Modifier.isPrivate(m.getModifiers())) {
                StringBuilder line = new StringBuilder(m.getReturnType() + " " + m.getName() + "(");
                for (int i = 0; i < m.getParameterCount(); i++) {
                    line.append(i == 0 ? "" : ",").append(m.getParameterTypes()[i]);
                }
                seen.add(line.append(")").toString());
            }
        }
        return seen.toString();
    }

    private static String fields() {
        TreeSet<String> seen = new TreeSet<>();
        for (Field f : SunDesk.class.getDeclaredFields()) {
            if (!Modifier.isPrivate(f.getModifiers())) {
                seen.add(f.getName());
            }
        }
        return seen.toString();
    }

    private static String exceptions() {
        TreeSet<String> seen = new TreeSet<>();
        for (Method m : SunDesk.class.getDeclaredMethods()) {
            for (Class<?> e : m.getExceptionTypes()) {
                seen.add(m.getName() + " " + e.getName());
            }
        }
        return seen.toString();
    }

    private static int shownClasses() {
        int shown = 0;
        for (Class<?> c : SunDesk.class.getDeclaredClasses()) {
            int m = c.getModifiers();
            shown += Modifier.isPublic(m) || Modifier.isProtected(m) || !Modifier.isStatic(m) ? 1 : 0;
        }
        return shown;
    }

    private static int sameNames() {
        TreeSet<String> open = new TreeSet<>();
        for (Method m : SunDesk.class.getDeclaredMethods()) {
            if (Modifier.isPublic(m.getModifiers())) {
                open.add(m.getName());
            }
        }
        int same = 0;
        for (Method m : SunDesk.class.getDeclaredMethods()) {
            same += !Modifier.isPublic(m.getModifiers()) && open.contains(m.getName()) ? 1 : 0;
        }
        for (Class<?> c : SunDesk.class.getDeclaredClasses()) {
            for (Method m : c.getDeclaredMethods()) {
                same += open.contains(m.getName()) ? 1 : 0;
            }
        }
        return same;
    }
}
