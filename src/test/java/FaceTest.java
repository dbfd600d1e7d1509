import java.lang.reflect.Constructor;
import java.lang.reflect.Field;
import java.lang.reflect.Method;
import java.lang.reflect.Modifier;
import java.util.Set;
import java.util.TreeSet;

/** The public face, the constants, and the rules of LANGUAGE.md that reflection can see. */
final class FaceTest {
    private static final String[] FACE = {
        "int passage(int,int,boolean)", "int gallery(int,int,boolean)", "int voice(int,int,int,int,int)",
        "int breath(int,int)", "int leave(int)", "int say(int)", "int wipe()", "int fault()", "int judge(int)",
        "int done()", "int behind(int,int)", "int seam(int,int)", "int then(int)", "int light(int)",
        "int shakes()", "int way(int,int,int)", "int fewest(int,int)", "int keep(int)", "int cut()",
        "int hold(int,int,int)", "int round(int,int,int,int)", "int heard(int,int)", "int forget()",
        "int losts(int)", "int listen(int)", "long cold(int,int,int,int,int)", "int year(int,int,int)",
        "int image(int)", "int restore(int)", "int told(int)"};

    public static void main(String[] args) {
        Check c = new Check("FaceTest");
        constants(c);
        Set<String> due = new TreeSet<>();
        Set<String> names = new TreeSet<>();
        for (String row : FACE) {
            due.add(row);
            names.add(row.substring(row.indexOf(' ') + 1, row.indexOf('(')));
        }
        Set<String> seen = new TreeSet<>();
        for (Method m : SongLamps.class.getDeclaredMethods()) {
            if (Modifier.isPublic(m.getModifiers())) {
                seen.add(told(m));
            } else if (!m.isSynthetic()) {
                c.due(m.getName() + " is private", Modifier.isPrivate(m.getModifiers()) ? 1 : 0, 1);
                c.due(m.getName() + " has a name of its own", names.contains(m.getName()) ? 0 : 1, 1);
            }
        }
        c.same("the public methods", seen.toString(), due.toString());
        c.due("the class is public and final",
                SongLamps.class.getModifiers() & (Modifier.PUBLIC | Modifier.FINAL),
                Modifier.PUBLIC | Modifier.FINAL);
        Constructor<?>[] made = SongLamps.class.getDeclaredConstructors();
        c.due("constructors", made.length, 1);
        c.due("parameters of the constructor", made[0].getParameterCount(), 0);
        fields(c, SongLamps.class, 7);
        for (Class<?> inside : SongLamps.class.getDeclaredClasses()) {
            c.due(inside.getName() + " is static", Modifier.isStatic(inside.getModifiers()) ? 1 : 0, 1);
            c.due(inside.getName() + " is not public", Modifier.isPublic(inside.getModifiers()) ? 1 : 0, 0);
            fields(c, inside, 0);
            for (Method m : inside.getDeclaredMethods()) {
                c.due(inside.getName() + "." + m.getName() + " has a name of its own",
                        names.contains(m.getName()) ? 0 : 1, 1);
            }
        }
        c.end();
    }

    private static void constants(Check c) {
        c.due("NONE", SongLamps.NONE, -6);
        c.due("UNKNOWN", SongLamps.UNKNOWN, -1);
        c.due("OUTSIDE", SongLamps.OUTSIDE, -2);
        c.due("STATE", SongLamps.STATE, -3);
        c.due("FULL", SongLamps.FULL, -4);
        c.due("NO", SongLamps.NO, -5);
        c.due("LOST", SongLamps.LOST, -1000000000000000000L);
    }

    private static String told(Method m) {
        StringBuilder row = new StringBuilder(m.getReturnType() + " " + m.getName() + "(");
        String comma = "";
        for (Class<?> type : m.getParameterTypes()) {
            row.append(comma).append(type);
            comma = ",";
        }
        return row.append(")").toString();
    }

    private static void fields(Check c, Class<?> of, int publicOnes) {
        int seen = 0;
        int own = 0;
        for (Field f : of.getDeclaredFields()) {
            int is = f.getModifiers();
            seen += Modifier.isPublic(is) ? 1 : 0;
            own += Modifier.isStatic(is) ? 0 : 1;
            if (Modifier.isStatic(is)) {
                c.due(of.getName() + "." + f.getName() + " is final", Modifier.isFinal(is) ? 1 : 0, 1);
            }
        }
        c.due("public fields of " + of.getName(), seen, publicOnes);
        c.due("fields of " + of.getName() + " are few", own <= 20 ? 1 : 0, 1);
    }
}
