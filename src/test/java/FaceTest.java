import java.lang.reflect.Constructor;
import java.lang.reflect.Field;
import java.lang.reflect.Method;
import java.lang.reflect.Modifier;
import java.util.ArrayList;
import java.util.List;
import java.util.Set;
import java.util.TreeSet;

/** The public face of the document, no more and no less, and what LANGUAGE.md says of members. */
public final class FaceTest {
    private static final String[] FACE = {
        "public WheelHours()",
        "public static final int WheelHours.NONE",
        "public int WheelHours.feed(int,int,int,int,int)",
        "public int WheelHours.law(int)",
        "public int WheelHours.rule(int)",
        "public int WheelHours.act(int,int,int,int)",
        "public boolean WheelHours.put(int,int,int,int)",
        "public boolean WheelHours.trip(int,int,int)",
        "public int WheelHours.breaches(int,boolean)",
        "public int WheelHours.breach(int,boolean,int,int)",
        "public int WheelHours.weight(int,boolean)",
        "public int WheelHours.day(int,boolean,int,int)",
        "public int WheelHours.may(int,boolean)",
        "public int WheelHours.most(int,boolean,int)",
        "public int WheelHours.against(int,int)",
        "public int WheelHours.look(int,int,int)",
        "public int WheelHours.count(int,int)"};

    private static int wrong = 0;

    public static void main(String[] args) {
        Class<?> program = WheelHours.class;
        check(Modifier.isPublic(program.getModifiers()) && Modifier.isFinal(program.getModifiers()), "public final class");
        Set<String> found = new TreeSet<>();
        for (Constructor<?> c : program.getDeclaredConstructors()) if (!Modifier.isPrivate(c.getModifiers())) found.add(c.toString());
        for (Field f : program.getDeclaredFields()) if (!Modifier.isPrivate(f.getModifiers())) found.add(f.toString());
        for (Method m : program.getDeclaredMethods()) if (!Modifier.isPrivate(m.getModifiers())) found.add(m.toString());
        check(found.equals(new TreeSet<>(List.of(FACE))), "the face is " + found);

        Set<String> publicNames = new TreeSet<>();
        for (Method m : program.getDeclaredMethods()) if (Modifier.isPublic(m.getModifiers())) publicNames.add(m.getName());
        List<Class<?>> all = new ArrayList<>(List.of(program.getDeclaredClasses()));
        check(all.size() + 1 <= 12, "at most twelve classes");
        for (Class<?> inside : all) {
            int is = inside.getModifiers();
            check(Modifier.isStatic(is) && !Modifier.isPublic(is) && !Modifier.isProtected(is), inside + " is static and not public");
        }
        all.add(program);
        for (Class<?> c : all) checkMembers(c, publicNames);
        System.out.println(wrong == 0 ? "the face is as due" : wrong + " things are not as due");
        if (wrong != 0) System.exit(1);
    }

    private static void checkMembers(Class<?> c, Set<String> publicNames) {
        int fields = 0;
        for (Field f : c.getDeclaredFields()) {
            if (Modifier.isStatic(f.getModifiers())) check(Modifier.isFinal(f.getModifiers()), f + " is final");
            else fields++;
        }
        check(fields <= 20, c + " has at most twenty fields");
        for (Method m : c.getDeclaredMethods()) {
            check(m.getParameterCount() <= 7, m + " takes at most seven");
            check(Modifier.isPublic(m.getModifiers()) || !publicNames.contains(m.getName()), m + " bears no public name");
        }
    }

    private static void check(boolean holds, String what) {
        if (!holds) {
            wrong++;
            System.out.println("not so: " + what);
        }
    }
}
