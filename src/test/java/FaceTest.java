import java.lang.reflect.Constructor;
import java.lang.reflect.Field;
import java.lang.reflect.Method;
import java.lang.reflect.Modifier;
import java.util.Arrays;
import java.util.Set;
import java.util.TreeSet;

/** The class shows the document's face and nothing else. */
public final class FaceTest {
    private static final String FACE = "int cave 1,int yard 2,int body 2,int lays 2,int shorter 0,int makes 3,int change 2,int set 2,"
        + "int waits 1,int size 4,int fits 2,int way 3,int posture 1,int lacks 1,int widest 1,int go 1,int back 1,int help 1,"
        + "int order 1,int stays 0,int calms 1,int rescue 4,int turns 0,int floods 2,int haste 0,long panic 1,int firstWays 0,"
        + "int rock 3,int forged 2,int judge 1,int parties 3,int image 0,int restore 0,int count 1,int keep 4,int row 3,int put 3,"
        + "long element 2,int copy 5,int cost 1,int toss 1";

    public static void main(String[] args) {
        Set<String> due = new TreeSet<>(Arrays.asList(FACE.split(",")));
        Set<String> found = new TreeSet<>();
        int wrong = 0;
        for (Method m : BreatheOut.class.getDeclaredMethods()) {
            if (Modifier.isPublic(m.getModifiers())) {
                found.add(m.getReturnType() + " " + m.getName() + " " + m.getParameterCount());
            } else if (!Modifier.isPrivate(m.getModifiers())) {
                wrong += say("neither public nor private: " + m);
            } else if (FACE.contains(" " + m.getName() + " ")) {
                wrong += say("private, with a public one's name: " + m);
            }
        }
        if (!found.equals(due)) wrong += say("the face is " + found);
        for (Field f : BreatheOut.class.getDeclaredFields()) {
            if (!Modifier.isPrivate(f.getModifiers())) wrong += say("not private: " + f);
        }
        for (Constructor<?> c : BreatheOut.class.getDeclaredConstructors()) {
            if (!Modifier.isPublic(c.getModifiers()) || c.getParameterCount() != 0) wrong += say("another constructor: " + c);
        }
        if (!Modifier.isFinal(BreatheOut.class.getModifiers())) wrong += say("the class is not final");
        for (Class<?> inside : BreatheOut.class.getDeclaredClasses()) {
            if (!Modifier.isStatic(inside.getModifiers()) || Modifier.isPublic(inside.getModifiers())) wrong += say("inside: " + inside);
            for (Method m : inside.getDeclaredMethods()) {
                if (FACE.contains(" " + m.getName() + " ")) wrong += say("inside, with a public one's name: " + m);
            }
        }
        System.out.println(wrong == 0 ? "the face is as due" : wrong + " faults");
        if (wrong != 0) System.exit(1);
    }

    private static int say(String fault) {
        System.out.println(fault);
        return 1;
    }
}
