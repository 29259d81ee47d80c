import java.lang.reflect.Constructor;
import java.lang.reflect.Field;
import java.lang.reflect.Method;
import java.lang.reflect.Modifier;
import java.util.Arrays;
import java.util.HashSet;
import java.util.Set;
import java.util.TreeSet;

/** The face: just the members that the document tells, with their kinds and values; and no hidden name of a public one. */
final class FaceTest {
    private static final String[] CALLS = {"stage(int)", "product(int,int)", "inverse(int)", "told(int,int)", "ranked(int)",
        "feed(int,long)", "method()", "about(int,int)", "change(int,int,int)", "ring(int)", "call(int,int)", "go(int)", "rowAt(int)",
        "run(int)", "truth(int,int)", "generator(int)", "free()", "group()", "coset(int)", "heads(int,int)", "head(int)",
        "ringer(int,int,int)", "band(int,int,int)", "blow(int,int)", "ringing(int)", "slips(int)", "note(int,long)", "wipe()",
        "listen()", "inOrder(int,int)", "heard(int)", "long line(int)", "long along(int,int)", "board(int,int,int)", "clear(int)",
        "items(int)", "fill(int,int,int)", "copy(int,int,int,int,int)", "long item(int,int,int)"};
    private static final String[] CONSTANTS = {"BAD", "NO", "FULL", "NULL", "SIZE", "INDEX", "CAST", "STORE", "NONE"};

    public static void main(String[] args) throws IllegalAccessException {
        Class<?> face = BelfryHouse.class;
        Check.holds("public and final", Modifier.isPublic(face.getModifiers()) && Modifier.isFinal(face.getModifiers()));
        constructor(face);
        calls(face);
        constants(face);
        inside(face);
        Check.finish();
    }

    private static void constructor(Class<?> face) {
        Constructor<?>[] all = face.getDeclaredConstructors();
        Check.due("one constructor", all.length, 1);
        Check.holds("it is public", Modifier.isPublic(all[0].getModifiers()) && all[0].getParameterCount() == 0);
    }

    private static void calls(Class<?> face) {
        Set<String> due = new TreeSet<>();
        for (String call : CALLS) due.add(call.startsWith("long ") ? call : "int " + call);
        Set<String> got = new TreeSet<>();
        Set<String> names = new HashSet<>();
        for (Method method : face.getDeclaredMethods()) {
            if (Modifier.isPrivate(method.getModifiers())) continue;
            Check.holds(method + " is public and no more", method.getModifiers() == Modifier.PUBLIC);
            String types = Arrays.toString(method.getParameterTypes()).replaceAll("[\\[\\] ]", "");
            got.add(method.getReturnType() + " " + method.getName() + "(" + types + ")");
            names.add(method.getName());
        }
        Check.holds("the calls are " + got, got.equals(due));
        for (Method method : face.getDeclaredMethods()) {
            if (Modifier.isPrivate(method.getModifiers())) Check.holds(method + " has its own name", !names.contains(method.getName()));
        }
    }

    private static void constants(Class<?> face) throws IllegalAccessException {
        int found = 0;
        for (Field field : face.getDeclaredFields()) {
            if (Modifier.isPrivate(field.getModifiers())) continue;
            int place = Arrays.asList(CONSTANTS).indexOf(field.getName());
            Check.holds(field + " is told", place >= 0 && field.getType() == int.class);
            Check.due(field.toString(), field.getInt(null), -1 - place);
            found++;
        }
        Check.due("all constants", found, CONSTANTS.length);
    }

    private static void inside(Class<?> face) {
        Check.holds("at most twelve classes", face.getDeclaredClasses().length < 12);
        for (Class<?> one : face.getDeclaredClasses()) {
            Check.holds(one + " is static and not public", Modifier.isStatic(one.getModifiers()) && !Modifier.isPublic(one.getModifiers()));
        }
    }
}
