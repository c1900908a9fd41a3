import java.lang.reflect.Executable;
import java.lang.reflect.Field;
import java.lang.reflect.Method;
import java.lang.reflect.Modifier;
import java.util.Set;
import java.util.TreeSet;

/** The public face, and what rules 1 and 11 of LANGUAGE.md ask of the class and those inside it. */
public final class FaceTest {
    private static final Checks checks = new Checks("FaceTest");

    public static void main(String[] args) {
        Class<?> face = RingGroup.class;
        checks.due("public and final", face.getModifiers(), Modifier.PUBLIC | Modifier.FINAL);
        Set<String> shown = new TreeSet<>();
        for (Field field : face.getDeclaredFields()) {
            if (!Modifier.isPrivate(field.getModifiers())) {
                shown.add(field.toString());
            }
        }
        addShown(shown, face.getDeclaredConstructors());
        addShown(shown, face.getDeclaredMethods());
        checks.due("face", String.join("\n", shown), String.join("\n", expected()));
        Set<String> publicNames = new TreeSet<>();
        for (Method method : face.getDeclaredMethods()) {
            if (Modifier.isPublic(method.getModifiers())) {
                publicNames.add(method.getName());
            }
        }
        inside(face, publicNames);
        for (Class<?> inner : face.getDeclaredClasses()) {
            checks.due(inner + " is static", Modifier.isStatic(inner.getModifiers()), true);
            checks.due(inner + " is hidden", Modifier.isPublic(inner.getModifiers()), false);
            inside(inner, publicNames);
        }
        checks.due("at most 12 classes", face.getDeclaredClasses().length < 12, true);
        checks.end();
    }

    private static void addShown(Set<String> shown, Executable[] members) {
        for (Executable member : members) {
            if (!Modifier.isPrivate(member.getModifiers())) {
                shown.add(member.toString());
            }
        }
    }

    private static void inside(Class<?> type, Set<String> publicNames) {
        int fields = 0;
        for (Field field : type.getDeclaredFields()) {
            if (Modifier.isStatic(field.getModifiers())) {
                checks.due(field + " is final", Modifier.isFinal(field.getModifiers()), true);
            } else {
                fields++;
            }
        }
        checks.due(type + " has few fields", fields <= 20, true);
        for (Method method : type.getDeclaredMethods()) {
            boolean bearsPublicName = publicNames.contains(method.getName());
            checks.due(method + " bears a public name",
                    bearsPublicName && !Modifier.isPublic(method.getModifiers()), false);
            checks.due(method + " has few parameters", method.getParameterCount() <= 7, true);
        }
    }

    private static Set<String> expected() {
        String bounds = "java.lang.IndexOutOfBoundsException";
        String state = ",java.lang.IllegalStateException";
        String argument = ",java.lang.IllegalArgumentException";
        Set<String> face = new TreeSet<>();
        for (String name : new String[] {"NONE", "MESSAGE", "TRANSITION", "RING"}) {
            face.add("public static final int RingGroup." + name);
        }
        face.add("public RingGroup(int,int)");
        face.add("public int RingGroup.send(int,int,long,boolean) throws " + bounds + state);
        face.add("public int RingGroup.pass(int,int) throws " + bounds + state);
        face.add("public int RingGroup.gather(int) throws " + bounds + state);
        face.add("public void RingGroup.part(int,int) throws " + bounds + argument);
        face.add("public void RingGroup.crash(int) throws " + bounds + state);
        face.add("public void RingGroup.restart(int) throws " + bounds + state);
        face.add("public int RingGroup.about(int,int) throws " + bounds + argument);
        face.add("public long RingGroup.table(int,int) throws " + bounds);
        face.add("public long RingGroup.mark(int) throws " + bounds);
        face.add("public long RingGroup.entry(int,int,int) throws " + bounds + argument);
        face.add("public boolean RingGroup.primary(int) throws " + bounds);
        return face;
    }
}
