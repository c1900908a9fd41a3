import com.sun.source.tree.CompilationUnitTree;
import com.sun.source.util.JavacTask;
import com.sun.source.util.Trees;
import java.io.IOException;
import java.lang.reflect.Array;
import java.lang.reflect.Field;
import java.lang.reflect.Modifier;
import java.nio.file.Path;
import java.util.ArrayDeque;
import java.util.Collections;
import java.util.Deque;
import java.util.IdentityHashMap;
import java.util.List;
import java.util.Set;
import javax.tools.JavaCompiler;
import javax.tools.StandardJavaFileManager;
import javax.tools.ToolProvider;

/** Whether RingGroup.java keeps the rules of ../shared/LANGUAGE.md, as far as a program can see that. */
public final class LanguageTest {
    private static final Path SOURCE = Path.of("src/main/java/RingGroup.java");
    private static final int MOST_OBJECTS = 600_000;
    private static final int MOST_ELEMENTS = 7_300_000;
    private static final int CALLS = 512;
    private static final Checks checks = new Checks("LanguageTest");

    public static void main(String[] args) throws IOException {
        readSource();
        countRoom();
        checks.end();
    }

    private static void readSource() throws IOException {
        JavaCompiler compiler = ToolProvider.getSystemJavaCompiler();
        try (StandardJavaFileManager files = compiler.getStandardFileManager(null, null, null)) {
            JavacTask task = (JavacTask) compiler.getTask(null, files, null, List.of("-proc:none"), null,
                    files.getJavaFileObjects(SOURCE));
            List<CompilationUnitTree> units = List.of(task.parse().iterator().next());
            task.analyze();
            LanguageRules rules = new LanguageRules(checks, Trees.instance(task), units.get(0));
            rules.scan(units, null);
            rules.end();
        }
    }

    /** Rule 12: what the greatest object holds, and what 512 of the only call that makes something make. */
    private static void countRoom() throws IOException {
        checks.by("the room of one run");
        int[] room = new int[2];
        Set<Object> seen = Collections.newSetFromMap(new IdentityHashMap<>());
        Deque<Object> left = new ArrayDeque<>(List.of(Scene.ring(8, 8)));
        while (!left.isEmpty()) {
            Object next = left.pop();
            if (seen.add(next)) {
                room[0]++;
                room[1] += addParts(next, left);
            }
        }
        int messageFields = 4;
        checks.due("something was counted", room[0] > 8, true);
        checks.due("objects", room[0] + CALLS < MOST_OBJECTS / 10, true);
        checks.due("fields and elements", room[1] + CALLS * messageFields < MOST_ELEMENTS / 10, true);
    }

    private static int addParts(Object owner, Deque<Object> left) {
        if (owner.getClass().isArray()) {
            for (int i = 0; i < Array.getLength(owner); i++) {
                addIfObject(owner.getClass().getComponentType(), Array.get(owner, i), left);
            }
            return Array.getLength(owner);
        }
        int fields = 0;
        for (Field field : owner.getClass().getDeclaredFields()) {
            if (!Modifier.isStatic(field.getModifiers())) {
                fields++;
                field.setAccessible(true);
                try {
                    addIfObject(field.getType(), field.get(owner), left);
                } catch (IllegalAccessException e) {
                    throw new IllegalStateException(e);
                }
            }
        }
        return fields;
    }

    private static void addIfObject(Class<?> type, Object value, Deque<Object> left) {
        if (!type.isPrimitive() && value != null) {
            left.push(value);
        }
    }
}
