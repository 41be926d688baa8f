import java.io.IOException;
import java.lang.reflect.Field;
import java.lang.reflect.Method;
import java.lang.reflect.Modifier;
import java.util.ArrayList;
import java.util.Arrays;
import java.util.HashSet;
import java.util.List;
import java.util.Map;
import java.util.Set;
import java.util.TreeMap;

/** The rules of LANGUAGE.md that the compiled class shows, by their numbers. */
public final class LanguageRules {
    private static final int PARAMETERS = 7, LINES = 60, DEEP = 8, CLASSES = 12, FIELDS = 20;

    /** Of rule 4's library what the class may have need of: numbers and rows of numbers. */
    private static final Set<String> LIBRARY = Set.of(
        "java/lang/Object.<init>", "java/lang/Math.max", "java/lang/Math.min", "java/lang/Math.abs",
        "java/lang/Math.floorMod", "java/lang/Math.floorDiv", "java/lang/System.arraycopy", "java/util/Arrays.fill",
        "java/util/Arrays.copyOf", "java/util/Arrays.copyOfRange");

    private LanguageRules() {
    }

    private static List<Class<?>> classes() {
        List<Class<?>> all = new ArrayList<>(Arrays.asList(CurveRooms.class.getDeclaredClasses()));
        all.add(CurveRooms.class);
        return all;
    }

    private static void names() {
        Set<String> face = new HashSet<>();
        for (Method m : CurveRooms.class.getMethods()) face.add(m.getName());
        for (Class<?> told : classes()) {
            for (Method m : told.getDeclaredMethods()) {
                boolean ofTheFace = told == CurveRooms.class && Modifier.isPublic(m.getModifiers());
                Check.holds("rule 1: no other bears the name of a public one: " + m, ofTheFace || !face.contains(m.getName()));
            }
        }
    }

    private static void classesInside(List<ClassFile> files) {
        Check.due("rule 2: no local and no nameless class", files.size(), classes().size());
        for (Class<?> inside : CurveRooms.class.getDeclaredClasses()) {
            int has = inside.getModifiers();
            Check.holds("rule 2: static: " + inside, Modifier.isStatic(has));
            Check.holds("rule 1: not seen from outside: " + inside, !Modifier.isPublic(has) && !Modifier.isProtected(has));
            Check.due("rule 2: no classes inside of it: " + inside, inside.getDeclaredClasses().length, 0);
        }
        Check.holds("rule 11: some twelve classes", classes().size() <= CLASSES);
    }

    private static boolean isOwn(Class<?> type) {
        return classes().contains(type);
    }

    private static boolean isAllowed(Class<?> type) {
        if (!type.isArray()) return type.isPrimitive() || type == String.class || isOwn(type);
        Class<?> held = type.getComponentType();
        return held.isPrimitive() || isOwn(held) || held.isArray() && held.getComponentType().isPrimitive();
    }

    private static void fields() {
        for (Class<?> told : classes()) {
            int many = 0;
            for (Field f : told.getDeclaredFields()) {
                Check.holds("rule 3: type of " + f, isAllowed(f.getType()));
                if (!Modifier.isStatic(f.getModifiers())) many++;
                else Check.holds("rule 5: final: " + f, Modifier.isFinal(f.getModifiers()) && !isOwn(f.getType()));
            }
            Check.holds("rule 11: some twenty fields: " + told, many <= FIELDS);
        }
    }

    private static void heads() {
        for (Class<?> told : classes()) {
            for (Method m : told.getDeclaredMethods()) {
                Check.holds("rule 6: not synchronized: " + m, !Modifier.isSynchronized(m.getModifiers()));
                Check.holds("rule 11: parameters of " + m, m.getParameterCount() <= PARAMETERS);
            }
        }
    }

    /** Rule 12 lets any method make objects; that none does here keeps a long run's room as small as the object's. */
    private static void body(String called, ClassFile.Body body) {
        for (String call : body.calls) {
            Check.holds("rule 4: " + called + " calls " + call, call.startsWith("CurveRooms") || LIBRARY.contains(call));
        }
        Check.holds("rule 6: nothing thrown in " + called, !body.steps.contains(ClassFile.THROW));
        Check.holds("rule 6: nothing synchronized in " + called, !body.steps.contains(ClassFile.MONITOR));
        Check.due("rule 6: nothing caught in " + called, body.caught, 0);
        Check.holds("rules 2, 10: no lambda, no + on texts in " + called, !body.steps.contains(ClassFile.DYNAMIC));
        Check.holds("rule 11: lines of " + called, body.lines() <= LINES);
        if (called.endsWith(".<init>") || called.endsWith(".<clinit>")) return;
        Check.holds("rule 12: nothing is made in " + called, !body.makesSomething());
        Check.holds("rule 5: no static state in " + called, !body.setsStaticField());
    }

    /** How deep the calls of a method go, itself counted; a call that comes back to an open one is told. */
    private static int depth(String called, Map<String, ClassFile.Body> all, List<String> open) {
        Check.holds("rule 8: " + open + " is no recursion", !open.contains(called));
        if (open.contains(called) || !all.containsKey(called)) return 1;
        open.add(called);
        int most = 0;
        for (String call : all.get(called).calls) most = Math.max(most, depth(call, all, open));
        open.remove(called);
        return most + 1;
    }

    public static void main(String[] args) throws IOException {
        List<ClassFile> files = ClassFile.allOf(CurveRooms.class);
        Map<String, ClassFile.Body> all = new TreeMap<>();
        for (ClassFile file : files) all.putAll(file.methods);
        Check.holds("methods were found", all.size() > 100);
        names();
        classesInside(files);
        fields();
        heads();
        for (Map.Entry<String, ClassFile.Body> method : all.entrySet()) {
            body(method.getKey(), method.getValue());
            Check.holds("rule 11: depth of " + method.getKey(), depth(method.getKey(), all, new ArrayList<>()) <= DEEP);
        }
        Check.end();
    }
}
