import java.io.IOException;
import java.lang.reflect.InvocationTargetException;
import java.lang.reflect.Method;
import java.nio.file.Files;
import java.nio.file.Path;
import java.util.HashMap;
import java.util.Map;

/** Long mixed runs of calls whose answers were found by another program, by plainer roads: see src/test/reference. */
public final class ReferenceRuns {
    public static void main(String[] args) throws IOException, IllegalAccessException, InvocationTargetException {
        Map<String, Method> methods = new HashMap<>();
        for (Method m : CurveRooms.class.getMethods()) {
            if (m.getDeclaringClass() == CurveRooms.class) methods.put(m.getName(), m);
        }
        String file = args.length > 0 ? args[0] : System.getProperty("project.root", ".") + "/src/test/data/runs.txt";
        CurveRooms x = new CurveRooms();
        int calls = 0;
        for (String line : Files.readAllLines(Path.of(file))) {
            String[] words = line.trim().split("\\s+");
            if (words[0].equals("new")) {
                x = new CurveRooms();
                continue;
            }
            Object[] arguments = new Object[words.length - 3];
            for (int i = 0; i < arguments.length; i++) arguments[i] = Integer.parseInt(words[i + 1]);
            long got = ((Number) methods.get(words[0]).invoke(x, arguments)).longValue();
            calls++;
            Check.due("call " + calls + ": " + line, got, Long.parseLong(words[words.length - 1]));
        }
        Check.holds("there are calls", calls > 1000);
        Check.end();
    }
}
