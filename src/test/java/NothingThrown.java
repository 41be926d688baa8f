import java.lang.reflect.Constructor;
import java.lang.reflect.Field;
import java.lang.reflect.InvocationTargetException;
import java.lang.reflect.Method;
import java.lang.reflect.Modifier;
import java.util.Arrays;
import java.util.Comparator;
import java.util.Random;

/** The face is the document's and no other, and no arguments in any state make a call throw. */
public final class NothingThrown {
    private static final String FACE = "int prime(int);int push(int);int curve();int points();int point(int,int);"
        + "long count(int);int countAll();long share(int);long classes();long places(int);int at(int,int);"
        + "int pick(int,int);int sum(int,int,int);int times(int,int,int);int of(int,int,int);int which(int);"
        + "int order(int);int log(int,int);int group(int);int amount(int,int);int room(int);int gaps(int);"
        + "int code(int,int);int read(int,int,int);int tell(int,int);int near(int,int);int least(int);"
        + "int turns(int);int turned(int,int);int cover(int,int);int genus(int);int above(int,int);long digest();";
    private static final int[] ODD = {
        Integer.MIN_VALUE, Integer.MAX_VALUE, -100001, -100000, -31, -30, -3, -2, -1, 12, 13, 25, 26, 27, 30, 31,
        449, 450, 100000, 100001,
    };

    private static Method[] face() {
        return Arrays.stream(CurveRooms.class.getDeclaredMethods())
            .filter(m -> !Modifier.isPrivate(m.getModifiers()))
            .sorted(Comparator.comparing(Method::getName))
            .toArray(Method[]::new);
    }

    private static void faceIsAsTold(Method[] methods) {
        int told = FACE.split(";").length;
        Check.due("how many methods", methods.length, told);
        for (Method m : methods) {
            StringBuilder line = new StringBuilder(m.getReturnType() + " " + m.getName() + "(");
            for (int i = 0; i < m.getParameterCount(); i++) {
                line.append(i == 0 ? "" : ",").append(m.getParameterTypes()[i]);
            }
            Check.holds(m.toString(), (";" + FACE).contains(";" + line + ");"));
        }
        for (Field f : CurveRooms.class.getDeclaredFields()) {
            if (Modifier.isPrivate(f.getModifiers())) continue;
            Check.holds(f.toString(), "NONE BAD NO FULL".contains(f.getName()));
        }
        Constructor<?>[] made = CurveRooms.class.getDeclaredConstructors();
        Check.due("constructors", made.length, 1);
        Check.holds("final", Modifier.isFinal(CurveRooms.class.getModifiers()));
    }

    private static int argument(Random random) {
        int kind = random.nextInt(8);
        if (kind == 0) return ODD[random.nextInt(ODD.length)];
        return kind < 3 ? random.nextInt(40) - 5 : random.nextInt(7) - 1;
    }

    private static void oneRun(Method[] methods, Random random) throws IllegalAccessException {
        CurveRooms x = new CurveRooms();
        if (random.nextInt(4) > 0) x.prime(Check.PRIMES[random.nextInt(5)]);
        for (int call = 0; call < 512; call++) {
            if (random.nextInt(25) == 0) {
                int degree = random.nextBoolean() ? 3 : 5;
                for (int i = 0; i < degree; i++) x.push(random.nextInt(13));
                x.push(1);
                x.curve();
            }
            Method m = methods[random.nextInt(methods.length)];
            if (m.getName().equals("prime") && random.nextInt(8) > 0) continue;
            Object[] arguments = new Object[m.getParameterCount()];
            for (int i = 0; i < arguments.length; i++) arguments[i] = argument(random);
            try {
                m.invoke(x, arguments);
            } catch (InvocationTargetException thrown) {
                Check.holds(m.getName() + Arrays.toString(arguments) + " threw " + thrown.getCause(), false);
            }
        }
    }

    public static void main(String[] args) throws IllegalAccessException {
        Method[] methods = face();
        faceIsAsTold(methods);
        Random random = new Random(20261118);
        for (int run = 0; run < 400; run++) oneRun(methods, random);
        Check.end();
    }
}
