import java.io.ByteArrayInputStream;
import java.io.DataInputStream;
import java.io.IOException;
import java.nio.file.DirectoryStream;
import java.nio.file.Files;
import java.nio.file.Path;
import java.util.ArrayList;
import java.util.List;
import java.util.Map;
import java.util.Set;
import java.util.TreeMap;
import java.util.TreeSet;

/** A compiled class: what each of its methods calls, and which kinds of steps it has. */
final class ClassFile {
    /** Steps that the rules speak of, by their numbers in a class file. */
    static final int THROW = 0xbf, DYNAMIC = 0xba, MONITOR = 0xc2;
    private static final int[] MAKING = {0xbb, 0xbc, 0xbd, 0xc5};
    private static final int TABLE = 0xaa, LOOKUP = 0xab, WIDE = 0xc4, COUNTING = 0x84;
    private static final int STATIC_FIELD = 0xb3;

    /** One method. */
    static final class Body {
        final Set<String> calls = new TreeSet<>();
        final Set<Integer> steps = new TreeSet<>();
        int caught = 0;
        int firstLine = Integer.MAX_VALUE;
        int lastLine = 0;

        boolean makesSomething() {
            for (int step : MAKING) {
                if (steps.contains(step)) return true;
            }
            return false;
        }

        boolean setsStaticField() {
            return steps.contains(STATIC_FIELD);
        }

        int lines() {
            return lastLine == 0 ? 0 : lastLine - firstLine + 1;
        }
    }

    final Map<String, Body> methods = new TreeMap<>();
    final String name;
    private final Object[] pool;

    /** Each entry of the pool: a text, or the numbers of the entries that it is made of. */
    ClassFile(Path file) throws IOException {
        DataInputStream in = new DataInputStream(new ByteArrayInputStream(Files.readAllBytes(file)));
        in.skipBytes(8);
        pool = new Object[in.readUnsignedShort()];
        for (int i = 1; i < pool.length; i++) i += readEntry(in, i);
        in.skipBytes(2);
        name = classAt(in.readUnsignedShort());
        in.skipBytes(2);
        in.skipBytes(2 * in.readUnsignedShort());
        for (int fields = in.readUnsignedShort(); fields > 0; fields--) readMember(in, null);
        for (int many = in.readUnsignedShort(); many > 0; many--) readMember(in, methods);
    }

    /** How many entries more it takes up: a long or a double takes two. */
    private int readEntry(DataInputStream in, int i) throws IOException {
        int tag = in.readUnsignedByte();
        switch (tag) {
            case 1: pool[i] = in.readUTF(); return 0;
            case 7: case 8: case 16: case 19: case 20: pool[i] = new int[] {in.readUnsignedShort()}; return 0;
            case 9: case 10: case 11: case 12: case 17: case 18:
                pool[i] = new int[] {in.readUnsignedShort(), in.readUnsignedShort()};
                return 0;
            case 3: case 4: in.skipBytes(4); return 0;
            case 5: case 6: in.skipBytes(8); return 1;
            case 15: in.skipBytes(3); return 0;
            default: throw new IOException("no such entry: " + tag);
        }
    }

    private int partOf(int entry, int part) {
        return ((int[]) pool[entry])[part];
    }

    private String classAt(int entry) {
        return (String) pool[partOf(entry, 0)];
    }

    private String memberAt(int entry) {
        return classAt(partOf(entry, 0)) + "." + pool[partOf(partOf(entry, 1), 0)];
    }

    private void readMember(DataInputStream in, Map<String, Body> into) throws IOException {
        in.skipBytes(2);
        String called = name + "." + pool[in.readUnsignedShort()];
        in.skipBytes(2);
        for (int parts = in.readUnsignedShort(); parts > 0; parts--) {
            String part = (String) pool[in.readUnsignedShort()];
            int length = in.readInt();
            if (into == null || !part.equals("Code")) in.skipBytes(length);
            else readCode(in, into.computeIfAbsent(called, k -> new Body()));
        }
    }

    private void readCode(DataInputStream in, Body body) throws IOException {
        in.skipBytes(4);
        byte[] code = new byte[in.readInt()];
        in.readFully(code);
        for (int at = 0; at < code.length; at += lengthOf(code, at)) readStep(code, at, body);
        int caught = in.readUnsignedShort();
        body.caught += caught;
        in.skipBytes(8 * caught);
        for (int parts = in.readUnsignedShort(); parts > 0; parts--) {
            String part = (String) pool[in.readUnsignedShort()];
            int length = in.readInt();
            if (part.equals("LineNumberTable")) readLines(in, body);
            else in.skipBytes(length);
        }
    }

    private void readStep(byte[] code, int at, Body body) {
        int step = code[at] & 255;
        body.steps.add(step);
        if (step >= 0xb6 && step <= 0xb9) body.calls.add(memberAt((code[at + 1] & 255) << 8 | code[at + 2] & 255));
    }

    private static void readLines(DataInputStream in, Body body) throws IOException {
        for (int many = in.readUnsignedShort(); many > 0; many--) {
            in.skipBytes(2);
            int line = in.readUnsignedShort();
            body.firstLine = Math.min(body.firstLine, line);
            body.lastLine = Math.max(body.lastLine, line);
        }
    }

    private static int number(byte[] code, int at) {
        return (code[at] & 255) << 24 | (code[at + 1] & 255) << 16 | (code[at + 2] & 255) << 8 | code[at + 3] & 255;
    }

    private static int lengthOf(byte[] code, int at) {
        int step = code[at] & 255;
        int even = (at + 4) / 4 * 4;
        if (step == TABLE) return even + 12 + 4 * (number(code, even + 8) - number(code, even + 4) + 1) - at;
        if (step == LOOKUP) return even + 8 + 8 * number(code, even + 4) - at;
        if (step == WIDE) return (code[at + 1] & 255) == COUNTING ? 6 : 4;
        if (step == 0xb9 || step == 0xba || step == 0xc8 || step == 0xc9) return 5;
        if (step == 0xc5) return 4;
        if (isOneMore(step)) return 2;
        return isTwoMore(step) ? 3 : 1;
    }

    private static boolean isOneMore(int step) {
        return step == 0x10 || step == 0x12 || step >= 0x15 && step <= 0x19 || step >= 0x36 && step <= 0x3a
            || step == 0xa9 || step == 0xbc;
    }

    private static boolean isTwoMore(int step) {
        return step == 0x11 || step == 0x13 || step == 0x14 || step == COUNTING || step >= 0x99 && step <= 0xa8
            || step >= 0xb2 && step <= 0xb8 || step == 0xbb || step == 0xbd || step == 0xc0 || step == 0xc1
            || step == 0xc6 || step == 0xc7;
    }

    /** The class's file and those of all classes inside it, as the compiler has put them side by side. */
    static List<ClassFile> allOf(Class<?> told) throws IOException {
        Path place = Path.of(told.getProtectionDomain().getCodeSource().getLocation().getPath());
        List<ClassFile> all = new ArrayList<>();
        try (DirectoryStream<Path> files = Files.newDirectoryStream(place, told.getName() + "*.class")) {
            for (Path file : files) {
                String plain = file.getFileName().toString();
                if (plain.equals(told.getName() + ".class") || plain.startsWith(told.getName() + "$")) all.add(new ClassFile(file));
            }
        }
        return all;
    }
}
