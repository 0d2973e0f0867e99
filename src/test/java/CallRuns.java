import java.io.DataInputStream;
import java.io.IOException;
import java.util.ArrayList;
import java.util.List;
import java.util.Map;
import java.util.Set;
import java.util.TreeMap;
import java.util.TreeSet;

/** The rules of LANGUAGE.md on calls, objects and exceptions, looked at in the compiled classes. */
public final class CallRuns {
    private static final int DEEPEST = 8;
    // Of rule 4, what the class needs; a list's or a text's methods would have to be added here.
    private static final String LIBRARY = "java/lang/(Math|Integer|Long)\\.(?!\\w*Exact\\b)\\w+\\([IJ]+\\)[IJ]"
        + "|java/util/Arrays\\.(copyOf|copyOfRange|fill)\\(.*|java/lang/System\\.arraycopy\\(.*"
        + "|java/lang/Object\\.<init>\\(\\)V";

    private static final Map<String, Set<String>> calls = new TreeMap<>();
    private static int wrong = 0;

    private static void check(boolean holds, String what) {
        if (!holds) {
            wrong++;
            System.out.println(what);
        }
    }

    public static void main(String[] args) throws IOException {
        read(TornStreams.class);
        for (Class<?> nested : TornStreams.class.getDeclaredClasses()) {
            read(nested);
        }
        check(calls.size() >= 24, "only " + calls.size() + " methods were seen");
        for (Set<String> called : calls.values()) {
            for (String method : called) {
                check(calls.containsKey(method) || method.matches(LIBRARY), "a call of " + method);
            }
        }
        int deepest = 0;
        for (String method : calls.keySet()) {
            deepest = Math.max(deepest, depth(method, new ArrayList<>()));
        }
        System.out.println(calls.size() + " methods, calls " + deepest + " deep, " + wrong + " rules broken");
        if (wrong != 0) {
            System.exit(1);
        }
    }

    private static int depth(String method, List<String> open) {
        if (open.contains(method)) {
            check(false, "recursion: " + open + " and again " + method);
            return 0;
        }
        open.add(method);
        check(open.size() <= DEEPEST, "calls go too deep: " + open);
        int below = 0;
        for (String called : calls.getOrDefault(method, Set.of())) {
            below = Math.max(below, depth(called, open));
        }
        open.remove(open.size() - 1);
        return below + 1;
    }

    // ---- class files

    private static void read(Class<?> c) throws IOException {
        try (DataInputStream in = new DataInputStream(c.getResourceAsStream(c.getName() + ".class"))) {
            in.skipNBytes(8);
            Constants constants = new Constants(in);
            in.skipNBytes(6);
            in.skipNBytes(2L * in.readUnsignedShort());
            for (int fields = in.readUnsignedShort(); fields > 0; fields--) {
                in.skipNBytes(6);
                skipAttributes(in);
            }
            for (int methods = in.readUnsignedShort(); methods > 0; methods--) {
                method(in, constants, c.getName().replace('.', '/'));
            }
        }
    }

    private static void skipAttributes(DataInputStream in) throws IOException {
        for (int left = in.readUnsignedShort(); left > 0; left--) {
            in.skipNBytes(2);
            in.skipNBytes(in.readInt());
        }
    }

    private static void method(DataInputStream in, Constants constants, String owner) throws IOException {
        in.skipNBytes(2);
        String name = constants.texts[in.readUnsignedShort()];
        String method = owner + "." + name + constants.texts[in.readUnsignedShort()];
        for (int left = in.readUnsignedShort(); left > 0; left--) {
            String attribute = constants.texts[in.readUnsignedShort()];
            int length = in.readInt();
            if (!attribute.equals("Code")) {
                in.skipNBytes(length);
                continue;
            }
            in.skipNBytes(4);
            byte[] code = in.readNBytes(in.readInt());
            code(code, constants, method, name.startsWith("<"));
            int handlers = in.readUnsignedShort();
            check(handlers == 0, method + " catches an exception");
            in.skipNBytes(8L * handlers);
            skipAttributes(in);
        }
    }

    private static void code(byte[] code, Constants constants, String method, boolean isConstructor) {
        Set<String> called = new TreeSet<>();
        calls.put(method, called);
        for (int at = 0; at < code.length; at += size(code, at)) {
            int instruction = code[at] & 255;
            if (instruction >= 182 && instruction <= 185) {
                called.add(constants.member((code[at + 1] & 255) << 8 | code[at + 2] & 255));
            }
            boolean makes = instruction >= 187 && instruction <= 189 || instruction == 197;
            // LANGUAGE.md would allow it, but README.md tells that no call makes an object.
            check(!makes || isConstructor, method + " makes an object or an array");
            check(instruction != 186, method + " has a lambda or joins texts by +");
            check(instruction != 191, method + " throws");
        }
    }

    // How many bytes an instruction has.
    private static int size(byte[] code, int at) {
        int i = code[at] & 255;
        if (i == 170 || i == 171) {
            int data = at + 4 - at % 4;
            return data - at + (i == 170 ? 12 + 4 * (word(code, data + 8) - word(code, data + 4) + 1)
                : 8 + 8 * word(code, data + 4));
        }
        if (i == 196) {
            return (code[at + 1] & 255) == 132 ? 6 : 4;
        }
        if (i == 185 || i == 186 || i == 200 || i == 201) {
            return 5;
        }
        if (i == 197) {
            return 4;
        }
        if (i == 17 || i == 19 || i == 20 || i == 132 || i >= 153 && i <= 168 || i >= 178 && i <= 184
            || i == 187 || i == 189 || i == 192 || i == 193 || i == 198 || i == 199) {
            return 3;
        }
        boolean isPair = i == 16 || i == 18 || i >= 21 && i <= 25 || i >= 54 && i <= 58 || i == 169 || i == 188;
        return isPair ? 2 : 1;
    }

    private static int word(byte[] code, int at) {
        return (code[at] & 255) << 24 | (code[at + 1] & 255) << 16 | (code[at + 2] & 255) << 8 | code[at + 3] & 255;
    }

    private static final class Constants {
        final String[] texts;
        private final int[] firsts;
        private final int[] seconds;

        Constants(DataInputStream in) throws IOException {
            int count = in.readUnsignedShort();
            texts = new String[count];
            firsts = new int[count];
            seconds = new int[count];
            for (int i = 1; i < count; i++) {
                int tag = in.readUnsignedByte();
                if (tag == 1) {
                    texts[i] = in.readUTF();
                } else if (tag == 7 || tag == 8 || tag == 16 || tag == 19 || tag == 20) {
                    firsts[i] = in.readUnsignedShort();
                } else if (tag == 15) {
                    in.skipNBytes(3);
                } else {
                    firsts[i] = in.readUnsignedShort();
                    seconds[i] = in.readUnsignedShort();
                }
                if (tag == 5 || tag == 6) {
                    in.skipNBytes(4);
                    i++;
                }
            }
        }

        String member(int i) {
            int pair = seconds[i];
            return texts[firsts[firsts[i]]] + "." + texts[firsts[pair]] + texts[seconds[pair]];
        }
    }
}
