import java.io.ByteArrayInputStream;
import java.io.DataInputStream;
import java.io.IOException;
import java.io.InputStream;
import java.util.ArrayList;
import java.util.HashMap;
import java.util.LinkedHashSet;
import java.util.List;
import java.util.Map;
import java.util.Set;

/** LANGUAGE.md, rules 8 and 11: no recursion, and calls (the library's too) at most eight deep, by the compiled classes. */
public final class DepthTest {
    private static final Map<String, Set<String>> CALLS = new HashMap<>();
    private static final Map<String, String> ABOVE = new HashMap<>();
    private static final Map<String, Integer> DEPTHS = new HashMap<>();

    public static void main(String[] args) throws IOException {
        String[] inside = {"", "$Row", "$Mill", "$Paper", "$House", "$Fields", "$Shared", "$End", "$Side", "$Client",
            "$Server", "$Office"};
        Check.due("all classes are looked at", inside.length, SecureLines.class.getDeclaredClasses().length + 1);
        for (String name : inside) {
            try (InputStream in = SecureLines.class.getResourceAsStream("/SecureLines" + name + ".class")) {
                new Reader(in.readAllBytes()).read();
            }
        }
        int most = 0;
        for (String method : CALLS.keySet()) {
            int depth = depth(method, new LinkedHashSet<>());
            if (method.startsWith("SecureLines.")) {
                most = Math.max(most, depth);
                Check.that(method + " is " + depth + " deep", depth <= 8);
            }
        }
        Check.that("calls were found", most > 4);
        Check.end("DepthTest");
    }

    /** How many calls stand open at most below one, itself counted. */
    private static int depth(String method, Set<String> open) {
        if (DEPTHS.containsKey(method)) {
            return DEPTHS.get(method);
        }
        Check.that("no recursion: " + method, open.add(method));
        int below = 0;
        for (String called : CALLS.getOrDefault(method, Set.of())) {
            boolean library = !called.startsWith("SecureLines") && !called.contains("<init>");
            below = Math.max(below, library ? 1 : 0);
            for (String one : meant(called)) {
                below = Math.max(below, open.contains(one) ? 99 : depth(one, open));
            }
        }
        open.remove(method);
        DEPTHS.put(method, below + 1);
        return below + 1;
    }

    /** The methods that a call may reach: the one of its class or above, and those of classes below. */
    private static List<String> meant(String called) {
        int cut = called.indexOf('.');
        String rest = called.substring(cut);
        List<String> got = new ArrayList<>();
        for (String c = called.substring(0, cut); c != null && c.startsWith("SecureLines"); c = ABOVE.get(c)) {
            if (CALLS.containsKey(c + rest)) {
                got.add(c + rest);
                break;
            }
        }
        for (String c : ABOVE.keySet()) {
            if (ABOVE.get(c).equals(called.substring(0, cut)) && CALLS.containsKey(c + rest) && !rest.startsWith(".<init>")) {
                got.add(c + rest);
            }
        }
        return got;
    }

    /** Reads a class file as far as its methods' calls. */
    private static final class Reader {
        private final DataInputStream in;
        private Object[] pool;

        Reader(byte[] bytes) {
            in = new DataInputStream(new ByteArrayInputStream(bytes));
        }

        void read() throws IOException {
            in.readInt();
            in.readInt();
            readPool();
            in.readUnsignedShort();
            String name = classAt(in.readUnsignedShort());
            ABOVE.put(name, classAt(in.readUnsignedShort()));
            in.skipBytes(2 * in.readUnsignedShort());
            for (int part = 0; part < 2; part++) {
                int count = in.readUnsignedShort();
                for (int i = 0; i < count; i++) {
                    in.readUnsignedShort();
                    String method = name + "." + pool[in.readUnsignedShort()] + pool[in.readUnsignedShort()];
                    if (part == 1) {
                        CALLS.put(method, new LinkedHashSet<>());
                    }
                    int attributes = in.readUnsignedShort();
                    for (int j = 0; j < attributes; j++) {
                        boolean code = pool[in.readUnsignedShort()].equals("Code");
                        byte[] bytes = new byte[in.readInt()];
                        in.readFully(bytes);
                        if (code) {
                            readCode(bytes, CALLS.get(method));
                        }
                    }
                }
            }
        }

        private void readPool() throws IOException {
            pool = new Object[in.readUnsignedShort()];
            for (int i = 1; i < pool.length; i++) {
                int tag = in.readUnsignedByte();
                if (tag == 1) {
                    pool[i] = in.readUTF();
                } else if (tag == 3 || tag == 4) {
                    in.readInt();
                } else if (tag == 5 || tag == 6) {
                    in.readLong();
                    i++;
                } else if (tag == 7 || tag == 8 || tag == 16) {
                    pool[i] = new int[] {in.readUnsignedShort()};
                } else {
                    pool[i] = new int[] {in.readUnsignedShort(), in.readUnsignedShort()};
                }
            }
        }

        private String classAt(int i) {
            return (String) pool[((int[]) pool[i])[0]];
        }

        private static int at(byte[] code, int i) {
            return (code[i] & 255) << 8 | code[i + 1] & 255;
        }

        private static int fourAt(byte[] code, int i) {
            return at(code, i) << 16 | at(code, i + 2);
        }

        private void readCode(byte[] attribute, Set<String> calls) {
            int end = 8 + fourAt(attribute, 4);
            for (int i = 8; i < end;) {
                int op = attribute[i] & 255;
                if (op >= 182 && op <= 185) {
                    int[] target = (int[]) pool[at(attribute, i + 1)];
                    int[] signature = (int[]) pool[target[1]];
                    calls.add(classAt(target[0]) + "." + pool[signature[0]] + pool[signature[1]]);
                }
                i += size(attribute, i, op);
            }
        }

        private static int size(byte[] code, int i, int op) {
            int aligned = i + 4 - (i - 8) % 4;
            if (op == 170) {
                return aligned + 12 + 4 * (fourAt(code, aligned + 8) - fourAt(code, aligned + 4) + 1) - i;
            }
            if (op == 171) {
                return aligned + 8 + 8 * fourAt(code, aligned + 4) - i;
            }
            if (op == 196) {
                return code[i + 1] == (byte) 132 ? 6 : 4;
            }
            if (op == 185 || op == 186 || op == 200 || op == 201) {
                return 5;
            }
            if (op == 197) {
                return 4;
            }
            boolean three = op == 17 || op == 19 || op == 20 || op == 132 || op >= 153 && op <= 168
                || op >= 178 && op <= 184 || op == 187 || op == 189 || op == 192 || op == 193 || op == 198 || op == 199;
            boolean two = op == 16 || op == 18 || op >= 21 && op <= 25 || op >= 54 && op <= 58 || op == 169 || op == 188;
            return three ? 3 : two ? 2 : 1;
        }
    }
}
