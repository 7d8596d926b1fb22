import java.io.ByteArrayInputStream;
import java.io.DataInputStream;
import java.io.IOException;
import java.io.InputStream;
import java.util.ArrayList;
import java.util.HashMap;
import java.util.LinkedHashSet;
import java.util.List;
import java.util.Map;
import java.util.Set;

/** Rules 8 and 11 of LANGUAGE.md: methods call one another at most eight deep, and none comes round to itself. */
public final class DepthTest {
    private static final int DEEPEST = 8;

    // Who calls whom, as class.method and its descriptor.
    private static final Map<String, Set<String>> CALLS = new HashMap<>();

    private DepthTest() {
    }

    public static void main(String[] args) throws IOException {
        read(SevenSpells.class);
        for (Class<?> inner : SevenSpells.class.getDeclaredClasses()) {
            read(inner);
        }
        List<String> deepest = List.of();
        for (String method : CALLS.keySet()) {
            List<String> chain = deepestFrom(method, new ArrayList<>());
            deepest = chain.size() > deepest.size() ? chain : deepest;
        }
        boolean right = deepest.size() <= DEEPEST && CALLS.size() > 100;
        System.out.println(CALLS.size() + " methods, calls go " + deepest.size() + " deep" + (right ? "" : ": " + deepest));
        if (!right) {
            System.exit(1);
        }
    }

    private static List<String> deepestFrom(String method, List<String> open) {
        if (open.contains(method)) {
            System.out.println("it comes round: " + open);
            System.exit(1);
        }
        open.add(method);
        List<String> deepest = List.of();
        for (String called : CALLS.getOrDefault(method, Set.of())) {
            List<String> chain = deepestFrom(called, open);
            deepest = chain.size() > deepest.size() ? chain : deepest;
        }
        open.remove(open.size() - 1);
        List<String> chain = new ArrayList<>(List.of(method));
        chain.addAll(deepest);
        return chain;
    }

    private static void read(Class<?> one) throws IOException {
        try (InputStream file = one.getResourceAsStream(one.getName() + ".class")) {
            new ClassFile(new DataInputStream(new ByteArrayInputStream(file.readAllBytes()))).readMethods();
        }
    }

    /** As much of a class file as tells of calls. */
    private static final class ClassFile {
        private final DataInputStream in;
        private final String[] texts;
        private final int[][] refs;
        private final String name;

        ClassFile(DataInputStream in) throws IOException {
            this.in = in;
            in.skipBytes(8);
            int count = in.readUnsignedShort();
            texts = new String[count];
            refs = new int[count][];
            for (int i = 1; i < count; i++) {
                i += readConstant(i);
            }
            in.skipBytes(2);
            name = texts[refs[in.readUnsignedShort()][0]];
            in.skipBytes(2);
            in.skipBytes(2 * in.readUnsignedShort());
        }

        /** How many places more it takes. */
        private int readConstant(int i) throws IOException {
            int tag = in.readUnsignedByte();
            switch (tag) {
                case 1: texts[i] = in.readUTF(); return 0;
                case 3: case 4: in.skipBytes(4); return 0;
                case 5: case 6: in.skipBytes(8); return 1;
                case 7: case 8: case 16: case 19: case 20: refs[i] = new int[] {in.readUnsignedShort()}; return 0;
                case 15: in.skipBytes(3); return 0;
                default: refs[i] = new int[] {in.readUnsignedShort(), in.readUnsignedShort()}; return 0;
            }
        }

        void readMethods() throws IOException {
            for (int fields = in.readUnsignedShort(); fields > 0; fields--) {
                in.skipBytes(6);
                readAttributes(null);
            }
            for (int methods = in.readUnsignedShort(); methods > 0; methods--) {
                in.skipBytes(2);
                String method = name + "." + texts[in.readUnsignedShort()] + texts[in.readUnsignedShort()];
                Set<String> called = new LinkedHashSet<>();
                CALLS.put(method, called);
                readAttributes(called);
            }
        }

        private void readAttributes(Set<String> called) throws IOException {
            for (int attributes = in.readUnsignedShort(); attributes > 0; attributes--) {
                String attribute = texts[in.readUnsignedShort()];
                byte[] inside = in.readNBytes(in.readInt());
                if (attribute.equals("Code") && called != null) {
                    readCode(inside, called);
                }
            }
        }

        private void readCode(byte[] code, Set<String> called) {
            int end = 8 + number(code, 4);
            for (int at = 8; at < end; at += length(code, at)) {
                int operation = code[at] & 255;
                if (operation >= 182 && operation <= 185) {
                    int[] method = refs[(code[at + 1] & 255) << 8 | code[at + 2] & 255];
                    int[] what = refs[method[1]];
                    String owner = texts[refs[method[0]][0]];
                    if (owner.startsWith("SevenSpells")) {
                        called.add(owner + "." + texts[what[0]] + texts[what[1]]);
                    }
                }
            }
        }

        private static int number(byte[] code, int at) {
            return (code[at] & 255) << 24 | (code[at + 1] & 255) << 16 | (code[at + 2] & 255) << 8 | code[at + 3] & 255;
        }

        private static int length(byte[] code, int at) {
            int operation = code[at] & 255;
            // A switch's numbers begin at a place that four divides, reckoned from the code's beginning.
            int numbers = at + 4 - (at - 8) % 4;
            switch (operation) {
                case 16: case 18: case 21: case 22: case 23: case 24: case 25: case 54: case 55: case 56: case 57: case 58:
                case 169: case 188: return 2;
                case 170: return numbers + 12 + 4 * (number(code, numbers + 8) - number(code, numbers + 4) + 1) - at;
                case 171: return numbers + 8 + 8 * number(code, numbers + 4) - at;
                case 185: case 186: case 200: case 201: return 5;
                case 196: return (code[at + 1] & 255) == 132 ? 6 : 4;
                case 197: return 4;
                case 17: case 19: case 20: case 132: case 187: case 189: case 192: case 193: case 198: case 199: return 3;
                default: return operation >= 153 && operation <= 168 || operation >= 178 && operation <= 184 ? 3 : 1;
            }
        }
    }
}
