import java.io.ByteArrayInputStream;
import java.io.DataInputStream;
import java.io.IOException;
import java.io.InputStream;
import java.util.ArrayList;
import java.util.HashMap;
import java.util.List;
import java.util.Map;
import java.util.Set;
import java.util.TreeMap;
import java.util.TreeSet;

/** Rules 8 and 11 of LANGUAGE.md: which methods call which, read from the compiled classes. */
public final class CallsTest {
    private static final Check CHECK = new Check("CallsTest");
    private static final int MOST_DEEP = 8;
    private static final int INVOKE_FIRST = 182;
    private static final int INVOKE_LAST = 185;
    private static final int INVOKE_DYNAMIC = 186;

    private final Map<String, Set<String>> calls = new TreeMap<>();
    private final Map<String, Integer> depths = new HashMap<>();

    public static void main(String[] args) throws IOException {
        CallsTest test = new CallsTest();
        test.read(HeadCounts.class);
        for (Class<?> inside : HeadCounts.class.getDeclaredClasses()) {
            test.read(inside);
        }
        test.calls.values().forEach(called -> called.retainAll(test.calls.keySet()));
        test.recursion();
        test.depth();
        CHECK.close();
    }

    private void read(Class<?> c) throws IOException {
        try (InputStream stream = c.getResourceAsStream("/" + c.getName() + ".class")) {
            new ClassFile(new DataInputStream(stream)).addCalls(calls);
        }
    }

    private Set<String> reachedFrom(String method) {
        Set<String> reached = new TreeSet<>();
        List<String> open = new ArrayList<>(calls.get(method));
        while (!open.isEmpty()) {
            String next = open.remove(open.size() - 1);
            if (reached.add(next)) {
                open.addAll(calls.get(next));
            }
        }
        return reached;
    }

    private static String shortName(String method) {
        return method.substring(0, method.indexOf('('));
    }

    private void recursion() {
        Set<String> known = Set.of("HeadCounts$RuleReader.readTest", "HeadCounts$RuleReader.readFact", "HeadCounts$Crossing.cross");
        Set<String> found = new TreeSet<>();
        for (String method : calls.keySet()) {
            if (reachedFrom(method).contains(method)) {
                found.add(shortName(method));
            }
        }
        CHECK.due("only these call themselves: " + found, found.equals(known), true);
    }

    private void depth() {
        for (String method : calls.keySet()) {
            int depth = depthOf(method);
            CHECK.due(method + " goes at most eight deep: " + depth, depth <= MOST_DEEP, true);
        }
        CHECK.due("the deepest", depths.values().stream().mapToInt(Integer::intValue).max().orElse(0) > 3, true);
    }

    /** How many stand open at most, each but once. */
    private int depthOf(String method) {
        Integer known = depths.get(method);
        if (known != null) {
            return known;
        }
        depths.put(method, 0);
        int deepest = 0;
        for (String called : calls.get(method)) {
            deepest = Math.max(deepest, depthOf(called));
        }
        depths.put(method, deepest + 1);
        return deepest + 1;
    }

    /** As much of a class file as tells which methods its methods call. */
    private static final class ClassFile {
        private final DataInputStream in;
        private final int[] tags;
        private final int[] first;
        private final int[] second;
        private final String[] texts;

        ClassFile(DataInputStream in) throws IOException {
            this.in = in;
            in.readInt();
            in.readInt();
            int size = in.readUnsignedShort();
            tags = new int[size];
            first = new int[size];
            second = new int[size];
            texts = new String[size];
            for (int i = 1; i < size; i++) {
                readConstant(i);
                i += tags[i] == 5 || tags[i] == 6 ? 1 : 0;
            }
        }

        private void readConstant(int i) throws IOException {
            tags[i] = in.readUnsignedByte();
            switch (tags[i]) {
                case 1: texts[i] = in.readUTF(); break;
                case 3: case 4: in.readInt(); break;
                case 5: case 6: in.readLong(); break;
                case 7: case 8: case 16: case 19: case 20: first[i] = in.readUnsignedShort(); break;
                case 15: in.readUnsignedByte(); in.readUnsignedShort(); break;
                default: first[i] = in.readUnsignedShort(); second[i] = in.readUnsignedShort();
            }
        }

        void addCalls(Map<String, Set<String>> calls) throws IOException {
            in.readUnsignedShort();
            String name = texts[first[in.readUnsignedShort()]];
            in.readUnsignedShort();
            in.skipBytes(2 * in.readUnsignedShort());
            for (int fields = in.readUnsignedShort(); fields > 0; fields--) {
                in.skipBytes(6);
                skipAttributes();
            }
            for (int methods = in.readUnsignedShort(); methods > 0; methods--) {
                in.readUnsignedShort();
                String method = name + "." + texts[in.readUnsignedShort()] + texts[in.readUnsignedShort()];
                calls.put(method, new TreeSet<>());
                readMethod(calls.get(method));
            }
        }

        private void skipAttributes() throws IOException {
            for (int many = in.readUnsignedShort(); many > 0; many--) {
                in.readUnsignedShort();
                in.skipBytes(in.readInt());
            }
        }

        private void readMethod(Set<String> called) throws IOException {
            for (int many = in.readUnsignedShort(); many > 0; many--) {
                String name = texts[in.readUnsignedShort()];
                byte[] bytes = new byte[in.readInt()];
                in.readFully(bytes);
                if (name.equals("Code")) {
                    DataInputStream code = new DataInputStream(new ByteArrayInputStream(bytes));
                    code.readInt();
                    byte[] signs = new byte[code.readInt()];
                    code.readFully(signs);
                    readCode(signs, called);
                }
            }
        }

        private void readCode(byte[] code, Set<String> called) {
            boolean isMadeUp = false;
            for (int at = 0; at < code.length; at += lengthAt(code, at)) {
                int sign = code[at] & 255;
                isMadeUp |= sign == INVOKE_DYNAMIC;
                if (sign >= INVOKE_FIRST && sign <= INVOKE_LAST) {
                    int method = (code[at + 1] & 255) << 8 | code[at + 2] & 255;
                    int type = second[method];
                    called.add(texts[first[first[method]]] + "." + texts[first[type]] + texts[second[type]]);
                }
            }
            CHECK.due("a call is made up at run time", isMadeUp, false);
        }

        private static int intAt(byte[] code, int at) {
            return code[at] << 24 | (code[at + 1] & 255) << 16 | (code[at + 2] & 255) << 8 | code[at + 3] & 255;
        }

        private static int lengthAt(byte[] code, int at) {
            int sign = code[at] & 255;
            int numbers = (at & ~3) + 4;
            switch (sign) {
                case 16: case 18: case 169: case 188: return 2;
                case 132: case 187: case 189: case 192: case 193: case 198: case 199: return 3;
                case 197: return 4;
                case 185: case 186: case 200: case 201: return 5;
                case 196: return (code[at + 1] & 255) == 132 ? 6 : 4;
                case 170: return numbers + 12 + 4 * (intAt(code, numbers + 8) - intAt(code, numbers + 4) + 1) - at;
                case 171: return numbers + 8 + 8 * intAt(code, numbers + 4) - at;
                default: return isIn(sign, 21, 25) || isIn(sign, 54, 58) ? 2
                    : sign == 17 || isIn(sign, 19, 20) || isIn(sign, 153, 168) || isIn(sign, 178, 184) ? 3 : 1;
            }
        }

        private static boolean isIn(int sign, int least, int most) {
            return sign >= least && sign <= most;
        }
    }
}
