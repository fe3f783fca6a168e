import java.io.DataInputStream;
import java.io.IOException;
import java.io.InputStream;
import java.util.Set;
import java.util.TreeSet;

/** What a compiled class calls, read from its pool of constants. */
final class ClassFile {
    private static final int UTF8 = 1;
    private static final int LONG = 5;
    private static final int DOUBLE = 6;
    private static final int CLASS = 7;
    private static final int STRING = 8;
    private static final int FIELD = 9;
    private static final int METHOD = 10;
    private static final int INTERFACE_METHOD = 11;
    private static final int NAME_AND_TYPE = 12;
    private static final int METHOD_HANDLE = 15;
    private static final int METHOD_TYPE = 16;
    private static final int DYNAMIC = 17;
    private static final int INVOKE_DYNAMIC = 18;

    private final int[] kinds;
    private final int[] firsts;
    private final int[] seconds;
    private final String[] texts;

    ClassFile(Class<?> type) throws IOException {
        String name = type.getName() + ".class";
        try (InputStream bytes = type.getClassLoader().getResourceAsStream(name)) {
            if (bytes == null) {
                throw new IOException("no " + name);
            }
            DataInputStream in = new DataInputStream(bytes);
            in.skipNBytes(8);
            int count = in.readUnsignedShort();
            kinds = new int[count];
            firsts = new int[count];
            seconds = new int[count];
            texts = new String[count];
            for (int i = 1; i < count; i++) {
                readConstant(in, i);
                if (kinds[i] == LONG || kinds[i] == DOUBLE) {
                    i++;
                }
            }
        }
    }

    private void readConstant(DataInputStream in, int i) throws IOException {
        kinds[i] = in.readUnsignedByte();
        switch (kinds[i]) {
            case UTF8:
                texts[i] = in.readUTF();
                break;
            case LONG:
            case DOUBLE:
                in.skipNBytes(8);
                break;
            case CLASS:
            case STRING:
            case METHOD_TYPE:
                firsts[i] = in.readUnsignedShort();
                break;
            case METHOD_HANDLE:
                in.skipNBytes(3);
                break;
            case FIELD:
            case METHOD:
            case INTERFACE_METHOD:
            case NAME_AND_TYPE:
            case DYNAMIC:
            case INVOKE_DYNAMIC:
                firsts[i] = in.readUnsignedShort();
                seconds[i] = in.readUnsignedShort();
                break;
            default:
                in.skipNBytes(4);
        }
    }

    /** The methods of other classes that it calls, as "java/lang/Math.max". */
    Set<String> calls() {
        Set<String> all = new TreeSet<>();
        for (int i = 1; i < kinds.length; i++) {
            if (kinds[i] == METHOD || kinds[i] == INTERFACE_METHOD) {
                all.add(texts[firsts[firsts[i]]] + "." + texts[firsts[seconds[i]]]);
            }
        }
        return all;
    }

    /** Whether something is called that is bound only at run time, as lambdas and texts joined by + are. */
    boolean isBoundLate() {
        for (int kind : kinds) {
            if (kind == METHOD_HANDLE || kind == DYNAMIC || kind == INVOKE_DYNAMIC) {
                return true;
            }
        }
        return false;
    }
}
