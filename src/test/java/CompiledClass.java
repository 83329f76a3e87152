import java.io.DataInputStream;
import java.io.IOException;
import java.io.InputStream;
import java.util.Set;
import java.util.TreeSet;

/** What a compiled class asks of others, by its pool of constants. */
final class CompiledClass {
    private static final int TEXT = 1, INT = 3, FLOAT = 4, LONG = 5, DOUBLE = 6, CLASS = 7, STRING = 8, FIELD = 9;
    private static final int METHOD = 10, INTERFACE_METHOD = 11, NAME_AND_TYPE = 12;

    /** "owner.name" of each method and field that it uses. */
    final Set<String> uses = new TreeSet<>();
    /** Kinds of constants that stand for lambdas and what is like them. */
    int strange;

    CompiledClass(Class<?> of) throws IOException {
        String file = of.getName() + ".class";
        try (InputStream bytes = of.getClassLoader().getResourceAsStream(file);
                DataInputStream in = new DataInputStream(bytes)) {
            in.readInt();
            in.readInt();
            pool(in);
        }
    }

    private void pool(DataInputStream in) throws IOException {
        int size = in.readUnsignedShort();
        int[] kinds = new int[size];
        int[] first = new int[size];
        int[] second = new int[size];
        String[] texts = new String[size];
        for (int i = 1; i < size; i++) {
            kinds[i] = in.readUnsignedByte();
            switch (kinds[i]) {
                case TEXT:
                    texts[i] = in.readUTF();
                    break;
                case INT:
                case FLOAT:
                    in.readInt();
                    break;
                case LONG:
                case DOUBLE:
                    in.readLong();
                    i++;
                    break;
                case CLASS:
                case STRING:
                    first[i] = in.readUnsignedShort();
                    break;
                case FIELD:
                case METHOD:
                case INTERFACE_METHOD:
                case NAME_AND_TYPE:
                    first[i] = in.readUnsignedShort();
                    second[i] = in.readUnsignedShort();
                    break;
                default:
                    strange++;
                    return; // their lengths are not worth knowing
            }
        }
        for (int i = 1; i < size; i++) {
            if (kinds[i] == FIELD || kinds[i] == METHOD || kinds[i] == INTERFACE_METHOD) {
                uses.add(texts[first[first[i]]] + "." + texts[first[second[i]]]);
            }
        }
    }
}
