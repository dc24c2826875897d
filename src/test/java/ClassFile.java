import java.io.DataInputStream;
import java.io.IOException;
import java.io.InputStream;
import java.util.TreeSet;

/** Which methods and fields of other classes a compiled class names, read from its table of constants. */
final class ClassFile {
    private static final int TEXT = 1;
    private static final int CLASS = 7;
    private static final int FIELD = 9;
    private static final int METHOD = 10;
    private static final int METHOD_OF_INTERFACE = 11;
    private static final int NAME_AND_TYPE = 12;

    private final Object[] constants;
    private final int[] kinds;

    private ClassFile(int count) {
        constants = new Object[count];
        kinds = new int[count];
    }

    /** Each as owner.name. */
    static TreeSet<String> named(Class<?> one) throws IOException {
        try (InputStream bytes = one.getResourceAsStream("/" + one.getName() + ".class");
                DataInputStream in = new DataInputStream(bytes)) {
            in.skipNBytes(8);
            ClassFile file = new ClassFile(in.readUnsignedShort());
            for (int i = 1; i < file.kinds.length; i++) {
                file.readConstant(i, in);
                // A constant of eight bytes counts as two.
                i += file.constants[i] instanceof Long ? 1 : 0;
            }
            return file.members();
        }
    }

    private void readConstant(int i, DataInputStream in) throws IOException {
        kinds[i] = in.readUnsignedByte();
        switch (kinds[i]) {
            case TEXT -> constants[i] = in.readUTF();
            case 5, 6 -> constants[i] = in.readLong();
            case CLASS, 8, 16, 19, 20 -> constants[i] = new int[] {in.readUnsignedShort()};
            case 15 -> constants[i] = new int[] {in.readUnsignedByte(), in.readUnsignedShort()};
            case 3, 4, FIELD, METHOD, METHOD_OF_INTERFACE, NAME_AND_TYPE, 17, 18 ->
                constants[i] = new int[] {in.readUnsignedShort(), in.readUnsignedShort()};
            default -> throw new IOException("a constant of an unknown kind " + kinds[i]);
        }
    }

    private TreeSet<String> members() {
        TreeSet<String> found = new TreeSet<>();
        for (int i = 1; i < kinds.length; i++) {
            if (kinds[i] == FIELD || kinds[i] == METHOD || kinds[i] == METHOD_OF_INTERFACE) {
                found.add(text(part(i, 0), 0) + "." + text(part(i, 1), 0));
            }
        }
        return found;
    }

    private int part(int i, int which) {
        return ((int[]) constants[i])[which];
    }

    /** The text to which a class, or a name with a type, points. */
    private String text(int i, int which) {
        return (String) constants[part(i, which)];
    }
}
