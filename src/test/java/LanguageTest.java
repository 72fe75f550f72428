import java.io.DataInputStream;
import java.io.IOException;
import java.io.InputStream;
import java.util.ArrayList;
import java.util.List;
import java.util.Set;
import java.util.TreeSet;

/** The rules of LANGUAGE.md that the compiled classes show: which library calls there are. */
public final class LanguageTest {
    private static final Set<String> ALLOWED = Set.of(
            "java/lang/Object.<init>:()V",
            "java/lang/Math.max:(II)I",
            "java/lang/IllegalStateException.<init>:()V",
            "java/lang/IllegalArgumentException.<init>:()V",
            "java/lang/IndexOutOfBoundsException.<init>:()V");

    public static void main(String[] args) throws IOException {
        Check check = new Check();
        List<Class<?>> classes = new ArrayList<>(List.of(MagpieRuns.class.getDeclaredClasses()));
        classes.add(MagpieRuns.class);
        check.is("at most twelve classes", classes.size() <= 12, true);
        for (Class<?> one : classes) {
            Set<String> foreign = new TreeSet<>();
            for (String call : callsOf(one)) {
                if (!call.startsWith("MagpieRuns") && !call.startsWith("[") && !ALLOWED.contains(call)) {
                    foreign.add(call);
                }
            }
            check.is("library calls of " + one.getName(), foreign, Set.of());
            check.is("fields of " + one.getName(), instanceFields(one) <= 20, true);
        }
        check.end("LanguageTest");
    }

    private static int instanceFields(Class<?> one) {
        int count = 0;
        for (java.lang.reflect.Field field : one.getDeclaredFields()) {
            count += java.lang.reflect.Modifier.isStatic(field.getModifiers()) ? 0 : 1;
        }
        return count;
    }

    /** The methods that the constant pool of a class file names. */
    private static List<String> callsOf(Class<?> one) throws IOException {
        String file = "/" + one.getName() + ".class";
        try (InputStream stream = LanguageTest.class.getResourceAsStream(file);
                DataInputStream in = new DataInputStream(stream)) {
            in.readInt();
            in.readInt();
            int size = in.readUnsignedShort();
            String[] texts = new String[size];
            int[] tags = new int[size];
            int[] first = new int[size];
            int[] second = new int[size];
            for (int i = 1; i < size; i++) {
                tags[i] = in.readUnsignedByte();
                switch (tags[i]) {
                    case 1 -> texts[i] = in.readUTF();
                    case 7, 8, 16, 19, 20 -> first[i] = in.readUnsignedShort();
                    case 15 -> {
                        in.readUnsignedByte();
                        in.readUnsignedShort();
                    }
                    case 5, 6 -> {
                        in.readLong();
                        i++;
                    }
                    case 3, 4 -> in.readInt();
                    default -> {
                        first[i] = in.readUnsignedShort();
                        second[i] = in.readUnsignedShort();
                    }
                }
            }
            List<String> calls = new ArrayList<>();
            for (int i = 1; i < size; i++) {
                if (tags[i] == 10 || tags[i] == 11) {
                    String owner = texts[first[first[i]]];
                    calls.add(owner + "." + texts[first[second[i]]] + ":" + texts[second[second[i]]]);
                } else if (tags[i] == 17 || tags[i] == 18) {
                    calls.add("a call that is made at run time");
                }
            }
            return calls;
        }
    }
}
