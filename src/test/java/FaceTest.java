import java.io.DataInputStream;
import java.lang.reflect.Constructor;
import java.lang.reflect.Field;
import java.lang.reflect.Method;
import java.lang.reflect.Modifier;
import java.nio.file.Files;
import java.nio.file.Path;
import java.util.ArrayList;
import java.util.Arrays;
import java.util.List;
import java.util.Set;
import java.util.TreeSet;
import java.util.regex.Matcher;
import java.util.regex.Pattern;

/** The public face, and those rules of LANGUAGE.md that can be seen from the class or by words of its source. */
public final class FaceTest {
    private static final String[] FACE = {
        "int stone(int,int,int)", "boolean tell(int,int,int)", "boolean day(int)", "boolean view(int)",
        "int fact(int,int)", "int entry(int,int)", "int feed(int,int,int,int,int)", "int end(int)",
        "int text(boolean)", "int fault(int)", "boolean choose(int,int,int,int,int)", "int span(int,int)",
        "int by(int,int,int)", "int score(int)", "int best(int,int)", "int peak(int,int,int)",
        "int pair(int,int)", "long sum(int,int)", "int chance(int)", "int verdict(int,int,int)",
        "int set(int,int,int)", "int rate(int,int,int,int,int)", "int drift(int,int,int)",
        "int owner(int,int,int)", "int heap(int,int)", "int anew(int,int)", "int worth(int,int,int)",
        "int count(int)", "boolean image(int)", "boolean again(int)"};

    private static final String[] FORBIDDEN = {
        "\\bthrow\\b", "\\btry\\b", "\\bcatch\\b", "\\bsynchronized\\b", "\\bassert\\b", "->", "::",
        "\\bimport\\b", "\\bpackage\\b", "Exact\\b", "\\bRandom\\b", "\\bThread\\b", "\\bSystem\\.(?!arraycopy)"};

    /** What the class uses of the library, all of it listed in rule 4; what is not here is held against that rule first. */
    private static final Set<String> LIBRARY = Set.of("java/lang/Object.<init>", "java/lang/Math.min",
        "java/lang/Math.max", "java/lang/Math.abs", "java/lang/Long.compare", "java/lang/Integer.bitCount",
        "java/lang/String.length", "java/lang/String.charAt", "java/lang/System.arraycopy");

    public static void main(String[] args) throws Exception {
        checkFace();
        for (Class<?> inner : StonesOfWeight.class.getDeclaredClasses()) {
            checkInner(inner);
        }
        checkSource();
        checkLibrary(StonesOfWeight.class);
        for (Class<?> inner : StonesOfWeight.class.getDeclaredClasses()) {
            checkLibrary(inner);
        }
        Due.finish("FaceTest");
    }

    private static void checkFace() {
        Class<?> face = StonesOfWeight.class;
        Due.is("public final class", Modifier.isPublic(face.getModifiers()) && Modifier.isFinal(face.getModifiers()), true);
        Set<String> open = new TreeSet<>();
        Set<String> names = new TreeSet<>();
        for (Method m : face.getDeclaredMethods()) {
            if (Modifier.isPrivate(m.getModifiers())) {
                continue;
            }
            open.add(signature(m));
            names.add(m.getName());
        }
        Due.is("the face's methods", open.equals(new TreeSet<>(Arrays.asList(FACE))), true);
        List<Constructor<?>> made = List.of(face.getDeclaredConstructors());
        Due.is("one constructor", made.size() == 1 && made.get(0).getParameterCount() == 0
                && Modifier.isPublic(made.get(0).getModifiers()), true);
        for (Field f : face.getDeclaredFields()) {
            boolean constant = f.getName().equals("NONE");
            Due.is("field " + f.getName(), Modifier.isPublic(f.getModifiers()) == constant
                    && Modifier.isPrivate(f.getModifiers()) != constant, true);
            Due.is("static means final: " + f.getName(),
                    !Modifier.isStatic(f.getModifiers()) || Modifier.isFinal(f.getModifiers()), true);
        }
        Due.is("NONE", StonesOfWeight.NONE, -1);
        checkNames(face, names);
        for (Class<?> inner : face.getDeclaredClasses()) {
            checkNames(inner, names);
        }
        Due.is("classes", face.getDeclaredClasses().length <= 12, true);
    }

    private static void checkNames(Class<?> type, Set<String> names) {
        for (Method m : type.getDeclaredMethods()) {
            boolean taken = type != StonesOfWeight.class || Modifier.isPrivate(m.getModifiers());
            Due.is("no private method of a public one's name: " + m, taken && names.contains(m.getName()), false);
            Due.is("at most seven parameters: " + m, m.getParameterCount() <= 7, true);
        }
    }

    private static void checkInner(Class<?> inner) {
        Due.is(inner + " is static", Modifier.isStatic(inner.getModifiers()), true);
        Due.is(inner + " is not open", Modifier.isPublic(inner.getModifiers())
                || Modifier.isProtected(inner.getModifiers()), false);
        int fields = 0;
        for (Field f : inner.getDeclaredFields()) {
            fields += Modifier.isStatic(f.getModifiers()) ? 0 : 1;
            Due.is("static means final: " + f,
                    !Modifier.isStatic(f.getModifiers()) || Modifier.isFinal(f.getModifiers()), true);
        }
        Due.is(inner + " has few fields", fields <= 20, true);
    }

    private static void checkSource() throws Exception {
        String source = Files.readString(Path.of("src/main/java/StonesOfWeight.java"));
        List<String> lines = new ArrayList<>();
        for (String line : source.split("\n")) {
            lines.add(line.replaceAll("/\\*\\*.*\\*/", "").replaceAll("^ *\\*.*", "").replaceAll("//.*", ""));
        }
        String code = String.join("\n", lines);
        for (String word : FORBIDDEN) {
            Matcher found = Pattern.compile(word).matcher(code);
            Due.is("the source has no " + word, found.find(), false);
        }
        for (char sign : source.toCharArray()) {
            Due.is("a sign of the source is 1 to 127", sign >= 1 && sign <= 127, true);
        }
    }

    /** Calls as the compiler wrote them down, so that none of a lambda or of joining texts stays unseen either. */
    private static void checkLibrary(Class<?> type) throws Exception {
        try (DataInputStream in = new DataInputStream(type.getResourceAsStream(type.getName() + ".class"))) {
            in.skipNBytes(8);
            int size = in.readUnsignedShort();
            int[] tags = new int[size];
            int[] ones = new int[size];
            int[] others = new int[size];
            String[] texts = new String[size];
            for (int i = 1; i < size; i++) {
                tags[i] = in.readUnsignedByte();
                switch (tags[i]) {
                    case 1 -> texts[i] = in.readUTF();
                    case 3, 4 -> in.readInt();
                    case 5, 6 -> {
                        in.readLong();
                        i++;
                    }
                    case 7, 8, 16, 19, 20 -> ones[i] = in.readUnsignedShort();
                    case 15 -> in.skipNBytes(3);
                    default -> {
                        ones[i] = in.readUnsignedShort();
                        others[i] = in.readUnsignedShort();
                    }
                }
            }
            for (int i = 1; i < size; i++) {
                Due.is(type + " calls nothing that is bound while it runs", tags[i] == 17 || tags[i] == 18, false);
                if (tags[i] == 10 || tags[i] == 11) {
                    String call = texts[ones[ones[i]]] + "." + texts[ones[others[i]]];
                    Due.is("LIBRARY has " + call, call.startsWith("StonesOfWeight") || LIBRARY.contains(call), true);
                }
            }
        }
    }

    private static String signature(Method m) {
        StringBuilder text = new StringBuilder(m.getReturnType().getName()).append(' ').append(m.getName()).append('(');
        for (int i = 0; i < m.getParameterCount(); i++) {
            text.append(i == 0 ? "" : ",").append(m.getParameterTypes()[i].getName());
        }
        return text.append(')').toString();
    }
}
