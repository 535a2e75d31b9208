import java.io.DataInputStream;
import java.io.IOException;
import java.lang.reflect.Constructor;
import java.lang.reflect.Field;
import java.lang.reflect.Method;
import java.lang.reflect.Modifier;
import java.nio.file.Files;
import java.nio.file.Path;
import java.util.ArrayList;
import java.util.List;
import java.util.Set;
import java.util.TreeSet;
import java.util.regex.Matcher;
import java.util.regex.Pattern;

/** What of ../shared/LANGUAGE.md can be seen in the class's text and by reflection. */
public final class RipeHoursLanguageTest {
    private static final String[] FACE = {"RipeHours()", "int join() IllegalStateException",
        "int leave(int) IndexOutOfBoundsException IllegalStateException",
        "int give(int,int,int,int) IndexOutOfBoundsException IllegalArgumentException IllegalStateException",
        "int donate(int,int) IndexOutOfBoundsException IllegalArgumentException IllegalStateException",
        "int pass(int) IllegalArgumentException IllegalStateException",
        "int set(int,int) IndexOutOfBoundsException IllegalArgumentException",
        "int move(int,int) IndexOutOfBoundsException IllegalArgumentException IllegalStateException",
        "int vote(int,boolean) IndexOutOfBoundsException IllegalStateException",
        "int takeBack() IllegalStateException", "int append(int) IllegalArgumentException IllegalStateException",
        "int clearBuffer()", "int firstError()", "int run() IllegalArgumentException",
        "int undo() IllegalStateException",
        "int member(int,int) IndexOutOfBoundsException IllegalArgumentException",
        "int skill(int,int,int) IndexOutOfBoundsException IllegalArgumentException",
        "int count(int) IllegalArgumentException", "int setting(int) IndexOutOfBoundsException",
        "int worth(int,int,int) IndexOutOfBoundsException IllegalArgumentException",
        "int longest(int,int,int) IndexOutOfBoundsException",
        "int cheapest(int,int,int) IndexOutOfBoundsException IllegalArgumentException",
        "int decayIn(int,int) IndexOutOfBoundsException IllegalArgumentException", "int votesNeeded()",
        "int ripest(int) IndexOutOfBoundsException", "double minuteWorth()", "long digest()", "int NONE"};
    private static final String[] RULED_OUT = {"\\bimport\\b", "\\bpackage\\b", "->", "::", "\\bfinally\\b",
        "\\bsynchronized\\b", "\\bassert\\b", "\\bSystem\\.(?!arraycopy)", "\\bDouble\\b", "\\bFloat\\b",
        "\\bObject\\b", "\\bhashCode\\b", "\\btoString\\b", "\\bjava\\.", "Exact\\(", "\\bcatch\\b", "\\bvar\\b",
        "\\bThread\\b", "\\bRandom\\b", "\\bnew \\w+\\[\\]\\s*\\{", "\\bstatic\\s*\\{",
        "throw new (?!(IllegalStateException|IllegalArgumentException|IndexOutOfBoundsException)\\()"};

    /** All of the library that the class calls; whoever needs more looks whether rule 4 lists it. */
    private static final Set<String> LIBRARY = Set.of("java/lang/Object.<init>()V", "java/lang/Math.min(II)I",
        "java/lang/Math.max(II)I", "java/lang/IllegalStateException.<init>(Ljava/lang/String;)V",
        "java/lang/IllegalArgumentException.<init>(Ljava/lang/String;)V",
        "java/lang/IndexOutOfBoundsException.<init>(Ljava/lang/String;)V");

    private static int wrong = 0;

    public static void main(String[] args) throws IOException {
        String text = Files.readString(Path.of("src/main/java/RipeHours.java"));
        textKeepsToTheRules(text);
        faceIsTheDocuments();
        methodsAreShort(text);
        classesAreFew(text);
        libraryIsTheListed();
        System.out.println(wrong == 0 ? "the class keeps to the language" : wrong + " rules are broken");
        if (wrong != 0) {
            System.exit(1);
        }
    }

    private static void broken(String what) {
        wrong++;
        System.out.println(what);
    }

    private static void textKeepsToTheRules(String text) {
        if (!text.chars().allMatch(sign -> sign == '\n' || sign >= 32 && sign <= 126)) {
            broken("a sign that is not plain");
        }
        String code = text.replaceAll("(?s)/\\*.*?\\*/", "").replaceAll("//[^\n]*", "")
            .replaceAll("\"[^\"\n]*\"", "\"\"");
        for (String rule : RULED_OUT) {
            Matcher found = Pattern.compile(rule).matcher(code);
            if (found.find()) {
                broken("ruled out: " + found.group());
            }
        }
    }

    private static void faceIsTheDocuments() {
        Set<String> got = new TreeSet<>();
        for (Constructor<?> c : RipeHours.class.getDeclaredConstructors()) {
            if (!Modifier.isPrivate(c.getModifiers())) {
                got.add("RipeHours(" + parameters(c.getParameterTypes()) + ")");
            }
        }
        Set<String> names = new TreeSet<>();
        for (Method m : RipeHours.class.getDeclaredMethods()) {
            if (!Modifier.isPrivate(m.getModifiers())) {
                names.add(m.getName());
                got.add((m.getReturnType() + " " + m.getName() + "(" + parameters(m.getParameterTypes()) + ") "
                    + names(m.getExceptionTypes())).trim());
            }
        }
        for (Field f : RipeHours.class.getDeclaredFields()) {
            if (!Modifier.isPrivate(f.getModifiers())) {
                got.add(f.getType() + " " + f.getName());
            }
        }
        Set<String> due = new TreeSet<>(List.of(FACE));
        if (!got.equals(due)) {
            broken("the face is " + got + ", due is " + due);
        }
        for (Class<?> inside : RipeHours.class.getDeclaredClasses()) {
            for (Method m : inside.getDeclaredMethods()) {
                if (names.contains(m.getName())) {
                    broken(inside + " has a method with a name of the face: " + m.getName());
                }
            }
        }
        for (Method m : RipeHours.class.getDeclaredMethods()) {
            if (Modifier.isPrivate(m.getModifiers()) && names.contains(m.getName())) {
                broken("a private method bears the name " + m.getName());
            }
        }
    }

    private static String parameters(Class<?>[] types) {
        return names(types).replace(' ', ',');
    }

    private static String names(Class<?>[] types) {
        List<String> names = new ArrayList<>();
        for (Class<?> type : types) {
            names.add(type.getSimpleName());
        }
        return String.join(" ", names);
    }

    private static void methodsAreShort(String text) {
        Matcher method = Pattern.compile("(?m)^( +)[\\w\\[\\] ]+\\([\\w\\[\\], ]*\\)[\\w, \n]*\\{$").matcher(text);
        int seen = 0;
        while (method.find()) {
            int end = text.indexOf("\n" + method.group(1) + "}", method.end());
            long lines = text.substring(method.start(), end).chars().filter(sign -> sign == '\n').count();
            seen++;
            if (lines > 60) {
                broken("a long method: " + method.group().trim());
            }
        }
        if (seen < 60) {
            broken("only " + seen + " methods were seen");
        }
    }

    private static void classesAreFew(String text) {
        List<Class<?>> classes = new ArrayList<>(List.of(RipeHours.class.getDeclaredClasses()));
        if (classes.size() > 11) {
            broken("too many classes");
        }
        classes.add(RipeHours.class);
        for (Class<?> one : classes) {
            int fields = 0;
            for (Field f : one.getDeclaredFields()) {
                boolean isConstant = Modifier.isStatic(f.getModifiers());
                fields += isConstant ? 0 : 1;
                if (isConstant && !Modifier.isFinal(f.getModifiers())) {
                    broken("static and not final: " + f);
                }
            }
            if (fields > 20) {
                broken("too many fields: " + one);
            }
            for (Method m : one.getDeclaredMethods()) {
                if (m.getParameterCount() > 7) {
                    broken("too many parameters: " + m);
                }
            }
            if (one != RipeHours.class && !Modifier.isStatic(one.getModifiers())) {
                broken("not static: " + one);
            }
        }
    }

    private static void libraryIsTheListed() throws IOException {
        List<Class<?>> classes = new ArrayList<>(List.of(RipeHours.class.getDeclaredClasses()));
        classes.add(RipeHours.class);
        for (Class<?> one : classes) {
            try (DataInputStream in = new DataInputStream(
                    one.getResourceAsStream("/" + one.getName() + ".class"))) {
                refersToTheListed(one, in);
            }
        }
    }

    /** Reads the constants of a compiled class: what it refers to stands there, whatever its text looks like. */
    private static void refersToTheListed(Class<?> one, DataInputStream in) throws IOException {
        in.readInt();
        in.readInt();
        int size = in.readUnsignedShort();
        int[] kinds = new int[size];
        int[] firsts = new int[size];
        int[] seconds = new int[size];
        String[] texts = new String[size];
        for (int i = 1; i < size; i++) {
            kinds[i] = in.readUnsignedByte();
            switch (kinds[i]) {
                case 1: texts[i] = in.readUTF(); break;
                case 3: case 4: in.readInt(); break;
                case 5: case 6: in.readLong(); i++; break;
                case 7: case 8: firsts[i] = in.readUnsignedShort(); break;
                case 9: case 10: case 11: case 12:
                    firsts[i] = in.readUnsignedShort();
                    seconds[i] = in.readUnsignedShort();
                    break;
                default:
                    broken(one + " has a constant of kind " + kinds[i] + ", as of a lambda or of texts joined by +");
                    return;
            }
        }
        for (int i = 1; i < size; i++) {
            if (kinds[i] >= 9 && kinds[i] <= 11) {
                String owner = texts[firsts[firsts[i]]];
                String name = owner + "." + texts[firsts[seconds[i]]] + texts[seconds[seconds[i]]];
                if (!owner.startsWith("RipeHours") && !LIBRARY.contains(name)) {
                    broken(one + " refers to " + name);
                }
            }
        }
    }
}
