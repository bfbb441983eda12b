import java.lang.reflect.Constructor;
import java.lang.reflect.Field;
import java.lang.reflect.Method;
import java.lang.reflect.Modifier;
import java.nio.file.Files;
import java.nio.file.Path;
import java.util.Arrays;
import java.util.Set;
import java.util.TreeSet;
import java.util.regex.Matcher;
import java.util.regex.Pattern;

/** The face, whole, and those rules of ../shared/LANGUAGE.md that can be seen from outside or in the text. */
public final class RulesTests {
    private static final String INDEX = " IndexOutOfBoundsException";
    private static final String ARGUMENT = " IllegalArgumentException";
    private static final String STATE = " IllegalStateException";
    private static final String[] FACE = {
        "int teach(int)" + INDEX + ARGUMENT + STATE, "int forget(int)" + INDEX, "int key(int)" + ARGUMENT,
        "int tell(int)" + INDEX, "int lookout(int,boolean)" + INDEX, "int ban(int,int)" + INDEX, "int bell()",
        "int set(int,int)" + INDEX + ARGUMENT, "int whistle(int,int)" + INDEX + STATE, "int append(int)" + ARGUMENT + STATE,
        "int clearBuffer()", "int firstError()", "int tuneError()", "int play()" + ARGUMENT, "int stopped(int)" + ARGUMENT,
        "int undo()" + STATE, "int keep()", "int restore()" + STATE, "int message(int,int)" + INDEX + ARGUMENT,
        "int note(int,int)" + INDEX + ARGUMENT, "int room(int,int)" + INDEX + ARGUMENT, "int latest(int)" + ARGUMENT,
        "int count(int)" + ARGUMENT, "int decode(int,int)" + ARGUMENT, "int keyOf()" + ARGUMENT, "int whyNot(int,int)" + INDEX,
        "int ifWhistled(int,int,int)" + INDEX + ARGUMENT, "int bestRoom(int)" + INDEX, "double understoodShare()",
        "long digest()"};
    private static final String[] FORBIDDEN = {
        "->", "::", "\\bpackage\\b", "\\bfinally\\b", "\\bcatch\\b", "\\bsynchronized\\b", "\\bassert\\b", "\\binstanceof\\b",
        "Exact\\b", "\\bhashCode\\b", "\\btoString\\b", "\\bDouble\\b", "\\bObject\\b", "\\bSystem\\.(?!arraycopy)",
        "\\bMath\\.(?!max|min|abs|floorMod|floorDiv)", "\\bimport (?!java\\.util\\.Arrays;)", "\\bArrays\\.(?!fill)", "\" *\\+", "\\+ *\"",
        "\\bvar\\b", "\\bfloat\\b", "\\bThread\\b", "\\bRandom\\b", "\\b[A-Z]\\w+\\[\\] *\\["};
    private static int wrong = 0;

    private static void fault(String what) {
        wrong++;
        System.out.println(what);
    }

    private static String signature(Method method) {
        StringBuilder out = new StringBuilder(method.getReturnType().getName() + " " + method.getName() + "(");
        for (Class<?> type : method.getParameterTypes()) {
            out.append(out.charAt(out.length() - 1) == '(' ? "" : ",").append(type.getName());
        }
        out.append(")");
        for (Class<?> type : method.getExceptionTypes()) {
            out.append(' ').append(type.getSimpleName());
        }
        return out.toString();
    }

    private static void face() {
        Set<String> due = new TreeSet<>(Arrays.asList(FACE));
        Set<String> names = new TreeSet<>();
        for (String signature : FACE) {
            names.add(signature.substring(signature.indexOf(' ') + 1, signature.indexOf('(')));
        }
        for (Method method : WhistleTunes.class.getDeclaredMethods()) {
            boolean isPublic = method.getModifiers() == Modifier.PUBLIC;
            boolean isPrivate = Modifier.isPrivate(method.getModifiers());
            if (isPublic && !due.remove(signature(method)) || !isPublic && !isPrivate) {
                fault("not of the face: " + method);
            }
            if (isPrivate && names.contains(method.getName())) {
                fault("a private method bears a public name: " + method);
            }
        }
        if (!due.isEmpty()) {
            fault("missing in the face: " + due);
        }
        if (WhistleTunes.class.getModifiers() != (Modifier.PUBLIC | Modifier.FINAL)) {
            fault("the class is not public and final alone");
        }
        if (WhistleTunes.NONE != -1) {
            fault("NONE is not -1");
        }
    }

    /** The document's face stands in the class line by line, and each of its headings ahead of the calls it names. */
    private static void faceOfDocument() throws Exception {
        String document = Files.readString(Path.of("../shared/DOC.md"));
        String source = Files.readString(Path.of("src/main/java/WhistleTunes.java"));
        Matcher block = Pattern.compile("(?s)```java\n(.*?)```").matcher(document);
        int place = 0;
        int members = 0;
        for (String line : block.find() ? block.group(1).split("\n") : new String[0]) {
            String member = line.trim().replaceFirst(";$", "");
            if (member.startsWith("public ")) {
                members++;
                place = placeAfter(source, member + (member.contains("(") ? " {" : member.endsWith("{") ? "" : ";"), place);
            }
        }
        if (members != FACE.length + 3) {
            fault("the document's face has not the members that are due, but " + members);
        }
        Matcher heading = Pattern.compile("Ahead of the calls (.*?) the interface says: (---- .*?)\\.\n").matcher(document);
        int calls = 0;
        int start = 0;
        while (heading.find()) {
            start = placeAfter(source, "// " + heading.group(2) + "\n", start);
            for (String call : heading.group(1).split(", ")) {
                calls++;
                start = placeAfter(source, " " + call.replace("`", "") + "(", start);
            }
        }
        if (calls != FACE.length) {
            fault("the document's headings are not ahead of all calls, but of " + calls);
        }
    }

    private static int placeAfter(String source, String words, int start) {
        int place = source.indexOf(words, start);
        if (place < 0) {
            fault("not in the class, or not in the document's order: " + words);
        }
        return Math.max(place, start);
    }

    private static void fieldsAndConstructors() {
        for (Constructor<?> constructor : WhistleTunes.class.getDeclaredConstructors()) {
            if (constructor.getModifiers() != Modifier.PUBLIC || constructor.getParameterCount() != 0) {
                fault("not of the face: " + constructor);
            }
        }
        fields(WhistleTunes.class);
        for (Class<?> inside : WhistleTunes.class.getDeclaredClasses()) {
            fields(inside);
            if (!Modifier.isStatic(inside.getModifiers()) || Modifier.isPublic(inside.getModifiers())) {
                fault("not a static class inside: " + inside);
            }
        }
        if (WhistleTunes.class.getDeclaredClasses().length > 12) {
            fault("too many classes");
        }
    }

    private static void fields(Class<?> owner) {
        int held = 0;
        for (Field field : owner.getDeclaredFields()) {
            boolean isConstant = Modifier.isStatic(field.getModifiers());
            held += isConstant ? 0 : 1;
            if (isConstant && !Modifier.isFinal(field.getModifiers())) {
                fault("a static field that is not final: " + field);
            }
            if (owner == WhistleTunes.class && !Modifier.isPrivate(field.getModifiers()) && !field.getName().equals("NONE")) {
                fault("not of the face: " + field);
            }
        }
        if (held > 20) {
            fault("too many fields: " + owner);
        }
    }

    private static void text() throws Exception {
        String source = Files.readString(Path.of("src/main/java/WhistleTunes.java"));
        String code = source.replaceAll("(?s)/\\*.*?\\*/", "").replaceAll("//[^\n]*", "");
        for (String forbidden : FORBIDDEN) {
            Matcher found = Pattern.compile(forbidden).matcher(code);
            if (found.find()) {
                fault("not of LANGUAGE.md: " + code.substring(found.start(), Math.min(code.length(), found.end() + 30)));
            }
        }
        if (!source.chars().allMatch(c -> c == '\n' || c >= 32 && c < 127)) {
            fault("a sign that is not plain");
        }
        int lines = 0;
        for (String line : code.split("\n")) {
            lines = line.matches("    (    )?\\S.*\\{") ? 0 : lines + 1;
            if (lines > 60 && line.matches("    (    )?\\}")) {
                fault("a method that is too long ends with: " + line);
            }
        }
    }

    public static void main(String[] args) throws Exception {
        face();
        faceOfDocument();
        fieldsAndConstructors();
        text();
        System.out.println(wrong == 0 ? "the rules are kept" : wrong + " rules are broken");
        if (wrong != 0) {
            System.exit(1);
        }
    }
}
