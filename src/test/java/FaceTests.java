import java.lang.reflect.Constructor;
import java.lang.reflect.Field;
import java.lang.reflect.Member;
import java.lang.reflect.Method;
import java.lang.reflect.Modifier;
import java.nio.file.Files;
import java.nio.file.Path;
import java.util.ArrayList;
import java.util.Arrays;
import java.util.HashSet;
import java.util.List;
import java.util.Set;
import java.util.TreeSet;
import java.util.regex.Matcher;
import java.util.regex.Pattern;

/** The class has the document's face, and keeps to those rules of LANGUAGE.md that a program can see. */
public final class FaceTests {
    private static final Path ROOT = Path.of(System.getProperty("project.root", "."));
    private static final String FORBIDDEN = "\\b(throw|throws|try|catch|synchronized|assert|instanceof|import|package|protected|Exception|Error)\\b"
            + "|->|::|@|\\w+Exact\\(|\\b(System\\.(?!arraycopy\\()\\w+)";
    private static final Set<String> LIBRARY = Set.of("Math.max", "Math.min", "Long.bitCount", "System.arraycopy");
    private static final Set<String> OF_TEXTS = Set.of("length", "charAt");
    private static int wrong = 0;

    private static void mustBe(boolean is, String what) {
        if (!is) {
            wrong++;
            System.out.println("not so: " + what);
        }
    }

    public static void main(String[] args) throws Exception {
        faceIsTheDocuments();
        nothingElseIsSeen();
        for (Class<?> inside : ApprovalRoutes.class.getDeclaredClasses()) {
            insideIsAsRuled(inside);
        }
        mustBe(ApprovalRoutes.class.getDeclaredClasses().length < 12, "at most twelve classes");
        membersAreAsRuled(ApprovalRoutes.class);
        sourceIsAsRuled();
        System.out.println(wrong == 0 ? "the face and the rules are kept" : wrong + " rules are not kept");
        if (wrong != 0) {
            System.exit(1);
        }
    }

    private static void faceIsTheDocuments() throws Exception {
        String doc = Files.readString(ROOT.resolve("../shared/DOC.md"));
        String face = doc.substring(doc.indexOf("public final class"), doc.indexOf("```", doc.indexOf("public final class")));
        Set<String> want = new TreeSet<>();
        Matcher m = Pattern.compile("public (int|long) (\\w+)\\(([^)]*)\\);").matcher(face);
        while (m.find()) {
            int arguments = m.group(3).isBlank() ? 0 : m.group(3).split(",").length;
            want.add(m.group(1) + " " + m.group(2) + " " + arguments);
        }
        Set<String> is = new TreeSet<>();
        for (Method method : ApprovalRoutes.class.getDeclaredMethods()) {
            if (Modifier.isPublic(method.getModifiers())) {
                is.add(method.getReturnType() + " " + method.getName() + " " + method.getParameterCount());
                mustBe(Arrays.stream(method.getParameterTypes()).allMatch(t -> t == int.class), method.getName() + " takes ints");
                mustBe(!Modifier.isStatic(method.getModifiers()), method.getName() + " is no static one");
            }
        }
        mustBe(want.size() == 43, "the document has 43 methods, here " + want.size());
        mustBe(want.equals(is), "the methods are " + want + ", here " + is);
        Constructor<?>[] constructors = ApprovalRoutes.class.getDeclaredConstructors();
        mustBe(constructors.length == 1 && Modifier.isPublic(constructors[0].getModifiers()) && constructors[0].getParameterCount() == 0,
                "one public constructor");
        int modifiers = ApprovalRoutes.class.getModifiers();
        mustBe(Modifier.isPublic(modifiers) && Modifier.isFinal(modifiers), "public and final");
    }

    private static void nothingElseIsSeen() {
        for (Field field : ApprovalRoutes.class.getDeclaredFields()) {
            boolean isNone = field.toString().equals("public static final int ApprovalRoutes.NONE");
            mustBe(isNone || Modifier.isPrivate(field.getModifiers()), field.getName() + " is private");
        }
        for (Method method : ApprovalRoutes.class.getDeclaredMethods()) {
            boolean seen = !Modifier.isPrivate(method.getModifiers()) && !Modifier.isPublic(method.getModifiers());
            mustBe(!seen, method.getName() + " is private or public");
        }
    }

    private static void insideIsAsRuled(Class<?> inside) {
        mustBe(Modifier.isStatic(inside.getModifiers()), inside.getName() + " is static");
        mustBe(Modifier.isFinal(inside.getModifiers()), inside.getName() + " is final");
        mustBe(inside.getDeclaredClasses().length == 0, inside.getName() + " has no class inside");
        membersAreAsRuled(inside);
        Set<String> face = new HashSet<>();
        for (Method method : ApprovalRoutes.class.getDeclaredMethods()) {
            if (Modifier.isPublic(method.getModifiers())) {
                face.add(method.getName());
            }
        }
        for (Method method : inside.getDeclaredMethods()) {
            mustBe(!face.contains(method.getName()), method + " does not bear the name of a public one");
        }
    }

    private static void membersAreAsRuled(Class<?> type) {
        int fields = 0;
        Set<String> publicNames = new HashSet<>();
        for (Field field : type.getDeclaredFields()) {
            if (Modifier.isStatic(field.getModifiers())) {
                mustBe(Modifier.isFinal(field.getModifiers()), field.getName() + " is final");
            } else {
                fields++;
            }
        }
        mustBe(fields <= 20, type.getName() + " has at most twenty fields");
        List<Member> named = new ArrayList<>();
        for (Method method : type.getDeclaredMethods()) {
            mustBe(method.getParameterCount() <= 7, method.getName() + " takes at most seven");
            if (Modifier.isPublic(method.getModifiers())) {
                publicNames.add(method.getName());
            } else {
                named.add(method);
            }
        }
        for (Member method : named) {
            mustBe(!publicNames.contains(method.getName()), method.getName() + " does not bear the name of a public one");
        }
    }

    private static void sourceIsAsRuled() throws Exception {
        String source = Files.readString(ROOT.resolve("src/main/java/ApprovalRoutes.java"));
        String code = source.replaceAll("(?s)/\\*.*?\\*/", "").replaceAll("//[^\n]*", "").replaceAll("\"[^\"\n]*\"", "\"\"");
        Matcher m = Pattern.compile(FORBIDDEN).matcher(code);
        while (m.find()) {
            mustBe(false, "no '" + m.group() + "'");
        }
        mustBe(code.chars().allMatch(c -> c == '\n' || (c >= 32 && c < 127)), "plain signs alone");
        int makes = code.split("new (?!int\\[|byte\\[)", -1).length - 1;
        int inConstructors = code.split("= new (State|Past|Tape|Reader|Letter|Matter|Desk|Route|Web)\\b", -1).length - 1;
        mustBe(makes == inConstructors, "objects are made in constructors alone");
        libraryIsAsRuled(code);
        methodsAreShort(source.split("\n"));
    }

    /** Rule 4 names each function; constants of the library are not among what it names. */
    private static void libraryIsAsRuled(String code) {
        Matcher ofClass = Pattern.compile("\\b[A-Z]\\w*[a-z]\\w*\\.\\w+").matcher(code);
        while (ofClass.find()) {
            mustBe(LIBRARY.contains(ofClass.group()), "the library has no " + ofClass.group() + " by rule 4");
        }
        Matcher ofText = Pattern.compile("\\b(word|signs)\\.(\\w+)\\(").matcher(code);
        while (ofText.find()) {
            mustBe(OF_TEXTS.contains(ofText.group(2)), "a text's " + ofText.group(2) + " is not used");
        }
    }

    private static void methodsAreShort(String[] lines) {
        int begun = -1;
        for (int i = 0; i < lines.length; i++) {
            if (lines[i].matches("( {4}| {8})(public|private|[a-zA-Z]\\w*).*\\).*\\{") && !lines[i].contains(" class ")) {
                begun = begun < 0 ? i : begun;
            }
            if (begun >= 0 && lines[i].equals(lines[begun].replaceAll("\\S.*", "") + "}")) {
                mustBe(i - begun <= 60, "line " + (begun + 1) + ": a method of at most sixty lines");
                begun = -1;
            }
        }
    }
}
