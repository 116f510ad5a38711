import java.lang.reflect.Constructor;
import java.lang.reflect.Field;
import java.lang.reflect.Method;
import java.lang.reflect.Modifier;
import java.nio.file.Files;
import java.nio.file.Path;
import java.util.Set;
import java.util.TreeSet;
import java.util.regex.Matcher;
import java.util.regex.Pattern;

/** The class's face is the document's, and its text keeps to the rules of the language that a text can show. */
public final class FaceTest {
    private static final String FACE = "question(II) crosser(III) of(II) at(II) takes(II) type(I) ford() count(I) hours(I) teach(II)"
        + " later(II) again(I) put(II) drift(I) undo() seed(I) then(II) crosses(I) last() most(I) best(I) teaches(I) spare(I)"
        + " before(I) cramp(III) image() restore() seen(IIIIII) film(IIII) sheet(III) drop(I) item(IIIJ) copy(IIIII)";
    private static final String CONSTANTS = "BAD=-1 NOT=-2 FULL=-3 NONE=-4 NULL=-11 CAST=-12 INDEX=-13 SIZE=-14";
    /** What only the rules' other side has: exceptions, lambdas, references to methods, other libraries, other constants. */
    private static final String REFUSED = "\\b(catch|throw|throws|finally|assert|synchronized|import static|goto|HashMap|Random|System\\.(?!arraycopy))\\b"
        + "|->|::|MAX_VALUE|MIN_VALUE|Exact\\(|\\bstatic \\{|\" *\\+|\\+ *\"";
    private static int wrong;

    private static void must(boolean holds, String what) {
        if (!holds) {
            wrong++;
            System.out.println("it does not hold that " + what);
        }
    }

    private static void checkMembers() throws Exception {
        Class<FordQuestions> face = FordQuestions.class;
        must(Modifier.isPublic(face.getModifiers()) && Modifier.isFinal(face.getModifiers()), "the class is public and final");
        Set<String> methods = new TreeSet<>();
        Set<String> publicNames = new TreeSet<>();
        for (Method m : face.getDeclaredMethods()) {
            if (Modifier.isPublic(m.getModifiers())) {
                StringBuilder b = new StringBuilder(m.getName()).append('(');
                for (Class<?> p : m.getParameterTypes()) b.append(p == int.class ? 'I' : p == long.class ? 'J' : '?');
                methods.add(b.append(')').toString());
                publicNames.add(m.getName());
                must(m.getReturnType() == int.class && !Modifier.isStatic(m.getModifiers()), m.getName() + " is an int method");
            }
        }
        must(methods.equals(new TreeSet<>(Set.of(FACE.split(" ")))), "the public methods are the face's: " + methods);
        for (Method m : face.getDeclaredMethods()) {
            boolean isPrivate = Modifier.isPrivate(m.getModifiers());
            must(isPrivate || Modifier.isPublic(m.getModifiers()) || m.isSynthetic(), m.getName() + " is public or private");
            must(!isPrivate || !publicNames.contains(m.getName()), m.getName() + " is no private method with a public one's name");
        }
        Set<String> constants = new TreeSet<>();
        for (Field f : face.getDeclaredFields()) {
            boolean isPublic = Modifier.isPublic(f.getModifiers());
            must(isPublic || Modifier.isPrivate(f.getModifiers()), f.getName() + " is public or private");
            if (isPublic) constants.add(f.getName() + "=" + f.getInt(null));
            must(!Modifier.isStatic(f.getModifiers()) || Modifier.isFinal(f.getModifiers()), f.getName() + " is no changing static field");
        }
        must(constants.equals(new TreeSet<>(Set.of(CONSTANTS.split(" ")))), "the constants are the face's: " + constants);
        Constructor<?>[] made = face.getDeclaredConstructors();
        must(made.length == 1 && Modifier.isPublic(made[0].getModifiers()) && made[0].getParameterCount() == 0, "there is one constructor");
        must(face.getDeclaredClasses().length <= 11, "there are at most twelve classes");
        for (Class<?> c : face.getDeclaredClasses()) {
            must(Modifier.isStatic(c.getModifiers()) && !Modifier.isPublic(c.getModifiers()), c.getName() + " is static and not public");
            must(c.getDeclaredFields().length <= 20, c.getName() + " has at most twenty fields");
            for (Method m : c.getDeclaredMethods()) {
                must(m.getParameterCount() <= 7, m.getName() + " takes at most seven");
                must(!publicNames.contains(m.getName()), m.getName() + " of " + c.getName() + " is no public one's name");
            }
        }
    }

    private static void checkText() throws Exception {
        String text = Files.readString(Path.of("src/main/java/FordQuestions.java"));
        for (int p = 0; p < text.length(); p++) must(text.charAt(p) < 127, "letter " + p + " is plain");
        String code = text.replaceAll("(?s)/\\*.*?\\*/", "").replaceAll("//[^\n]*", "");
        Matcher refused = Pattern.compile(REFUSED).matcher(code);
        while (refused.find()) must(false, "the text has no '" + refused.group() + "'");
        Matcher imports = Pattern.compile("import ([\\w.*]+);").matcher(code);
        while (imports.find()) must(imports.group(1).matches("java\\.util\\.(Arrays|ArrayList|List|Iterator)"), "it may use " + imports.group(1));
        must(code.contains("public FordQuestions()"), "its constructor is written out");
        checkMakesOnlyInConstructors(code);
    }

    /** Each line of the document's face stands in the class, methods with their bodies behind it. */
    private static void checkWordForWord() throws Exception {
        String text = Files.readString(Path.of("src/main/java/FordQuestions.java"));
        String document = Files.readString(Path.of("../shared/DOC.md"));
        Matcher face = Pattern.compile("(?s)## The public face\n+```java\n(.*?)```").matcher(document);
        boolean isThere = face.find();
        must(isThere, "the document has a face");
        int lines = 0;
        for (String line : isThere ? face.group(1).split("\n") : new String[0]) {
            String due = line.endsWith(");") ? line.substring(0, line.length() - 1) + " {" : line;
            must(("\n" + text + "\n").contains("\n" + due + "\n"), "the class has the line '" + due + "'");
            lines++;
        }
        must(lines == 37, "the face has 37 lines: " + lines);
    }

    /** The room: all objects are made with the first one, so that no run of calls makes more. */
    private static void checkMakesOnlyInConstructors(String code) {
        boolean isInConstructor = false;
        for (String line : code.split("\n")) {
            if (line.matches(" +(public |private |static )*[\\w\\[\\]]+ [a-z]\\w*\\(.*\\{")) isInConstructor = false;
            if (line.matches(" +(public )?[A-Z]\\w*\\(.*\\) \\{")) isInConstructor = true;
            must(isInConstructor || !line.matches(".*\\bnew\\b.*"), "objects are made in constructors alone: " + line.trim());
        }
    }

    public static void main(String[] args) throws Exception {
        checkMembers();
        checkText();
        checkWordForWord();
        System.out.println(wrong == 0 ? "the face is the document's" : wrong + " things about the face do not hold");
        if (wrong != 0) System.exit(1);
    }
}
