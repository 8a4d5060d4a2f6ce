import java.io.IOException;
import java.lang.reflect.Constructor;
import java.lang.reflect.Field;
import java.lang.reflect.Method;
import java.lang.reflect.Modifier;
import java.nio.file.Files;
import java.nio.file.Path;
import java.util.Set;
import java.util.TreeSet;
import java.util.regex.Matcher;
import java.util.regex.Pattern;

/** The public face of the document, and what of LANGUAGE.md can be seen from outside or from the words used. */
public final class FaceTest {
    private static final String[] FACE = {
        "int cell(long)", "boolean holds(int,int,long,long)", "boolean goal(int,long,long)",
        "boolean near(int,int,long)", "boolean weight(long)", "boolean must(int)", "boolean bar(int)",
        "int zone(int,int)", "int run(long)", "boolean chosen(int)", "long cost()", "long bound()",
        "long met(int,int)", "int clash(int)", "boolean proved()", "int improve(int)", "long often(int,int)",
        "boolean port(int,int,long)", "long loss(int,int)", "boolean fair(long,long)", "long border()",
        "int size(int)", "int year(int)", "boolean wind(int,long)", "int unlike(int)", "boolean far(int,int,int)",
        "int tie(int)"};
    /** Rules 2, 3, 4, 6, 10 and 13: words that have no place in the program. */
    private static final String[] FORBIDDEN = {"->", "::", "\\btry\\b", "\\bcatch\\b", "\\bfinally\\b",
        "\\bsynchronized\\b", "\\bassert\\b", "\\bimport\\b", "\\bpackage\\b", "\\bObject\\b", "\\bSystem\\.(?!arraycopy)",
        "\\bThread\\b", "\\bRandom\\b", "\\bnull\\b", "\\bdouble\\b", "\\bfloat\\b", "Exact\\b", "\\bthrow\\b",
        "\\bprotected\\b", "@"};
    private static int wrong = 0;

    private static void due(String what, boolean holds) {
        if (!holds) {
            wrong++;
            System.out.println("not as due: " + what);
        }
    }

    public static void main(String[] args) throws IOException {
        methods();
        fieldsAndConstructors();
        classesInside();
        words();
        System.out.println(wrong == 0 ? "the face is as due" : wrong + " things are not as due");
        if (wrong != 0) {
            System.exit(1);
        }
    }

    private static String told(Method method) {
        StringBuilder told = new StringBuilder(method.getReturnType() + " " + method.getName() + "(");
        String comma = "";
        for (Class<?> type : method.getParameterTypes()) {
            told.append(comma).append(type);
            comma = ",";
        }
        return told.append(")").toString();
    }

    private static void methods() {
        due("the class is public and final", Modifier.isPublic(AreaGoals.class.getModifiers())
            && Modifier.isFinal(AreaGoals.class.getModifiers()));
        Set<String> face = new TreeSet<>();
        Set<String> names = new TreeSet<>();
        for (Method method : AreaGoals.class.getDeclaredMethods()) {
            int modifiers = method.getModifiers();
            due(method + " is public or private", Modifier.isPublic(modifiers) || Modifier.isPrivate(modifiers));
            if (Modifier.isPublic(modifiers)) {
                face.add(told(method));
                names.add(method.getName());
                due(method + " is no static one", !Modifier.isStatic(modifiers));
            }
        }
        due("the methods are those of the document: " + face, face.equals(new TreeSet<>(Set.of(FACE))));
        noNameTwice(AreaGoals.class, names);
        for (Class<?> inside : AreaGoals.class.getDeclaredClasses()) {
            noNameTwice(inside, names);
        }
    }

    private static void noNameTwice(Class<?> type, Set<String> publicNames) {
        for (Method method : type.getDeclaredMethods()) {
            if (!Modifier.isPublic(method.getModifiers())) {
                due(method + " bears no public name", !publicNames.contains(method.getName()));
            }
            due(method + " takes at most seven", method.getParameterCount() <= 7);
        }
    }

    private static void fieldsAndConstructors() {
        Constructor<?>[] constructors = AreaGoals.class.getDeclaredConstructors();
        due("one public constructor, of a long", constructors.length == 1
            && Modifier.isPublic(constructors[0].getModifiers()) && constructors[0].getParameterCount() == 1
            && constructors[0].getParameterTypes()[0] == long.class);
        for (Field field : AreaGoals.class.getDeclaredFields()) {
            due(field + " is private", field.getName().equals("NONE") || Modifier.isPrivate(field.getModifiers()));
        }
        staticsAreFinal(AreaGoals.class);
    }

    private static void classesInside() {
        Class<?>[] inside = AreaGoals.class.getDeclaredClasses();
        due("at most twelve classes", inside.length < 12);
        for (Class<?> type : inside) {
            due(type + " is static and not public", Modifier.isStatic(type.getModifiers())
                && !Modifier.isPublic(type.getModifiers()) && !Modifier.isProtected(type.getModifiers()));
            staticsAreFinal(type);
        }
    }

    private static void staticsAreFinal(Class<?> type) {
        int own = 0;
        for (Field field : type.getDeclaredFields()) {
            if (Modifier.isStatic(field.getModifiers())) {
                due(field + " is final", Modifier.isFinal(field.getModifiers()));
            } else {
                own++;
            }
        }
        due(type + " has some twenty fields at most", own <= 20);
    }

    private static void words() throws IOException {
        String source = Files.readString(Path.of("src/main/java/AreaGoals.java"));
        String code = source.replaceAll("(?s)/\\*.*?\\*/", "").replaceAll("//[^\n]*", "");
        for (String word : FORBIDDEN) {
            Matcher matcher = Pattern.compile(word).matcher(code);
            due("the program does without " + word, !matcher.find());
        }
        // Rows are made in constructors alone, so that no run of calls can fill the room.
        Matcher maker = Pattern.compile("\n([^\n]*)\\bnew\\b").matcher(code);
        while (maker.find()) {
            due("made into a field: " + maker.group(1).trim(), maker.group(1).matches("\\s*\\w+ = "));
        }
    }
}
