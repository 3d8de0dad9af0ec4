import java.lang.reflect.Constructor;
import java.lang.reflect.Field;
import java.lang.reflect.Method;
import java.lang.reflect.Modifier;
import java.nio.file.Files;
import java.nio.file.Path;
import java.util.ArrayList;
import java.util.Arrays;
import java.util.List;
import java.util.Set;
import java.util.TreeSet;
import java.util.regex.Matcher;
import java.util.regex.Pattern;

/** The public face, and those rules of LANGUAGE.md that can be seen from the class and its text. */
public final class FaceTest {
    private static final Check check = new Check();
    private static final String METHODS = "reach(int) reaches(int,int,int) mend(int,int,int) of(int,int) feed(int) law()"
            + " goes(int) later(int,int,int) river(int,int) over(int) signs(int,int,int) still() throwIn(int,int)"
            + " bridges(int,int) ring(int,int) judge(int,int) fits(int,int,int,int) long:hears(int,int) odd(int,int)"
            + " byTurns(int,int,int) drawn(int,int,int) day() gift(int,int) build(int,int) led(int) image() back()"
            + " undo() redo() body(int) act(int,int,int) trace(int) keep(int,int) row(int,int,int) put(int,int,long)"
            + " long:element(int,int) shift(int,int,int,int,int) taken(int,int) count(int)";

    public static void main(String[] args) throws Exception {
        constants();
        publicMethods();
        noOtherMembers();
        classesInside();
        staticFieldsAreFinal();
        methodsStayShort();
        sourceKeepsToTheRules();
        check.finish();
    }

    private static void constants() throws Exception {
        String[] names = {"BAD", "NOT", "FULL", "STATE", "VOID"};
        int[] due = {-1, -2, -3, -5, -2000000000};
        for (int i = 0; i < names.length; i++) {
            Field field = RiverHand.class.getField(names[i]);
            check.due(names[i], field.getInt(null), due[i]);
            int wanted = Modifier.PUBLIC | Modifier.STATIC | Modifier.FINAL;
            check.due("modifiers of " + names[i], field.getModifiers(), wanted);
        }
        check.due("constants", RiverHand.class.getFields().length, names.length);
    }

    private static void publicMethods() {
        Set<String> due = new TreeSet<>();
        for (String method : METHODS.split(" ")) {
            due.add(method.startsWith("long:") ? method : "int:" + method);
        }
        Set<String> there = new TreeSet<>();
        for (Method method : RiverHand.class.getDeclaredMethods()) {
            if (Modifier.isPublic(method.getModifiers())) {
                StringBuilder types = new StringBuilder();
                for (Class<?> type : method.getParameterTypes()) {
                    types.append(types.length() == 0 ? "" : ",").append(type.getName());
                }
                there.add(method.getReturnType().getName() + ":" + method.getName() + "(" + types + ")");
            }
        }
        if (!due.equals(there)) {
            System.out.println("due: " + due + "\nthere: " + there);
        }
        check.due("the face", due.equals(there) ? 1 : 0, 1);
    }

    private static void noOtherMembers() {
        check.due("public and final", RiverHand.class.getModifiers(), Modifier.PUBLIC | Modifier.FINAL);
        Constructor<?>[] constructors = RiverHand.class.getDeclaredConstructors();
        check.due("constructors", constructors.length, 1);
        check.due("the constructor is public", constructors[0].getModifiers(), Modifier.PUBLIC);
        for (Method method : RiverHand.class.getDeclaredMethods()) {
            if (!Modifier.isPublic(method.getModifiers())) {
                check.due("private " + method.getName(), Modifier.isPrivate(method.getModifiers()) ? 1 : 0, 1);
                check.due("own name: " + method.getName(), publicNames().contains(method.getName()) ? 1 : 0, 0);
            }
            check.due("few parameters: " + method.getName(), method.getParameterCount() > 7 ? 1 : 0, 0);
        }
        for (Field field : RiverHand.class.getDeclaredFields()) {
            boolean seen = !Modifier.isPrivate(field.getModifiers()) && !Modifier.isPublic(field.getModifiers());
            check.due("field " + field.getName(), seen ? 1 : 0, 0);
        }
    }

    private static Set<String> publicNames() {
        Set<String> names = new TreeSet<>();
        for (Method method : RiverHand.class.getDeclaredMethods()) {
            if (Modifier.isPublic(method.getModifiers())) {
                names.add(method.getName());
            }
        }
        return names;
    }

    private static void classesInside() {
        check.due("few classes", RiverHand.class.getDeclaredClasses().length > 11 ? 1 : 0, 0);
        for (Class<?> inside : RiverHand.class.getDeclaredClasses()) {
            check.due(inside + " is static", Modifier.isStatic(inside.getModifiers()) ? 1 : 0, 1);
            long fields = Arrays.stream(inside.getDeclaredFields())
                    .filter(field -> !Modifier.isStatic(field.getModifiers())).count();
            check.due(inside + " has few fields", fields > 20 ? 1 : 0, 0);
            for (Method method : inside.getDeclaredMethods()) {
                check.due("own name: " + method.getName(), publicNames().contains(method.getName()) ? 1 : 0, 0);
                check.due("few parameters: " + method.getName(), method.getParameterCount() > 7 ? 1 : 0, 0);
            }
        }
    }

    private static void staticFieldsAreFinal() {
        List<Class<?>> all = new ArrayList<>(List.of(RiverHand.class.getDeclaredClasses()));
        all.add(RiverHand.class);
        for (Class<?> each : all) {
            for (Field field : each.getDeclaredFields()) {
                boolean changes = Modifier.isStatic(field.getModifiers()) && !Modifier.isFinal(field.getModifiers());
                check.due("static field " + field.getName() + " changes", changes ? 1 : 0, 0);
            }
        }
    }

    /** From the line that begins a method to the next brace that stands as far in as that line. */
    private static void methodsStayShort() throws Exception {
        List<String> lines = Files.readAllLines(Path.of("src/main/java/RiverHand.java"));
        Matcher begins = Pattern.compile("( +)[a-z][^;=]*\\) \\{").matcher("");
        int methods = 0;
        for (int i = 0; i < lines.size(); i++) {
            boolean inClass = begins.reset(lines.get(i)).matches() && begins.group(1).length() <= 8;
            if (inClass && !lines.get(i).matches(" +(if|for|while|switch) .*")) {
                int length = lines.subList(i, lines.size()).indexOf(begins.group(1) + "}") + 1;
                check.due(lines.get(i).trim() + " is short", length > 60 ? 1 : 0, 0);
                methods++;
            }
        }
        check.due("methods were found", methods > 80 ? 1 : 0, 1);
    }

    private static void sourceKeepsToTheRules() throws Exception {
        String source = Files.readString(Path.of("src/main/java/RiverHand.java"));
        String code = source.replaceAll("(?s)/\\*.*?\\*/", "").replaceAll("//[^\n]*", "");
        String[] words = {"throw", "throws", "try", "catch", "finally", "synchronized", "assert", "import", "package",
            "\\w+Exact\\b", "System\\.(?!arraycopy)", "->", "::", "Object", "double", "float", "Thread", "var", "default void"};
        for (String word : words) {
            String pattern = Character.isLetter(word.charAt(0)) && !word.contains("\\") ? "\\b" + word + "\\b" : word;
            Matcher matcher = Pattern.compile(pattern).matcher(code);
            check.due("found: " + word, matcher.find() ? 1 : 0, 0);
        }
        for (char letter : source.toCharArray()) {
            if (letter > 126) {
                check.due("a sign beyond 126", letter, 0);
            }
        }
    }
}
