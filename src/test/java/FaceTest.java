import java.lang.reflect.Constructor;
import java.lang.reflect.Field;
import java.lang.reflect.Method;
import java.lang.reflect.Modifier;
import java.nio.file.Files;
import java.nio.file.Path;
import java.util.ArrayList;
import java.util.List;
import java.util.Map;
import java.util.Set;
import java.util.TreeMap;
import java.util.TreeSet;
import java.util.regex.Matcher;
import java.util.regex.Pattern;

/** The class has the document's face and nothing more, and keeps to those rules of LANGUAGE.md that can be seen in its text. */
public final class FaceTest {
    private static final Path SOURCE = Path.of("src/main/java/ProvinceCards.java");
    private static final Path DOC = Path.of("../shared/DOC.md");
    private static final Pattern HEAD = Pattern.compile("^((?: {4}){1,2})[\\w \\[\\]]*\\w\\(.*\\) \\{$");
    private static final Pattern CALL = Pattern.compile("\\b(\\w+)\\(");
    private static final Pattern MAKES = Pattern.compile("\\bnew\\b|\\bclone\\(|\\bcopyOf|\\bsubstring\\(|\\btoCharArray\\(|\\bvalues\\(");
    private static int wrong = 0;

    public static void main(String[] args) throws Exception {
        faceIsThatOfTheDocument();
        nothingElseShows();
        noPrivateNameIsPublic();
        textKeepsToTheLanguage();
        methodsAreShort();
        noCallMakesObjects();
        callsStayShallow();
        System.out.println(wrong == 0 ? "the face is as due" : wrong + " faults of the face");
        if (wrong != 0) {
            System.exit(1);
        }
    }

    private static void fault(String text) {
        wrong++;
        System.out.println(text);
    }

    private static void faceIsThatOfTheDocument() throws Exception {
        Set<String> due = new TreeSet<>();
        Matcher m = Pattern.compile("    public ((?:int|long) \\w+)\\((.*)\\);").matcher(Files.readString(DOC));
        while (m.find()) {
            due.add(m.group(1) + "(" + m.group(2).replaceAll("(int|long) \\w+", "$1").replace(" ", "") + ")");
        }
        Set<String> got = new TreeSet<>();
        for (Method method : ProvinceCards.class.getDeclaredMethods()) {
            if (Modifier.isPublic(method.getModifiers())) {
                got.add(method.getReturnType() + " " + method.getName() + types(method.getParameterTypes()));
            }
        }
        if (due.size() != 41 || !due.equals(got)) {
            fault("methods are " + got + ", due are " + due);
        }
    }

    private static String types(Class<?>[] types) {
        List<String> names = new ArrayList<>();
        for (Class<?> type : types) {
            names.add(type.getName());
        }
        return "(" + String.join(",", names) + ")";
    }

    private static void nothingElseShows() {
        Class<?> face = ProvinceCards.class;
        if (!Modifier.isPublic(face.getModifiers()) || !Modifier.isFinal(face.getModifiers())) {
            fault("the class is not public and final");
        }
        Constructor<?>[] constructors = face.getDeclaredConstructors();
        if (constructors.length != 1 || !Modifier.isPublic(constructors[0].getModifiers())
            || constructors[0].getParameterCount() != 0) {
            fault("the constructor is not the document's");
        }
        for (Field field : face.getDeclaredFields()) {
            if (!Modifier.isPrivate(field.getModifiers())) {
                fault("field " + field.getName() + " is not private");
            }
        }
        for (Method method : face.getDeclaredMethods()) {
            if (!Modifier.isPublic(method.getModifiers()) && !Modifier.isPrivate(method.getModifiers())) {
                fault("method " + method.getName() + " is neither public nor private");
            }
        }
        for (Class<?> inside : face.getDeclaredClasses()) {
            if (!Modifier.isStatic(inside.getModifiers()) || Modifier.isPublic(inside.getModifiers())) {
                fault("class " + inside.getName() + " is not static, or public");
            }
        }
        if (face.getDeclaredClasses().length > 11) {
            fault("more than twelve classes");
        }
    }

    private static void noPrivateNameIsPublic() {
        Set<String> open = new TreeSet<>();
        for (Method method : ProvinceCards.class.getDeclaredMethods()) {
            if (Modifier.isPublic(method.getModifiers())) {
                open.add(method.getName());
            }
        }
        List<Method> hidden = new ArrayList<>(List.of(ProvinceCards.class.getDeclaredMethods()));
        hidden.removeIf(method -> Modifier.isPublic(method.getModifiers()));
        for (Class<?> inside : ProvinceCards.class.getDeclaredClasses()) {
            hidden.addAll(List.of(inside.getDeclaredMethods()));
        }
        for (Method method : hidden) {
            if (open.contains(method.getName())) {
                fault("a hidden method bears the public name " + method.getName());
            }
            if (method.getParameterCount() > 7) {
                fault(method.getName() + " takes more than seven parameters");
            }
        }
    }

    private static void textKeepsToTheLanguage() throws Exception {
        String code = Files.readString(SOURCE).replaceAll("(?s)/\\*.*?\\*/", "").replaceAll("//[^\n]*", "");
        String[] ruledOut = {"\\bthrow\\b", "\\btry\\b", "\\bcatch\\b", "\\bsynchronized\\b", "\\bassert\\b", "->", "::",
            "\\bpackage\\b", "Exact\\b", "\\bThread\\b", "\\bRandom\\b", "\\bequals\\b", "\\bhashCode\\b", "\\btoString\\b",
            "static *\\{", "\"\\s*\\+|\\+\\s*\"", "while *\\(true\\)", "for *\\(;;\\)", "System\\.(?!arraycopy)"};
        for (String rule : ruledOut) {
            Matcher m = Pattern.compile(rule).matcher(code);
            if (m.find()) {
                fault("the text has '" + m.group() + "'");
            }
        }
        Matcher imports = Pattern.compile("import ([\\w.]+);").matcher(code);
        while (imports.find()) {
            if (!imports.group(1).equals("java.util.Arrays")) {
                fault("the text imports " + imports.group(1));
            }
        }
        Matcher statics = Pattern.compile("\\bstatic (?!final\\b)[^(;{]*(=|;)").matcher(code);
        if (statics.find()) {
            fault("a static field is not final: " + statics.group());
        }
    }

    /** The lines of each method and constructor, its head first. */
    private static List<List<String>> methods() throws Exception {
        List<List<String>> methods = new ArrayList<>();
        String end = "";
        for (String line : Files.readAllLines(SOURCE)) {
            String code = line.replaceAll("//.*|/\\*\\*.*", "");
            Matcher head = HEAD.matcher(code);
            if (end.isEmpty() && head.matches()) {
                methods.add(new ArrayList<>());
                end = head.group(1) + "}";
            }
            if (!end.isEmpty()) {
                methods.get(methods.size() - 1).add(code);
            }
            end = code.equals(end) ? "" : end;
        }
        if (methods.size() < 42) {
            fault("only " + methods.size() + " methods were found in the text");
        }
        return methods;
    }

    private static String nameOf(List<String> method) {
        return method.get(0).replaceAll("\\(.*", "").replaceAll(".* ", "");
    }

    private static void methodsAreShort() throws Exception {
        for (List<String> method : methods()) {
            if (method.size() > 60) {
                fault(nameOf(method) + " is longer than sixty lines");
            }
        }
    }

    /** All calls of a run share one room, so objects are made with the class's own alone. */
    private static void noCallMakesObjects() throws Exception {
        for (List<String> method : methods()) {
            String text = String.join("\n", method);
            if (!nameOf(method).equals("ProvinceCards") && MAKES.matcher(text).find()) {
                fault(nameOf(method) + " makes an object");
            }
        }
    }

    /** Whatever stands in a text as called counts, the library's calls too, though a run may never go there. */
    private static void callsStayShallow() throws Exception {
        Map<String, Set<String>> calls = new TreeMap<>();
        for (List<String> method : methods()) {
            Set<String> called = calls.computeIfAbsent(nameOf(method), name -> new TreeSet<>());
            Matcher call = CALL.matcher(String.join("\n", method.subList(1, method.size())));
            while (call.find()) {
                called.add(call.group(1));
            }
        }
        for (String name : calls.keySet()) {
            int depth = depth(name, calls, 0);
            if (depth > 8) {
                fault(name + " goes " + depth + " calls deep");
            }
        }
    }

    private static int depth(String name, Map<String, Set<String>> calls, int above) {
        int deepest = 0;
        for (String called : calls.getOrDefault(name, Set.of())) {
            // One that calls itself, by whatever way, would never end.
            deepest = above > 20 ? 20 : Math.max(deepest, depth(called, calls, above + 1));
        }
        return deepest + 1;
    }
}
