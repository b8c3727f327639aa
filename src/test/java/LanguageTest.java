import java.lang.reflect.Field;
import java.lang.reflect.Method;
import java.lang.reflect.Modifier;
import java.nio.file.Files;
import java.nio.file.Path;
import java.util.ArrayList;
import java.util.List;
import java.util.TreeSet;
import java.util.regex.Matcher;
import java.util.regex.Pattern;

/** The face, and those rules of LANGUAGE.md that can be seen from the text. */
public final class LanguageTest {
    private static final String[] FACE = {
        "int mud(int,int,int)", "int far(int,int)", "int one(int,int,int)", "int set(int,int,int)", "int told(int,int)",
        "int feed(int)", "int text()", "int force(int)", "int can(int,int,int)", "int go(int,int)", "int soonest(int,int,int)",
        "int together(int,int,int)", "int lend(int,int,int)", "int owed(int,int)", "int rings()", "int shaken(int,int)",
        "int prints(int)", "int out(int,int,int)", "int road(int,int)", "int judge(int)", "int drawn(int,int,int)",
        "long chance(int,int,int,int,int)", "int image()", "int back()", "int count(int)", "int sheet(int,int,int)",
        "int cell(int,int,int)", "int copy(int,int,int,int,int)", "int muds(int,int,int,int)", "int taken(int,int)"};

    public static void main(String[] args) throws Exception {
        face();
        nested();
        source(Files.readString(Path.of("src/main/java/RolledUp.java")));
        Check.end();
    }

    private static void yes(String what, boolean is) {
        Check.due(what, is ? 1 : 0, 1);
    }

    private static void face() throws Exception {
        TreeSet<String> due = new TreeSet<>(List.of(FACE));
        TreeSet<String> names = new TreeSet<>();
        TreeSet<String> got = new TreeSet<>();
        for (Method m : RolledUp.class.getDeclaredMethods()) {
            if (Modifier.isPublic(m.getModifiers())) {
                StringBuilder s = new StringBuilder(m.getReturnType() + " " + m.getName() + "(");
                for (int i = 0; i < m.getParameterCount(); i++) {
                    s.append(i == 0 ? "" : ",").append(m.getParameterTypes()[i]);
                }
                got.add(s.append(")").toString());
                names.add(m.getName());
            }
        }
        yes("the public methods are the document's: " + got, got.equals(due));
        for (Method m : RolledUp.class.getDeclaredMethods()) {
            yes("another method of the class is private, with a name of its own: " + m, Modifier.isPublic(m.getModifiers())
                || Modifier.isPrivate(m.getModifiers()) && !names.contains(m.getName()));
        }
        TreeSet<String> constants = new TreeSet<>();
        for (Field f : RolledUp.class.getDeclaredFields()) {
            if (!Modifier.isPrivate(f.getModifiers())) {
                constants.add(f.getType() + " " + f.getName());
                yes("a constant: " + f, Modifier.isPublic(f.getModifiers()) && Modifier.isStatic(f.getModifiers()) && Modifier.isFinal(f.getModifiers()));
            }
        }
        yes("the constants are the document's", constants.equals(new TreeSet<>(List.of("int NONE", "int BAD", "int STATE", "int FULL", "long NO"))));
        yes("one constructor", RolledUp.class.getDeclaredConstructors().length == 1 && RolledUp.class.getConstructors().length == 1);
        yes("final", Modifier.isFinal(RolledUp.class.getModifiers()));
    }

    private static void nested() {
        TreeSet<String> names = new TreeSet<>();
        for (String line : FACE) {
            names.add(line.substring(line.indexOf(' ') + 1, line.indexOf('(')));
        }
        Class<?>[] classes = RolledUp.class.getDeclaredClasses();
        yes("twelve classes at most", classes.length + 1 <= 12);
        for (Class<?> c : classes) {
            yes(c + " is static", Modifier.isStatic(c.getModifiers()) && !Modifier.isPublic(c.getModifiers()));
            int fields = 0;
            for (Field f : c.getDeclaredFields()) {
                fields += Modifier.isStatic(f.getModifiers()) ? 0 : 1;
                yes("static fields are final: " + f, !Modifier.isStatic(f.getModifiers()) || Modifier.isFinal(f.getModifiers()));
            }
            yes("twenty fields at most: " + c, fields <= 20);
            for (Method m : c.getDeclaredMethods()) {
                yes("seven parameters at most: " + m, m.getParameterCount() <= 7);
                yes("no name of the face: " + m, !names.contains(m.getName()));
            }
        }
    }

    private static void source(String text) {
        String code = text.replaceAll("(?s)/\\*.*?\\*/", "").replaceAll("//[^\n]*", "");
        for (int i = 0; i < text.length(); i++) {
            if (text.charAt(i) > 126) {
                yes("plain signs at " + i, false);
            }
        }
        List<String> imports = new ArrayList<>();
        Matcher m = Pattern.compile("import ([^;]*);").matcher(code);
        while (m.find()) {
            imports.add(m.group(1));
        }
        yes("imports: " + imports, imports.equals(List.of("java.util.Arrays")));
        String[] banned = {"throw", "throws", "try", "catch", "synchronized", "assert", "package", "protected", "native", "yield", "var", "float", "double", "Object", "hashCode", "System\\.(?!arraycopy)", "\\w*Exact", "String\\[\\]"};
        for (String word : banned) {
            yes("no " + word, !Pattern.compile("\\b" + word + (word.endsWith("]") ? "" : "\\b")).matcher(code).find());
        }
        yes("no lambda, no method reference", !code.contains("->") && !code.contains("::"));
        yes("no static block", !Pattern.compile("static\\s*\\{").matcher(code).find());
        shortMethods(code);
    }

    private static void shortMethods(String code) {
        int start = -1;
        String[] lines = code.split("\n");
        for (int i = 0; i < lines.length; i++) {
            if (lines[i].matches("(    |        )[a-zA-Z].*\\) \\{")  && !lines[i].matches(" *(if|for|while|switch|do)\\b.*")) {
                start = i;
            }
            if (start >= 0 && lines[i].matches("(    |        )\\}") && lines[i].indexOf('}') == lines[start].length() - lines[start].stripLeading().length()) {
                yes("sixty lines at most: " + lines[start], i - start < 60);
                start = -1;
            }
        }
    }
}
