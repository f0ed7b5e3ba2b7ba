import java.lang.reflect.Constructor;
import java.lang.reflect.Field;
import java.lang.reflect.Member;
import java.lang.reflect.Method;
import java.lang.reflect.Modifier;
import java.nio.file.Files;
import java.nio.file.Path;
import java.util.List;
import java.util.TreeSet;
import java.util.regex.Matcher;
import java.util.regex.Pattern;

/** Holds the class against those rules of ../shared/LANGUAGE.md that a program can look at. Runs in the project's folder. */
public final class LanguageTest {
    private static final List<String> FACE = List.of("feed 5", "end 1", "thing 0", "house 0", "courier 0", "loan 1",
        "report 2", "appraise 3", "cancel 1", "place 0", "fault 0", "count 1", "value 2", "together 2", "where 2",
        "free 3", "stage 2", "parcels 1", "parcel 2", "weight 2", "guard 3", "busy 1", "with 2", "ready 3", "cost 2",
        "premium 3", "dearest 1", "harms 2", "note 3", "damage 2", "bearer 2", "charge 1", "home 0", "letter 3",
        "status 0");
    private static final Check check = new Check();

    public static void main(String[] args) throws Exception {
        face();
        classesInside();
        words(Files.readString(Path.of("src/main/java/LoanBook.java")));
        check.close();
    }

    private static void face() throws Exception {
        check.about("rule 1");
        TreeSet<String> open = new TreeSet<>();
        TreeSet<String> names = new TreeSet<>();
        for (Method method : LoanBook.class.getDeclaredMethods()) {
            if (Modifier.isPublic(method.getModifiers())) {
                open.add(method.getName() + " " + method.getParameterCount());
                names.add(method.getName());
                check.due(method + " answers an int", method.getReturnType() == int.class ? 1 : 0, 1);
            } else {
                isPrivate(method);
            }
        }
        check.due("the public methods are those of the document", open.equals(new TreeSet<>(FACE)) ? 1 : 0, 1);
        for (Method method : LoanBook.class.getDeclaredMethods()) {
            boolean isHidden = !Modifier.isPublic(method.getModifiers());
            check.due("private name " + method.getName(), isHidden && names.contains(method.getName()) ? 1 : 0, 0);
        }
        for (Constructor<?> made : LoanBook.class.getDeclaredConstructors()) {
            check.due("the constructor's parameters", made.getParameterCount(), 0);
            check.due("the constructor is public", Modifier.isPublic(made.getModifiers()) ? 1 : 0, 1);
        }
        for (Field field : LoanBook.class.getDeclaredFields()) {
            if (!field.getName().equals("BAD")) {
                isPrivate(field);
            }
        }
        check.due("the class is final", Modifier.isFinal(LoanBook.class.getModifiers()) ? 1 : 0, 1);
    }

    private static void isPrivate(Member member) {
        check.due(member + " is private", Modifier.isPrivate(member.getModifiers()) ? 1 : 0, 1);
    }

    private static void classesInside() {
        check.about("rules 2, 5 and 11");
        Class<?>[] inside = LoanBook.class.getDeclaredClasses();
        check.due("some twelve classes", inside.length <= 11 ? 1 : 0, 1);
        limits(LoanBook.class);
        for (Class<?> one : inside) {
            check.due(one + " is static", Modifier.isStatic(one.getModifiers()) ? 1 : 0, 1);
            check.due(one + " is not public", Modifier.isPublic(one.getModifiers()) ? 1 : 0, 0);
            limits(one);
        }
    }

    private static void limits(Class<?> one) {
        int fields = 0;
        for (Field field : one.getDeclaredFields()) {
            boolean isStatic = Modifier.isStatic(field.getModifiers());
            fields += isStatic ? 0 : 1;
            check.due(field + " is final, if static", isStatic && !Modifier.isFinal(field.getModifiers()) ? 1 : 0, 0);
        }
        check.due("some twenty fields in " + one, fields <= 20 ? 1 : 0, 1);
        for (Method method : one.getDeclaredMethods()) {
            check.due("seven parameters of " + method, method.getParameterCount() <= 7 ? 1 : 0, 1);
        }
    }

    private static void words(String source) {
        check.about("rules 2, 4, 6 and 10");
        String bare = source.replaceAll("(?s)/\\*.*?\\*/", " ").replaceAll("//[^\n]*", " ").replaceAll("\"[^\"\n]*\"", "\"\"");
        String[] banned = {"\\bthrow\\b", "\\bthrows\\b", "\\btry\\b", "\\bcatch\\b", "\\bfinally\\b", "\\bsynchronized\\b",
            "\\bassert\\b", "->", "::", "\\bpackage\\b", "\\bprotected\\b", "\\bhashCode\\b", "\\bSystem\\.out\\b",
            "Exact\\b", "\\bString\\.format\\b", "\"\"\\s*\\+", "\\+\\s*\"\"", "\\bObject\\b", "\\bstatic\\s*\\{"};
        for (String word : banned) {
            check.due("how often it says " + word, Pattern.compile(word).matcher(bare).results().count(), 0);
        }
        Matcher imports = Pattern.compile("import ([^;]+);").matcher(bare);
        while (imports.find()) {
            boolean isAllowed = List.of("java.util.ArrayList", "java.util.Arrays", "java.util.List").contains(imports.group(1));
            check.due("import of " + imports.group(1), isAllowed ? 1 : 0, 1);
        }
        lengths(bare);
    }

    /** A method begins at a line that ends with ") {" and is not a loop, a branch or a switch. */
    private static void lengths(String bare) {
        check.about("rule 11");
        String[] lines = bare.split("\n");
        Pattern head = Pattern.compile("^( ++)(?!if|for|while|switch|\\})[\\w<>\\[\\] ]+\\([^;]*\\) \\{$");
        int methods = 0;
        for (int i = 0; i < lines.length; i++) {
            Matcher begins = head.matcher(lines[i]);
            if (begins.find()) {
                methods++;
                int end = i;
                while (end < lines.length && !lines[end].equals(begins.group(1) + "}")) {
                    end++;
                }
                check.due("some sixty lines of" + lines[i], end - i < 60 ? 1 : 0, 1);
            }
        }
        check.due("methods were found", methods > 100 ? 1 : 0, 1);
    }
}
