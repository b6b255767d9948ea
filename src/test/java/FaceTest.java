import java.lang.reflect.Constructor;
import java.lang.reflect.Field;
import java.lang.reflect.Method;
import java.lang.reflect.Modifier;
import java.nio.file.Files;
import java.nio.file.Path;
import java.util.Arrays;
import java.util.List;
import java.util.TreeSet;
import java.util.regex.Pattern;

/** The public face is the document's and no other, and the source keeps to the words LANGUAGE.md leaves. */
public final class FaceTest {
    private static final String[] METHODS = {
        "int alike()", "int at(int)", "int clear()", "int count(int)", "int decoy(int,int,int)", "long digest()",
        "int follow()", "int hint(int)", "int input(int,int,int,int,int,int)", "int kept(int)", "int lay(int,int)",
        "int line(int,int,int)", "int mark()", "int move(int,int)", "int needs(int,int)", "long orders()",
        "int printed(int)", "int right(long,int)", "int run(int,boolean)", "int size()", "int take(int)",
        "int told(int,int)", "int value(int)", "long which()", "int wipe()", "int wrong(int,int,int,int)",
    };

    public static void main(String[] args) throws Exception {
        Check check = new Check("FaceTest");
        constants(check);
        members(check);
        words(check);
        check.end();
    }

    private static void constants(Check check) {
        check.same("NONE", BlockMarker.NONE, -1);
        check.same("UNKNOWN", BlockMarker.UNKNOWN, -101);
        check.same("OUTSIDE", BlockMarker.OUTSIDE, -102);
        check.same("STATE", BlockMarker.STATE, -103);
        check.same("FULL", BlockMarker.FULL, -104);
    }

    private static void members(Check check) {
        TreeSet<String> methods = new TreeSet<>();
        TreeSet<String> hidden = new TreeSet<>();
        TreeSet<String> names = new TreeSet<>();
        for (Method m : BlockMarker.class.getDeclaredMethods()) {
            if (Modifier.isPrivate(m.getModifiers())) {
                hidden.add(m.getName());
                continue;
            }
            names.add(m.getName());
            StringBuilder text = new StringBuilder();
            for (Class<?> type : m.getParameterTypes()) {
                text.append(text.length() == 0 ? "" : ",").append(type.getName());
            }
            methods.add(m.getReturnType().getName() + " " + m.getName() + "(" + text + ")");
            check.isTrue(m + " is public and no static", Modifier.isPublic(m.getModifiers()) && !Modifier.isStatic(m.getModifiers()));
        }
        check.isTrue("the methods are the document's: " + methods, methods.equals(new TreeSet<>(Arrays.asList(METHODS))));
        hidden.retainAll(names);
        check.isTrue("no private method bears a public name: " + hidden, hidden.isEmpty());
        TreeSet<String> fields = new TreeSet<>();
        for (Field f : BlockMarker.class.getDeclaredFields()) {
            if (!Modifier.isPrivate(f.getModifiers())) {
                fields.add(f.getName());
            }
        }
        check.isTrue("the constants are the document's: " + fields,
            fields.equals(new TreeSet<>(List.of("NONE", "UNKNOWN", "OUTSIDE", "STATE", "FULL"))));
        Constructor<?>[] made = BlockMarker.class.getDeclaredConstructors();
        check.isTrue("one public constructor without parameters",
            made.length == 1 && Modifier.isPublic(made[0].getModifiers()) && made[0].getParameterCount() == 0);
        check.isTrue("the class is public and final",
            Modifier.isPublic(BlockMarker.class.getModifiers()) && Modifier.isFinal(BlockMarker.class.getModifiers()));
    }

    private static void words(Check check) throws Exception {
        String source = Files.readString(Path.of("src/main/java/BlockMarker.java"));
        String code = source.replaceAll("(?s)/\\*.*?\\*/", " ").replaceAll("//[^\n]*", " ");
        for (String word : List.of("throw", "throws", "try", "catch", "synchronized", "assert", "package", "\\w*Exact")) {
            check.isTrue("no " + word, !Pattern.compile("\\b" + word + "\\b").matcher(code).find());
        }
        check.isTrue("no lambda, no method reference", !code.contains("->") && !code.contains("::"));
        check.isTrue("java.util.Arrays is all that is imported",
            code.replace("import java.util.Arrays;", "").indexOf("import ") < 0);
    }
}
