import java.io.IOException;
import java.lang.reflect.Executable;
import java.lang.reflect.Field;
import java.lang.reflect.Method;
import java.lang.reflect.Modifier;
import java.nio.file.Files;
import java.nio.file.Path;
import java.util.ArrayList;
import java.util.Arrays;
import java.util.List;
import java.util.Set;
import java.util.TreeSet;
import java.util.regex.Matcher;
import java.util.regex.Pattern;

/** The rules of LANGUAGE.md that a program can look at: the face, the words, the sizes, the room. */
final class LanguageTest {
    private static final String[] FACE = {"int fort()", "int road(int,int,int)", "int cut(int,int)",
        "int silence(int,boolean)", "int way(int)", "int bound(int)", "int fortOf(int,int)", "int leagues(int,int)",
        "int known(int,int,int)", "int day(int)", "int settles()", "int far(int,int)", "int farAgain(int,int)",
        "int wrong()", "int route(int,int)", "int rings()", "int letter(int,int)", "int letterOf(int,int)",
        "int ranked(int)", "int append(int)", "int run()", "int tell(int)", "int character(int)",
        "int reason(boolean)", "int account(int)", "int isBalanced()", "double meanLeagues()", "float comeShare()",
        "int undo()", "int save()", "int restore()"};
    private static final String[] FORBIDDEN = {"\\bimport\\b", "\\bpackage\\b", "->", "::", "\\bfinally\\b",
        "\\bassert\\b", "\\bsynchronized\\b", "\\bExact\\b", "\\bhashCode\\b", "\\btoString\\b", "\\bsuper\\b",
        "\\btry\\b", "\\bcatch\\b", "\\bthrows?\\b", "\\bvar\\b", "\\bthread", "\\bSystem\\.(?!arraycopy)",
        "\"[^\"]*\"\\s*\\+", "\\+\\s*\"", "\\bstatic\\s*\\{", "\\bMath\\.(?!min\\b|max\\b|abs\\b)", "\\bnull\\b",
        "[^\\x00-\\x7f]"};

    private final Check check = new Check();

    public static void main(String[] args) throws IOException {
        LanguageTest test = new LanguageTest();
        test.theFace();
        test.theClasses();
        test.theWords();
        test.theMethods();
        test.theRoom();
        test.check.end();
    }

    private static String signature(Executable executable, String name) {
        List<String> types = new ArrayList<>();
        for (Class<?> type : executable.getParameterTypes()) {
            types.add(type.getSimpleName());
        }
        return name + "(" + String.join(",", types) + ")";
    }

    private static boolean isOwn(int modifiers, boolean isSynthetic) {
        return !isSynthetic && Modifier.isPrivate(modifiers);
    }

    private void theFace() {
        Class<?> type = FortHeralds.class;
        check.due("public and final", type.getModifiers(), Modifier.PUBLIC | Modifier.FINAL);
        Set<String> publics = new TreeSet<>();
        Set<String> names = new TreeSet<>();
        for (Method method : type.getDeclaredMethods()) {
            if (Modifier.isPublic(method.getModifiers())) {
                publics.add(signature(method, method.getReturnType().getSimpleName() + " " + method.getName()));
                names.add(method.getName());
            }
        }
        check.dueText("the face", publics.toString(), new TreeSet<>(Arrays.asList(FACE)).toString());
        for (Method method : type.getDeclaredMethods()) {
            if (!Modifier.isPublic(method.getModifiers())) {
                check.due("private: " + method, isOwn(method.getModifiers(), method.isSynthetic()) ? 1 : 0, 1);
                check.due("another name: " + method, names.contains(method.getName()) ? 1 : 0, 0);
            }
        }
        StringBuilder constants = new StringBuilder();
        for (Field field : type.getDeclaredFields()) {
            if (Modifier.isPublic(field.getModifiers())) {
                constants.append(field.getName()).append(' ');
            } else {
                check.due("private: " + field, Modifier.isPrivate(field.getModifiers()) ? 1 : 0, 1);
            }
            if (Modifier.isStatic(field.getModifiers())) {
                check.due("final: " + field, Modifier.isFinal(field.getModifiers()) ? 1 : 0, 1);
            }
        }
        check.dueText("the constants", constants.toString(), "NONE BAD FULL REFUSED NOTHING ");
        check.due("one constructor", type.getDeclaredConstructors().length, 1);
    }

    private void theClasses() {
        Class<?>[] inside = FortHeralds.class.getDeclaredClasses();
        check.due("at most twelve classes", inside.length + 1 <= 12 ? 1 : 0, 1);
        for (Class<?> type : inside) {
            check.due("static: " + type, Modifier.isStatic(type.getModifiers()) ? 1 : 0, 1);
            check.due("not public: " + type, Modifier.isPublic(type.getModifiers()) ? 1 : 0, 0);
            int fields = 0;
            for (Field field : type.getDeclaredFields()) {
                fields += Modifier.isStatic(field.getModifiers()) ? 0 : 1;
                if (Modifier.isStatic(field.getModifiers())) {
                    check.due("final: " + field, Modifier.isFinal(field.getModifiers()) ? 1 : 0, 1);
                }
            }
            check.due("fields of " + type + ": " + fields, fields <= 20 ? 1 : 0, 1);
            for (Method method : type.getDeclaredMethods()) {
                check.due("parameters of " + method, method.getParameterCount() <= 7 ? 1 : 0, 1);
            }
        }
    }

    /** The file without what its comments say. */
    private static String source() throws IOException {
        String all = Files.readString(Path.of("src/main/java/FortHeralds.java"));
        return all.replaceAll("(?s)/\\*.*?\\*/", "").replaceAll("//[^\n]*", "");
    }

    private void theWords() throws IOException {
        String source = source();
        for (String word : FORBIDDEN) {
            Matcher matcher = Pattern.compile(word).matcher(source);
            check.dueText("found " + word, matcher.find() ? matcher.group() : "", "");
        }
    }

    /** A method begins at a line that ends with "{" behind a ")", and ends with a brace as far in. */
    private void theMethods() throws IOException {
        String[] lines = source().split("\n");
        int methods = 0;
        for (int begin = 0; begin < lines.length; begin++) {
            if (lines[begin].matches(" {4}( {4})?(?!if|for|while|switch)\\w[^;]*\\) \\{")) {
                String brace = lines[begin].replaceAll("\\S.*", "") + "}";
                int end = begin;
                while (!lines[end].equals(brace)) {
                    end++;
                }
                methods++;
                check.due("lines of " + lines[begin].trim(), end - begin <= 60 ? 1 : 0, 1);
            }
        }
        check.due("methods were found: " + methods, methods > 80 ? 1 : 0, 1);
    }

    /** What 512 of the dearest calls make, by the bytes that the machine counts for this thread. */
    private void theRoom() {
        com.sun.management.ThreadMXBean machine =
                (com.sun.management.ThreadMXBean) java.lang.management.ManagementFactory.getThreadMXBean();
        FortHeralds x = Check.rowOf(8, 7);
        callAll(x);
        long before = machine.getCurrentThreadAllocatedBytes();
        for (int call = 0; call < 512; call++) {
            callAll(x);
        }
        long bytes = machine.getCurrentThreadAllocatedBytes() - before;
        check.due("bytes made by 512 of all calls: " + bytes, bytes < 2_000_000 ? 1 : 0, 1);
    }

    private static void callAll(FortHeralds x) {
        x.fort();
        x.cut(0, 1);
        x.settles();
        x.road(0, 1, 7);
        x.silence(3, x.fortOf(3, 2) == 0);
        x.letter(0, 5);
        x.day(30);
        x.settles();
        x.far(0, 7);
        x.farAgain(7, 0);
        x.wrong();
        x.route(0, 7);
        x.rings();
        x.ranked(7);
        x.tell(0);
        Check.runText(x, "way 1;day 30;way 0;mute h;day 30;open h");
        x.isBalanced();
        x.meanLeagues();
        x.comeShare();
        x.undo();
        x.save();
        x.restore();
    }
}
