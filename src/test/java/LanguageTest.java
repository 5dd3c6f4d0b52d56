import java.io.IOException;
import java.lang.reflect.Field;
import java.lang.reflect.Method;
import java.lang.reflect.Modifier;
import java.nio.file.Files;
import java.nio.file.Path;
import java.util.Set;
import java.util.TreeSet;
import java.util.regex.Matcher;
import java.util.regex.Pattern;

/** The public face as the document has it, and what of ../shared/LANGUAGE.md can be seen in the text of the program. */
public final class LanguageTest {
    private static final Check CHECK = new Check("LanguageTest");
    private static final String FACE = "write(int,long)int wipe()int fault()int market()int about(int)int "
        + "tooth(int,int)int good(int,int)int purse(int)int handle(int)int bite(int)int fewest(int,int,int)int "
        + "paid(int,int,int,boolean)int pay(int,int,int)int undo()int tooMuch(int,int,boolean)int "
        + "sums(int,int,int)int spent(int,boolean)int caught(int,long)int washed(int,long)int life(int,int)int "
        + "trace(int,int)int inflated(int,int)int doubt(int,int,int,int,int,boolean)long "
        + "among(int,int,int,boolean)long rate(int,int,int,int)int ring(boolean)long ringAt(int)int "
        + "should(int,int)int stolen()int thief()int keep(int)int again(int)int";
    private static final String[] RULED_OUT = {"\\bthrow\\b", "\\bthrows\\b", "\\btry\\b", "\\bcatch\\b",
        "\\bsynchronized\\b", "\\bassert\\b", "->", "::", "\\bdouble\\b", "\\bfloat\\b", "\\bpackage\\b",
        "\\bprotected\\b", "\\bThread\\b", "\\bRandom\\b", "Exact\\b", "\\bhashCode\\b", "\\btoString\\b",
        "\\bObject\\b", "\\bwhile *\\(true\\)", "static *\\{", "\\bvar\\b"};

    public static void main(String[] args) throws IOException {
        face();
        String program = Files.readString(Path.of("src/main/java/TeethForCoins.java"));
        CHECK.holds("rule 4: ASCII alone", program.chars().allMatch(sign -> sign < 128));
        String bare = program.replaceAll("(?s)/\\*.*?\\*/", "").replaceAll("//[^\n]*", "");
        for (String ruledOut : RULED_OUT) {
            CHECK.holds("ruled out: " + ruledOut, !Pattern.compile(ruledOut).matcher(bare).find());
        }
        Matcher imports = Pattern.compile("import ([^;]*);").matcher(bare);
        while (imports.find()) {
            CHECK.holds("rule 4: import " + imports.group(1), imports.group(1).equals("java.util.Arrays"));
        }
        classes();
        lengths(program);
        CHECK.end();
    }

    private static void face() {
        Set<String> due = new TreeSet<>(Set.of(FACE.split(" ")));
        Set<String> found = new TreeSet<>();
        for (Method method : TeethForCoins.class.getDeclaredMethods()) {
            if (!Modifier.isPrivate(method.getModifiers())) {
                CHECK.holds("rule 1: public " + method, Modifier.isPublic(method.getModifiers()));
                StringBuilder told = new StringBuilder(method.getName()).append('(');
                for (Class<?> type : method.getParameterTypes()) {
                    told.append(told.charAt(told.length() - 1) == '(' ? "" : ",").append(type);
                }
                found.add(told.append(')').append(method.getReturnType()).toString());
            }
        }
        CHECK.holds("rule 1: the face is " + found, found.equals(due));
        CHECK.holds("rule 1: final", Modifier.isFinal(TeethForCoins.class.getModifiers()));
        CHECK.due("rule 1: one constructor", TeethForCoins.class.getConstructors().length, 1);
        Set<String> constants = new TreeSet<>();
        for (Field field : TeethForCoins.class.getFields()) {
            constants.add(field.getName());
        }
        CHECK.holds("rule 1: constants " + constants,
            constants.equals(new TreeSet<>(Set.of("UNKNOWN", "BAD", "LATE", "FULL", "NONE"))));
    }

    private static void classes() {
        Class<?>[] inside = TeethForCoins.class.getDeclaredClasses();
        CHECK.holds("rule 11: classes " + inside.length, inside.length <= 11);
        for (Class<?> one : inside) {
            CHECK.holds("rule 2: static " + one, Modifier.isStatic(one.getModifiers()));
            fields(one);
            for (Method method : one.getDeclaredMethods()) {
                CHECK.holds("rule 1: a name of the face: " + method, !(" " + FACE).contains(" " + method.getName() + "("));
            }
        }
        fields(TeethForCoins.class);
    }

    private static void fields(Class<?> one) {
        int own = 0;
        for (Field field : one.getDeclaredFields()) {
            if (Modifier.isStatic(field.getModifiers())) {
                CHECK.holds("rule 5: final " + field, Modifier.isFinal(field.getModifiers()));
            } else {
                own++;
                CHECK.holds("rule 1: private " + field, Modifier.isPrivate(field.getModifiers()));
            }
        }
        CHECK.holds("rule 11: fields of " + one, own <= 20);
    }

    private static void lengths(String program) {
        Matcher methods = Pattern.compile("(?m)^( {4}| {8})(?:public|private)[^;={]*\\(([^)]*)\\) \\{\n").matcher(program);
        int seen = 0;
        while (methods.find()) {
            int end = program.indexOf("\n" + methods.group(1) + "}\n", methods.end());
            long lines = program.substring(methods.start(), end).lines().count();
            CHECK.holds("rule 11: " + lines + " lines: " + methods.group().strip(), lines <= 60);
            CHECK.holds("rule 11: parameters: " + methods.group().strip(), methods.group(2).split(",").length <= 7);
            seen++;
        }
        CHECK.holds("rule 11: methods are found", seen > 60);
    }
}
