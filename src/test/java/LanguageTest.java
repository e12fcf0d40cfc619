import java.io.IOException;
import java.lang.reflect.Field;
import java.lang.reflect.Modifier;
import java.nio.charset.StandardCharsets;
import java.nio.file.Files;
import java.nio.file.Path;
import java.util.regex.Matcher;
import java.util.regex.Pattern;

/** What of ../shared/LANGUAGE.md a look at the program's words can tell. Run from the checkout. */
public final class LanguageTest {
    private static final Checks C = new Checks();

    public static void main(String[] args) throws IOException {
        byte[] bytes = Files.readAllBytes(Path.of("src/main/java/StoneRoads.java"));
        int strange = 0;
        for (byte sign : bytes) {
            strange += sign < 1 ? 1 : 0;
        }
        C.due("4: signs that aren't 1 .. 127", strange, 0);
        String all = new String(bytes, StandardCharsets.ISO_8859_1);
        String code = all.replaceAll("(?s)/\\*.*?\\*/", " ").replaceAll("//[^\n]*", " ")
                .replaceAll("'(\\\\.|[^'])'", "' '");
        none(code, "6: exceptions", "\\b(throw|throws|try|catch|finally|synchronized|assert)\\b");
        none(code, "2: lambdas, method references", "->|::");
        none(code, "2: inner classes", "(?<!static )(?<!static final )\\bclass (?!StoneRoads\\b)");
        none(code, "3: doubles", "\\b(double|float|Object|Integer\\[|var)\\b");
        none(code, "4: other libraries", "\\bimport (?!java\\.util\\.Arrays;)|\\bjava\\.(?!util\\.Arrays;)");
        none(code, "4: other functions", "\\bArrays\\.(?!fill\\(|copyOf)|\\bMath\\.(?!min\\(|max\\()"
                + "|\\bSystem\\.(?!arraycopy\\()|Exact\\b");
        none(code.replace("NO = Long.MIN_VALUE;", ""), "4: constants of the library",
                "\\b(Integer|Long|Math|Character|Short|Byte)\\.(?![a-z]\\w*\\()");
        none(code, "1: a package", "\\bpackage\\b");
        none(code, "6: equals, hashCode, toString", "\\b(equals|hashCode|toString)\\b");
        none(code, "5: static state", "\\bstatic (?!final\\b|[\\w\\[\\]]+ \\w+\\()");
        none(code, "13: the world outside", "\\b(Thread|Random|currentTimeMillis|nanoTime|getenv|File)\\b");
        shortMethods(all);
        fewFields(StoneRoads.class);
        Class<?>[] inside = StoneRoads.class.getDeclaredClasses();
        C.due("11: twelve classes", inside.length < 12 ? 1 : 0, 1);
        for (Class<?> one : inside) {
            fewFields(one);
        }
        C.finish();
    }

    private static void none(String code, String rule, String pattern) {
        Matcher matcher = Pattern.compile(pattern).matcher(code);
        C.due(rule, matcher.find() ? "at: " + code.substring(matcher.start()).lines().findFirst().get() : "", "");
    }

    private static void fewFields(Class<?> where) {
        int many = 0;
        for (Field field : where.getDeclaredFields()) {
            many += Modifier.isStatic(field.getModifiers()) ? 0 : 1;
        }
        C.due("11: twenty fields in " + where.getName(), many <= 20 ? 1 : 0, 1);
    }

    /** By the indentation: a method ends at a brace that stands as far in as its head. */
    private static void shortMethods(String all) {
        String[] lines = all.split("\n");
        for (int k = 0; k < lines.length; k++) {
            Matcher head = Pattern.compile("^( {4}| {8})(?! )[^=]*\\) \\{$").matcher(lines[k]);
            if (!head.find()) {
                continue;
            }
            int end = k;
            while (!lines[end].equals(head.group(1) + "}")) {
                end++;
            }
            C.due("11: a short one: " + lines[k].trim(), end - k < 60 ? 1 : 0, 1);
            C.due("11: seven parameters: " + lines[k].trim(), lines[k].split(",").length <= 7 ? 1 : 0, 1);
        }
    }
}
