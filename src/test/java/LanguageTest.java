import java.io.IOException;
import java.lang.reflect.Constructor;
import java.lang.reflect.Field;
import java.lang.reflect.Method;
import java.lang.reflect.Modifier;
import java.nio.file.Files;
import java.nio.file.Path;
import java.util.Arrays;
import java.util.List;
import java.util.TreeSet;

/** What of ../shared/LANGUAGE.md and of the document's face can be seen by looking. */
public final class LanguageTest {
    private static final String FACE = "act(int,int,int) again() alterRow(int,int,int) back(int) bidder(int,int,int,int) "
        + "bidderOf(int,int) call(int,int) draught(int,int) draughts(int,int,int,int) draw(int) end(int) feed(long,int) "
        + "gust(int,int) hall() item(int,int,int) judge(int) keep() light(int) limit(int,int) lot(int,int) lotOf(int,int) "
        + "many(int) mind(int,int,int) most(int) now(int) order(int) owed(int) patience(int,int) prove(int) purse(int,int,int) "
        + "put(int,int,int) row(int,int) seed(int) sheet(int,int,int) shelf(int,int,int) silent(int) snuff() step(int) "
        + "taken(int,int) ticks(int) trace(int) trim(int,int,int) wax(int,int) wins(int,int) would(int)";

    public static void main(String[] args) throws IOException {
        face();
        insides();
        words();
        Due.end("LanguageTest");
    }

    private static void face() {
        TreeSet<String> names = new TreeSet<>();
        for (Method method : InchCandle.class.getDeclaredMethods()) {
            if (!Modifier.isPrivate(method.getModifiers())) {
                Due.yes(method + " is public", Modifier.isPublic(method.getModifiers()));
                Due.yes(method + " answers an int", method.getReturnType() == int.class);
                String types = Arrays.toString(method.getParameterTypes()).replaceAll("[\\[\\] ]", "");
                names.add(method.getName() + "(" + types + ")");
            }
        }
        Due.yes("the face is the document's: " + names, names.equals(new TreeSet<>(List.of(FACE.split(" ")))));
        Due.is("constructors", InchCandle.class.getDeclaredConstructors().length, 1);
        for (Constructor<?> made : InchCandle.class.getDeclaredConstructors()) {
            Due.yes("the constructor", Modifier.isPublic(made.getModifiers()) && made.getParameterCount() == 0);
        }
        TreeSet<String> constants = new TreeSet<>();
        for (Field field : InchCandle.class.getDeclaredFields()) {
            if (!Modifier.isPrivate(field.getModifiers())) {
                constants.add(field.getName());
            }
        }
        Due.yes("constants " + constants, constants.equals(new TreeSet<>(List.of("BAD", "FULL", "NONE", "STATE"))));
        Due.is("public and final", InchCandle.class.getModifiers(), Modifier.PUBLIC | Modifier.FINAL);
        int[] refusals = {InchCandle.BAD, InchCandle.FULL, InchCandle.NONE, InchCandle.STATE};
        Due.yes("refusals", Arrays.equals(refusals, new int[] {-1, -2, -3, -4}));
    }

    private static void insides() {
        TreeSet<String> open = new TreeSet<>();
        for (String name : FACE.split(" ")) {
            open.add(name.replaceAll("\\(.*", ""));
        }
        Class<?>[] inside = InchCandle.class.getDeclaredClasses();
        Due.yes("classes: " + inside.length, inside.length <= 11);
        for (Class<?> one : inside) {
            int how = one.getModifiers();
            Due.yes(one + " is static", Modifier.isStatic(how));
            Due.yes(one + " is not open", !Modifier.isPublic(how) && !Modifier.isProtected(how));
            for (Method method : one.getDeclaredMethods()) {
                Due.yes(method + " bears no name of the face", !open.contains(method.getName()));
            }
            look(one);
        }
        look(InchCandle.class);
    }

    private static void look(Class<?> one) {
        int fields = 0;
        for (Field field : one.getDeclaredFields()) {
            boolean constant = Modifier.isStatic(field.getModifiers());
            Due.yes(field + " is final", !constant || Modifier.isFinal(field.getModifiers()));
            fields += constant ? 0 : 1;
        }
        Due.yes("fields of " + one + ": " + fields, fields <= 20);
        for (Method method : one.getDeclaredMethods()) {
            Due.yes("parameters of " + method, method.getParameterCount() <= 7);
        }
    }

    private static void words() throws IOException {
        List<String> lines = Files.readAllLines(Path.of("src/main/java/InchCandle.java"));
        String words = "throw try catch finally synchronized assert import package instanceof System.out "
            + "Exact equals( hashCode( toString( null!= ->";
        int begun = -1;
        for (int i = 0; i < lines.size(); i++) {
            String line = lines.get(i);
            String code = line.replaceAll("//.*", "").replaceAll("^\\s*/?\\*.*", "").replaceAll("\"[^\"]*\"", "\"\"");
            for (String word : words.split(" ")) {
                boolean bare = Character.isLetter(word.charAt(0)) && Character.isLetter(word.charAt(word.length() - 1));
                boolean there = bare ? code.matches(".*\\b" + word.replace(".", "\\.") + "\\b.*") : code.contains(word);
                Due.yes("line " + (i + 1) + " without " + word, !there);
            }
            Due.yes("line " + (i + 1) + " without ::", !code.contains("::"));
            Due.yes("line " + (i + 1) + " is ASCII", line.chars().allMatch(c -> c >= 32 && c < 127));
            Due.yes("line " + (i + 1) + " is short", line.length() <= 120);
            if (code.matches("\\s+(public |private |static )*[\\w\\[\\]]+ \\w+\\(.*\\) \\{|\\s+.*\\) \\{") && begun < 0
                && code.matches("(    |        )\\w.*")) {
                begun = i;
            }
            if (begun >= 0 && code.matches("(    |        )\\}")) {
                Due.yes("the method that ends in line " + (i + 1) + " is short", i - begun <= 60);
                begun = -1;
            }
        }
    }
}
