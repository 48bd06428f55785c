import java.io.IOException;
import java.lang.reflect.Constructor;
import java.lang.reflect.Field;
import java.lang.reflect.Method;
import java.lang.reflect.Modifier;
import java.nio.file.Files;
import java.nio.file.Path;
import java.util.ArrayList;
import java.util.Arrays;
import java.util.List;
import java.util.TreeSet;
import java.util.regex.Matcher;
import java.util.regex.Pattern;

/** The public face of the document, and those rules of LANGUAGE.md that can be read off the program. */
public final class FaceTest {
    private static final String[] FACE = {
        "feed(int,long)", "rule(int)", "ruleOf(int,int,int)", "lean(int,int)", "mode(int,int)", "owes(int,int,int)",
        "why(int,int,int)", "done(int,int,boolean)", "undone()", "together(int)", "paying(int,int,int)", "feasts(int)",
        "friends(int)", "least(int,int,int)", "soonest(int)", "needed(int,int)", "over(int,int,int,int)",
        "byPutting(int,int)", "ring()", "stops()", "put(int)", "judge()", "paid()", "beside(boolean)", "part(int,int)",
        "kin(int)", "image()", "on()", "count(int)",
    };
    private static final String[] BARRED = {
        "throw", "try", "catch", "synchronized", "assert", "->", "::", "Exact", "package ", "Byte.", "System.out", "Random", "Thread",
    };
    private static int wrong;

    private static void must(boolean stands, String rule) {
        if (!stands) {
            wrong++;
            System.out.println("does not stand: " + rule);
        }
    }

    public static void main(String[] args) throws IOException {
        Watch.start();
        face();
        classesInside();
        words();
        anyArguments();
        System.out.println(wrong == 0 ? "the face stands" : wrong + " rules do not stand");
        if (wrong != 0) {
            System.exit(1);
        }
    }

    private static void face() {
        Class<?> c = DaysOnBread.class;
        must(Modifier.isPublic(c.getModifiers()) && Modifier.isFinal(c.getModifiers()), "public final class");
        Constructor<?>[] made = c.getDeclaredConstructors();
        must(made.length == 1 && Modifier.isPublic(made[0].getModifiers()) && made[0].getParameterCount() == 0, "one public constructor");
        TreeSet<String> found = new TreeSet<>();
        for (Method m : c.getDeclaredMethods()) {
            if (m.isSynthetic() || Modifier.isPrivate(m.getModifiers())) {
                continue;
            }
            must(Modifier.isPublic(m.getModifiers()) && m.getReturnType() == int.class, m.getName() + " is public and answers an int");
            StringBuilder b = new StringBuilder(m.getName()).append('(');
            for (Class<?> p : m.getParameterTypes()) {
                b.append(b.charAt(b.length() - 1) == '(' ? "" : ",").append(p.getName());
            }
            found.add(b.append(')').toString());
        }
        must(found.equals(new TreeSet<>(Arrays.asList(FACE))), "the methods of the document and no others: " + found);
        for (Field f : c.getDeclaredFields()) {
            must(Modifier.isPrivate(f.getModifiers()), f.getName() + " is private");
        }
    }

    private static void classesInside() {
        List<Class<?>> all = new ArrayList<>(Arrays.asList(DaysOnBread.class.getDeclaredClasses()));
        must(all.size() <= 12, "some twelve classes");
        for (Class<?> c : all) {
            must(Modifier.isStatic(c.getModifiers()), c.getName() + " is static");
        }
        all.add(DaysOnBread.class);
        for (Class<?> c : all) {
            int own = 0;
            for (Field f : c.getDeclaredFields()) {
                boolean isStatic = Modifier.isStatic(f.getModifiers());
                must(!isStatic || Modifier.isFinal(f.getModifiers()), f.getName() + " is final");
                own += isStatic ? 0 : 1;
            }
            must(own <= 20, c.getName() + " has some twenty fields");
            for (Method m : c.getDeclaredMethods()) {
                must(m.getParameterCount() <= 7, m.getName() + " takes seven parameters at most");
                boolean bearsName = c != DaysOnBread.class && Arrays.stream(FACE).anyMatch(f -> f.startsWith(m.getName() + "("));
                must(!bearsName, m.getName() + " does not bear the name of a public one");
            }
        }
    }

    private static void words() throws IOException {
        String text = Files.readString(Path.of("src/main/java/DaysOnBread.java"));
        String code = text.replaceAll("(?s)/\\*.*?\\*/", "").replaceAll("//[^\n]*", "");
        for (String word : BARRED) {
            boolean isWord = Character.isLetter(word.charAt(0)) && word.indexOf('.') < 0 && !word.equals("Exact");
            Matcher m = Pattern.compile(isWord ? "\\b" + Pattern.quote(word) + "\\b" : Pattern.quote(word)).matcher(code);
            must(!m.find(), "no '" + word + "' in the program");
        }
        Matcher imports = Pattern.compile("(?m)^import (.*);$").matcher(code);
        while (imports.find()) {
            must(imports.group(1).equals("java.util.Arrays"), "no import of " + imports.group(1));
        }
        must(text.chars().allMatch(sign -> sign < 128), "signs below 128");
    }

    /** No call throws, whatever it is asked, in a new object or in a full one. */
    private static void anyArguments() {
        int[] odd = {Integer.MIN_VALUE, -129, -2, -1, 0, 1, 5, 6, 11, 12, 15, 16, 28, 100, 400, 401, 1 << 28, Integer.MAX_VALUE};
        for (int i = 0; i < odd.length; i++) {
            for (int j = 0; j < odd.length; j++) {
                DaysOnBread x = new DaysOnBread();
                callAll(x, odd[i], odd[j]);
                fill(x);
                callAll(x, odd[j], odd[i]);
                callAll(x, odd[i], odd[i]);
            }
        }
    }

    private static void fill(DaysOnBread x) {
        for (int i = 0; i < 12; i++) {
            x.feed(4, 0x39393A61L + i % 8);
            x.rule(i % 6);
            x.lean(i % 6, (i + 1) % 6);
            x.done(i % 8, i, i % 2 == 0);
            x.over(i % 6, 30, (i + 1 + i % 3) % 6, 29);
            x.put(i % 6);
        }
        x.friends(99);
        for (int i = 0; i < 6; i++) {
            x.paying(i, 0, 99);
            x.paying(i, 1, 99);
            x.paying(i, 2, 9);
        }
    }

    private static void callAll(DaysOnBread x, int a, int b) {
        x.feed(a, b);
        x.rule(a);
        x.ruleOf(a, b, 0);
        x.ruleOf(0, a, b);
        x.lean(a, b);
        x.mode(a, b);
        x.owes(a, b, 0);
        x.owes(0, a, b);
        x.why(a, b, 0);
        x.why(0, a, b);
        x.done(a, b, true);
        x.together(a);
        x.paying(a, b, 1);
        x.paying(1, a, b);
        x.feasts(a);
        x.friends(a);
        x.least(a, b, 6);
        x.least(100, a, b);
        x.soonest(a);
        x.needed(a, b);
        x.over(a, b, 1, 1);
        x.over(1, 1, a, b);
        x.byPutting(a, b);
        x.ring();
        x.stops();
        x.put(a);
        x.paid();
        x.judge();
        x.beside(true);
        x.part(a, b);
        x.kin(a);
        x.on();
        x.image();
        x.undone();
        x.on();
        x.count(a);
    }
}
