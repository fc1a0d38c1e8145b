import java.lang.reflect.Constructor;
import java.lang.reflect.Field;
import java.lang.reflect.Method;
import java.lang.reflect.Modifier;
import java.nio.file.Files;
import java.nio.file.Path;
import java.util.ArrayList;
import java.util.List;
import java.util.Random;
import java.util.TreeSet;
import java.util.regex.Matcher;
import java.util.regex.Pattern;

/** The public face, the rules of LANGUAGE.md that can be looked up, and that no call ever throws. */
public final class FaceTest {
    private static final String SOURCE = "src/main/java/SpringPawn.java";
    private static final List<String> FACE = List.of("int type(int)", "int clear()", "int valley()", "int day(int,int)",
        "int crop(int,int)", "int loan(int,int)", "int pawns(int,int)", "int redeems(int)", "int year()", "int undo()",
        "int now(int)", "int lends(int,int)", "int cheap(int,int)", "int freeing(int)", "int rich(int)", "int bare()",
        "int tells(int,int)", "int forget()", "int fits(int)", "int odds(int,int,int)", "int mark(int,int)",
        "int keep(int)", "int back(int)", "int count(int)", "long trace()");
    private static final List<String> CONSTANTS = List.of("BAD", "STATE", "FULL", "NONE", "NO");
    private static final Due DUE = new Due();

    public static void main(String[] args) throws Exception {
        constants();
        methods();
        nothingElseIsSeen();
        classesInside();
        wordsOutsideTheLanguage();
        noCallThrows();
        DUE.end();
    }

    private static void constants() {
        DUE.is("BAD", SpringPawn.BAD, -1);
        DUE.is("STATE", SpringPawn.STATE, -2);
        DUE.is("FULL", SpringPawn.FULL, -3);
        DUE.is("NONE", SpringPawn.NONE, -9);
        DUE.is("NO", SpringPawn.NO, -1000000);
    }

    private static String faceOf(Method m) {
        List<String> types = new ArrayList<>();
        for (Class<?> type : m.getParameterTypes()) {
            types.add(type.getName());
        }
        return m.getReturnType().getName() + " " + m.getName() + "(" + String.join(",", types) + ")";
    }

    private static void methods() {
        TreeSet<String> seen = new TreeSet<>();
        TreeSet<String> publicNames = new TreeSet<>();
        for (Method m : SpringPawn.class.getDeclaredMethods()) {
            if (Modifier.isPublic(m.getModifiers())) {
                seen.add(faceOf(m));
                publicNames.add(m.getName());
            }
        }
        right("the public methods are those of the document", seen.equals(new TreeSet<>(FACE)));
        List<Class<?>> all = new ArrayList<>(List.of(SpringPawn.class.getDeclaredClasses()));
        all.add(SpringPawn.class);
        for (Class<?> c : all) {
            for (Method m : c.getDeclaredMethods()) {
                boolean face = c == SpringPawn.class && Modifier.isPublic(m.getModifiers());
                right(m + " bears the name of a public one", face || !publicNames.contains(m.getName()));
                right(m + " takes too many parameters", m.getParameterCount() <= 7);
            }
        }
    }

    private static void nothingElseIsSeen() {
        right("the class is public and final",
            Modifier.isPublic(SpringPawn.class.getModifiers()) && Modifier.isFinal(SpringPawn.class.getModifiers()));
        Constructor<?>[] made = SpringPawn.class.getDeclaredConstructors();
        right("one public constructor without arguments",
            made.length == 1 && Modifier.isPublic(made[0].getModifiers()) && made[0].getParameterCount() == 0);
        for (Method m : SpringPawn.class.getDeclaredMethods()) {
            right(m + " is seen", Modifier.isPublic(m.getModifiers()) || Modifier.isPrivate(m.getModifiers()));
        }
        for (Field f : SpringPawn.class.getDeclaredFields()) {
            boolean constant = CONSTANTS.contains(f.getName()) && Modifier.isPublic(f.getModifiers());
            right(f + " is seen", constant || Modifier.isPrivate(f.getModifiers()));
        }
    }

    private static void classesInside() {
        Class<?>[] inside = SpringPawn.class.getDeclaredClasses();
        right("at most twelve classes", inside.length <= 11);
        for (Class<?> c : inside) {
            right(c + " is static", Modifier.isStatic(c.getModifiers()));
            fewFields(c);
        }
        fewFields(SpringPawn.class);
    }

    private static void fewFields(Class<?> c) {
        int fields = 0;
        for (Field f : c.getDeclaredFields()) {
            right(f + " is static state", !Modifier.isStatic(f.getModifiers()) || Modifier.isFinal(f.getModifiers()));
            fields += Modifier.isStatic(f.getModifiers()) ? 0 : 1;
        }
        right(c + " has too many fields", fields <= 20);
    }

    private static void wordsOutsideTheLanguage() throws Exception {
        String code = Files.readString(Path.of(SOURCE));
        code = code.replaceAll("(?s)/\\*.*?\\*/", "").replaceAll("//[^\n]*", "");
        Matcher words = Pattern.compile("\\b(throw|throws|try|catch|synchronized|assert|import|package|native|volatile|"
            + "transient|goto|protected|System\\.(?!arraycopy)\\w+|\\w+Exact|hashCode|toString|clone)\\b|->|::").matcher(code);
        while (words.find()) {
            right("the language has no " + words.group(), false);
        }
        for (int i = 0; i < code.length(); i++) {
            right("a sign beyond 127 at " + i, code.charAt(i) < 128);
        }
    }

    /** Any arguments in any state, beyond the 512th call too. */
    private static void noCallThrows() throws Exception {
        Random random = new Random(1);
        int[] odd = {Integer.MIN_VALUE, Integer.MIN_VALUE + 1, -31, -1, 0, 1, 2, 3, 4, 5, 9, 29, 30, 31, 32, 99, 100, 255,
            256, 999, 1000, 9999, 10000, Integer.MAX_VALUE - 1, Integer.MAX_VALUE};
        String signs = "sssccpil;;;; 0123456789 ";
        for (int run = 0; run < 60; run++) {
            SpringPawn x = run % 2 == 0 ? new SpringPawn() : Due.of("s9 9;s9 3;s9 1;s3 9;c1 1 1;c2 2 2;c3 3 3;c9 9 99;");
            for (int i = 0; i < 1500; i++) {
                Due.type(x, "" + signs.charAt(random.nextInt(signs.length())));
                for (Method m : List.of(SpringPawn.class.getMethods())) {
                    if (m.getDeclaringClass() == SpringPawn.class && random.nextInt(m.getName().equals("valley") ? 400 : 8) == 0) {
                        callAny(x, m, random, odd);
                    }
                }
            }
        }
    }

    private static void callAny(SpringPawn x, Method m, Random random, int[] odd) {
        Object[] arguments = new Object[m.getParameterCount()];
        for (int i = 0; i < arguments.length; i++) {
            arguments[i] = random.nextInt(3) == 0 ? random.nextInt(4) : odd[random.nextInt(odd.length)];
        }
        try {
            m.invoke(x, arguments);
        } catch (ReflectiveOperationException e) {
            right(m + " threw " + e.getCause(), false);
        }
    }

    private static void right(String what, boolean is) {
        DUE.is(what, is ? 1 : 0, 1);
    }
}
