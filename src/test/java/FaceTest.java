import java.lang.reflect.Constructor;
import java.lang.reflect.Field;
import java.lang.reflect.Member;
import java.lang.reflect.Method;
import java.lang.reflect.Modifier;
import java.nio.file.Files;
import java.nio.file.Path;
import java.util.Arrays;
import java.util.TreeSet;
import java.util.regex.Matcher;
import java.util.regex.Pattern;
import java.util.stream.Collectors;

/** The public face is that of the document and no more, and none of its calls throws, whatever it is given. */
public final class FaceTest {
    private static final int[] NUMBERS = {0, 1, 2, 3, 4, 5, 6, 7, 8, 9, 10, 12, 40, 59, 60, 61, 99, 100, 142, 143, 200,
        399, 400, 401, 999, 1000, 9999, 10000, 100000, 1 << 24, -1, -2, -32, -1000000, Integer.MIN_VALUE,
        Integer.MIN_VALUE + 1, Integer.MAX_VALUE, Integer.MAX_VALUE - 1};

    public static void main(String[] args) throws Exception {
        isThatOfTheDocument();
        hidesTheRest();
        neverThrows();
        Due.end();
    }

    private static void isThatOfTheDocument() throws Exception {
        String document = Files.readString(Path.of("../shared/DOC.md"));
        TreeSet<String> wanted = new TreeSet<>();
        Matcher m = Pattern.compile("^    public (int|boolean) (\\w+)\\((.*)\\);$", Pattern.MULTILINE).matcher(document);
        while (m.find()) {
            String types = Arrays.stream(m.group(3).split(", ")).map(p -> p.split(" ")[0]).collect(Collectors.joining(","));
            wanted.add(m.group(1) + " " + m.group(2) + "(" + types + ")");
        }
        TreeSet<String> got = new TreeSet<>();
        for (Method method : NeedleHomes.class.getDeclaredMethods()) {
            if (Modifier.isPublic(method.getModifiers())) {
                String types = Arrays.stream(method.getParameterTypes()).map(Class::getName).collect(Collectors.joining(","));
                got.add(method.getReturnType().getName() + " " + method.getName() + "(" + types + ")");
            }
        }
        Due.is("methods of the document", wanted.size(), 34);
        Due.yes("methods are " + got, got.equals(wanted));
        Due.yes("the class is public and final", NeedleHomes.class.getModifiers() == (Modifier.PUBLIC | Modifier.FINAL));
        Due.is("NONE", NeedleHomes.NONE, -1);
    }

    private static boolean isHidden(Member member) {
        return Modifier.isPrivate(member.getModifiers()) || member.isSynthetic();
    }

    private static void hidesTheRest() {
        TreeSet<String> names = new TreeSet<>();
        for (Method method : NeedleHomes.class.getDeclaredMethods()) {
            if (Modifier.isPublic(method.getModifiers())) {
                names.add(method.getName());
            }
        }
        for (Method method : NeedleHomes.class.getDeclaredMethods()) {
            boolean isPublic = Modifier.isPublic(method.getModifiers());
            Due.yes(method + " is of the face or hidden", isPublic || isHidden(method) && !names.contains(method.getName()));
        }
        for (Field field : NeedleHomes.class.getDeclaredFields()) {
            Due.yes(field + " is NONE or hidden", field.getName().equals("NONE") || isHidden(field));
        }
        for (Constructor<?> made : NeedleHomes.class.getDeclaredConstructors()) {
            Due.yes(made + " is the one", Modifier.isPublic(made.getModifiers()) && made.getParameterCount() == 0);
        }
        for (Class<?> inside : NeedleHomes.class.getDeclaredClasses()) {
            Due.yes(inside + " is static and hidden",
                    Modifier.isStatic(inside.getModifiers()) && Modifier.isPrivate(inside.getModifiers()));
            for (Method method : inside.getDeclaredMethods()) {
                Due.no(method + " has a name of the face", names.contains(method.getName()));
            }
        }
    }

    private static void neverThrows() throws Exception {
        java.util.Random random = new java.util.Random(3);
        Method[] methods = Arrays.stream(NeedleHomes.class.getDeclaredMethods())
                .filter(m -> Modifier.isPublic(m.getModifiers())).toArray(Method[]::new);
        Arrays.sort(methods, (a, b) -> a.getName().compareTo(b.getName()));
        for (int run = 0; run < 1500; run++) {
            NeedleHomes x = new NeedleHomes();
            int usual = 1 + random.nextInt(NUMBERS.length);
            for (int call = 0; call < 512; call++) {
                Method method = methods[random.nextInt(methods.length)];
                Object[] given = new Object[method.getParameterCount()];
                for (int i = 0; i < given.length; i++) {
                    given[i] = method.getParameterTypes()[i] == boolean.class ? (Object) random.nextBoolean()
                            : method.getName().equals("feed") && random.nextInt(3) > 0 ? (Object) random.nextInt()
                            : (Object) NUMBERS[random.nextInt(random.nextInt(4) == 0 ? NUMBERS.length : usual)];
                }
                threw(x, method, given);
            }
        }
    }

    private static void threw(NeedleHomes x, Method method, Object[] given) throws Exception {
        try {
            method.invoke(x, given);
        } catch (java.lang.reflect.InvocationTargetException e) {
            Due.no(method.getName() + Arrays.toString(given) + " threw " + e.getCause(), true);
        }
    }
}
