import java.lang.reflect.Constructor;
import java.lang.reflect.Field;
import java.lang.reflect.Method;
import java.lang.reflect.Modifier;
import java.nio.file.Files;
import java.nio.file.Path;
import java.util.Arrays;
import java.util.Random;
import java.util.Set;
import java.util.TreeSet;
import java.util.regex.Pattern;
import java.util.stream.Collectors;

/** The public face, what a text search can tell of the language's rules, and calls with any numbers at all. */
public final class FaceTest {
    private static final Set<String> FACE = new TreeSet<>(Arrays.asList(
        "int make 4", "int period 3", "int full 1", "int join 4", "int load 3", "int drop 1", "int sign 2",
        "int like 3", "int most 2", "int heard 5", "int search 2", "int sure 2", "long power 2", "int doubt 1",
        "int peel 2", "int peeled 2", "long noise 0", "int follow 4", "int length 2", "int reset 0",
        "long range 0", "int mend 1", "int hits 5", "int worst 3", "int reel 3", "int lose 1", "int put 4",
        "int get 3", "int copy 5", "int add 5", "int count 1", "long digest 0"));
    private static final int[] NUMBERS = {Integer.MIN_VALUE, Integer.MIN_VALUE + 1, -128, -2, -1, 0, 1, 2, 3, 4, 5, 6, 7,
        8, 15, 31, 32, 33, 64, 126, 127, 128, 255, 299, 300, 301, 20000, 20001, 65536, Integer.MAX_VALUE - 1,
        Integer.MAX_VALUE};
    private static int wrong = 0;

    private static void check(boolean right, String what) {
        if (!right) {
            wrong++;
            System.out.println("not so: " + what);
        }
    }

    public static void main(String[] args) throws Exception {
        faceIsTheDocuments();
        sourceKeepsToTheLanguage();
        noCallThrows();
        System.out.println(wrong == 0 ? "the face is as due" : wrong + " things are not as due");
        if (wrong != 0) {
            System.exit(1);
        }
    }

    private static void faceIsTheDocuments() {
        int type = CodeHunt.class.getModifiers();
        check(Modifier.isPublic(type) && Modifier.isFinal(type), "the class is public and final");
        Set<String> open = new TreeSet<>();
        for (Method method : CodeHunt.class.getDeclaredMethods()) {
            if (!Modifier.isPrivate(method.getModifiers())) {
                open.add(method.getReturnType() + " " + method.getName() + " " + method.getParameterCount());
                check(Modifier.isPublic(method.getModifiers()), method + " is public");
                check(Arrays.stream(method.getParameterTypes()).allMatch(t -> t == int.class), method + " takes ints");
            }
        }
        check(open.equals(FACE), "the open methods are " + FACE + ", but " + open);
        Constructor<?>[] made = CodeHunt.class.getDeclaredConstructors();
        check(made.length == 1 && made[0].getParameterCount() == 0 && Modifier.isPublic(made[0].getModifiers()),
            "one public constructor without numbers");
        Set<String> constants = new TreeSet<>();
        for (Field field : CodeHunt.class.getDeclaredFields()) {
            if (!Modifier.isPrivate(field.getModifiers())) {
                constants.add(field.getName());
            }
            check(!Modifier.isStatic(field.getModifiers()) || Modifier.isFinal(field.getModifiers()), field + " is final");
        }
        check(constants.equals(Set.of("NONE", "BAD", "NOT", "FULL")), "the constants are those of the document");
        check(CodeHunt.NONE == -1 && CodeHunt.BAD == -2 && CodeHunt.NOT == -3 && CodeHunt.FULL == -4,
            "the constants are -1 to -4");
        Set<String> names = FACE.stream().map(line -> line.split(" ")[1]).collect(Collectors.toSet());
        for (Class<?> inside : CodeHunt.class.getDeclaredClasses()) {
            check(Modifier.isStatic(inside.getModifiers()), inside + " is static");
            for (Method method : inside.getDeclaredMethods()) {
                check(!names.contains(method.getName()), method + " bears no public method's name");
            }
        }
        for (Method method : CodeHunt.class.getDeclaredMethods()) {
            boolean hidden = Modifier.isPrivate(method.getModifiers());
            check(!hidden || !names.contains(method.getName()), method + " bears no public method's name");
        }
    }

    private static void sourceKeepsToTheLanguage() throws Exception {
        String source = Files.readString(Path.of("src/main/java/CodeHunt.java"));
        String code = source.replaceAll("(?s)/\\*.*?\\*/", "").replaceAll("//[^\n]*", "");
        String[] ruledOut = {"throw", "throws", "try", "catch", "finally", "synchronized", "assert", "import", "package",
            "System\\.(?!arraycopy\\b)", "Thread", "Object", "double", "float", "\\w+Exact", "->", "::"};
        for (String word : ruledOut) {
            String bounded = Character.isLetter(word.charAt(0)) ? "\\b" + word : word;
            check(!Pattern.compile(bounded).matcher(code).find(), "the source has no " + word);
        }
    }

    private static void noCallThrows() throws Exception {
        Method[] face = Arrays.stream(CodeHunt.class.getDeclaredMethods())
            .filter(method -> Modifier.isPublic(method.getModifiers()))
            .sorted((one, other) -> one.getName().compareTo(other.getName())).toArray(Method[]::new);
        Random random = new Random(1);
        for (int run = 0; run < 200; run++) {
            CodeHunt hunt = new CodeHunt();
            for (int call = 0; call < 512; call++) {
                Method method = face[random.nextInt(face.length)];
                Object[] numbers = new Object[method.getParameterCount()];
                for (int i = 0; i < numbers.length; i++) {
                    numbers[i] = random.nextInt(9) == 0 ? random.nextInt()
                        : random.nextInt(3) == 0 ? NUMBERS[random.nextInt(NUMBERS.length)] : random.nextInt(8);
                }
                try {
                    method.invoke(hunt, numbers);
                } catch (java.lang.reflect.InvocationTargetException e) {
                    check(false, method.getName() + Arrays.toString(numbers) + " threw " + e.getCause());
                }
            }
        }
    }
}
