import java.lang.reflect.Constructor;
import java.lang.reflect.Field;
import java.lang.reflect.Method;
import java.lang.reflect.Modifier;
import java.nio.file.Files;
import java.nio.file.Path;
import java.util.Arrays;
import java.util.Random;
import java.util.Set;
import java.util.TreeSet;
import java.util.regex.Matcher;
import java.util.regex.Pattern;
import java.util.stream.Collectors;

/** The public face, what a look at the source can tell of the language's rules, and calls with any numbers at all. */
public final class FaceTest {
    private static final Set<String> FACE = new TreeSet<>(Arrays.asList(
        "int make 4", "int period 3", "int full 1", "int join 4", "int load 3", "int drop 1", "int sign 2",
        "int like 3", "int most 2", "int heard 5", "int search 2", "int sure 2", "long power 2", "int doubt 1",
        "int peel 2", "int peeled 2", "long noise 0", "int follow 4", "int length 2", "int reset 0",
        "long range 0", "int mend 1", "int hits 5", "int worst 3", "int reel 3", "int lose 1", "int put 4",
        "int get 3", "int copy 5", "int add 5", "int count 1", "long digest 0"));
    private static final Set<String> LIBRARY = Set.of("Math.max", "Math.min", "Math.abs", "Math.floorMod", "Math.floorDiv",
        "Integer.bitCount", "Integer.MIN_VALUE", "Long.MIN_VALUE", "System.arraycopy");
    private static final int[] NUMBERS = {Integer.MIN_VALUE, Integer.MIN_VALUE + 1, -128, -2, -1, 0, 1, 2, 3, 4, 5, 6, 7,
        8, 15, 31, 32, 33, 64, 126, 127, 128, 255, 299, 300, 301, 20000, 20001, 65536, Integer.MAX_VALUE - 1,
        Integer.MAX_VALUE};
    private static int wrong = 0;

    private static void check(boolean right, String what) {
        if (!right) {
            wrong++;
            System.out.println("not so: " + what);
        }
    }

    public static void main(String[] args) throws Exception {
        faceIsTheDocuments();
        sourceKeepsToTheLanguage();
        onlyConstructionMakesObjects();
        sizesAreKept();
        methodsAreShort();
        noCallThrows();
        System.out.println(wrong == 0 ? "the face is as due" : wrong + " things are not as due");
        if (wrong != 0) {
            System.exit(1);
        }
    }

    private static void faceIsTheDocuments() {
        int type = CodeHunt.class.getModifiers();
        check(Modifier.isPublic(type) && Modifier.isFinal(type), "the class is public and final");
        Set<String> open = new TreeSet<>();
        for (Method method : CodeHunt.class.getDeclaredMethods()) {
            if (!Modifier.isPrivate(method.getModifiers())) {
                open.add(method.getReturnType() + " " + method.getName() + " " + method.getParameterCount());
                check(Modifier.isPublic(method.getModifiers()), method + " is public");
                check(Arrays.stream(method.getParameterTypes()).allMatch(t -> t == int.class), method + " takes ints");
            }
        }
        check(open.equals(FACE), "the open methods are " + FACE + ", but " + open);
        Constructor<?>[] made = CodeHunt.class.getDeclaredConstructors();
        check(made.length == 1 && made[0].getParameterCount() == 0 && Modifier.isPublic(made[0].getModifiers()),
            "one public constructor without numbers");
        Set<String> constants = new TreeSet<>();
        for (Field field : CodeHunt.class.getDeclaredFields()) {
            if (!Modifier.isPrivate(field.getModifiers())) {
                constants.add(field.getName());
            }
            check(!Modifier.isStatic(field.getModifiers()) || Modifier.isFinal(field.getModifiers()), field + " is final");
        }
        check(constants.equals(Set.of("NONE", "BAD", "NOT", "FULL")), "the constants are those of the document");
        check(CodeHunt.NONE == -1 && CodeHunt.BAD == -2 && CodeHunt.NOT == -3 && CodeHunt.FULL == -4,
            "the constants are -1 to -4");
        Set<String> names = FACE.stream().map(line -> line.split(" ")[1]).collect(Collectors.toSet());
        for (Class<?> inside : CodeHunt.class.getDeclaredClasses()) {
            check(Modifier.isStatic(inside.getModifiers()), inside + " is static");
            for (Method method : inside.getDeclaredMethods()) {
                check(!names.contains(method.getName()), method + " bears no public method's name");
            }
        }
        for (Method method : CodeHunt.class.getDeclaredMethods()) {
            boolean hidden = Modifier.isPrivate(method.getModifiers());
            check(!hidden || !names.contains(method.getName()), method + " bears no public method's name");
        }
    }

    private static String code() throws Exception {
        String source = Files.readString(Path.of("src/main/java/CodeHunt.java"));
        return source.replaceAll("(?s)/\\*.*?\\*/", "").replaceAll("//[^\n]*", "");
    }

    private static void sourceKeepsToTheLanguage() throws Exception {
        String code = code();
        String[] ruledOut = {"throw", "throws", "try", "catch", "finally", "synchronized", "assert", "import", "package",
            "Thread", "Object", "double", "float", "\\w+Exact", "->", "::", "\""};
        for (String word : ruledOut) {
            String bounded = Character.isLetter(word.charAt(0)) ? "\\b" + word : word;
            check(!Pattern.compile(bounded).matcher(code).find(), "the source has no " + word);
        }
        Matcher library = Pattern.compile("\\b[A-Z]\\w*[a-z]\\w*\\.\\w+").matcher(code);
        while (library.find()) {
            check(LIBRARY.contains(library.group()), "the library has " + library.group());
        }
    }

    /** An array or object made in a call would be counted for every call of a run. */
    private static void onlyConstructionMakesObjects() throws Exception {
        for (String line : code().split("\n")) {
            boolean ofField = line.matches(" +private final [\\w\\[\\]]+ \\w+ = new .*;");
            boolean ofConstructor = line.matches(" +(rows\\[row\\] = new Row|reels\\[r\\] = new Reel)\\(\\);");
            boolean written = line.matches(" +private static final int\\[\\] \\w+ = \\{[\\d, ]+\\};");
            boolean makes = line.matches(".*(\\bnew\\b|= \\{|\\.clone\\b|copyOf).*");
            check(!makes || ofField || ofConstructor || written, "nothing is made behind the constructor: " + line);
        }
    }

    private static void sizesAreKept() {
        Class<?>[] inside = CodeHunt.class.getDeclaredClasses();
        check(inside.length < 12, "the file has at most twelve classes");
        for (int i = -1; i < inside.length; i++) {
            Class<?> one = i < 0 ? CodeHunt.class : inside[i];
            check(i < 0 || !Modifier.isPublic(one.getModifiers()) && !Modifier.isProtected(one.getModifiers()),
                one + " is private or seen in the package alone");
            long fields = Arrays.stream(one.getDeclaredFields())
                .filter(field -> !Modifier.isStatic(field.getModifiers())).count();
            check(fields <= 20, one + " has at most twenty fields");
            for (Method method : one.getDeclaredMethods()) {
                check(method.getParameterCount() <= 7, method + " takes at most seven numbers");
            }
        }
    }

    private static void methodsAreShort() throws Exception {
        String[] lines = code().split("\n");
        int methods = 0;
        for (int from = 0; from < lines.length; from++) {
            Matcher head = Pattern.compile("( {4}| {8})(?!if|for|while|switch|do|\\}).*\\) \\{").matcher(lines[from]);
            if (head.matches()) {
                int to = from;
                while (!lines[to].equals(head.group(1) + "}")) {
                    to++;
                }
                methods++;
                check(to - from < 60, "short, as a method should be: " + lines[from].strip());
            }
        }
        check(methods > FACE.size(), "the methods are seen");
    }

    private static void noCallThrows() throws Exception {
        Method[] face = Arrays.stream(CodeHunt.class.getDeclaredMethods())
            .filter(method -> Modifier.isPublic(method.getModifiers()))
            .sorted((one, other) -> one.getName().compareTo(other.getName())).toArray(Method[]::new);
        Random random = new Random(1);
        for (int run = 0; run < 200; run++) {
            CodeHunt hunt = new CodeHunt();
            for (int call = 0; call < 512; call++) {
                Method method = face[random.nextInt(face.length)];
                Object[] numbers = new Object[method.getParameterCount()];
                for (int i = 0; i < numbers.length; i++) {
                    numbers[i] = random.nextInt(9) == 0 ? random.nextInt()
                        : random.nextInt(3) == 0 ? NUMBERS[random.nextInt(NUMBERS.length)] : random.nextInt(8);
                }
                try {
                    method.invoke(hunt, numbers);
                } catch (java.lang.reflect.InvocationTargetException e) {
                    check(false, method.getName() + Arrays.toString(numbers) + " threw " + e.getCause());
                }
            }
        }
    }
}
