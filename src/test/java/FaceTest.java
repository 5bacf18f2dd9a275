import java.lang.reflect.Field;
import java.lang.reflect.Method;
import java.lang.reflect.Modifier;
import java.nio.file.Files;
import java.nio.file.Path;
import java.util.Arrays;
import java.util.Random;
import java.util.Set;
import java.util.TreeSet;

/** The public face, a sentence in the tests for every promise, and that no call ever throws. */
public final class FaceTest {
    private static final String[] FACE = {"int land(int)", "boolean road(int,int)", "int person(int,int,int,int)",
        "int feed(int,int,int,int,int)", "int end(int)", "int text()", "int fault(int)", "boolean by(int)",
        "int call(int,int)", "boolean move(int,int)", "int feeds(int,int)", "boolean kill(int,int)",
        "int pardon(int,int)", "int month(int)", "int played(int)", "int reigns(int,int)", "int undo()",
        "int of(int,int)", "int ofLand(int,int)", "int is(int)", "int book(int,int)",
        "int foretold(int,int,boolean)", "int toPay(int,int)", "int surest(int,int,int)", "int steps(int,int)",
        "int unheard(int,int)", "int crowd(int)", "int inCrowd(int,int,int)", "int helpers()", "int watch(int,int)",
        "boolean borders(int)", "int toBorder(int)", "boolean reports(int)", "int unlike(int,int)",
        "int heads(int)", "boolean has(boolean,int,int,int)", "int rests()", "int mixed(boolean)",
        "int befell(int,int)", "int heirs(int)", "int feared()", "int wolves()", "int paid(int,int)", "int whose()",
        "int image()", "int back()", "int about(int)"};

    public static void main(String[] args) throws Exception {
        face();
        labels();
        wild();
        Due.done();
    }

    private static String sign(Method m) {
        StringBuilder b = new StringBuilder(m.getReturnType() + " " + m.getName() + "(");
        for (Class<?> c : m.getParameterTypes()) {
            b.append(b.charAt(b.length() - 1) == '(' ? "" : ",").append(c);
        }
        return b.append(")").toString();
    }

    private static void face() {
        Set<String> open = new TreeSet<>();
        Set<String> openNames = new TreeSet<>();
        for (Method m : WolfsHead.class.getDeclaredMethods()) {
            if (!Modifier.isPrivate(m.getModifiers())) {
                open.add(sign(m));
                openNames.add(m.getName());
                Due.is(m + " is public", Modifier.isPublic(m.getModifiers()), true);
            }
        }
        Set<String> due = new TreeSet<>(Arrays.asList(FACE));
        Due.is("the face " + open, open.equals(due), true);
        hidden(WolfsHead.class, openNames);
        for (Class<?> inside : WolfsHead.class.getDeclaredClasses()) {
            hidden(inside, openNames);
        }
        for (Field f : WolfsHead.class.getDeclaredFields()) {
            Due.is(f + " is private", Modifier.isPrivate(f.getModifiers()) || f.getName().equals("NONE"), true);
        }
        Due.is("final", Modifier.isFinal(WolfsHead.class.getModifiers()), true);
        Due.is("one constructor", WolfsHead.class.getDeclaredConstructors().length, 1);
    }

    private static void hidden(Class<?> its, Set<String> openNames) {
        for (Method m : its.getDeclaredMethods()) {
            boolean hidden = Modifier.isPrivate(m.getModifiers());
            Due.is(m + " bears no public name", hidden && openNames.contains(m.getName()), false);
        }
    }

    /** Each promise has a sentence in the tests that names it. */
    private static void labels() throws Exception {
        StringBuilder all = new StringBuilder();
        try (var files = Files.list(Path.of("src/test/java"))) {
            for (Path file : files.toArray(Path[]::new)) {
                all.append(Files.readString(file));
            }
        }
        for (int promise = 1; promise <= 48; promise++) {
            Due.is("promise " + promise + " is tested", all.indexOf("new Says(" + promise + ", ") >= 0, true);
        }
    }

    /** Any arguments in any state: reflection hands on whatever is thrown, and the test fails by it. */
    private static void wild() throws Exception {
        Random draw = new Random(2026);
        int[] odd = {Integer.MIN_VALUE, Integer.MAX_VALUE, -1, -2, -3, 255, 256, 9999, 10000, 300, 32, 31, 1 << 30};
        Method[] all = Arrays.stream(WolfsHead.class.getDeclaredMethods())
            .filter(m -> Modifier.isPublic(m.getModifiers())).sorted((a, b) -> sign(a).compareTo(sign(b)))
            .toArray(Method[]::new);
        for (int run = 0; run < 400; run++) {
            WolfsHead x = new WolfsHead();
            for (int i = 0; i < 512; i++) {
                Method m = all[draw.nextInt(all.length)];
                Object[] given = new Object[m.getParameterCount()];
                for (int k = 0; k < given.length; k++) {
                    boolean flag = m.getParameterTypes()[k] == boolean.class;
                    int small = draw.nextInt(10) - 1;
                    int number = draw.nextInt(6) == 0 ? odd[draw.nextInt(odd.length)] : small;
                    given[k] = flag ? (Object) draw.nextBoolean() : (Object) number;
                }
                Due.is("an answer", m.invoke(x, given) != null, true);
            }
        }
    }
}
