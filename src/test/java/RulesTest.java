import java.io.IOException;
import java.lang.management.ManagementFactory;
import java.lang.reflect.Constructor;
import java.lang.reflect.Field;
import java.lang.reflect.Method;
import java.lang.reflect.Modifier;
import java.nio.file.Files;
import java.nio.file.Path;
import java.util.Arrays;
import java.util.Map;
import java.util.Set;
import java.util.TreeMap;
import java.util.TreeSet;
import java.util.regex.Matcher;
import java.util.regex.Pattern;

/** What of LANGUAGE.md can be seen from outside: the face, the words of the source, how much the calls make. */
public final class RulesTest {
    private static final String FACE = "feed1 land0 head2 field2 comes4 named2 faces2 does2 joins2 walls2 folk3 nights1 back0 headThen3 then2 when2 "
        + "settles1 meeting2 bestWord3 bestLetter3 holds3 wallFor3 names1 whatKind2 whatWord1 two3 rain5 like3 rank1 line2 power1 share2 nearest2 "
        + "way2 sight1 kinds1 row1 judge0 clear0 lots3 image0 restore0 count1";
    private static final String[] FORBIDDEN = {
        "\\bthrow\\b", "\\bthrows\\b", "\\btry\\b", "\\bcatch\\b", "\\bsynchronized\\b", "\\bassert\\b", "->", "::", "\\bprotected\\b", "^import ",
        "^package ", "\\bequals\\(Object", "\\bhashCode\\b", "\\btoString\\b", "Exact\\(", "\\bSystem\\.(?!arraycopy)", "\" \\+", "\\+ \"", "\\bsuper\\b.*\\?",
    };
    private static final int MOST_LINES = 60;
    private static final int MOST_PARAMETERS = 7;
    private static final int MOST_DEPTH = 8;
    private static final long MOST_BYTES = 400_000;
    /** As many as an object that has been filled may be asked yet. */
    private static final int MOST_CALLS = 500;

    private static int wrong;

    public static void main(String[] args) throws Exception {
        face();
        nested();
        source();
        room();
        System.out.println(wrong == 0 ? "the rules are kept" : wrong + " rules are broken");
        if (wrong > 0) {
            System.exit(1);
        }
    }

    private static void hold(boolean so, String rule) {
        if (!so) {
            wrong++;
            System.out.println(rule);
        }
    }

    private static void face() {
        Set<String> open = new TreeSet<>();
        Set<String> hidden = new TreeSet<>();
        for (Method method : GoInland.class.getDeclaredMethods()) {
            if (Modifier.isPrivate(method.getModifiers())) {
                hidden.add(method.getName());
                continue;
            }
            open.add(method.getName() + method.getParameterCount());
            boolean isLong = method.getName().equals("rain") || method.getName().equals("share");
            hold(method.getReturnType() == (isLong ? long.class : int.class), "what " + method + " answers");
            hold(Modifier.isPublic(method.getModifiers()) && !Modifier.isStatic(method.getModifiers()), "not public: " + method);
            hold(Arrays.stream(method.getParameterTypes()).allMatch(type -> type == int.class), "not of ints: " + method);
        }
        hold(open.equals(new TreeSet<>(Arrays.asList(FACE.split(" ")))), "the face is " + open);
        for (String name : open) {
            hold(!hidden.contains(name.replaceAll("[0-9]", "")), "a private method bears the name of a public one: " + name);
        }
        Constructor<?>[] constructors = GoInland.class.getDeclaredConstructors();
        hold(constructors.length == 1 && constructors[0].getParameterCount() == 0, "constructors");
        hold(Modifier.isFinal(GoInland.class.getModifiers()) && Modifier.isPublic(GoInland.class.getModifiers()), "public final class");
    }

    private static void nested() {
        fields(GoInland.class);
        hold(GoInland.class.getDeclaredClasses().length <= 11, "too many classes");
        for (Class<?> inside : GoInland.class.getDeclaredClasses()) {
            hold(Modifier.isStatic(inside.getModifiers()) && Modifier.isPrivate(inside.getModifiers()), "not private and static: " + inside);
            fields(inside);
            for (Method method : inside.getDeclaredMethods()) {
                hold(!FACE.matches("(.* )?" + method.getName() + "[0-9].*"), "a method inside bears the name of a public one: " + method);
                hold(method.getParameterCount() <= MOST_PARAMETERS, "too many parameters: " + method);
            }
        }
    }

    private static void fields(Class<?> one) {
        int own = 0;
        for (Field field : one.getDeclaredFields()) {
            boolean isStatic = Modifier.isStatic(field.getModifiers());
            own += isStatic ? 0 : 1;
            hold(Modifier.isPrivate(field.getModifiers()), "not private: " + field);
            hold(!isStatic || Modifier.isFinal(field.getModifiers()), "static state: " + field);
        }
        hold(own <= 20, "too many fields: " + one);
    }

    private static void source() throws IOException {
        String source = Files.readString(Path.of("src/main/java/GoInland.java"));
        hold(source.chars().allMatch(sign -> sign < 127), "signs");
        String code = source.replaceAll("(?s)/\\*.*?\\*/", "").replaceAll("//[^\n]*", "");
        for (String forbidden : FORBIDDEN) {
            Matcher matcher = Pattern.compile(forbidden, Pattern.MULTILINE).matcher(code);
            hold(!matcher.find(), "the source has " + forbidden);
        }
        depths(code);
        int begin = 0;
        String[] lines = source.split("\n");
        for (int i = 0; i < lines.length; i++) {
            if (lines[i].matches(" {4}( {4})?[a-zA-Z].*\\) \\{")) {
                begin = i;
            } else if (lines[i].matches(" {4}( {4})?\\}")) {
                hold(i - begin < MOST_LINES || lines[begin].contains(" class "), "a long method: " + lines[begin].trim());
                begin = i;
            }
        }
    }

    /**
     * How deep calls go, library calls counted. Methods of one name are taken for one, whosever they are, so what is
     * found is as deep as it is or deeper; that a name calls itself is then no sign of a recursion.
     */
    private static void depths(String code) {
        Map<String, Set<String>> calls = new TreeMap<>();
        Matcher method = Pattern.compile("^( {4}| {8})(?:[a-z]+ )*[A-Za-z\\[\\]]+ ([a-z]\\w*)\\([^)]*\\) \\{$(.*?)^\\1\\}$",
            Pattern.MULTILINE | Pattern.DOTALL).matcher(code);
        while (method.find()) {
            Set<String> called = calls.computeIfAbsent(method.group(2), name -> new TreeSet<>());
            Matcher call = Pattern.compile("\\b([A-Za-z]\\w*)\\(").matcher(method.group(3));
            while (call.find()) {
                if (!Set.of("if", "for", "while", "switch", method.group(2)).contains(call.group(1))) {
                    called.add(call.group(1));
                }
            }
        }
        hold(calls.keySet().containsAll(Set.of("land", "passNights", "takeTurn", "gain")), "methods seen are " + calls.keySet());
        for (String name : calls.keySet()) {
            int depth = depth(name, calls, 1);
            hold(depth <= MOST_DEPTH, name + " goes " + depth + " deep");
        }
    }

    private static int depth(String name, Map<String, Set<String>> calls, int above) {
        int deepest = above;
        for (String called : calls.getOrDefault(name, Set.of())) {
            deepest = Math.max(deepest, above > MOST_DEPTH ? above : depth(called, calls, above + 1));
        }
        return deepest;
    }

    /** As many calls as an object may have of each dear one make little: all of a run live in one room. */
    private static void room() {
        long[] bytes = new long[2];
        for (int dear = 0; dear < 15; dear++) {
            GoInland x = new GoInland();
            for (int i = 0; i < 5; i++) {
                x.comes(i + 3, 9 - i, 9 * i, i);
            }
            x.image();
            bytes[0] = allocated();
            for (int call = 0; call < MOST_CALLS; call++) {
                callDear(x, dear);
            }
            bytes[1] = allocated();
            hold(bytes[1] - bytes[0] < MOST_BYTES, MOST_CALLS + " calls of " + dear + " make " + (bytes[1] - bytes[0]) + " bytes");
        }
        bytes[0] = allocated();
        new GoInland();
        bytes[1] = allocated();
        hold(bytes[1] - bytes[0] < MOST_BYTES, "a new object makes " + (bytes[1] - bytes[0]) + " bytes");
    }

    private static long allocated() {
        return ((com.sun.management.ThreadMXBean) ManagementFactory.getThreadMXBean()).getThreadAllocatedBytes(Thread.currentThread().getId());
    }

    private static void callDear(GoInland x, int dear) {
        switch (dear) {
            case 0: x.wallFor(0, 47, 30); break;
            case 1: x.bestLetter(0, 30, 0); break;
            case 2: x.bestWord(0, 60, 0); break;
            case 3: x.holds(0, 1, 60); break;
            case 4: x.names(30); break;
            case 5: x.whatKind(0, 1); break;
            case 6: x.two(0, 1, 30); break;
            case 7: x.rain(0, 1, 7, 20, 0); break;
            case 8: x.lots(20, 5, 0); break;
            case 9: x.line(0, 3); break;
            case 10: x.way(0, 47); break;
            case 11: x.folk(1, 1, 1); break;
            case 12: x.back(); break;
            case 13: x.image(); break;
            default: x.restore(); break;
        }
    }
}
