import java.io.IOException;
import java.lang.reflect.Constructor;
import java.lang.reflect.Field;
import java.lang.reflect.Member;
import java.lang.reflect.Method;
import java.lang.reflect.Modifier;
import java.nio.file.Files;
import java.nio.file.Path;
import java.util.Arrays;
import java.util.List;
import java.util.Map;
import java.util.Set;
import java.util.TreeMap;
import java.util.TreeSet;
import java.util.regex.Matcher;
import java.util.regex.Pattern;
import java.util.stream.Collectors;

/** The public face, and those rules of LANGUAGE.md that can be read off the class or its text. */
public final class LanguageTest {
    private static final Check check = new Check();
    private static final Set<String> METHODS = Set.of("write(int)", "deliver(int)", "deliverNoAck(int)", "tick(int)",
        "txInfo(int)", "txTime(int)", "segment(int)", "recvByte(int)", "stat(int)");
    private static final String CONSTANTS = "MAX_SEGMENTS=64 MAX_TX=256 MAX_CWND=32 NONE=0 REO=1 PTO=2 RTO=3 OPEN=0 "
        + "RECOVERY=1 LOSS=2 REFUSED=-1 NEW_DATA=1 DUPLICATE=2 SEG_SENT=1 SEG_DELIVERED=2 SEG_LOST=4 SEG_RECEIVED=8 "
        + "TX_ARRIVED=256 TX_RETX=512 TX_TLP=1024 K_NOW=0 K_CWND=1 K_SSTHRESH=2 K_STATE=3 K_SRTT=4 K_RTTVAR=5 "
        + "K_MIN_RTT=6 K_REO_WND=7 K_REO_MULT=8 K_RTO=9 K_SHIFT=10 K_RACK_TX=11 K_RACK_RTT=12 K_TIMER=13 "
        + "K_TIMER_AT=14 K_WRITTEN=15 K_NEXT_NEW=16 K_TX_COUNT=17 K_INFLIGHT=18 K_RETRANSMITS=19 K_DSACKS=20 "
        + "K_UNDOS=21 K_UNDO_RETRANS=22 K_PRIOR_CWND=23 K_PRIOR_SSTHRESH=24 K_RECOVERY_POINT=25 K_TLPS=26 "
        + "K_TLP_OUT=27 K_RTOS=28 K_LOSS_MARKS=29 K_CUM_ACK=30 K_DELIVERED=31 K_COMPLETE=32 K_ARM_TIME=33 "
        + "K_CNT=34 K_PTO=35";
    private static final List<String> BANNED = List.of("import", "package", "throw", "throws", "try", "catch",
        "synchronized", "assert", "instanceof", "null", "float", "double", "String", "Math", "Integer", "System",
        "Arrays", "Object", "interface", "enum", "record", "var", "super", "equals", "hashCode", "toString");
    private static final Set<Class<?>> TYPES = Set.of(int.class, long.class, short.class, byte.class, char.class,
        boolean.class, int[].class, long[].class, short[].class, byte[].class, char[].class, boolean[].class);

    public static void main(String[] args) throws IOException, IllegalAccessException {
        theFaceIsTheDocuments();
        theRestIsPrivate();
        fieldsAreAsRuled();
        String code = withoutComments(Files.readString(Path.of("src/main/java/RackTlp.java")));
        theTextIsAsRuled(code);
        loopsCountAgainstABound(code);
        methodsAreShort(code);
        callsGoAtMostSixDeep(code);
        check.end();
    }

    private static void isTrue(String what, boolean holds) {
        check.due(what, holds ? 1 : 0, 1);
    }

    private static boolean isPublic(Member member) {
        return Modifier.isPublic(member.getModifiers());
    }

    private static void theFaceIsTheDocuments() throws IllegalAccessException {
        int modifiers = RackTlp.class.getModifiers();
        isTrue("public and final", Modifier.isPublic(modifiers) && Modifier.isFinal(modifiers));
        isTrue("no package", RackTlp.class.getPackageName().isEmpty());
        isTrue("no nested class", RackTlp.class.getDeclaredClasses().length == 0);
        isTrue("no parent", RackTlp.class.getSuperclass() == Object.class && RackTlp.class.getInterfaces().length == 0);
        Constructor<?>[] constructors = RackTlp.class.getDeclaredConstructors();
        isTrue("one constructor", constructors.length == 1 && isPublic(constructors[0])
            && Arrays.equals(constructors[0].getParameterTypes(), new Class<?>[] {int.class, int.class}));
        Set<String> methods = new TreeSet<>();
        for (Method method : RackTlp.class.getDeclaredMethods()) {
            if (isPublic(method)) {
                methods.add(signature(method));
                isTrue(method.getName() + " answers an int and is no static one",
                    method.getReturnType() == int.class && !Modifier.isStatic(method.getModifiers()));
            }
        }
        isTrue("public methods are the document's: " + methods, methods.equals(METHODS));
        Set<String> constants = new TreeSet<>();
        for (Field field : RackTlp.class.getDeclaredFields()) {
            if (isPublic(field)) {
                constants.add(field.getName() + "=" + field.getInt(new RackTlp(1, 1)));
            }
        }
        isTrue("public constants are the document's", constants.equals(new TreeSet<>(List.of(CONSTANTS.split(" ")))));
    }

    private static String signature(Method method) {
        return method.getName() + Arrays.stream(method.getParameterTypes()).map(Class::getName)
            .collect(Collectors.joining(",", "(", ")"));
    }

    private static void theRestIsPrivate() {
        Set<String> faceNames = METHODS.stream().map(m -> m.substring(0, m.indexOf('('))).collect(Collectors.toSet());
        for (Method method : RackTlp.class.getDeclaredMethods()) {
            if (!isPublic(method)) {
                isTrue(method.getName() + " is private", Modifier.isPrivate(method.getModifiers()));
                isTrue(method.getName() + " bears its own name", !faceNames.contains(method.getName()));
                isTrue(method.getName() + " has at most seven parameters", method.getParameterCount() <= 7);
            }
            isTrue(method.getName() + " answers no array", !method.getReturnType().isArray());
        }
    }

    private static void fieldsAreAsRuled() {
        int count = 0;
        for (Field field : RackTlp.class.getDeclaredFields()) {
            int modifiers = field.getModifiers();
            isTrue(field.getName() + " has a type of the rules", TYPES.contains(field.getType()));
            if (Modifier.isStatic(modifiers)) {
                isTrue(field.getName() + " is a constant int or long", Modifier.isFinal(modifiers)
                    && (field.getType() == int.class || field.getType() == long.class));
            } else {
                isTrue(field.getName() + " is private", Modifier.isPrivate(modifiers));
                isTrue(field.getName() + " is no array or always the same one",
                    !field.getType().isArray() || Modifier.isFinal(modifiers));
                count++;
            }
        }
        isTrue("at most some forty fields: " + count, count <= 40);
    }

    private static String withoutComments(String text) {
        return text.replaceAll("(?s)/\\*.*?\\*/", "").replaceAll("//[^\n]*", "");
    }

    private static void theTextIsAsRuled(String code) {
        for (String word : BANNED) {
            isTrue("no " + word, !Pattern.compile("\\b" + word + "\\b").matcher(code).find());
        }
        isTrue("no lambda, no method reference, no text", !code.contains("->") && !code.contains("::")
            && !code.contains("\""));
        for (String line : code.lines().filter(line -> line.matches(".*\\bnew\\b.*")).toList()) {
            isTrue("made in a field's initialiser, with a constant length: " + line,
                line.matches("    private final (int|boolean)\\[\\] \\w+ = new \\1\\[(MAX_SEGMENTS|MAX_TX)\\];"));
        }
        Matcher nested = Pattern.compile("\\b(?!if\\b|for\\b|while\\b|switch\\b)\\w+\\([^()]*\\b\\w+\\(").matcher(code);
        isTrue("no call inside another's arguments", !nested.find());
    }

    private static void loopsCountAgainstABound(String code) {
        Pattern counted = Pattern.compile("for \\(int (\\w+) = [^;]+; \\1 (<|>|>=) [^;]+; \\1(\\+\\+|--)\\) \\{");
        Pattern bounded = Pattern.compile("while \\(\\w+ < [A-Z_]+( && [^;]+)?\\) \\{");
        Pattern loop = Pattern.compile("\\b(for|while|do)\\b");
        for (String line : code.lines().map(String::strip).filter(l -> loop.matcher(l).find()).toList()) {
            isTrue("a counter against a bound: " + line,
                counted.matcher(line).matches() || bounded.matcher(line).matches());
        }
    }

    private static Map<String, String> bodies(String code) {
        Map<String, String> bodies = new TreeMap<>();
        Matcher method = Pattern.compile("(?ms)^    (?:public|private)[^\n;=]*?(\\w+)\\([^\n;=]*\\{\n(.*?)^    \\}")
            .matcher(code);
        while (method.find()) {
            isTrue("one method of the name " + method.group(1), bodies.put(method.group(1), method.group(2)) == null);
        }
        isTrue("every method was found", bodies.size() == RackTlp.class.getDeclaredMethods().length + 1);
        return bodies;
    }

    private static void methodsAreShort(String code) {
        bodies(code).forEach((name, body) -> isTrue(name + " has at most sixty lines", body.lines().count() <= 60));
    }

    /** A method that calls itself, through others or not, would be found to go deeper than any bound. */
    private static void callsGoAtMostSixDeep(String code) {
        Map<String, String> bodies = bodies(code);
        Set<String> reached = bodies.keySet();
        for (int depth = 1; depth <= 6; depth++) {
            Set<String> called = new TreeSet<>();
            for (String name : reached) {
                Matcher call = Pattern.compile("\\b(\\w+)\\(").matcher(bodies.get(name));
                while (call.find()) {
                    if (bodies.containsKey(call.group(1))) {
                        called.add(call.group(1));
                    }
                }
            }
            reached = called;
        }
        isTrue("no seventh method below six others: " + reached, reached.isEmpty());
    }
}
