import java.io.IOException;
import java.nio.file.Files;
import java.nio.file.Path;
import java.util.List;
import java.util.Set;
import java.util.TreeSet;
import java.util.regex.Matcher;
import java.util.regex.Pattern;
import java.util.stream.Collectors;
import java.util.stream.Stream;

/** What README.md says: its example gives the answers that stand beside the calls, and its list of tests is whole. */
public final class ReadmeTest {
    private static final Check check = new Check();
    private static final Pattern MAKING = Pattern.compile("RackTlp x = new RackTlp\\((\\d+), (\\d+)\\);.*");
    private static final Pattern CALL = Pattern.compile("x\\.(\\w+)\\((.+)\\); +// ([^:]+): .*");

    public static void main(String[] args) throws IOException, ReflectiveOperationException {
        String readme = Files.readString(Path.of("README.md"));
        theExampleHolds(readme);
        everyMethodIsTold(readme);
        everyTestIsTold(readme);
        check.end();
    }

    private static void theExampleHolds(String readme) throws ReflectiveOperationException {
        Matcher block = Pattern.compile("(?s)```java\n(.*?)```").matcher(readme);
        check.due("an example", block.find() ? 1 : 0, 1);
        List<String> lines = block.group(1).lines().toList();
        Matcher making = MAKING.matcher(lines.get(0));
        check.due("the object is made", making.matches() ? 1 : 0, 1);
        RackTlp x = new RackTlp(number(making.group(1)), number(making.group(2)));
        for (String line : lines.subList(1, lines.size())) {
            Matcher call = CALL.matcher(line);
            check.due("a call with its answer: " + line, call.matches() ? 1 : 0, 1);
            Object answer = RackTlp.class.getMethod(call.group(1), int.class).invoke(x, sum(call.group(2)));
            check.due(line, (Integer) answer, sum(call.group(3)));
        }
    }

    private static int sum(String terms) throws ReflectiveOperationException {
        int sum = 0;
        for (String term : terms.split(" \\+ ")) {
            sum += number(term.strip());
        }
        return sum;
    }

    /** A number, a letter in quotes or a constant of the class. */
    private static int number(String term) throws ReflectiveOperationException {
        if (term.matches("-?\\d+")) {
            return Integer.parseInt(term);
        }
        if (term.matches("'.'")) {
            return term.charAt(1);
        }
        return RackTlp.class.getField(term.replace("RackTlp.", "")).getInt(null);
    }

    private static void everyMethodIsTold(String readme) {
        for (String name : List.of("new RackTlp", "write", "deliver", "deliverNoAck", "tick", "txInfo", "txTime",
                "segment", "recvByte", "stat")) {
            Matcher row = Pattern.compile("(?m)^\\|.*`" + name + "\\(").matcher(readme);
            check.due(name + " is told", row.find() ? 1 : 0, 1);
        }
    }

    private static void everyTestIsTold(String readme) throws IOException {
        Set<String> told = new TreeSet<>();
        Matcher name = Pattern.compile("`(\\w+Test)`").matcher(readme);
        while (name.find()) {
            told.add(name.group(1));
        }
        try (Stream<Path> files = Files.list(Path.of("src/test/java"))) {
            Set<String> there = files.map(file -> file.getFileName().toString())
                .filter(file -> file.endsWith("Test.java"))
                .map(file -> file.replace(".java", ""))
                .collect(Collectors.toCollection(TreeSet::new));
            check.due("told " + told + ", there are " + there, told.equals(there) ? 1 : 0, 1);
        }
    }
}
