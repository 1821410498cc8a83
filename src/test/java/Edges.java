import java.util.ArrayList;
import java.util.HashMap;
import java.util.List;
import java.util.Map;

/** The sentences of the document that name a boundary case, each with a test of its own. */
final class Edges {
    interface Test {
        void run(Check check);
    }

    /** A call with one number, whose answer does not matter. */
    interface NumberCall {
        void with(int number);
    }

    private record Edge(String section, String sentence, Test test) {
        String title() {
            return section + " (" + sentence + ")";
        }
    }

    private final List<Edge> edges = new ArrayList<>();
    private String section = "";

    /** The edges that are added from now on are told in this section. */
    void in(String newSection) {
        section = newSection;
    }

    void add(String sentence, Test test) {
        edges.add(new Edge(section, sentence, test));
    }

    /** Takes both ends of the range, and refuses the numbers beside them and the farthest ones. */
    void addRange(String sentence, int lowest, int highest, NumberCall call) {
        add(sentence, check -> compareRange(check, lowest, highest, call));
    }

    static void compareRange(Check check, int lowest, int highest, NumberCall call) {
        check.throwsNothing("the lowest, " + lowest, () -> call.with(lowest));
        check.throwsNothing("the highest, " + highest, () -> call.with(highest));
        int[] wrong = {lowest - 1, highest + 1, Integer.MIN_VALUE, Integer.MAX_VALUE};
        for (int number : wrong) {
            check.refusesArgument("the number " + number, () -> call.with(number));
        }
    }

    /** How many edges there are; prints those that fail, and counts them in the check. */
    int runAll(Check total) {
        for (Edge edge : edges) {
            Check own = new Check(edge.title());
            own.throwsNothing("the test", () -> edge.test().run(own));
            total.isTrue("something is looked at for " + edge.title(), own.rightOnes() + own.wrongOnes() > 1);
            total.same("wrong answers for " + edge.title(), own.wrongOnes(), 0);
        }
        return edges.size();
    }

    /** Each sentence stands in its section, and no line on a range or a refusal is left out. */
    void compareWith(List<String> document, Check total) {
        Map<String, List<String>> sections = sectionsOf(document);
        for (Edge edge : edges) {
            List<String> lines = sections.getOrDefault(edge.section(), List.of());
            total.isTrue("the document says " + edge.title(),
                    lines.stream().anyMatch(line -> line.contains(edge.sentence())));
        }
        for (Map.Entry<String, List<String>> entry : sections.entrySet()) {
            for (String line : entry.getValue()) {
                if (line.startsWith("- `") || line.startsWith("Throws `")) {
                    total.isTrue("a test for " + entry.getKey() + " (" + line + ")",
                            isQuoted(entry.getKey(), line));
                }
            }
        }
    }

    private boolean isQuoted(String of, String line) {
        return edges.stream().anyMatch(edge -> edge.section().equals(of) && line.contains(edge.sentence()));
    }

    /** The lines by the section's title up to its colon. */
    private static Map<String, List<String>> sectionsOf(List<String> document) {
        Map<String, List<String>> sections = new HashMap<>();
        List<String> lines = new ArrayList<>();
        for (String line : document) {
            if (line.startsWith("## ")) {
                lines = new ArrayList<>();
                sections.put(line.substring(3).split(":")[0], lines);
            } else {
                lines.add(line);
            }
        }
        return sections;
    }
}
