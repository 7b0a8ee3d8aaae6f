import java.io.IOException;
import java.nio.file.Files;
import java.nio.file.Path;
import java.util.ArrayList;
import java.util.List;

/** Looks at answers under the sentence of the document that they hold to, in the document's order. */
final class Document {
    private static final Path TEXT = Path.of("../shared/DOC.md");

    private final Due due;
    private final List<String> said = new ArrayList<>();
    private String sentence = "";
    private boolean isAnswered = true;

    Document(String name) {
        due = new Due(name);
    }

    void heading(String heading) {
        leavesFree(heading);
    }

    void says(String next) {
        due.is("an answer under: " + sentence, isAnswered ? 1 : 0, 1);
        sentence = next;
        said.add(next);
        isAnswered = false;
    }

    /** What promises nothing, or names what comes behind it, has no answer to be looked at. */
    void leavesFree(String next) {
        says(next);
        isAnswered = true;
    }

    void is(String call, long got, long want) {
        isAnswered = true;
        due.is("\"" + sentence + "\" " + call, got, want);
    }

    /** Each call answers no error, and is recorded, so that undo() brings back what was before it. */
    void isChange(Twins.Maker maker, Twins.Call... calls) {
        for (int i = 0; i < calls.length; i++) {
            WeldedRelays x = maker.make();
            String before = Look.state(x);
            int changes = x.count(11);
            is("call " + i + " is no error", calls[i].on(x) >= 0 ? 1 : 0, 1);
            is("call " + i + " is recorded", x.count(11), Math.min(6, changes + 1));
            is("undo() of call " + i, x.undo(), Math.min(5, changes));
            is("the state before call " + i, Look.state(x).equals(before) ? 1 : 0, 1);
        }
    }

    void changesNothing(Twins.Maker maker, Twins.Call... calls) {
        for (int i = 0; i < calls.length; i++) {
            WeldedRelays x = maker.make();
            String before = Look.all(x);
            calls[i].on(x);
            is("call " + i + " changes nothing", Look.all(x).equals(before) ? 1 : 0, 1);
        }
    }

    /** Compares what was said with the text from the first heading that was said up to another one, or its end. */
    void end(String upTo) throws IOException {
        leavesFree("the end");
        said.remove(said.size() - 1);
        if (Files.exists(TEXT)) {
            List<String> text = sentences();
            int first = text.indexOf(said.get(0));
            int last = upTo.isEmpty() ? text.size() : text.indexOf(upTo);
            due.is("the headings are there", first >= 0 && last > first ? 1 : 0, 1);
            List<String> part = first >= 0 && last > first ? text.subList(first, last) : List.of();
            for (String one : part) {
                due.is("said: " + one, said.contains(one) ? 1 : 0, 1);
            }
            due.is("all is said in its order", said.equals(part) ? 1 : 0, 1);
        } else {
            System.out.println(TEXT + " is not there: the answers alone are looked at");
        }
        due.end();
    }

    /** Its headings and sentences; the face, which stands as code, is looked at by LanguageTest. */
    private static List<String> sentences() throws IOException {
        List<String> sentences = new ArrayList<>();
        boolean isCode = false;
        for (String line : Files.readAllLines(TEXT)) {
            boolean isFence = line.startsWith("```");
            isCode ^= isFence;
            if (line.startsWith("#")) {
                sentences.add(line);
            } else if (!isCode && !isFence && !line.isBlank()) {
                sentences.addAll(List.of(line.trim().split("(?<=\\.)\\s+")));
            }
        }
        return sentences;
    }
}
