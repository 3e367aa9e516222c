import java.io.IOException;
import java.nio.file.Files;
import java.nio.file.Path;
import java.util.ArrayList;
import java.util.List;

/**
 * Holds the class to sentences of the document. Each is told in its own words, with runs of calls on new objects,
 * a line for each call and its due answer:
 *
 *     open(0, 1, 300, 100) = 0
 *     pay(0|6, 0, 5, 1) = REFUSED, unchanged      one call with each of the numbers that | parts
 *     state(0, 0, *) = 300 100 0                  calls with 0, 1, .. as the last number, and an answer for each
 *
 * "unchanged" asks that the object looks and goes on as if the call had not been made.
 */
final class Sentences {
    private static final Path DOCUMENT = Path.of("../shared/DOC.md");
    private static final String UNCHANGED = ", unchanged";

    private final Check check;
    private int told = 0;
    private ChannelWeb web;
    private int made;
    private List<Call> acts;
    private String where;

    Sentences(String test) {
        this(new Check(test));
    }

    Sentences(Check check) {
        this.check = check;
    }

    void says(String section, String words, String... runs) {
        told++;
        check.due("'" + words + "' stands in " + section, stands(section, words), true);
        for (String run : runs) {
            holds(section + ", '" + words + "'", run);
        }
    }

    void holds(String source, String run) {
        web = new ChannelWeb();
        made = 0;
        acts = new ArrayList<>();
        where = source + ": ";
        for (String line : run.strip().split("\n")) {
            hold(line.strip());
        }
        check.due(where + "a run within 512 calls", made <= View.MOST_CALLS, true);
    }

    /** Lines of a run from height 0: so many payments of 10, with secrets 0, 1, .., each settled by a block: two states each. */
    static String settled(int p, int q, int payments) {
        StringBuilder lines = new StringBuilder();
        for (int s = 0; s < payments; s++) {
            lines.append(String.format("pay(%d, %d, 10, %d) = 10%nblock(1) = %d%n", p, q, s, s + 1));
        }
        return lines.toString();
    }

    void end() {
        System.out.println(told + " sentences");
        check.end();
    }

    private void hold(String line) {
        if (line.isEmpty()) {
            return;
        }
        boolean unchanged = line.endsWith(UNCHANGED);
        String plain = unchanged ? line.substring(0, line.length() - UNCHANGED.length()) : line;
        String[] parts = plain.split(" = ");
        String[] dues = parts[1].strip().split(" +");
        for (int i = 0; i < dues.length; i++) {
            for (Call call : Call.read(parts[0].strip().replace("*", "" + i))) {
                make(call, Call.number(dues[i]), unchanged);
            }
        }
    }

    private void make(Call call, int due, boolean unchanged) {
        if (unchanged) {
            List<Call> more = new ArrayList<>(acts);
            more.add(call);
            check.due(where + call + " changes nothing", View.of(more).equals(View.of(acts)), true);
            check.due(where + call + " changes nothing for later", View.later(more).equals(View.later(acts)), true);
        } else if (call.acts()) {
            acts.add(call);
        }
        check.due(where + call, call.on(web), due);
        made++;
    }

    /** Where the document cannot be read there is nothing to hold the words against. */
    private static boolean stands(String section, String words) {
        try {
            String text = Files.readString(DOCUMENT).replaceAll("\\s+", " ");
            int from = text.indexOf("## " + section);
            int to = text.indexOf("## ", from + 3);
            return from >= 0 && text.substring(from, to < 0 ? text.length() : to).contains(words);
        } catch (IOException unreadable) {
            return true;
        }
    }
}
