import java.util.ArrayList;
import java.util.List;

/**
 * Everything that can be seen of an object after some calls. What an object answers is promised for 512 calls
 * alone, so the calls are made again on as many new objects as the looks need.
 */
final class View {
    static final int MOST_CALLS = 512;
    private static final List<Call> LOOKS = looks();
    private static final List<Call> AFTERWARDS = afterwards();

    private View() { }

    static List<Call> looks() {
        List<Call> looks = new ArrayList<>();
        looks.add(new Call("height"));
        for (int p = 0; p < 6; p++) {
            for (int what = 0; what <= 6; what++) {
                looks.add(new Call("party", p, what));
            }
        }
        for (int c = 0; c < 8; c++) {
            for (int what = 0; what <= 8; what++) {
                looks.add(new Call("channel", c, what));
            }
        }
        for (int c = 0; c < 8; c++) {
            for (int k = 0; k <= 11; k++) {
                for (int what = 0; what <= 2; what++) {
                    looks.add(new Call("state", c, k, what));
                }
            }
            for (int k = -1; k <= 11; k++) {
                for (int j = 0; j < 3; j++) {
                    for (int what = 0; what <= 3; what++) {
                        looks.add(new Call("lock", c, k, j, what));
                    }
                }
            }
        }
        return looks;
    }

    /** What cannot be seen at once, as which secrets were used, shows in what later calls answer. */
    private static List<Call> afterwards() {
        List<Call> calls = new ArrayList<>();
        for (int p = 0; p < 6; p++) {
            calls.add(new Call("online", p, 1));
        }
        for (int s = 0; s < 16; s++) {
            calls.add(new Call("pay", s % 6, (s + 1 + s / 6) % 6, 1, s));
        }
        for (int i = 0; i < 4; i++) {
            calls.add(new Call("block", 1));
        }
        for (Call look : LOOKS) {
            if (look.name().equals("party") || look.name().equals("channel")) {
                calls.add(look);
            }
        }
        return calls;
    }

    static ChannelWeb after(List<Call> calls) {
        ChannelWeb web = new ChannelWeb();
        for (Call call : calls) {
            call.on(web);
        }
        return web;
    }

    static List<Integer> of(List<Call> calls) {
        List<Integer> answers = new ArrayList<>();
        ChannelWeb web = after(calls);
        int made = calls.size();
        for (Call look : LOOKS) {
            if (made == MOST_CALLS) {
                web = after(calls);
                made = calls.size();
            }
            answers.add(look.on(web));
            made++;
        }
        return answers;
    }

    static List<Integer> later(List<Call> calls) {
        List<Integer> answers = new ArrayList<>();
        ChannelWeb web = after(calls);
        for (Call call : AFTERWARDS) {
            answers.add(call.on(web));
        }
        return answers;
    }
}
