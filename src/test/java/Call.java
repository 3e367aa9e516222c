import java.util.ArrayList;
import java.util.Arrays;
import java.util.List;

/** One call of the class, told as text: "pay(0, 1, 50, 3)". A boolean counts 1 or 0. */
record Call(String name, int... args) {
    int on(ChannelWeb web) {
        return switch (name) {
            case "online" -> bit(web.online(args[0], args[1] == 1));
            case "terms" -> bit(web.terms(args[0], args[1], args[2], args[3]));
            case "open" -> web.open(args[0], args[1], args[2], args[3]);
            case "pay" -> web.pay(args[0], args[1], args[2], args[3]);
            case "route" -> web.route(args[0], args[1], args[2], args[3]);
            case "most" -> web.most(args[0], args[1]);
            case "close" -> bit(web.close(args[0]));
            case "renew" -> bit(web.renew(args[0], args[1], args[2]));
            case "publish" -> bit(web.publish(args[0], args[1], args[2]));
            case "block" -> web.block(args[0]);
            case "party" -> web.party(args[0], args[1]);
            case "channel" -> web.channel(args[0], args[1]);
            case "state" -> web.state(args[0], args[1], args[2]);
            case "lock" -> web.lock(args[0], args[1], args[2], args[3]);
            case "height" -> web.height();
            default -> throw new IllegalArgumentException("there is no call " + name);
        };
    }

    /** Whether the document lets this call change something. */
    boolean acts() {
        return List.of("online", "terms", "open", "pay", "close", "renew", "publish", "block").contains(name);
    }

    @Override
    public String toString() {
        String inside = Arrays.toString(args);
        return name + "(" + inside.substring(1, inside.length() - 1) + ")";
    }

    static int bit(boolean answer) {
        return answer ? 1 : 0;
    }

    static int number(String word) {
        return switch (word) {
            case "NONE" -> ChannelWeb.NONE;
            case "REFUSED" -> ChannelWeb.REFUSED;
            case "FULL" -> ChannelWeb.FULL;
            case "false" -> 0;
            case "true" -> 1;
            case "MIN" -> Integer.MIN_VALUE;
            case "MAX" -> Integer.MAX_VALUE;
            default -> Integer.parseInt(word);
        };
    }

    /** The calls that "open(0|5, 1, -1|6, 0)" stands for: one with each of the numbers that | parts. */
    static List<Call> read(String text) {
        int bracket = text.indexOf('(');
        String inside = text.substring(bracket + 1, text.length() - 1);
        List<int[]> rows = new ArrayList<>();
        rows.add(new int[0]);
        for (String place : inside.isBlank() ? new String[0] : inside.split(",")) {
            List<int[]> longer = new ArrayList<>();
            for (int[] row : rows) {
                for (String word : place.split("\\|")) {
                    int[] one = Arrays.copyOf(row, row.length + 1);
                    one[row.length] = number(word.trim());
                    longer.add(one);
                }
            }
            rows = longer;
        }
        List<Call> calls = new ArrayList<>();
        for (int[] row : rows) {
            calls.add(new Call(text.substring(0, bracket), row));
        }
        return calls;
    }
}
