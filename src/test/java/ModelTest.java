import java.util.ArrayList;
import java.util.List;

/** All promises: long mixed runs, which the class must answer as the model does, and after which it must look alike. */
public final class ModelTest {
    private static final int RUNS = 300;
    private static final int CALLS = 120;
    private static final int LOOKS_PER_CALL = 3;
    private static final int CALLS_PER_VIEW = 60;
    private static final int[] ODD = {-1, 6, 8, 16, 256, 1001, -6001, Integer.MIN_VALUE, Integer.MAX_VALUE};

    private static final Check CHECK = new Check("ModelTest");
    private static final List<Call> LOOKS = View.looks();
    private static final int[] HAPPENED = new int[8];
    private static long seed;
    private static int people;

    public static void main(String[] args) {
        int failed = 0;
        for (int run = 0; run < RUNS && failed < 5; run++) {
            seed = run * 7919L + 17;
            // Few parties bring long rows of states, many bring long routes.
            people = 2 + run % 5;
            String difference = difference();
            if (!difference.isEmpty()) {
                failed++;
                System.out.println("run " + run + difference);
            }
        }
        CHECK.due("runs that went wrong", failed, 0);
        String[] names = {"punishments", "guards' fees", "claims or takings back", "channels published in a turn",
            "settled or failed locks", "routes of 3 or 4", "renewals", "states 11"};
        for (int i = 0; i < names.length; i++) {
            CHECK.due("the runs had " + names[i], HAPPENED[i] > 20, true);
        }
        CHECK.end();
    }

    /** A fixed row of numbers, the same in every run of this test. */
    private static int next(int bound) {
        seed = seed * 6364136223846793005L + 1442695040888963407L;
        return (int) ((seed >>> 33) % bound);
    }

    private static int odd(int usual) {
        return next(40) == 0 ? ODD[next(ODD.length)] : usual;
    }

    /** What went otherwise than in the model, or nothing. */
    private static String difference() {
        ChannelWeb web = new ChannelWeb();
        Model model = new Model();
        List<Call> acts = new ArrayList<>();
        for (int i = 1; i <= CALLS; i++) {
            Call act = nextAct(model);
            acts.add(act);
            int height = model.height;
            String wrong = compared(act, act.on(web), model.answer(act));
            for (int look = 0; look < LOOKS_PER_CALL; look++) {
                Call one = nextLook();
                wrong += compared(one, one.on(web), model.answer(one));
            }
            if (i % CALLS_PER_VIEW == 0) {
                wrong += comparedViews(acts, model);
            }
            if (!wrong.isEmpty() || model.wealth() != 6000) {
                return ", after " + acts + ":" + wrong;
            }
            note(model, act, height);
        }
        return "";
    }

    private static String compared(Call call, int got, int want) {
        return got == want ? "" : "\n  " + call + " answered " + got + ", due is " + want;
    }

    private static String comparedViews(List<Call> acts, Model model) {
        List<Integer> got = View.of(acts);
        String wrong = "";
        for (int i = 0; i < got.size(); i++) {
            wrong += compared(LOOKS.get(i), got.get(i), model.answer(LOOKS.get(i)));
        }
        return wrong;
    }

    private static Call nextLook() {
        return switch (next(8)) {
            case 0 -> new Call("most", next(people), next(people));
            case 1, 2 -> new Call("route", next(people), next(people), odd(1 + next(60)), next(11) - 1);
            default -> LOOKS.get(next(LOOKS.size()));
        };
    }

    private static Call nextAct(Model model) {
        int kind = next(100);
        int a = odd(next(people));
        int b = odd(next(people));
        int c = odd(next(model.channels.size() + 1));
        if (kind < 12 || model.channels.size() < 4 && kind < 50) {
            // Channels of neighbours make a long row, which leaves long routes alone.
            boolean ofNeighbours = people > 4 && next(2) == 0 && a >= 0 && a < 5;
            b = ofNeighbours ? a + 1 : b;
            return new Call("open", a, b, odd(next(4) == 0 ? 0 : next(400)), odd(next(4) == 0 ? 0 : next(400)));
        }
        if (kind < 47) {
            return new Call("pay", a, b, odd(1 + next(next(3) == 0 ? 255 : 30)), odd(next(16)));
        }
        if (kind < 63) {
            return new Call("online", a, next(5) > 1 ? 1 : 0);
        }
        if (kind < 70) {
            return new Call("terms", a, odd(next(10)), odd(next(21)), odd(next(people + 1) - 1));
        }
        if (kind < 72) {
            return new Call("close", c);
        }
        if (kind < 76) {
            return new Call("renew", c, odd(next(200) - 100), odd(next(200) - 100));
        }
        if (kind < 80) {
            return new Call("publish", a, c, odd(next(5)));
        }
        return new Call("block", odd(next(6) == 0 ? 1 + next(5) : 1));
    }

    private static void note(Model model, Call act, int heightBefore) {
        if (act.name().equals("pay")) {
            HAPPENED[5] += model.lastRouteLength > 2 ? 1 : 0;
        }
        if (act.name().equals("renew")) {
            HAPPENED[6] += model.lastRenewed ? 1 : 0;
        }
        if (model.height == heightBefore) {
            return;
        }
        for (Model.Channel c : model.channels) {
            HAPPENED[0] += c.status == 1 && c.published != c.states.size() - 1 && c.held == 0 ? 1 : 0;
            HAPPENED[2] += c.status == 1 && c.outputs.size() < c.states.get(c.published).locks().size() ? 1 : 0;
            HAPPENED[3] += c.status == 1 && c.publishedAt == model.height ? 1 : 0;
            HAPPENED[4] += c.states.size() > 3 && c.latest().locks().isEmpty() ? 1 : 0;
            HAPPENED[7] += c.states.size() == 12 ? 1 : 0;
            for (Model.Party p : model.parties) {
                HAPPENED[1] += !p.online && p.guard >= 0 && c.cheats(p) && c.held == 0 ? 1 : 0;
            }
        }
    }
}
