/** All promises: long mixed runs on the class and on the model, which must answer and look alike after each call. */
public final class ModelTest {
    private static final int RUNS = 800;
    private static final int CALLS = 120;
    private static final int[] ODD = {-1, 6, 8, 16, 256, 1001, -6001, Integer.MIN_VALUE, Integer.MAX_VALUE};

    private static final Check CHECK = new Check("ModelTest");
    private static long seed;
    private static final int[] HAPPENED = new int[8];

    public static void main(String[] args) {
        int failed = 0;
        for (int run = 0; run < RUNS && failed < 5; run++) {
            seed = run * 7919L + 17;
            if (!runAgrees(run)) {
                failed++;
            }
        }
        CHECK.due("runs that went wrong", failed, 0);
        String[] names = {"punishments", "guards' fees", "claims or takings back", "channels published in a turn",
            "settled or failed locks", "routes of 3 or 4", "renewals", "states 11"};
        for (int i = 0; i < names.length; i++) {
            CHECK.due("the runs had " + names[i], HAPPENED[i] > 20, true);
        }
        CHECK.end();
    }

    /** A fixed row of numbers, the same in every run of this test. */
    private static int next(int bound) {
        seed = seed * 6364136223846793005L + 1442695040888963407L;
        return (int) ((seed >>> 33) % bound);
    }

    private static int odd(int usual) {
        return next(40) == 0 ? ODD[next(ODD.length)] : usual;
    }

    private static boolean runAgrees(int run) {
        ChannelWeb web = new ChannelWeb();
        Model model = new Model();
        StringBuilder calls = new StringBuilder();
        boolean alike = true;
        for (int i = 0; i < CALLS && alike; i++) {
            long before = model.height;
            boolean answers = call(web, model, calls);
            alike = answers && sameView(web, model, calls) && model.wealth() == 6000;
            if (model.height > before) {
                note(model);
            }
        }
        if (!alike) {
            System.out.println("run " + run + " differs:" + calls);
        }
        return alike;
    }

    private static void note(Model model) {
        for (Model.Channel c : model.channels) {
            HAPPENED[0] += c.status == 1 && c.published != c.states.size() - 1 && c.held == 0 ? 1 : 0;
            HAPPENED[2] += c.status == 1 && c.outputs.size() < c.states.get(c.published).locks().size() ? 1 : 0;
            HAPPENED[3] += c.status == 1 && c.publishedAt == model.height ? 1 : 0;
            HAPPENED[4] += c.states.size() > 3 && c.latest().locks().isEmpty() ? 1 : 0;
            HAPPENED[7] += c.states.size() == 12 ? 1 : 0;
            for (Model.Party p : model.parties) {
                HAPPENED[1] += !p.online && p.guard >= 0 && c.cheats(p) && c.held == 0 ? 1 : 0;
            }
        }
    }

    private static boolean call(ChannelWeb web, Model model, StringBuilder calls) {
        int kind = next(100);
        int a = odd(next(6));
        int b = odd(next(6));
        int c = odd(next(model.channels.size() + 1));
        if (kind < 12) {
            int x = odd(next(4) == 0 ? 0 : next(400));
            int y = odd(next(4) == 0 ? 0 : next(400));
            return same(calls, "open", web.open(a, b, x, y), model.open(a, b, x, y), a, b, x, y);
        }
        if (kind < 45) {
            int v = odd(1 + next(next(3) == 0 ? 255 : 30));
            int s = odd(next(16));
            for (int what = -1; what <= 9; what++) {
                if (!same(calls, "route", web.route(a, b, v, what), model.route(a, b, v, what), a, b, v, what)) {
                    return false;
                }
            }
            HAPPENED[5] += model.route(a, b, v, 8) > 2 ? 1 : 0;
            return same(calls, "pay", web.pay(a, b, v, s), model.pay(a, b, v, s), a, b, v, s);
        }
        if (kind < 50) {
            return same(calls, "most", web.most(a, b), model.most(a, b), a, b);
        }
        if (kind < 65) {
            boolean is = next(5) > 1;
            return same(calls, "online", web.online(a, is), model.online(a, is), a, is ? 1 : 0);
        }
        if (kind < 71) {
            int base = odd(next(10));
            int rate = odd(next(21));
            int guard = odd(next(7) - 1);
            return same(calls, "terms", web.terms(a, base, rate, guard), model.terms(a, base, rate, guard), a, base, rate, guard);
        }
        if (kind < 73) {
            return same(calls, "close", web.close(c), model.close(c), c);
        }
        if (kind < 77) {
            int x = odd(next(200) - 100);
            int y = odd(next(200) - 100);
            boolean renewed = model.renew(c, x, y);
            HAPPENED[6] += renewed ? 1 : 0;
            return same(calls, "renew", web.renew(c, x, y), renewed, c, x, y);
        }
        if (kind < 81) {
            int k = odd(next(5));
            return same(calls, "publish", web.publish(a, c, k), model.publish(a, c, k), a, c, k);
        }
        int n = odd(next(6) == 0 ? 1 + next(5) : 1);
        return same(calls, "block", web.block(n), model.block(n), n);
    }

    private static boolean same(StringBuilder calls, String name, boolean got, boolean want, int... args) {
        return same(calls, name, got ? 1 : 0, want ? 1 : 0, args);
    }

    private static boolean same(StringBuilder calls, String name, int got, int want, int... args) {
        if (!name.equals("route") || got != want) {
            calls.append("\n  ").append(name).append(java.util.Arrays.toString(args)).append(" answered ").append(got);
        }
        if (got != want) {
            calls.append(", due is ").append(want);
        }
        return got == want;
    }

    private static boolean sameView(ChannelWeb web, Model model, StringBuilder calls) {
        boolean alike = seen(calls, "height", web.height(), model.height);
        for (int p = -1; p <= 6; p++) {
            for (int what = -1; what <= 7; what++) {
                alike &= seen(calls, "party", web.party(p, what), model.party(p, what), p, what);
            }
        }
        for (int c = -1; c <= 8; c++) {
            for (int what = -1; what <= 9; what++) {
                alike &= seen(calls, "channel", web.channel(c, what), model.channel(c, what), c, what);
            }
            for (int k = -2; k <= 12; k++) {
                for (int what = -1; what <= 4; what++) {
                    alike &= seen(calls, "state", web.state(c, k, what), model.state(c, k, what), c, k, what);
                    for (int j = -1; j <= 3; j++) {
                        alike &= seen(calls, "lock", web.lock(c, k, j, what), model.lock(c, k, j, what), c, k, j, what);
                    }
                }
            }
        }
        return alike;
    }

    private static boolean seen(StringBuilder calls, String name, int got, int want, int... args) {
        return got == want || same(calls, name, got, want, args);
    }
}
