/** Counts the answers of one test that are not the ones that are due. */
final class Check {
    private final String test;
    private int wrong = 0;

    Check(String test) {
        this.test = test;
    }

    void due(String what, long got, long want) {
        if (got != want) {
            wrong++;
            System.out.println(test + ": " + what + " answered " + got + ", due is " + want);
        }
    }

    void due(String what, boolean got, boolean want) {
        due(what, got ? 1 : 0, want ? 1 : 0);
    }

    void party(ChannelWeb web, int p, int what, int want) {
        due("party(" + p + ", " + what + ")", web.party(p, what), want);
    }

    void channel(ChannelWeb web, int c, int what, int want) {
        due("channel(" + c + ", " + what + ")", web.channel(c, what), want);
    }

    void state(ChannelWeb web, int c, int k, int x, int y, int locks) {
        String name = "state(" + c + ", " + k + ", ";
        due(name + "0)", web.state(c, k, 0), x);
        due(name + "1)", web.state(c, k, 1), y);
        due(name + "2)", web.state(c, k, 2), locks);
    }

    /** The lock's side, amount, secret and expiry are given in want. */
    void lock(ChannelWeb web, int c, int k, int j, int... want) {
        for (int what = 0; what < 4; what++) {
            String name = "lock(" + c + ", " + k + ", " + j + ", " + what + ")";
            due(name, web.lock(c, k, j, what), want[what]);
        }
    }

    void noLock(ChannelWeb web, int c, int k, int j) {
        lock(web, c, k, j, -1, -1, -1, -1);
    }

    /** Everything that can be seen of a web, to tell that a call changed nothing. */
    static String view(ChannelWeb web) {
        StringBuilder text = new StringBuilder().append(web.height());
        for (int p = -1; p <= 6; p++) {
            for (int what = -1; what <= 7; what++) {
                text.append(' ').append(web.party(p, what));
            }
        }
        for (int c = -1; c <= 8; c++) {
            text.append("\nchannel ").append(c);
            for (int what = -1; what <= 9; what++) {
                text.append(' ').append(web.channel(c, what));
            }
            for (int k = -2; k <= 12; k++) {
                text.append("; ");
                for (int what = -1; what <= 3; what++) {
                    text.append(' ').append(web.state(c, k, what));
                }
                for (int j = -1; j <= 3; j++) {
                    for (int what = -1; what <= 4; what++) {
                        text.append(' ').append(web.lock(c, k, j, what));
                    }
                }
            }
        }
        return text.toString();
    }

    void same(String what, String before, ChannelWeb web) {
        due(what + " changes nothing", before.equals(view(web)), true);
    }

    void end() {
        System.out.println(test + (wrong == 0 ? ": all answers are as due" : ": " + wrong + " answers are not as due"));
        if (wrong != 0) {
            System.exit(1);
        }
    }
}
