/** Promises 5 (pay), 6 (route), 7 (most), and 17 where it tells of them. */
public final class RouteTest {
    private static final Check CHECK = new Check("RouteTest");

    public static void main(String[] args) {
        payRefused();
        payChangesNothingWithoutRoute();
        payAddsLocks();
        routeAnswers();
        routeNone();
        leastAmountIsBest();
        fewestChannelsAreBest();
        firstNumbersAreBest();
        atMostFourChannels();
        overDifferentParties();
        balanceOfEachChannel();
        readyChannelsOnly();
        locksAndStatesOfEachChannel();
        feesWithoutFraction();
        most();
        CHECK.end();
    }

    private static void route(ChannelWeb web, int p, int q, int v, int... row) {
        String name = "route(" + p + ", " + q + ", " + v + ", ";
        CHECK.due(name + "8)", web.route(p, q, v, 8), row.length == 0 ? ChannelWeb.NONE : row.length);
        for (int i = 0; i < 4; i++) {
            CHECK.due(name + i + ")", web.route(p, q, v, i), i < row.length ? row[i] : ChannelWeb.NONE);
        }
    }

    private static void amounts(ChannelWeb web, int p, int q, int v, int... amounts) {
        for (int i = 0; i < 4; i++) {
            String name = "route(" + p + ", " + q + ", " + v + ", " + (4 + i) + ")";
            CHECK.due(name, web.route(p, q, v, 4 + i), i < amounts.length ? amounts[i] : ChannelWeb.NONE);
        }
    }

    private static void payRefused() {
        ChannelWeb web = new ChannelWeb();
        web.open(0, 1, 1000, 500);
        CHECK.due("pay", web.pay(0, 1, 255, 3), 255);
        String before = Check.view(web);
        int[][] wrong = {
            {0, 0, 5, 4}, {0, 6, 5, 4}, {6, 0, 5, 4}, {-1, 0, 5, 4}, {0, -1, 5, 4}, {0, 1, 0, 4}, {0, 1, -1, 4}, {0, 1, 256, 4},
            {0, 1, 5, 3}, {1, 0, 5, 3}, {0, 1, 5, -1}, {0, 1, 5, 16}, {0, 1, 5, 35}, {0, 1, 5, Integer.MIN_VALUE},
            {0, 1, 5, Integer.MAX_VALUE}, {0, 1, Integer.MIN_VALUE, 4}, {0, 1, Integer.MAX_VALUE, 4},
            {Integer.MIN_VALUE, 1, 5, 4}, {0, Integer.MAX_VALUE, 5, 4}, {4, 5, 5, 3}, {4, 4, 5, 4}, {4, 5, 256, 4}
        };
        for (int[] y : wrong) {
            CHECK.due("wrong pay", web.pay(y[0], y[1], y[2], y[3]), ChannelWeb.REFUSED);
        }
        CHECK.same("wrong pay", before, web);
        CHECK.due("the secret of a refused pay is unused", web.pay(0, 1, 1, 4), 1);
    }

    private static void payChangesNothingWithoutRoute() {
        ChannelWeb web = new ChannelWeb();
        web.open(0, 1, 100, 0);
        web.open(1, 2, 50, 0);
        String before = Check.view(web);
        CHECK.due("no route", web.pay(0, 3, 5, 4), ChannelWeb.NONE);
        CHECK.due("no balance at the end", web.pay(0, 2, 51, 4), ChannelWeb.NONE);
        CHECK.due("no balance at the start", web.pay(2, 0, 1, 4), ChannelWeb.NONE);
        CHECK.same("pay without a route", before, web);
        CHECK.due("its secret is unused", web.pay(0, 2, 50, 4), 51);
        CHECK.due("then it is used", web.pay(0, 1, 1, 4), ChannelWeb.REFUSED);
    }

    private static void payAddsLocks() {
        ChannelWeb web = new ChannelWeb();
        web.block(7);
        web.open(3, 2, 100, 100);
        web.open(4, 3, 0, 100);
        web.open(4, 5, 100, 0);
        web.terms(3, 3, 10, -1);
        web.terms(4, 0, 20, -1);
        CHECK.due("pay", web.pay(2, 5, 60, 9), 82);
        CHECK.state(web, 0, 1, 100, 18, 1);
        CHECK.state(web, 1, 1, 0, 28, 1);
        CHECK.state(web, 2, 1, 40, 0, 1);
        CHECK.lock(web, 0, 1, 0, 1, 82, 9, 16);
        CHECK.lock(web, 1, 1, 0, 1, 72, 9, 13);
        CHECK.lock(web, 2, 1, 0, 0, 60, 9, 10);
        CHECK.party(web, 5, 5, 512);
        CHECK.party(web, 4, 5, 0);
        CHECK.party(web, 2, 5, 0);
        CHECK.party(web, 2, 0, 900);
        CHECK.due("pay again", web.pay(3, 2, 5, 0), 5);
        CHECK.state(web, 0, 2, 95, 18, 2);
        CHECK.lock(web, 0, 2, 0, 1, 82, 9, 16);
        CHECK.lock(web, 0, 2, 1, 0, 5, 0, 10);
    }

    private static void routeAnswers() {
        ChannelWeb web = new ChannelWeb();
        web.open(0, 1, 300, 0);
        web.open(1, 2, 300, 0);
        web.open(2, 3, 300, 0);
        web.open(3, 4, 300, 0);
        String before = Check.view(web);
        route(web, 0, 4, 100, 0, 1, 2, 3);
        amounts(web, 0, 4, 100, 103, 102, 101, 100);
        route(web, 1, 3, 100, 1, 2);
        amounts(web, 1, 3, 100, 101, 100);
        CHECK.same("route", before, web);
        route(web, 0, 1, 255, 0);
        route(web, 0, 1, 1, 0);
    }

    private static void routeNone() {
        ChannelWeb web = new ChannelWeb();
        web.open(0, 1, 1000, 1000);
        int[] none = {-1, 9, 10, 1, 3, 5, 7, Integer.MIN_VALUE, Integer.MAX_VALUE};
        for (int what : none) {
            CHECK.due("route what " + what, web.route(0, 1, 10, what), ChannelWeb.NONE);
        }
        int[][] wrong = {{0, 0, 1}, {0, 2, 1}, {0, 6, 1}, {6, 1, 1}, {-1, 1, 1}, {0, -1, 1}, {0, 1, 0}, {0, 1, 256}, {0, 1, -5},
            {Integer.MIN_VALUE, 1, 1}, {0, Integer.MAX_VALUE, 1}, {0, 1, Integer.MIN_VALUE}, {0, 1, Integer.MAX_VALUE}};
        for (int[] r : wrong) {
            route(web, r[0], r[1], r[2]);
            amounts(web, r[0], r[1], r[2]);
        }
        for (int s = 0; s < 3; s++) {
            web.pay(0, 1, 1, s);
        }
        CHECK.due("route by a full row", web.route(0, 1, 10, 8), ChannelWeb.NONE);
    }

    private static void leastAmountIsBest() {
        ChannelWeb web = new ChannelWeb();
        web.open(0, 1, 300, 0);
        web.open(1, 2, 300, 0);
        web.open(0, 3, 300, 0);
        web.open(3, 4, 300, 0);
        web.open(4, 2, 300, 0);
        web.terms(1, 9, 0, -1);
        route(web, 0, 2, 50, 2, 3, 4);
        amounts(web, 0, 2, 50, 52, 51, 50);
        web.terms(1, 0, 10, -1);
        route(web, 0, 2, 19, 0, 1);
        route(web, 0, 2, 30, 2, 3, 4);
        web.terms(1, 3, 0, -1);
        route(web, 0, 2, 30, 2, 3, 4);
        web.terms(1, 2, 0, -1);
        route(web, 0, 2, 30, 0, 1);
    }

    private static void fewestChannelsAreBest() {
        ChannelWeb web = new ChannelWeb();
        web.open(0, 1, 300, 0);
        web.open(1, 2, 300, 0);
        web.open(2, 3, 300, 0);
        web.open(1, 3, 300, 0);
        web.open(0, 3, 40, 0);
        web.terms(1, 0, 0, -1);
        web.terms(2, 0, 0, -1);
        route(web, 0, 3, 40, 4);
        route(web, 0, 3, 41, 0, 3);
        amounts(web, 0, 3, 41, 41, 41);
    }

    private static void firstNumbersAreBest() {
        ChannelWeb web = new ChannelWeb();
        web.open(2, 3, 300, 0);
        web.open(0, 1, 300, 0);
        web.open(0, 2, 300, 0);
        web.open(1, 3, 300, 0);
        web.open(1, 3, 300, 0);
        web.open(0, 1, 300, 0);
        route(web, 0, 3, 40, 1, 3);
        web.pay(0, 3, 255, 0);
        route(web, 0, 3, 100, 2, 0);
        web.terms(2, 2, 0, -1);
        route(web, 0, 3, 100, 5, 4);
        // Channel 1 has 44 left and channel 3 has 45.
        route(web, 0, 3, 43, 1, 3);
        route(web, 0, 3, 44, 5, 3);
        route(web, 0, 3, 45, 5, 3);
        route(web, 0, 3, 46, 5, 4);
    }

    private static void atMostFourChannels() {
        ChannelWeb web = new ChannelWeb();
        for (int p = 0; p < 5; p++) {
            web.open(p, p + 1, 100, 0);
        }
        route(web, 0, 4, 97, 0, 1, 2, 3);
        route(web, 1, 5, 10, 1, 2, 3, 4);
        route(web, 0, 5, 10);
        CHECK.due("most over five channels", web.most(0, 5), 0);
        CHECK.due("pay over five channels", web.pay(0, 5, 1, 0), ChannelWeb.NONE);
        web.open(3, 5, 100, 0);
        route(web, 0, 5, 10, 0, 1, 2, 5);
    }

    private static void overDifferentParties() {
        ChannelWeb web = new ChannelWeb();
        web.open(0, 1, 100, 100);
        web.open(1, 2, 100, 100);
        web.open(0, 1, 100, 100);
        route(web, 0, 2, 100);
        route(web, 0, 2, 99, 0, 1);
        route(web, 0, 1, 101);
        CHECK.due("a row may not come back to its start", web.route(0, 0, 10, 8), ChannelWeb.NONE);
    }

    private static void balanceOfEachChannel() {
        ChannelWeb web = new ChannelWeb();
        web.open(0, 1, 52, 0);
        web.open(1, 2, 51, 0);
        web.open(2, 3, 60, 0);
        route(web, 0, 3, 50, 0, 1, 2);
        route(web, 0, 3, 51);
        web.terms(2, 2, 0, -1);
        route(web, 0, 3, 50);
        route(web, 0, 3, 49, 0, 1, 2);
        web.terms(2, 1, 0, -1);
        web.terms(1, 2, 0, -1);
        route(web, 0, 3, 50);
        route(web, 0, 3, 49, 0, 1, 2);
        web.terms(0, 9, 20, -1);
        web.terms(3, 9, 20, -1);
        amounts(web, 0, 3, 49, 52, 50, 49);
    }

    private static void readyChannelsOnly() {
        ChannelWeb web = new ChannelWeb();
        web.open(0, 1, 100, 0);
        web.open(1, 2, 100, 0);
        web.open(0, 3, 100, 0);
        web.open(3, 2, 100, 0);
        route(web, 0, 2, 10, 0, 1);
        web.online(1, false);
        route(web, 0, 2, 10, 2, 3);
        web.publish(3, 3, 0);
        route(web, 0, 2, 10);
        web.online(1, true);
        web.online(2, false);
        route(web, 0, 2, 10);
        CHECK.due("pay to one offline", web.pay(0, 2, 10, 0), ChannelWeb.NONE);
        web.online(2, true);
        web.online(0, false);
        CHECK.due("pay from one offline", web.pay(0, 2, 10, 0), ChannelWeb.NONE);
        web.online(0, true);
        web.close(0);
        route(web, 0, 2, 10);
    }

    private static void locksAndStatesOfEachChannel() {
        ChannelWeb web = new ChannelWeb();
        web.open(0, 1, 300, 300);
        web.open(1, 2, 300, 300);
        web.pay(1, 2, 1, 0);
        web.pay(2, 1, 1, 1);
        route(web, 0, 2, 10, 0, 1);
        web.pay(1, 2, 1, 2);
        route(web, 0, 2, 10);
        route(web, 0, 1, 10, 0);
        web.block(1);
        route(web, 0, 2, 10, 0, 1);
        CHECK.channel(web, 1, 3, 6);
        for (int s = 3; s < 5; s++) {
            web.pay(1, 2, 1, s);
            web.block(1);
        }
        CHECK.channel(web, 1, 3, 10);
        route(web, 0, 2, 10, 0, 1);
        web.pay(1, 2, 1, 5);
        CHECK.channel(web, 1, 3, 11);
        route(web, 0, 2, 10);
    }

    private static void feesWithoutFraction() {
        ChannelWeb web = new ChannelWeb();
        web.open(0, 1, 1000, 0);
        web.open(1, 2, 1000, 0);
        web.open(2, 3, 500, 0);
        web.terms(1, 9, 20, -1);
        web.terms(2, 0, 7, -1);
        amounts(web, 0, 3, 99, 135, 105, 99);
        amounts(web, 0, 3, 14, 25, 14, 14);
        amounts(web, 0, 3, 15, 28, 16, 15);
        amounts(web, 0, 3, 255, 335, 272, 255);
    }

    private static void most() {
        ChannelWeb web = new ChannelWeb();
        web.open(0, 1, 254, 256);
        web.open(1, 2, 500, 0);
        CHECK.due("most(0, 1)", web.most(0, 1), 254);
        CHECK.due("most(1, 0)", web.most(1, 0), 255);
        CHECK.due("most(1, 2)", web.most(1, 2), 255);
        CHECK.due("most(2, 1)", web.most(2, 1), 0);
        CHECK.due("most(0, 2)", web.most(0, 2), 253);
        web.terms(1, 0, 20, -1);
        web.renew(0, 120 - 254, 0);
        CHECK.due("most(0, 2) by a rate", web.most(0, 2), 100);
        web.renew(0, -1, 0);
        CHECK.due("most(0, 2) just below", web.most(0, 2), 99);
        web.open(0, 2, 30, 0);
        CHECK.due("most(0, 2) by the other route", web.most(0, 2), 99);
        web.renew(2, 80, 0);
        CHECK.due("most(0, 2) by the own channel", web.most(0, 2), 110);
        String before = Check.view(web);
        int[][] wrong = {{0, 0}, {0, 3}, {0, 6}, {6, 0}, {-1, 0}, {0, -1}, {-1, -1}, {6, 6},
            {Integer.MIN_VALUE, 0}, {0, Integer.MAX_VALUE}};
        for (int[] m : wrong) {
            CHECK.due("most(" + m[0] + ", " + m[1] + ")", web.most(m[0], m[1]), 0);
        }
        CHECK.same("most", before, web);
        web.open(4, 5, 1, 0);
        CHECK.due("most of 1", web.most(4, 5), 1);
    }
}
