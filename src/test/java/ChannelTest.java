/** Promises 4 (open), 8 (close), 9 (renew), 13 (channel), 14 (state), 15 (lock), and 17 where it tells of them. */
public final class ChannelTest {
    private static final Check CHECK = new Check("ChannelTest");

    public static void main(String[] args) {
        open();
        openFull();
        close();
        closeRefused();
        renew();
        renewLimits();
        renewAllCoinsThereAre();
        renewDropsOldStates();
        channel();
        statesStay();
        lock();
        CHECK.end();
    }

    private static void open() {
        ChannelWeb web = new ChannelWeb();
        web.online(4, false);
        String before = Check.view(web);
        int[][] wrong = {
            {0, 0, 1, 1}, {0, 6, 1, 1}, {6, 0, 1, 1}, {-1, 1, 1, 1}, {1, -1, 1, 1}, {0, 4, 1, 1}, {4, 0, 1, 1},
            {0, 1, 0, 0}, {0, 1, -1, 5}, {0, 1, 5, -1}, {0, 1, 1001, 0}, {0, 1, 0, 1001}, {0, 1, -1, 1},
            {0, 1, Integer.MAX_VALUE, 1}, {0, 1, Integer.MIN_VALUE, Integer.MIN_VALUE},
            {Integer.MIN_VALUE, 1, 1, 1}, {1, Integer.MAX_VALUE, 1, 1}
        };
        for (int[] o : wrong) {
            CHECK.due("wrong open", web.open(o[0], o[1], o[2], o[3]), ChannelWeb.REFUSED);
        }
        CHECK.same("wrong open", before, web);
        CHECK.due("open all coins", web.open(0, 1, 1000, 0), 0);
        CHECK.due("open from no coins", web.open(2, 0, 0, 1), ChannelWeb.REFUSED);
        CHECK.due("open with 0 of one side", web.open(0, 1, 0, 1), 1);
        CHECK.due("open the rest", web.open(1, 5, 999, 1000), 2);
        CHECK.state(web, 0, 0, 1000, 0, 0);
        CHECK.state(web, 1, 0, 0, 1, 0);
        CHECK.state(web, 2, 0, 999, 1000, 0);
        CHECK.party(web, 0, 0, 0);
        CHECK.party(web, 1, 0, 0);
        CHECK.party(web, 5, 0, 0);
        CHECK.channel(web, 2, 0, 0);
        CHECK.channel(web, 2, 1, 1);
        CHECK.channel(web, 2, 2, 5);
        CHECK.channel(web, 2, 3, 0);
        CHECK.channel(web, 3, 0, ChannelWeb.NONE);
    }

    private static void openFull() {
        ChannelWeb web = new ChannelWeb();
        for (int c = 0; c < 8; c++) {
            CHECK.due("open", web.open(0, 1, 10, 10), c);
        }
        String before = Check.view(web);
        CHECK.due("a ninth channel", web.open(2, 3, 1, 1), ChannelWeb.FULL);
        CHECK.due("REFUSED before FULL", web.open(2, 2, 1, 1), ChannelWeb.REFUSED);
        CHECK.due("REFUSED before FULL, no coins", web.open(0, 1, 921, 0), ChannelWeb.REFUSED);
        CHECK.same("open when full", before, web);
        web.close(3);
        web.publish(0, 4, 0);
        CHECK.due("GONE ones count", web.open(2, 3, 1, 1), ChannelWeb.FULL);
        web.online(2, false);
        CHECK.due("REFUSED before FULL, offline", web.open(2, 3, 1, 1), ChannelWeb.REFUSED);
    }

    private static void close() {
        ChannelWeb web = new ChannelWeb();
        web.open(0, 1, 300, 100);
        web.pay(0, 1, 50, 0);
        web.block(1);
        CHECK.due("close", web.close(0), true);
        CHECK.party(web, 0, 0, 950);
        CHECK.party(web, 1, 0, 1050);
        CHECK.party(web, 0, 6, 0);
        CHECK.channel(web, 0, 0, 2);
        CHECK.channel(web, 0, 1, 0);
        CHECK.channel(web, 0, 2, 1);
        CHECK.channel(web, 0, 3, 2);
        for (int what = 4; what <= 8; what++) {
            CHECK.channel(web, 0, what, ChannelWeb.NONE);
        }
        CHECK.state(web, 0, 0, 300, 100, 0);
        CHECK.state(web, 0, 2, 250, 150, 0);
        CHECK.due("no route by a GONE channel", web.most(0, 1), 0);
        String before = Check.view(web);
        CHECK.due("close a GONE one", web.close(0), false);
        CHECK.due("renew a GONE one", web.renew(0, 0, 0), false);
        CHECK.due("publish a GONE one", web.publish(0, 0, 0), false);
        CHECK.same("what a GONE channel refuses", before, web);
    }

    private static void closeRefused() {
        ChannelWeb web = new ChannelWeb();
        web.open(0, 1, 300, 100);
        web.open(2, 3, 10, 10);
        web.open(4, 5, 10, 10);
        web.pay(0, 1, 50, 0);
        web.publish(2, 1, 0);
        String before = Check.view(web);
        for (int c : new int[] {0, 1, 3, -1, 8, Integer.MIN_VALUE, Integer.MAX_VALUE}) {
            CHECK.due("close(" + c + ")", web.close(c), false);
            CHECK.due("renew(" + c + ", 0, 0)", web.renew(c, 0, 0), false);
        }
        CHECK.same("refused close and renew", before, web);
        for (int p = 4; p <= 5; p++) {
            web.online(p, false);
            before = Check.view(web);
            CHECK.due("close when one is offline", web.close(2), false);
            CHECK.due("renew when one is offline", web.renew(2, 1, 1), false);
            CHECK.same("close when one is offline", before, web);
            web.online(p, true);
        }
        CHECK.due("close when both are online", web.close(2), true);
    }

    private static void renew() {
        ChannelWeb web = new ChannelWeb();
        web.open(0, 1, 300, 100);
        CHECK.due("renew", web.renew(0, 50, -20), true);
        CHECK.state(web, 0, 0, 350, 80, 0);
        CHECK.party(web, 0, 0, 650);
        CHECK.party(web, 1, 0, 920);
        CHECK.due("renew, all coins and all balance", web.renew(0, 650, -80), true);
        CHECK.state(web, 0, 0, 1000, 0, 0);
        CHECK.party(web, 0, 0, 0);
        CHECK.party(web, 1, 0, 1000);
        CHECK.due("renew to nothing", web.renew(0, -1000, 0), true);
        CHECK.state(web, 0, 0, 0, 0, 0);
        CHECK.party(web, 0, 0, 1000);
        CHECK.channel(web, 0, 0, 0);
        CHECK.due("renew from nothing", web.renew(0, 0, 1000), true);
        CHECK.state(web, 0, 0, 0, 1000, 0);
    }

    private static void renewLimits() {
        ChannelWeb web = new ChannelWeb();
        web.open(0, 1, 300, 100);
        String before = Check.view(web);
        int[][] wrong = {
            {-301, 0}, {0, -101}, {701, 0}, {0, 901}, {701, -100}, {-300, 901}, {-6001, 0}, {0, -6001}, {6001, 0}, {0, 6001},
            {Integer.MIN_VALUE, 0}, {0, Integer.MIN_VALUE}, {Integer.MAX_VALUE, 0}, {0, Integer.MAX_VALUE}, {-6000, 6000}
        };
        for (int[] r : wrong) {
            CHECK.due("renew(0, " + r[0] + ", " + r[1] + ")", web.renew(0, r[0], r[1]), false);
        }
        CHECK.same("wrong renew", before, web);
        CHECK.due("renew to the limits", web.renew(0, 700, -100), true);
        CHECK.due("renew to the other limits", web.renew(0, -1000, 1000), true);
    }

    /** Party 0 wins all coins by punishing the others, as only then 6000 and -6000 can be right. */
    private static void renewAllCoinsThereAre() {
        ChannelWeb web = new ChannelWeb();
        for (int p = 1; p < 6; p++) {
            int c = web.open(0, p, 1, 1000);
            web.pay(0, p, 1, p);
            web.block(1);
            web.publish(p, c, 0);
            web.block(1);
        }
        CHECK.party(web, 0, 0, 6000);
        CHECK.due("open", web.open(3, 0, 0, 1), 5);
        CHECK.due("open", web.open(0, 3, 1, 0), 6);
        CHECK.due("renew by all the rest", web.renew(5, 0, 5998), true);
        CHECK.due("renew by more than all", web.renew(5, 0, 1), false);
        CHECK.due("renew to nothing", web.renew(6, -1, 0), true);
        CHECK.due("renew by one", web.renew(5, 0, 1), true);
        CHECK.state(web, 5, 0, 0, 6000, 0);
        CHECK.due("renew(5, 0, -6001)", web.renew(5, 0, -6001), false);
        CHECK.due("renew(5, 0, -6000)", web.renew(5, 0, -6000), true);
        CHECK.party(web, 0, 0, 6000);
        CHECK.due("renew(6, 6001, 0)", web.renew(6, 6001, 0), false);
        CHECK.due("renew(6, 6000, 0)", web.renew(6, 6000, 0), true);
        CHECK.due("renew(6, -6000, 0)", web.renew(6, -6000, 0), true);
        CHECK.due("renew(5, 0, 6000)", web.renew(5, 0, 6000), true);
        CHECK.state(web, 5, 0, 0, 6000, 0);
        CHECK.state(web, 6, 0, 0, 0, 0);
    }

    private static void renewDropsOldStates() {
        ChannelWeb web = new ChannelWeb();
        web.open(0, 1, 300, 100);
        for (int i = 0; i < 5; i++) {
            web.pay(0, 1, 10, i);
            web.block(1);
        }
        web.pay(0, 1, 10, 5);
        CHECK.channel(web, 0, 3, 11);
        CHECK.due("renew with a lock", web.renew(0, 0, 0), false);
        web = new ChannelWeb();
        web.open(0, 1, 300, 100);
        for (int i = 0; i < 5; i++) {
            web.pay(0, 1, 10, i);
            web.block(1);
        }
        CHECK.due("renew after 10 changes", web.renew(0, 0, 0), true);
        CHECK.channel(web, 0, 3, 0);
        CHECK.state(web, 0, 0, 250, 150, 0);
        for (int k = 1; k <= 11; k++) {
            CHECK.state(web, 0, k, -1, -1, -1);
            CHECK.noLock(web, 0, k, 0);
            CHECK.due("publish a state that is no more", web.publish(0, 0, k), false);
        }
        CHECK.due("pay after renew", web.pay(1, 0, 150, 6), 150);
        CHECK.state(web, 0, 1, 250, 0, 1);
        CHECK.lock(web, 0, 1, 0, 1, 150, 6, 8);
    }

    private static void channel() {
        ChannelWeb web = new ChannelWeb();
        web.open(4, 2, 300, 100);
        web.pay(4, 2, 50, 7);
        web.pay(2, 4, 30, 8);
        int[] open = {0, 4, 2, 2, -1, -1, -1, -1, -1};
        for (int what = 0; what <= 8; what++) {
            CHECK.channel(web, 0, what, open[what]);
        }
        web.online(4, false);
        web.block(1);
        web.publish(2, 0, 1);
        int[] closed = {1, 4, 2, 2, 1, 2, 1, 100, 1};
        for (int what = 0; what <= 8; what++) {
            CHECK.channel(web, 0, what, closed[what]);
        }
        for (int what : new int[] {-1, 9, Integer.MIN_VALUE, Integer.MAX_VALUE}) {
            CHECK.channel(web, 0, what, ChannelWeb.NONE);
        }
        for (int c : new int[] {-1, 1, 7, 8, Integer.MIN_VALUE, Integer.MAX_VALUE}) {
            CHECK.channel(web, c, 0, ChannelWeb.NONE);
        }
    }

    private static void statesStay() {
        ChannelWeb web = new ChannelWeb();
        web.open(0, 1, 300, 100);
        web.pay(0, 1, 50, 0);
        web.pay(1, 0, 20, 1);
        web.block(1);
        CHECK.state(web, 0, 0, 300, 100, 0);
        CHECK.state(web, 0, 1, 250, 100, 1);
        CHECK.state(web, 0, 2, 250, 80, 2);
        CHECK.state(web, 0, 3, 270, 80, 1);
        CHECK.state(web, 0, 4, 270, 130, 0);
        CHECK.state(web, 0, 5, -1, -1, -1);
        CHECK.lock(web, 0, 2, 0, 0, 50, 0, 3);
        CHECK.lock(web, 0, 2, 1, 1, 20, 1, 3);
        CHECK.lock(web, 0, 3, 0, 0, 50, 0, 3);
        web.publish(0, 0, 2);
        web.block(4);
        CHECK.state(web, 0, 2, 250, 80, 2);
        CHECK.lock(web, 0, 2, 0, 0, 50, 0, 3);
        CHECK.lock(web, 0, 2, 1, 1, 20, 1, 3);
        int[][] none = {{-1, 0, 0}, {1, 0, 0}, {8, 0, 0}, {0, -1, 0}, {0, -1, 2}, {0, 12, 0}, {0, 0, -1}, {0, 0, 3},
            {Integer.MIN_VALUE, 0, 0}, {Integer.MAX_VALUE, 0, 0}, {0, Integer.MIN_VALUE, 0}, {0, Integer.MAX_VALUE, 0},
            {0, 0, Integer.MIN_VALUE}, {0, 0, Integer.MAX_VALUE}};
        for (int[] s : none) {
            CHECK.due("no such state", web.state(s[0], s[1], s[2]), ChannelWeb.NONE);
        }
    }

    private static void lock() {
        ChannelWeb web = new ChannelWeb();
        web.open(0, 1, 300, 100);
        web.pay(0, 1, 50, 4);
        web.pay(1, 0, 20, 15);
        web.pay(0, 1, 30, 0);
        CHECK.lock(web, 0, 3, 0, 0, 50, 4, 3);
        CHECK.lock(web, 0, 3, 1, 1, 20, 15, 3);
        CHECK.lock(web, 0, 3, 2, 0, 30, 0, 3);
        CHECK.noLock(web, 0, 2, 2);
        CHECK.noLock(web, 0, 0, 0);
        CHECK.noLock(web, 0, -1, 0);
        int[][] none = {{0, 3, 3, 0}, {0, 3, -1, 0}, {0, 3, 0, 4}, {0, 3, 0, -1}, {0, 4, 0, 0}, {0, -2, 0, 0}, {0, 12, 0, 0},
            {1, 0, 0, 0}, {-1, 0, 0, 0}, {8, 0, 0, 0}, {0, Integer.MAX_VALUE, 0, 0}, {0, Integer.MIN_VALUE, 0, 0},
            {0, 3, Integer.MAX_VALUE, 0}, {0, 3, Integer.MIN_VALUE, 0}, {Integer.MAX_VALUE, 3, 0, 0}};
        for (int[] l : none) {
            CHECK.due("no such lock", web.lock(l[0], l[1], l[2], l[3]), ChannelWeb.NONE);
        }
        web.publish(0, 0, 2);
        CHECK.lock(web, 0, -1, 0, 0, 50, 4, 3);
        CHECK.lock(web, 0, -1, 1, 1, 20, 15, 3);
        CHECK.noLock(web, 0, -1, 2);
        CHECK.lock(web, 0, 3, 2, 0, 30, 0, 3);
    }
}
