/** Promises 1 (a new object), 2 (online), 3 (terms), 12 (party) and 16 (height). */
public final class PartyTest {
    private static final Check CHECK = new Check("PartyTest");
    private static final int[] NO_PARTY = {-1, 6, 7, Integer.MIN_VALUE, Integer.MAX_VALUE};

    public static void main(String[] args) {
        newObject();
        online();
        terms();
        party();
        height();
        CHECK.end();
    }

    private static void newObject() {
        ChannelWeb web = new ChannelWeb();
        CHECK.due("new height()", web.height(), 0);
        for (int p = 0; p < 6; p++) {
            int[] first = {1000, 1, 1, 0, ChannelWeb.NONE, 0, 0};
            for (int what = 0; what < first.length; what++) {
                CHECK.party(web, p, what, first[what]);
            }
            for (int q = 0; q < 6; q++) {
                CHECK.due("new most", web.most(p, q), 0);
            }
        }
        for (int c = 0; c < 8; c++) {
            for (int what = 0; what <= 8; what++) {
                CHECK.channel(web, c, what, ChannelWeb.NONE);
            }
            CHECK.state(web, c, 0, -1, -1, -1);
            CHECK.noLock(web, c, 0, 0);
            CHECK.noLock(web, c, -1, 0);
        }
    }

    private static void online() {
        ChannelWeb web = new ChannelWeb();
        String before = Check.view(web);
        for (int p = 0; p < 6; p++) {
            CHECK.due("online of one that is", web.online(p, true), false);
        }
        for (int p : NO_PARTY) {
            CHECK.due("online of none", web.online(p, true), false);
            CHECK.due("offline of none", web.online(p, false), false);
        }
        CHECK.same("refused online", before, web);
        for (int p = 0; p < 6; p++) {
            CHECK.due("goes offline", web.online(p, false), true);
            CHECK.party(web, p, 1, 0);
            CHECK.due("goes offline again", web.online(p, false), false);
            CHECK.party(web, p, 1, 0);
        }
        CHECK.due("comes online", web.online(3, true), true);
        CHECK.party(web, 3, 1, 1);
        CHECK.party(web, 2, 1, 0);
    }

    private static void terms() {
        ChannelWeb web = new ChannelWeb();
        String before = Check.view(web);
        int[][] wrong = {
            {2, -1, 0, -1}, {2, 10, 0, -1}, {2, 0, -1, -1}, {2, 0, 21, -1}, {2, 0, 0, -2}, {2, 0, 0, 6}, {2, 0, 0, 2},
            {-1, 0, 0, 3}, {6, 0, 0, 3}, {-1, 0, 0, -1}, {2, Integer.MIN_VALUE, 0, -1}, {2, 0, Integer.MAX_VALUE, -1},
            {2, 0, 0, Integer.MIN_VALUE}, {2, 0, 0, Integer.MAX_VALUE}, {Integer.MIN_VALUE, 0, 0, -1}, {Integer.MAX_VALUE, 0, 0, -1}
        };
        for (int[] t : wrong) {
            CHECK.due("wrong terms", web.terms(t[0], t[1], t[2], t[3]), false);
        }
        CHECK.same("wrong terms", before, web);
        int[][] right = {{0, 0, 0, -1}, {0, 9, 20, 5}, {5, 3, 7, 0}, {5, 3, 7, 0}, {2, 4, 20, 1}, {2, 4, 20, 3}, {2, 4, 20, -1}};
        for (int[] t : right) {
            CHECK.due("terms", web.terms(t[0], t[1], t[2], t[3]), true);
            for (int i = 1; i < 4; i++) {
                CHECK.party(web, t[0], i + 1, t[i]);
            }
        }
        web.online(4, false);
        CHECK.due("terms of one offline", web.terms(4, 2, 2, 5), true);
        CHECK.due("a guard that is offline", web.terms(5, 2, 2, 4), true);
        CHECK.party(web, 5, 4, 4);
        CHECK.party(web, 1, 2, 1);
    }

    private static void party() {
        ChannelWeb web = new ChannelWeb();
        for (int p : NO_PARTY) {
            for (int what = 0; what <= 6; what++) {
                CHECK.party(web, p, what, ChannelWeb.NONE);
            }
        }
        for (int what : new int[] {-1, 7, Integer.MIN_VALUE, Integer.MAX_VALUE}) {
            CHECK.party(web, 0, what, ChannelWeb.NONE);
        }
        web.open(0, 1, 300, 100);
        web.open(2, 0, 30, 40);
        web.open(0, 3, 7, 5);
        CHECK.party(web, 0, 0, 1000 - 347);
        CHECK.party(web, 0, 6, 347);
        web.pay(0, 1, 50, 0);
        web.pay(0, 1, 20, 15);
        CHECK.party(web, 0, 6, 277);
        CHECK.party(web, 1, 5, 1 + 32768);
        CHECK.party(web, 0, 5, 0);
        web.close(1);
        CHECK.party(web, 0, 6, 237);
        CHECK.party(web, 2, 6, 0);
        web.publish(0, 0, 2);
        web.publish(3, 2, 0);
        CHECK.party(web, 0, 6, 230);
        CHECK.party(web, 1, 6, 0);
        CHECK.party(web, 3, 6, 5);
        CHECK.party(web, 0, 0, 700);
    }

    private static void height() {
        ChannelWeb web = new ChannelWeb();
        web.block(1);
        CHECK.due("height() after one block", web.height(), 1);
        web.block(20);
        CHECK.due("height() after 21 blocks", web.height(), 21);
        web.block(21);
        web.block(0);
        CHECK.due("height() after refused blocks", web.height(), 21);
    }
}
