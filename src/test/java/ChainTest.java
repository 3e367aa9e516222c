/** Promises 10 (publish), 11 (block), and 17 where it tells of them. */
public final class ChainTest {
    private static final Check CHECK = new Check("ChainTest");

    public static void main(String[] args) {
        publish();
        publishRefused();
        heldForThreeBlocks();
        blockNumbers();
        secretGoesBack();
        secretGoesBackInOneBlock();
        eachSettlingIsAChange();
        threeLocksInOneTurn();
        expiredLockFails();
        expiredLockOfTheOtherSideFails();
        expiredLockIsPublished();
        receiverPublishesBeforeExpiry();
        lastStateIsPublished();
        outputsLeaveStatesAlone();
        knownSecretGoesBeforeExpiry();
        otherSideClaimsAndTakesBack();
        claimedSecretGoesOn();
        oldStateIsPunished();
        allOutputsArePunished();
        publisherClaimsBeforePunishment();
        publisherOfOldStateIsPaidIfNobodyLooks();
        guardPunishes();
        guardPerChannel();
        guardsThatDoNothing();
        guardWhoCheated();
        CHECK.end();
    }

    private static void publish() {
        ChannelWeb web = new ChannelWeb();
        web.open(3, 1, 300, 100);
        web.pay(3, 1, 50, 0);
        web.pay(1, 3, 20, 1);
        web.online(3, false);
        web.online(1, false);
        web.block(5);
        CHECK.due("publish while both are offline", web.publish(1, 0, 2), true);
        int[] closed = {1, 3, 1, 2, 2, 1, 5, 80, 2};
        for (int what = 0; what < closed.length; what++) {
            CHECK.channel(web, 0, what, closed[what]);
        }
        CHECK.party(web, 3, 0, 950);
        CHECK.party(web, 1, 0, 900);
        CHECK.lock(web, 0, -1, 0, 0, 50, 0, 3);
        CHECK.lock(web, 0, -1, 1, 1, 20, 1, 3);
        web.block(3);
        CHECK.channel(web, 0, 7, 80);
        CHECK.channel(web, 0, 8, 2);
    }

    private static void publishRefused() {
        ChannelWeb web = new ChannelWeb();
        web.open(0, 1, 300, 100);
        web.open(1, 2, 300, 100);
        web.open(3, 4, 10, 10);
        web.pay(0, 1, 5, 0);
        web.publish(1, 1, 0);
        web.close(2);
        String before = Check.view(web);
        int[][] wrong = {{2, 0, 0}, {-1, 0, 0}, {6, 0, 0}, {0, 0, -1}, {0, 0, 2}, {0, 0, 12}, {0, 3, 0}, {0, -1, 0}, {0, 8, 0},
            {1, 1, 0}, {2, 1, 0}, {3, 2, 0}, {0, 0, Integer.MIN_VALUE}, {0, 0, Integer.MAX_VALUE}, {0, Integer.MIN_VALUE, 0},
            {0, Integer.MAX_VALUE, 0}, {Integer.MIN_VALUE, 0, 0}, {Integer.MAX_VALUE, 0, 0}};
        for (int[] b : wrong) {
            CHECK.due("wrong publish", web.publish(b[0], b[1], b[2]), false);
        }
        CHECK.same("wrong publish", before, web);
    }

    private static void heldForThreeBlocks() {
        ChannelWeb web = new ChannelWeb();
        web.open(0, 1, 300, 100);
        web.block(4);
        web.publish(0, 0, 0);
        CHECK.party(web, 1, 0, 1000);
        web.block(2);
        CHECK.channel(web, 0, 7, 300);
        CHECK.party(web, 0, 0, 700);
        web.block(1);
        CHECK.channel(web, 0, 7, 0);
        CHECK.channel(web, 0, 0, 1);
        CHECK.channel(web, 0, 6, 4);
        CHECK.party(web, 0, 0, 1000);
        web.block(20);
        CHECK.party(web, 0, 0, 1000);
        CHECK.party(web, 1, 0, 1000);
    }

    private static void blockNumbers() {
        ChannelWeb web = new ChannelWeb();
        web.open(0, 1, 300, 100);
        web.pay(0, 1, 5, 0);
        String before = Check.view(web);
        for (int n : new int[] {0, 21, -1, Integer.MIN_VALUE, Integer.MAX_VALUE}) {
            CHECK.due("block(" + n + ")", web.block(n), ChannelWeb.REFUSED);
        }
        CHECK.same("refused block", before, web);
        CHECK.due("block(1)", web.block(1), 1);
        CHECK.due("block(20)", web.block(20), 21);
        CHECK.due("height", web.height(), 21);
    }

    private static void secretGoesBack() {
        ChannelWeb web = new ChannelWeb();
        web.open(0, 1, 300, 100);
        web.open(1, 2, 200, 50);
        web.pay(0, 2, 20, 3);
        web.block(1);
        CHECK.state(web, 1, 2, 180, 70, 0);
        CHECK.channel(web, 0, 3, 1);
        CHECK.party(web, 1, 5, 8);
        CHECK.party(web, 0, 5, 0);
        web.block(1);
        CHECK.state(web, 0, 2, 279, 121, 0);
        CHECK.party(web, 0, 5, 8);
        web.block(1);
        CHECK.channel(web, 0, 3, 2);
        CHECK.channel(web, 1, 3, 2);
    }

    private static void secretGoesBackInOneBlock() {
        ChannelWeb web = new ChannelWeb();
        web.open(2, 1, 300, 100);
        web.open(1, 0, 200, 50);
        web.pay(2, 0, 20, 3);
        web.block(1);
        CHECK.state(web, 1, 2, 180, 70, 0);
        CHECK.state(web, 0, 2, 279, 121, 0);
        CHECK.party(web, 2, 5, 8);
    }

    private static void eachSettlingIsAChange() {
        ChannelWeb web = new ChannelWeb();
        web.open(0, 1, 300, 100);
        web.pay(0, 1, 50, 0);
        web.pay(1, 0, 7, 1);
        web.pay(0, 1, 30, 2);
        web.block(1);
        CHECK.channel(web, 0, 3, 6);
        CHECK.state(web, 0, 3, 220, 93, 3);
        CHECK.state(web, 0, 4, 227, 93, 2);
        CHECK.lock(web, 0, 4, 0, 0, 50, 0, 3);
        CHECK.lock(web, 0, 4, 1, 0, 30, 2, 3);
        CHECK.noLock(web, 0, 4, 2);
        CHECK.state(web, 0, 5, 227, 143, 1);
        CHECK.lock(web, 0, 5, 0, 0, 30, 2, 3);
        CHECK.state(web, 0, 6, 227, 173, 0);
        CHECK.party(web, 0, 5, 7);
        CHECK.party(web, 1, 5, 7);
    }

    private static ChannelWeb threeLocks() {
        ChannelWeb web = new ChannelWeb();
        web.open(1, 0, 300, 100);
        web.pay(1, 0, 10, 0);
        web.pay(1, 0, 20, 1);
        web.pay(1, 0, 40, 2);
        return web;
    }

    private static void threeLocksInOneTurn() {
        ChannelWeb web = threeLocks();
        web.block(1);
        CHECK.state(web, 0, 4, 230, 110, 2);
        CHECK.state(web, 0, 5, 230, 130, 1);
        CHECK.state(web, 0, 6, 230, 170, 0);
        CHECK.channel(web, 0, 3, 6);
        web = threeLocks();
        web.publish(1, 0, 3);
        web.block(1);
        CHECK.channel(web, 0, 8, 0);
        CHECK.channel(web, 0, 7, 230);
        CHECK.party(web, 0, 0, 1070);
        web = threeLocks();
        web.online(0, false);
        web.block(3);
        CHECK.channel(web, 0, 5, 1);
        CHECK.channel(web, 0, 7, 300);
        CHECK.channel(web, 0, 8, 0);
    }

    private static void expiredLockOfTheOtherSideFails() {
        ChannelWeb web = new ChannelWeb();
        web.open(1, 0, 5, 100);
        web.open(2, 1, 6, 100);
        web.pay(0, 2, 20, 2);
        web.online(2, false);
        web.block(6);
        CHECK.state(web, 0, 1, 5, 79, 1);
        CHECK.state(web, 0, 2, 5, 100, 0);
    }

    private static void expiredLockFails() {
        ChannelWeb web = new ChannelWeb();
        web.open(0, 1, 100, 0);
        web.open(1, 2, 100, 0);
        web.pay(0, 2, 20, 2);
        web.online(2, false);
        web.block(5);
        CHECK.channel(web, 0, 3, 1);
        web.block(1);
        CHECK.channel(web, 0, 0, 0);
        CHECK.state(web, 0, 1, 79, 0, 1);
        CHECK.state(web, 0, 2, 100, 0, 0);
        CHECK.party(web, 0, 5, 0);
        CHECK.party(web, 1, 5, 0);
        web.block(1);
        CHECK.channel(web, 0, 3, 2);
    }

    private static void expiredLockIsPublished() {
        ChannelWeb web = new ChannelWeb();
        web.open(1, 2, 100, 10);
        web.pay(1, 2, 20, 2);
        web.online(2, false);
        web.block(2);
        CHECK.channel(web, 0, 0, 0);
        web.block(1);
        int[] closed = {1, 1, 2, 1, 1, 1, 3, 100, 0};
        for (int what = 0; what < closed.length; what++) {
            CHECK.channel(web, 0, what, closed[what]);
        }
        CHECK.party(web, 2, 0, 1000);
        web.block(2);
        CHECK.party(web, 1, 0, 900);
        web.block(1);
        CHECK.party(web, 1, 0, 1000);
    }

    private static void receiverPublishesBeforeExpiry() {
        ChannelWeb web = new ChannelWeb();
        web.open(0, 1, 100, 10);
        web.pay(0, 1, 20, 2);
        web.online(0, false);
        web.block(1);
        CHECK.channel(web, 0, 0, 0);
        web.block(1);
        int[] closed = {1, 0, 1, 1, 1, 1, 2, 30, 0};
        for (int what = 0; what < closed.length; what++) {
            CHECK.channel(web, 0, what, closed[what]);
        }
        CHECK.party(web, 0, 0, 980);
        CHECK.party(web, 0, 5, 4);
        CHECK.party(web, 1, 0, 990);
        web.block(3);
        CHECK.party(web, 1, 0, 1020);
    }

    private static void lastStateIsPublished() {
        ChannelWeb web = new ChannelWeb();
        web.open(0, 1, 300, 300);
        for (int s = 0; s < 5; s++) {
            web.pay(0, 1, 10, s);
            web.block(1);
        }
        web.pay(0, 1, 10, 5);
        CHECK.channel(web, 0, 3, 11);
        web.block(1);
        CHECK.channel(web, 0, 0, 0);
        web.block(1);
        CHECK.channel(web, 0, 0, 1);
        CHECK.channel(web, 0, 3, 11);
        CHECK.channel(web, 0, 4, 11);
        CHECK.channel(web, 0, 5, 1);
        CHECK.channel(web, 0, 7, 360);
        CHECK.party(web, 0, 0, 940);
        CHECK.channel(web, 0, 8, 0);
        CHECK.state(web, 0, 10, 250, 350, 0);
        CHECK.state(web, 0, 11, 240, 350, 1);
        CHECK.lock(web, 0, 11, 0, 0, 10, 5, 8);
    }

    private static void outputsLeaveStatesAlone() {
        ChannelWeb web = new ChannelWeb();
        web.open(0, 1, 300, 300);
        web.open(2, 3, 70, 80);
        for (int s = 0; s < 4; s++) {
            web.pay(0, 1, 10, s);
            web.block(1);
        }
        for (int s = 4; s < 7; s++) {
            web.pay(0, 1, 10 * s, s);
        }
        CHECK.due("publish state 11", web.publish(0, 0, 11), true);
        CHECK.channel(web, 0, 8, 3);
        web.block(1);
        CHECK.channel(web, 0, 8, 0);
        CHECK.state(web, 0, 9, 220, 340, 1);
        CHECK.state(web, 0, 10, 170, 340, 2);
        CHECK.state(web, 0, 11, 110, 340, 3);
        CHECK.lock(web, 0, 10, 1, 0, 50, 5, 7);
        CHECK.lock(web, 0, 11, 2, 0, 60, 6, 7);
        CHECK.state(web, 1, 0, 70, 80, 0);
    }

    private static void knownSecretGoesBeforeExpiry() {
        ChannelWeb web = new ChannelWeb();
        web.open(1, 0, 100, 10);
        web.pay(1, 0, 20, 2);
        web.online(0, false);
        web.online(1, false);
        web.block(9);
        web.online(0, true);
        web.online(1, true);
        web.block(1);
        CHECK.state(web, 0, 2, 80, 30, 0);
        CHECK.channel(web, 0, 0, 0);
        web = new ChannelWeb();
        web.open(0, 1, 100, 10);
        web.pay(0, 1, 20, 2);
        web.online(0, false);
        web.online(1, false);
        web.block(9);
        web.online(0, true);
        web.online(1, true);
        web.block(1);
        CHECK.state(web, 0, 2, 100, 10, 0);
    }

    private static void otherSideClaimsAndTakesBack() {
        ChannelWeb web = new ChannelWeb();
        web.open(0, 1, 100, 100);
        web.pay(0, 1, 20, 2);
        web.pay(1, 0, 7, 3);
        web.pay(0, 1, 30, 4);
        web.publish(0, 0, 3);
        CHECK.channel(web, 0, 8, 3);
        CHECK.party(web, 1, 0, 993);
        web.block(1);
        CHECK.channel(web, 0, 8, 0);
        CHECK.channel(web, 0, 7, 57);
        CHECK.party(web, 1, 0, 1043);
        CHECK.party(web, 0, 5, 28);
        CHECK.party(web, 1, 5, 28);
        web = new ChannelWeb();
        web.open(0, 1, 100, 100);
        web.pay(1, 0, 7, 3);
        web.online(0, false);
        web.publish(0, 0, 1);
        web.block(2);
        CHECK.party(web, 1, 0, 993);
        CHECK.lock(web, 0, -1, 0, 1, 7, 3, 3);
        web.block(1);
        CHECK.party(web, 1, 0, 1000);
        CHECK.channel(web, 0, 8, 0);
        CHECK.channel(web, 0, 7, 100);
    }

    private static void claimedSecretGoesOn() {
        ChannelWeb web = new ChannelWeb();
        web.open(0, 1, 100, 0);
        web.open(1, 2, 100, 0);
        web.pay(0, 2, 20, 6);
        web.publish(1, 1, 1);
        web.publish(1, 0, 1);
        web.block(1);
        CHECK.channel(web, 1, 8, 0);
        CHECK.party(web, 2, 0, 1020);
        CHECK.party(web, 1, 5, 64);
        CHECK.channel(web, 0, 8, 1);
        web.block(1);
        CHECK.channel(web, 0, 8, 0);
        CHECK.channel(web, 0, 7, 21);
        CHECK.party(web, 0, 5, 64);
        web.block(1);
        CHECK.party(web, 1, 0, 1001);
    }

    private static void oldStateIsPunished() {
        ChannelWeb web = new ChannelWeb();
        web.open(0, 1, 300, 100);
        web.pay(0, 1, 50, 0);
        web.block(1);
        web.publish(0, 0, 1);
        CHECK.channel(web, 0, 7, 250);
        CHECK.channel(web, 0, 8, 1);
        CHECK.party(web, 1, 0, 1000);
        web.block(1);
        int[] closed = {1, 0, 1, 2, 1, 0, 1, 0, 0};
        for (int what = 0; what < closed.length; what++) {
            CHECK.channel(web, 0, what, closed[what]);
        }
        CHECK.party(web, 0, 0, 700);
        CHECK.party(web, 1, 0, 1300);
        CHECK.noLock(web, 0, -1, 0);
        CHECK.state(web, 0, 1, 250, 100, 1);
        web.block(5);
        CHECK.party(web, 0, 0, 700);
        CHECK.party(web, 1, 0, 1300);
    }

    private static void allOutputsArePunished() {
        ChannelWeb web = new ChannelWeb();
        web.open(1, 0, 300, 100);
        web.pay(1, 0, 10, 0);
        web.pay(0, 1, 20, 1);
        web.pay(1, 0, 40, 2);
        web.block(1);
        web.publish(1, 0, 3);
        CHECK.channel(web, 0, 7, 250);
        CHECK.channel(web, 0, 8, 3);
        web.block(1);
        CHECK.channel(web, 0, 7, 0);
        CHECK.channel(web, 0, 8, 0);
        CHECK.party(web, 0, 0, 1300);
        CHECK.party(web, 1, 0, 700);
    }

    private static void publisherClaimsBeforePunishment() {
        ChannelWeb web = new ChannelWeb();
        web.open(0, 1, 300, 100);
        web.pay(1, 0, 40, 0);
        web.pay(1, 0, 30, 1);
        web.online(1, false);
        web.publish(0, 0, 1);
        web.block(1);
        CHECK.channel(web, 0, 7, 340);
        CHECK.channel(web, 0, 8, 0);
        CHECK.party(web, 1, 5, 1);
        web.online(1, true);
        web.block(1);
        CHECK.channel(web, 0, 7, 0);
        CHECK.party(web, 1, 0, 900 + 60 + 340);
        CHECK.party(web, 1, 5, 1);
    }

    private static void publisherOfOldStateIsPaidIfNobodyLooks() {
        ChannelWeb web = new ChannelWeb();
        web.open(0, 1, 300, 100);
        web.pay(0, 1, 50, 0);
        web.block(1);
        web.online(1, false);
        web.publish(0, 0, 0);
        web.block(3);
        CHECK.party(web, 0, 0, 1000);
        web.online(1, true);
        web.block(1);
        CHECK.party(web, 1, 0, 1000);
    }

    private static void guardPunishes() {
        ChannelWeb web = new ChannelWeb();
        web.open(0, 1, 300, 119);
        web.terms(0, 1, 0, 2);
        web.pay(1, 0, 10, 0);
        web.block(1);
        web.online(0, false);
        web.publish(1, 0, 0);
        web.block(1);
        CHECK.party(web, 0, 0, 1000 + 119 - 11);
        CHECK.party(web, 2, 0, 1011);
        CHECK.party(web, 1, 0, 881);
        CHECK.channel(web, 0, 7, 0);
        web.block(5);
        CHECK.party(web, 2, 0, 1011);
    }

    private static void guardPerChannel() {
        ChannelWeb web = new ChannelWeb();
        web.open(0, 1, 100, 19);
        web.open(3, 0, 29, 100);
        web.open(0, 4, 100, 50);
        web.open(0, 5, 50, 9);
        web.terms(0, 1, 0, 2);
        web.pay(1, 0, 5, 0);
        web.pay(3, 0, 5, 1);
        web.pay(4, 0, 5, 2);
        web.pay(0, 5, 5, 3);
        web.block(1);
        web.online(0, false);
        web.publish(1, 0, 1);
        web.publish(3, 1, 0);
        web.publish(4, 2, 2);
        web.publish(0, 3, 0);
        web.block(1);
        // 19 with an output of 5, and 29: fees 1 and 2; the latest state and its own old one: none.
        CHECK.party(web, 2, 0, 1003);
        CHECK.party(web, 0, 0, 650 + 100 + 19 - 1 + 100 + 29 - 2 + 105);
        CHECK.channel(web, 0, 8, 0);
        CHECK.channel(web, 2, 7, 45);
        CHECK.party(web, 5, 0, 991 + 9 + 50);
    }

    private static void guardsThatDoNothing() {
        ChannelWeb web = new ChannelWeb();
        web.open(0, 1, 300, 100);
        web.terms(0, 1, 0, 2);
        web.pay(1, 0, 10, 0);
        web.block(1);
        web.online(0, false);
        web.online(2, false);
        web.publish(1, 0, 0);
        web.block(1);
        CHECK.channel(web, 0, 7, 100);
        web.online(0, true);
        web.online(2, true);
        web.block(1);
        CHECK.party(web, 0, 0, 1100);
        CHECK.party(web, 2, 0, 1000);
        web = new ChannelWeb();
        web.open(0, 5, 300, 100);
        web.terms(0, 1, 0, 2);
        web.pay(5, 0, 10, 0);
        web.block(1);
        web.online(0, false);
        web.terms(0, 1, 0, -1);
        web.publish(5, 0, 0);
        web.block(2);
        CHECK.channel(web, 0, 7, 100);
        web.block(1);
        CHECK.party(web, 5, 0, 1000);
    }

    private static void guardWhoCheated() {
        ChannelWeb web = new ChannelWeb();
        web.open(0, 1, 300, 100);
        web.terms(0, 1, 0, 1);
        web.pay(1, 0, 10, 0);
        web.block(1);
        web.online(0, false);
        web.publish(1, 0, 0);
        web.block(1);
        CHECK.party(web, 0, 0, 1090);
        CHECK.party(web, 1, 0, 910);
    }
}
