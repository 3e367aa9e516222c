/** Order and limits: promise 17, and how many calls an object is used for. */
public final class OrderTest {
    private static final Sentences DOC = new Sentences("OrderTest");
    private static final String EIGHT = """
        open(0, 1, 10, 10) = 0
        open(0, 1, 10, 10) = 1
        open(0, 1, 10, 10) = 2
        open(0, 1, 10, 10) = 3
        open(0, 1, 10, 10) = 4
        open(0, 1, 10, 10) = 5
        open(0, 1, 10, 10) = 6
        open(0, 1, 10, 10) = 7
        """;

    public static void main(String[] args) {
        refusedBeforeFull();
        goneOnesCount();
        refusedBeforeNone();
        nothingChanges();
        renewWithinCoins();
        publishOffline();
        eachIsAChange();
        calls();
        DOC.end();
    }

    private static void refusedBeforeFull() {
        DOC.says("Promise 17", "open: REFUSED is tested before FULL.", EIGHT + """
            open(2, 3, 1, 1) = FULL, unchanged
            open(2, 3, 1000, 1000) = FULL, unchanged
            open(2, 3, 1001, 0) = REFUSED, unchanged
            open(2, 3, 0, 1001) = REFUSED, unchanged
            open(2, 3, 0, 0) = REFUSED, unchanged
            open(2, 3, -1, 1) = REFUSED, unchanged
            open(2, 3, 1, -1) = REFUSED, unchanged
            open(2, 2, 1, 1) = REFUSED, unchanged
            open(2, -1|6|MIN|MAX, 1, 1) = REFUSED, unchanged
            open(-1|6|MIN|MAX, 2, 1, 1) = REFUSED, unchanged
            open(0, 1, 920, 920) = FULL, unchanged
            open(0, 1, 921, 0) = REFUSED, unchanged
            open(0, 1, 0, 921) = REFUSED, unchanged
            online(2, false) = true
            open(2, 3, 1, 1) = REFUSED, unchanged
            open(3, 2, 1, 1) = REFUSED, unchanged
            open(3, 4, 1, 1) = FULL, unchanged
            """);
    }

    private static void goneOnesCount() {
        DOC.says("Promise 17", "open: channels that are GONE count among the 8.", EIGHT + """
            close(3) = true
            open(2, 3, 1, 1) = FULL, unchanged
            close(7) = true
            publish(0, 4, 0) = true
            open(2, 3, 1, 1) = FULL, unchanged
            close(0|1|2|5|6) = true
            open(2, 3, 1, 1) = FULL, unchanged
            """, """
            open(0, 1, 10, 10) = 0
            close(0) = true
            open(0, 1, 10, 10) = 1
            close(1) = true
            open(0, 1, 10, 10) = 2
            close(2) = true
            open(0, 1, 10, 10) = 3
            close(3) = true
            open(0, 1, 10, 10) = 4
            close(4) = true
            open(0, 1, 10, 10) = 5
            close(5) = true
            open(0, 1, 10, 10) = 6
            close(6) = true
            open(0, 1, 10, 10) = 7
            close(7) = true
            open(0, 1, 10, 10) = FULL, unchanged
            """);
    }

    private static void refusedBeforeNone() {
        DOC.says("Promise 17", "pay: REFUSED is tested before NONE", """
            open(0, 1, 50, 50) = 0
            pay(0, 1, 5, 3) = 5
            pay(4, 5, 5, 4) = NONE, unchanged
            pay(4, 5, 5, 3) = REFUSED, unchanged
            pay(4, 5, 5, -1|16|MIN|MAX) = REFUSED, unchanged
            pay(4, 5, 0|256|MIN|MAX, 4) = REFUSED, unchanged
            pay(4, 4, 5, 4) = REFUSED, unchanged
            pay(4, -1|6|MIN|MAX, 5, 4) = REFUSED, unchanged
            pay(-1|6|MIN|MAX, 4, 5, 4) = REFUSED, unchanged
            pay(0, 1, 46, 4) = NONE, unchanged
            pay(0, 1, 46, 3) = REFUSED, unchanged
            online(1, false) = true
            pay(0, 1, 5, 4) = NONE, unchanged
            pay(0, 1, 5, 3) = REFUSED, unchanged
            """);
    }

    private static void nothingChanges() {
        DOC.says("Promise 17", "with either nothing changes, and the secret is still one that no payment had", """
            open(0, 1, 100, 0) = 0
            open(1, 2, 50, 0) = 1
            pay(0, 2, 51, 7) = NONE, unchanged
            party(0|1|2, 5) = 0
            pay(0, 3, 5, 7) = NONE, unchanged
            pay(0, 0, 5, 7) = REFUSED, unchanged
            pay(0, 2, 0, 7) = REFUSED, unchanged
            pay(0, 2, 256, 7) = REFUSED, unchanged
            pay(6, 2, 5, 7) = REFUSED, unchanged
            pay(0, 6, 5, 7) = REFUSED, unchanged
            channel(0|1, 3) = 0
            pay(0, 2, 50, 7) = 51
            party(2, 5) = 128
            pay(0, 1, 1, 7) = REFUSED, unchanged
            """, """
            pay(0, 1, 1, 0|1|2|3|4|5|6|7|8|9|10|11|12|13|14|15) = NONE, unchanged
            open(0, 1, 100, 0) = 0
            open(0, 1, 100, 0) = 1
            open(0, 1, 100, 0) = 2
            open(0, 1, 100, 0) = 3
            open(0, 1, 100, 0) = 4
            open(0, 1, 100, 0) = 5
            pay(0, 1, 1, 0|1|2|3|4|5|6|7|8|9|10|11|12|13|14|15) = 1
            pay(0, 1, 1, 0|1|2|3|4|5|6|7|8|9|10|11|12|13|14|15) = REFUSED, unchanged
            """);
    }

    private static void renewWithinCoins() {
        DOC.says("Promise 17", "renew: x and y may not be above the COINS of their sides.", """
            open(0, 1, 300, 100) = 0
            renew(0, 701, 0|-100) = false, unchanged
            renew(0, 0|-300, 901) = false, unchanged
            renew(0, 701, 901) = false, unchanged
            renew(0, 700, 901) = false, unchanged
            renew(0, 701, 900) = false, unchanged
            renew(0, 700, 900) = true
            state(0, 0, *) = 1000 1000 0
            party(0|1, 0) = 0
            renew(0, 1, -1) = false, unchanged
            renew(0, -1, 1) = false, unchanged
            renew(0, -1, 0) = true
            renew(0, 2, 0) = false, unchanged
            renew(0, 1, 0) = true
            """, """
            open(0, 1, 300, 100) = 0
            renew(0, 700, -100) = true
            renew(0, -1000, 1000) = true
            state(0, 0, *) = 0 1000 0
            party(0, 0) = 1000
            party(1, 0) = 0
            """);
    }

    private static void publishOffline() {
        String offline = """
            open(3, 1, 300, 100) = 0
            pay(3, 1, 50, 0) = 50
            """;
        DOC.says("Promise 17", "publish: the party need not be ONLINE, nor the other one.", offline + """
            online(3, false) = true
            publish(3, 0, 1) = true
            channel(0, *) = 1 3 1 1 1 3 0 250 1
            """, offline + """
            online(1, false) = true
            publish(3, 0, 1) = true
            channel(0, *) = 1 3 1 1 1 3 0 250 1
            """, offline + """
            online(1|3, false) = true
            publish(1, 0, 1) = true
            channel(0, *) = 1 3 1 1 1 1 0 100 1
            party(3, 0) = 950
            block(20) = 20
            channel(0, *) = 1 3 1 1 1 1 0 100 1
            """, offline + """
            publish(1, 0, 1) = true
            channel(0, *) = 1 3 1 1 1 1 0 100 1
            """);
    }

    private static void eachIsAChange() {
        DOC.says("Promise 17", "To ADD, to SETTLE and to FAIL a lock is each a CHANGE of its own, and is done to the state that it makes", """
            open(0, 1, 100, 100) = 0
            pay(0, 1, 20, 0) = 20
            channel(0, 3) = 1
            state(0, 0, *) = 100 100 0
            state(0, 1, *) = 80 100 1
            pay(1, 0, 7, 1) = 7
            channel(0, 3) = 2
            state(0, 1, *) = 80 100 1
            state(0, 2, *) = 80 93 2
            online(0|1, false) = true
            block(4) = 4
            channel(0, 3) = 2
            online(0|1, true) = true
            block(1) = 5
            channel(0, 3) = 4
            state(0, 2, *) = 80 93 2
            state(0, 3, *) = 100 93 1
            state(0, 4, *) = 107 93 0
            """);
        DOC.says("Promise 17", "two locks that are SETTLED in one TURN make two further states", """
            open(0, 1, 100, 100) = 0
            pay(0, 1, 20, 0) = 20
            pay(0, 1, 7, 1) = 7
            channel(0, 3) = 2
            block(1) = 1
            channel(0, 3) = 4
            state(0, 2, *) = 73 100 2
            state(0, 3, *) = 73 120 1
            state(0, 4, *) = 73 127 0
            state(0, 5, 0|1|2) = NONE
            """);
    }

    private static void calls() {
        StringBuilder run = new StringBuilder();
        for (int i = 1; i <= 499; i++) {
            run.append("block(20) = ").append(20 * i).append('\n');
        }
        run.append("""
            open(0, 1, 300, 100) = 0
            pay(0, 1, 50, 15) = 50
            lock(0, 1, 0, *) = 0 50 15 9983
            block(1) = 9981
            state(0, 2, *) = 250 150 0
            publish(0, 0, 2) = true
            channel(0, 6) = 9981
            """);
        run.append("party(0, 0) = 700\n");
        DOC.says("What it is", "An object is used for at most 512 calls after it has been made", run.toString());
    }
}
