/** What lies on the chain: the section 'Terms' where it tells of publishing, claiming, taking back and punishing, and promise 10. */
public final class ChainTest {
    private static final Sentences DOC = new Sentences("ChainTest");

    public static void main(String[] args) {
        toPublish();
        toPublishAnOldState();
        whatOnesGet();
        toClaim();
        toTakeBack();
        toPunish();
        publish();
        publishRefused();
        DOC.end();
    }

    private static void toPublish() {
        DOC.says("Terms", "it is CLOSED from then on; the one who does it is its PUBLISHER; "
            + "that one's balance in the state is HELD; the other one gets its own in COINS", """
            open(0, 1, 300, 100) = 0
            publish(0, 0, 0) = true
            channel(0, *) = 1 0 1 0 0 0 0 300 0
            party(0, *) = 700 1 1 0 NONE 0 300
            party(1, *) = 1000 1 1 0 NONE 0 0
            """, """
            open(0, 1, 300, 100) = 0
            publish(1, 0, 0) = true
            channel(0, *) = 1 0 1 0 0 1 0 100 0
            party(0, *) = 1000 1 1 0 NONE 0 0
            party(1, *) = 900 1 1 0 NONE 0 100
            """, """
            open(0, 1, 300, 0) = 0
            publish(0, 0, 0) = true
            channel(0, 7) = 300
            party(1, 0) = 1000
            block(20) = 20
            channel(0, *) = 1 0 1 0 0 0 0 0 0
            """, """
            open(0, 1, 300, 0) = 0
            publish(1, 0, 0) = true
            channel(0, 7) = 0
            party(0|1, 0) = 1000
            block(20) = 20
            channel(0, *) = 1 0 1 0 0 1 0 0 0
            party(0|1, 0) = 1000
            """);
        DOC.says("Terms", "the locks of the state are OUTPUTS, in their order", """
            open(0, 1, 300, 100) = 0
            pay(0, 1, 50, 0) = 50
            pay(1, 0, 7, 1) = 7
            pay(0, 1, 30, 2) = 30
            lock(0, -1, 0, 0|1|2|3) = NONE
            publish(0, 0, 3) = true
            channel(0, *) = 1 0 1 3 3 0 0 220 3
            lock(0, -1, 0, *) = 0 50 0 3
            lock(0, -1, 1, *) = 1 7 1 3
            lock(0, -1, 2, *) = 0 30 2 3
            lock(0, -1, 3, 0|1|2|3) = NONE
            party(0, 0) = 700
            party(1, 0) = 993
            """);
    }

    private static void toPublishAnOldState() {
        DOC.says("Terms", "TO PUBLISH a state of an OPEN channel", """
            open(0, 1, 300, 100) = 0
            pay(0, 1, 50, 0) = 50
            pay(0, 1, 30, 2) = 30
            publish(1, 0, 1) = true
            channel(0, *) = 1 0 1 2 1 1 0 100 1
            lock(0, -1, 0, *) = 0 50 0 3
            lock(0, -1, 1, 0|1|2|3) = NONE
            party(0, 0) = 950
            party(1, 0) = 900
            """, """
            open(0, 1, 300, 100) = 0
            pay(0, 1, 50, 0) = 50
            block(1) = 1
            publish(0, 0, 0) = true
            channel(0, *) = 1 0 1 2 0 0 1 300 0
            party(1, 0) = 1000
            """, "open(0, 1, 300, 300) = 0\n" + Sentences.settled(0, 1, 5) + """
            pay(0, 1, 10, 5) = 10
            publish(1, 0, 11) = true
            channel(0, *) = 1 0 1 11 11 1 5 350 1
            party(0, 0) = 940
            """);
    }

    private static void whatOnesGet() {
        DOC.says("Terms", "What the PUBLISHER gets from a CLOSED channel comes to what is HELD, what the other one gets to COINS.", """
            open(0, 1, 100, 100) = 0
            pay(0, 1, 20, 2) = 20
            pay(1, 0, 7, 3) = 7
            pay(0, 1, 30, 4) = 30
            publish(0, 0, 3) = true
            channel(0, 7) = 50
            party(0, 0) = 900
            party(1, 0) = 993
            block(1) = 1
            channel(0, *) = 1 0 1 3 3 0 0 57 0
            party(0, 0) = 900
            party(0, 6) = 57
            party(1, 0) = 1043
            block(2) = 3
            channel(0, 7) = 0
            party(0, 0) = 957
            party(1, 0) = 1043
            """, """
            open(0, 1, 100, 100) = 0
            pay(0, 1, 20, 2) = 20
            pay(1, 0, 7, 3) = 7
            publish(1, 0, 2) = true
            block(1) = 1
            channel(0, *) = 1 0 1 2 2 1 0 113 0
            party(0, 0) = 987
            party(1, 0) = 900
            """);
    }

    private static void toClaim() {
        DOC.says("Terms", "To CLAIM an output: the party that it is to gets the amount, the one that it is from KNOWS the secret.", """
            open(0, 1, 100, 100) = 0
            pay(0, 1, 20, 2) = 20
            pay(1, 0, 7, 15) = 7
            publish(0, 0, 2) = true
            party(0, 5) = 32768
            party(1, 5) = 4
            block(1) = 1
            party(0|1, 5) = 32772
            channel(0, *) = 1 0 1 2 2 0 0 87 0
            party(1, 0) = 1013
            """, """
            open(0, 1, 100, 0) = 0
            open(1, 2, 100, 0) = 1
            pay(0, 2, 20, 6) = 21
            publish(1, 1, 1) = true
            publish(1, 0, 1) = true
            block(1) = 1
            channel(1, 8) = 0
            party(2, 0) = 1020
            party(1, 5) = 64
            channel(0, 8) = 1
            party(0, 5) = 0
            block(1) = 2
            channel(0, *) = 1 0 1 1 1 1 0 21 0
            party(0, 5) = 64
            block(1) = 3
            party(1, 0) = 1001
            """);
    }

    private static void toTakeBack() {
        DOC.says("Terms", "To TAKE one BACK: the party that it is from gets it.", """
            open(0, 1, 100, 100) = 0
            pay(0, 1, 7, 3) = 7
            online(1, false) = true
            block(1) = 1
            publish(0, 0, 1) = true
            channel(0, *) = 1 0 1 1 1 0 1 93 1
            block(1) = 2
            channel(0, *) = 1 0 1 1 1 0 1 93 1
            block(1) = 3
            channel(0, *) = 1 0 1 1 1 0 1 100 0
            party(0, 0) = 900
            party(0, 5) = 0
            block(1) = 4
            party(0, 0) = 1000
            """, """
            open(0, 1, 100, 100) = 0
            pay(1, 0, 7, 3) = 7
            online(0, false) = true
            publish(0, 0, 1) = true
            block(2) = 2
            party(1, 0) = 993
            lock(0, -1, 0, *) = 1 7 3 3
            block(1) = 3
            party(1, 0) = 1000
            party(1, 5) = 0
            channel(0, *) = 1 0 1 1 1 0 0 100 0
            """);
    }

    private static void toPunish() {
        DOC.says("Terms", "To PUNISH: the other one gets what is HELD and all outputs; nothing is HELD, and there are no outputs then.", """
            open(1, 0, 300, 100) = 0
            pay(1, 0, 10, 0) = 10
            pay(0, 1, 20, 1) = 20
            pay(1, 0, 40, 2) = 40
            block(1) = 1
            publish(1, 0, 3) = true
            channel(0, *) = 1 1 0 6 3 1 1 250 3
            party(0, 0) = 980
            block(1) = 2
            channel(0, *) = 1 1 0 6 3 1 1 0 0
            lock(0, -1, 0|1|2, 0|1|2|3) = NONE
            party(0, 0) = 1300
            party(1, 0) = 700
            block(20) = 22
            party(0, 0) = 1300
            party(1, 0) = 700
            """, """
            open(0, 1, 50, 0) = 0
            pay(0, 1, 50, 0) = 50
            block(1) = 1
            publish(0, 0, 1) = true
            channel(0, *) = 1 0 1 2 1 0 1 0 1
            block(1) = 2
            channel(0, *) = 1 0 1 2 1 0 1 0 0
            party(0, 0) = 950
            party(1, 0) = 1050
            """, """
            open(0, 1, 300, 100) = 0
            pay(0, 1, 50, 0) = 50
            block(1) = 1
            publish(1, 0, 0) = true
            block(1) = 2
            channel(0, *) = 1 0 1 2 0 1 1 0 0
            party(0, 0) = 1100
            party(1, 0) = 900
            """, """
            open(0, 1, 300, 100) = 0
            pay(1, 0, 40, 0) = 40
            pay(1, 0, 30, 1) = 30
            online(1, false) = true
            publish(0, 0, 1) = true
            block(1) = 1
            channel(0, *) = 1 0 1 2 1 0 0 340 0
            party(1, 5) = 1
            online(1, true) = true
            block(1) = 2
            channel(0, *) = 1 0 1 2 1 0 0 0 0
            party(0, 0) = 700
            party(1, 0) = 1300
            """);
    }

    private static void publish() {
        DOC.says("Promise 10", "A party PUBLISHES state k of an OPEN channel that it has a side of", """
            open(3, 1, 300, 100) = 0
            pay(3, 1, 50, 0) = 50
            publish(3, 0, 0) = true
            channel(0, *) = 1 3 1 1 0 3 0 300 0
            """, """
            open(3, 1, 300, 100) = 0
            pay(3, 1, 50, 0) = 50
            publish(3, 0, 1) = true
            channel(0, *) = 1 3 1 1 1 3 0 250 1
            """, """
            open(3, 1, 300, 100) = 0
            block(4) = 4
            pay(3, 1, 50, 0) = 50
            publish(1, 0, 1) = true
            channel(0, *) = 1 3 1 1 1 1 4 100 1
            party(3, 0) = 950
            """, """
            open(0, 1, 1, 1) = 0
            open(0, 1, 2, 2) = 1
            open(0, 1, 3, 3) = 2
            open(0, 1, 4, 4) = 3
            open(0, 1, 5, 5) = 4
            open(0, 1, 6, 6) = 5
            open(0, 1, 7, 7) = 6
            open(0, 1, 8, 9) = 7
            publish(1, 7, 0) = true
            channel(7, *) = 1 0 1 0 0 1 0 9 0
            channel(0|6, 0) = 0
            publish(1, 0, 0) = true
            channel(0, *) = 1 0 1 0 0 1 0 1 0
            """);
    }

    private static void publishRefused() {
        DOC.says("Promise 10", "false, and nothing changes, if it is not so", """
            publish(0, 0, 0) = false, unchanged
            open(0, 1, 300, 100) = 0
            open(1, 2, 300, 100) = 1
            open(3, 4, 10, 10) = 2
            pay(0, 1, 5, 0) = 5
            publish(0|1, 0, -1|2|11|12|MIN|MAX) = false, unchanged
            publish(2|3|4|5, 0, 0|1) = false, unchanged
            publish(-1|6|MIN|MAX, 0, 0) = false, unchanged
            publish(0|1|3, -1|3|7|8|MIN|MAX, 0) = false, unchanged
            publish(1, 1, 1) = false, unchanged
            publish(1, 1, 0) = true
            publish(1|2, 1, 0|-1|1) = false, unchanged
            close(2) = true
            publish(3|4, 2, 0|-1) = false, unchanged
            publish(1, 0, 1) = true
            publish(0|1, 0, 0|1) = false, unchanged
            block(5) = 5
            publish(0|1, 0, 0|1) = false, unchanged
            """);
    }
}
