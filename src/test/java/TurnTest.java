/** The turns: THE TURN in the section 'Terms', and promise 11. */
public final class TurnTest {
    private static final Sentences DOC = new Sentences("TurnTest");

    public static void main(String[] args) {
        channelByChannel();
        settles();
        publishesBeforeExpiry();
        fails();
        publishesAfterExpiry();
        firstLockAgainAndAgain();
        whileOpen();
        closedThen();
        punishes();
        claimsInsteadOfPunishing();
        claims();
        takesBack();
        getsWhatIsHeld();
        block();
        blockNumbers();
        DOC.end();
    }

    private static void channelByChannel() {
        DOC.says("Terms", "THE TURN of a party: channel by channel that it has a side of, by numbers", """
            open(0, 1, 100, 100) = 0
            open(2, 0, 100, 100) = 1
            open(1, 2, 100, 100) = 2
            open(0, 3, 100, 100) = 3
            open(0, 1, 100, 100) = 4
            open(0, 1, 100, 100) = 5
            open(0, 1, 100, 100) = 6
            open(5, 0, 100, 100) = 7
            pay(1, 0, 10, 0) = 10
            pay(2, 0, 10, 1) = 10
            pay(3, 0, 10, 2) = 10
            pay(5, 0, 10, 3) = 10
            pay(1, 2, 10, 4) = 10
            online(2, false) = true
            block(1) = 1
            state(0, 2, *) = 110 90 0
            channel(1, 3) = 1
            channel(2, 3) = 1
            state(3, 2, *) = 110 90 0
            channel(4|5|6, 3) = 0
            state(7, 2, *) = 90 110 0
            """);
    }

    private static void settles() {
        DOC.says("Terms", "a lock to the party, which KNOWS its secret, is SETTLED if the channel is READY and a CHANGE CAN be made", """
            open(0, 1, 300, 100) = 0
            open(1, 2, 200, 50) = 1
            pay(0, 2, 20, 3) = 21
            block(1) = 1
            state(1, 2, *) = 180 70 0
            channel(0, 3) = 1
            party(1, 5) = 8
            party(0, 5) = 0
            block(1) = 2
            state(0, 2, *) = 279 121 0
            party(0, 5) = 8
            block(5) = 7
            channel(0|1, 3) = 2
            """, """
            open(1, 0, 100, 10) = 0
            pay(1, 0, 20, 2) = 20
            online(0|1, false) = true
            block(9) = 9
            online(0|1, true) = true
            block(1) = 10
            state(0, 2, *) = 80 30 0
            channel(0, 0) = 0
            """, """
            open(0, 1, 100, 10) = 0
            pay(0, 1, 20, 2) = 20
            online(0, false) = true
            block(1) = 1
            channel(0, 3) = 1
            online(0, true) = true
            online(1, false) = true
            block(1) = 2
            channel(0, 3) = 1
            online(1, true) = true
            pay(0, 1, 5, 3) = 5
            channel(0, 3) = 2
            """);
    }

    private static void publishesBeforeExpiry() {
        DOC.says("Terms", "else, if its EXPIRY is not above HEIGHT + 1, the party PUBLISHES the LATEST state", """
            open(0, 1, 100, 10) = 0
            pay(0, 1, 20, 2) = 20
            online(0, false) = true
            block(1) = 1
            channel(0, 0) = 0
            channel(0, 3) = 1
            block(1) = 2
            channel(0, *) = 1 0 1 1 1 1 2 30 0
            party(0, 0) = 980
            party(0, 5) = 4
            party(1, 0) = 990
            block(3) = 5
            party(1, 0) = 1020
            """, """
            open(1, 0, 100, 10) = 0
            pay(1, 0, 20, 2) = 20
            online(1, false) = true
            block(1) = 1
            channel(0, 0) = 0
            block(1) = 2
            channel(0, *) = 1 1 0 1 1 0 2 30 0
            """, """
            open(0, 1, 100, 10) = 0
            pay(0, 1, 20, 2) = 20
            online(0|1, false) = true
            block(9) = 9
            channel(0, 0) = 0
            online(1, true) = true
            block(1) = 10
            channel(0, *) = 1 0 1 1 1 1 10 30 0
            """, "open(0, 1, 300, 300) = 0\n" + Sentences.settled(0, 1, 5) + """
            pay(0, 1, 10, 5) = 10
            channel(0, 3) = 11
            block(1) = 6
            channel(0, 0) = 0
            block(1) = 7
            channel(0, *) = 1 0 1 11 11 1 7 360 0
            party(0, 0) = 940
            state(0, 10, *) = 250 350 0
            state(0, 11, *) = 240 350 1
            lock(0, 11, 0, *) = 0 10 5 8
            """, """
            open(0, 1, 100, 0) = 0
            open(1, 2, 100, 0) = 1
            pay(0, 2, 20, 2) = 21
            online(0|2, false) = true
            block(20) = 20
            channel(0, 0) = 0
            channel(0, 3) = 1
            party(1, 5) = 0
            """, """
            open(1, 0, 200, 200) = 0
            open(0, 2, 200, 0) = 1
            open(2, 3, 200, 0) = 2
            pay(1, 3, 10, 0) = 12
            online(1, false) = true
            block(3) = 3
            party(0, 5) = 1
            block(4) = 7
            channel(0, 0) = 0
            block(1) = 8
            channel(0, *) = 1 1 0 1 1 0 8 212 0
            """);
    }

    private static void fails() {
        DOC.says("Terms", "a lock from the party whose EXPIRY is not above HEIGHT FAILS, if it is READY and a CHANGE CAN be made", """
            open(0, 1, 100, 0) = 0
            open(1, 2, 100, 0) = 1
            pay(0, 2, 20, 2) = 21
            online(2, false) = true
            block(5) = 5
            channel(0, 3) = 1
            block(1) = 6
            channel(0, 0) = 0
            channel(0, 3) = 2
            state(0, 1, *) = 79 0 1
            state(0, 2, *) = 100 0 0
            party(0|1, 5) = 0
            block(1) = 7
            channel(0, 3) = 2
            """, """
            open(2, 1, 100, 0) = 0
            open(1, 0, 100, 0) = 1
            pay(2, 0, 20, 2) = 21
            online(0, false) = true
            block(5) = 5
            channel(0, 3) = 1
            block(1) = 6
            channel(0, 0) = 0
            state(0, 2, *) = 100 0 0
            """, """
            open(0, 1, 100, 10) = 0
            pay(0, 1, 20, 2) = 20
            online(0|1, false) = true
            block(9) = 9
            online(0|1, true) = true
            block(1) = 10
            state(0, 2, *) = 100 10 0
            channel(0, 0) = 0
            party(0, 5) = 0
            """, """
            open(0, 1, 100, 10) = 0
            pay(0, 1, 20, 2) = 20
            online(0|1, false) = true
            block(1) = 1
            online(0|1, true) = true
            block(1) = 2
            state(0, 2, *) = 80 30 0
            """, """
            open(0, 1, 100, 10) = 0
            pay(0, 1, 20, 2) = 20
            online(0|1, false) = true
            block(2) = 2
            online(0|1, true) = true
            block(1) = 3
            state(0, 2, *) = 100 10 0
            """);
    }

    private static void publishesAfterExpiry() {
        DOC.says("Terms", "FAILS, if it is READY and a CHANGE CAN be made, else the party PUBLISHES the LATEST state.", """
            open(1, 2, 100, 10) = 0
            pay(1, 2, 20, 2) = 20
            online(2, false) = true
            block(2) = 2
            channel(0, 0) = 0
            block(1) = 3
            channel(0, *) = 1 1 2 1 1 1 3 100 0
            party(2, 0) = 1000
            block(2) = 5
            party(1, 0) = 900
            block(1) = 6
            party(1, 0) = 1000
            """, """
            open(2, 1, 10, 100) = 0
            pay(1, 2, 20, 2) = 20
            online(1|2, false) = true
            block(9) = 9
            channel(0, 0) = 0
            online(1, true) = true
            block(1) = 10
            channel(0, *) = 1 2 1 1 1 1 10 100 0
            """, "open(0, 1, 300, 100) = 0\nopen(1, 2, 300, 0) = 1\n" + Sentences.settled(0, 1, 5) + """
            pay(0, 2, 20, 5) = 21
            online(2, false) = true
            channel(0, 3) = 11
            block(5) = 10
            channel(0, 0) = 0
            block(1) = 11
            channel(0, *) = 1 0 1 11 11 0 11 250 0
            state(0, 11, *) = 229 150 1
            party(1, 0) = 1050
            """);
    }

    private static void firstLockAgainAndAgain() {
        DOC.says("Terms", "the first lock in the LATEST row to which one of these applies, again and again", """
            open(0, 1, 100, 100) = 0
            pay(0, 1, 20, 0) = 20
            pay(1, 0, 7, 1) = 7
            online(0|1, false) = true
            block(4) = 4
            online(0|1, true) = true
            block(1) = 5
            state(0, 3, *) = 100 93 1
            lock(0, 3, 0, *) = 1 7 1 3
            state(0, 4, *) = 107 93 0
            channel(0, 3) = 4
            """, """
            open(0, 1, 100, 100) = 0
            pay(1, 0, 7, 0) = 7
            pay(0, 1, 20, 1) = 20
            online(0|1, false) = true
            block(4) = 4
            online(0|1, true) = true
            block(1) = 5
            state(0, 3, *) = 87 93 1
            lock(0, 3, 0, *) = 0 20 1 3
            state(0, 4, *) = 107 93 0
            channel(0, 3) = 4
            """, """
            open(1, 0, 300, 100) = 0
            pay(1, 0, 10, 0) = 10
            pay(1, 0, 20, 1) = 20
            pay(1, 0, 40, 2) = 40
            online(1, false) = true
            block(1) = 1
            channel(0, 3) = 3
            online(1, true) = true
            block(1) = 2
            state(0, 4, *) = 230 110 2
            state(0, 5, *) = 230 130 1
            state(0, 6, *) = 230 170 0
            channel(0, 3) = 6
            """, "open(0, 1, 300, 300) = 0\n" + Sentences.settled(0, 1, 4) + """
            pay(0, 1, 20, 4) = 20
            pay(0, 1, 30, 5) = 30
            online(1, false) = true
            block(1) = 5
            online(1, true) = true
            block(1) = 6
            state(0, 11, *) = 210 360 1
            channel(0, *) = 1 0 1 11 11 1 6 390 0
            """, """
            open(1, 0, 200, 200) = 0
            open(0, 2, 200, 0) = 1
            open(2, 3, 200, 0) = 2
            pay(1, 3, 10, 0) = 12
            pay(0, 1, 20, 1) = 20
            online(1, false) = true
            block(2) = 2
            channel(0, 0) = 0
            party(0, 5) = 1
            block(1) = 3
            channel(0, *) = 1 1 0 2 2 0 3 212 0
            party(1, 0) = 988
            party(1, 5) = 3
            """);
    }

    private static void whileOpen() {
        DOC.says("Terms", "While it is OPEN", """
            open(0, 1, 100, 100) = 0
            pay(1, 0, 7, 0) = 7
            pay(1, 0, 8, 1) = 8
            pay(0, 1, 9, 2) = 9
            online(1, false) = true
            block(2) = 2
            channel(0, *) = 1 0 1 3 3 0 2 106 1
            lock(0, -1, 0, *) = 0 9 2 3
            party(1, 0) = 985
            block(1) = 3
            channel(0, *) = 1 0 1 3 3 0 2 115 0
            block(1) = 4
            party(0, 0) = 900
            block(1) = 5
            party(0, 0) = 1015
            party(1, 0) = 985
            """, """
            open(0, 1, 100, 100) = 0
            pay(1, 0, 7, 0) = 7
            publish(1, 0, 1) = true
            block(1) = 1
            channel(0, *) = 1 0 1 1 1 1 0 93 0
            state(0, 2, 0|1|2) = NONE
            """, """
            open(0, 1, 100, 100) = 0
            close(0) = true
            block(20) = 20
            party(0|1, 0) = 1000
            channel(0, 0) = 2
            """);
    }

    private static void closedThen() {
        DOC.says("Terms", "If it is CLOSED (then)", """
            open(1, 2, 100, 10) = 0
            pay(1, 2, 20, 2) = 20
            online(2, false) = true
            block(3) = 3
            channel(0, *) = 1 1 2 1 1 1 3 100 0
            """, """
            open(1, 0, 300, 100) = 0
            pay(1, 0, 10, 0) = 10
            pay(1, 0, 20, 1) = 20
            pay(1, 0, 40, 2) = 40
            online(0, false) = true
            block(2) = 2
            channel(0, 0) = 0
            block(1) = 3
            channel(0, *) = 1 1 0 3 3 1 3 300 0
            """, "open(0, 1, 300, 300) = 0\n" + Sentences.settled(0, 1, 4) + """
            pay(1, 0, 20, 4) = 20
            pay(0, 1, 30, 5) = 30
            pay(1, 0, 40, 6) = 40
            block(1) = 5
            channel(0, 0) = 0
            block(1) = 6
            channel(0, *) = 1 0 1 11 11 0 6 290 0
            party(1, 0) = 1010
            party(0|1, 5) = 127
            block(3) = 9
            party(0, 0) = 990
            """);
    }

    private static void punishes() {
        String twoStates = """
            open(0, 1, 300, 100) = 0
            pay(0, 1, 50, 0) = 50
            block(1) = 1
            channel(0, 3) = 2
            """;
        DOC.says("Terms", "is the party not the PUBLISHER, and the state that was published not the LATEST one, it PUNISHES.",
            twoStates + """
            publish(0, 0, 2) = true
            block(1) = 2
            channel(0, *) = 1 0 1 2 2 0 1 250 0
            party(1, 0) = 1050
            block(2) = 4
            party(0, 0) = 950
            party(1, 0) = 1050
            """, twoStates + """
            publish(0, 0, 1) = true
            channel(0, *) = 1 0 1 2 1 0 1 250 1
            block(1) = 2
            channel(0, *) = 1 0 1 2 1 0 1 0 0
            party(0, 0) = 700
            party(1, 0) = 1300
            """, twoStates + """
            publish(0, 0, 0) = true
            block(1) = 2
            channel(0, *) = 1 0 1 2 0 0 1 0 0
            party(0, 0) = 700
            party(1, 0) = 1300
            """, twoStates + """
            publish(1, 0, 1) = true
            block(1) = 2
            channel(0, *) = 1 0 1 2 1 1 1 0 0
            party(0, 0) = 1100
            party(1, 0) = 900
            """, """
            open(0, 1, 300, 100) = 0
            publish(0, 0, 0) = true
            block(1) = 1
            channel(0, *) = 1 0 1 0 0 0 0 300 0
            """, twoStates + """
            online(1, false) = true
            publish(0, 0, 0) = true
            block(2) = 3
            channel(0, 7) = 300
            block(1) = 4
            party(0, 0) = 1000
            channel(0, 7) = 0
            online(1, true) = true
            block(1) = 5
            party(0|1, 0) = 1000
            """, """
            open(0, 1, 100, 0) = 0
            open(1, 2, 100, 0) = 1
            pay(0, 2, 20, 2) = 21
            online(2, false) = true
            block(6) = 6
            state(0, 2, *) = 100 0 0
            publish(0, 0, 0) = true
            block(1) = 7
            channel(0, *) = 1 0 1 2 0 0 6 0 0
            party(0, 0) = 900
            party(1, 0) = 1100
            """);
    }

    private static void claimsInsteadOfPunishing() {
        DOC.says("Terms", "it PUNISHES. Else, in their order, it CLAIMS outputs", """
            open(0, 1, 300, 100) = 0
            pay(0, 1, 50, 0) = 50
            pay(0, 1, 20, 1) = 20
            publish(0, 0, 1) = true
            block(1) = 1
            channel(0, *) = 1 0 1 2 1 0 0 0 0
            party(0, 5) = 0
            party(1, 0) = 1300
            """, """
            open(0, 1, 300, 100) = 0
            pay(0, 1, 50, 0) = 50
            pay(0, 1, 20, 1) = 20
            publish(0, 0, 2) = true
            block(1) = 1
            channel(0, *) = 1 0 1 2 2 0 0 230 0
            party(0, 5) = 3
            party(1, 0) = 1070
            """);
    }

    private static void claims() {
        DOC.says("Terms", "in their order, it CLAIMS outputs to it whose secret it KNOWS", """
            open(1, 0, 300, 100) = 0
            pay(1, 0, 10, 0) = 10
            pay(1, 0, 20, 1) = 20
            pay(1, 0, 40, 2) = 40
            publish(1, 0, 3) = true
            block(1) = 1
            channel(0, *) = 1 1 0 3 3 1 0 230 0
            party(0, 0) = 1070
            party(1, 5) = 7
            """, """
            open(0, 1, 100, 0) = 0
            open(1, 2, 100, 0) = 1
            pay(0, 2, 20, 6) = 21
            pay(0, 1, 5, 7) = 5
            publish(0, 0, 2) = true
            block(1) = 1
            channel(0, *) = 1 0 1 2 2 0 0 74 1
            lock(0, -1, 0, *) = 0 21 6 6
            party(1, 0) = 905
            block(1) = 2
            channel(0, *) = 1 0 1 2 2 0 0 74 0
            party(1, 0) = 926
            party(0, 5) = 192
            """, """
            open(0, 1, 100, 0) = 0
            open(1, 2, 100, 0) = 1
            pay(0, 2, 20, 6) = 21
            online(2, false) = true
            publish(1, 0, 1) = true
            party(0, 0) = 979
            block(5) = 5
            channel(0, 8) = 1
            block(1) = 6
            channel(0, 8) = 0
            party(0, 0) = 1000
            party(0|1, 5) = 0
            """, """
            open(1, 0, 100, 0) = 0
            pay(1, 0, 20, 2) = 20
            publish(1, 0, 1) = true
            online(0, false) = true
            block(2) = 2
            online(0, true) = true
            block(1) = 3
            party(0, 0) = 1020
            party(1, 0) = 980
            party(1, 5) = 4
            """);
    }

    private static void takesBack() {
        DOC.says("Terms", "and TAKES outputs from it BACK whose EXPIRY is not above HEIGHT", """
            open(0, 1, 100, 0) = 0
            pay(0, 1, 20, 2) = 20
            online(1, false) = true
            block(1) = 1
            publish(0, 0, 1) = true
            block(1) = 2
            channel(0, *) = 1 0 1 1 1 0 1 80 1
            block(1) = 3
            channel(0, *) = 1 0 1 1 1 0 1 100 0
            """, """
            open(0, 1, 100, 0) = 0
            pay(0, 1, 20, 2) = 20
            online(1, false) = true
            publish(1, 0, 1) = true
            block(2) = 2
            channel(0, *) = 1 0 1 1 1 1 0 0 1
            party(0, 0) = 980
            block(1) = 3
            channel(0, *) = 1 0 1 1 1 1 0 0 0
            party(0, 0) = 1000
            """, """
            open(0, 1, 100, 0) = 0
            pay(0, 1, 20, 2) = 20
            publish(0, 0, 1) = true
            online(0|1, false) = true
            block(9) = 9
            channel(0, *) = 1 0 1 1 1 0 0 80 1
            online(0|1, true) = true
            block(1) = 10
            channel(0, *) = 1 0 1 1 1 0 0 0 0
            party(0|1, 0) = 1000
            party(0, 5) = 0
            """, """
            open(0, 1, 300, 0) = 0
            open(1, 2, 300, 0) = 1
            open(2, 3, 300, 0) = 2
            pay(0, 3, 10, 0) = 12
            pay(0, 2, 20, 1) = 21
            pay(0, 3, 30, 2) = 32
            online(2|3, false) = true
            publish(0, 0, 3) = true
            block(5) = 5
            channel(0, 8) = 3
            block(1) = 6
            channel(0, 8) = 2
            lock(0, -1, 0, *) = 0 12 0 9
            lock(0, -1, 1, *) = 0 32 2 9
            block(2) = 8
            channel(0, 8) = 2
            block(1) = 9
            channel(0, 8) = 0
            party(0, 0) = 1000
            """);
    }

    private static void getsWhatIsHeld() {
        DOC.says("Terms", "then, if it is the PUBLISHER and HEIGHT is at least 3 above that of publishing, "
            + "what is HELD comes to its COINS, and nothing is HELD.", """
            open(0, 1, 300, 100) = 0
            block(4) = 4
            publish(0, 0, 0) = true
            block(2) = 6
            channel(0, *) = 1 0 1 0 0 0 4 300 0
            party(0, 0) = 700
            party(1, 0) = 1000
            block(1) = 7
            channel(0, *) = 1 0 1 0 0 0 4 0 0
            party(0|1, 0) = 1000
            block(20) = 27
            party(0|1, 0) = 1000
            """, """
            open(0, 1, 300, 100) = 0
            publish(0, 0, 0) = true
            online(0, false) = true
            block(9) = 9
            channel(0, 7) = 300
            party(0, 0) = 700
            party(1, 0) = 1000
            online(0, true) = true
            block(1) = 10
            channel(0, 7) = 0
            party(0|1, 0) = 1000
            """, """
            open(0, 1, 300, 100) = 0
            publish(1, 0, 0) = true
            block(2) = 2
            channel(0, 7) = 100
            party(1, 0) = 900
            block(1) = 3
            channel(0, 7) = 0
            party(0|1, 0) = 1000
            """, """
            open(0, 1, 100, 0) = 0
            open(1, 2, 100, 0) = 1
            pay(0, 2, 20, 6) = 21
            online(2, false) = true
            publish(1, 0, 1) = true
            block(1) = 1
            online(2, true) = true
            block(1) = 2
            channel(0, *) = 1 0 1 1 1 1 0 0 1
            block(1) = 3
            channel(0, *) = 1 0 1 1 1 1 0 0 0
            party(1, 0) = 921
            """);
    }

    private static void block() {
        DOC.says("Promise 11", "HEIGHT grows by 1, and all parties that are ONLINE have their TURN, by numbers", """
            open(2, 1, 300, 100) = 0
            open(1, 0, 200, 50) = 1
            pay(2, 0, 20, 3) = 21
            block(1) = 1
            state(1, 2, *) = 180 70 0
            state(0, 2, *) = 279 121 0
            party(2, 5) = 8
            """, """
            open(0, 1, 300, 100) = 0
            open(1, 2, 200, 50) = 1
            pay(0, 2, 20, 3) = 21
            block(1) = 1
            channel(1, 3) = 2
            channel(0, 3) = 1
            block(1) = 2
            channel(0, 3) = 2
            """, """
            open(5, 4, 300, 100) = 0
            pay(5, 4, 20, 3) = 20
            pay(4, 5, 30, 4) = 30
            block(1) = 1
            state(0, 3, *) = 280 90 1
            state(0, 4, *) = 310 90 0
            """, """
            open(0, 5, 100, 100) = 0
            publish(0, 0, 0) = true
            open(5, 1, 100, 100) = 1
            publish(5, 1, 0) = true
            online(0, false) = true
            block(4) = 4
            channel(0, 7) = 100
            channel(1, 7) = 0
            party(5, 0) = 1000
            """);
    }

    private static void blockNumbers() {
        DOC.says("Promise 11", "and that n times, 1..20: the HEIGHT then", """
            block(1) = 1
            block(20) = 21
            block(19) = 40
            height() = 40
            """, """
            open(0, 1, 300, 100) = 0
            open(1, 2, 200, 50) = 1
            pay(0, 2, 20, 3) = 21
            publish(1, 1, 1) = true
            block(3) = 3
            channel(0, 3) = 2
            channel(1, *) = 1 1 2 1 1 1 0 0 0
            party(1, 0) = 880
            party(2, 0) = 1020
            """, """
            open(0, 1, 300, 100) = 0
            publish(0, 0, 0) = true
            block(20) = 20
            party(0, 0) = 1000
            """);
        DOC.says("Promise 11", "REFUSED, and nothing changes, for another n", """
            open(0, 1, 300, 100) = 0
            pay(0, 1, 5, 0) = 5
            block(0|-1|21|22|MIN|MAX) = REFUSED, unchanged
            height() = 0
            block(20) = 20
            block(0|21) = REFUSED, unchanged
            block(1) = 21
            """);
    }
}
