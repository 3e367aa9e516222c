/** The guards: the last part of THE TURN in the section 'Terms'. */
public final class GuardTest {
    private static final Sentences DOC = new Sentences("GuardTest");
    /** Party 1 can publish state 0, which gives it 20 and is old, against party 0, whose guard is 2. */
    private static final String GUARDED = """
        open(0, 1, 100, 20) = 0
        terms(0, 1, 0, 2) = true
        pay(1, 0, 5, 0) = 5
        block(1) = 1
        """;

    public static void main(String[] args) {
        notOnline();
        whoseGuard();
        guardsTurn();
        atLast();
        closedOnly();
        publishedByTheOther();
        notByTheLatest();
        tenth();
        tenthOfEach();
        DOC.end();
    }

    private static void notOnline() {
        DOC.says("Terms", "for each party that is not ONLINE and whose GUARD it is", GUARDED + """
            online(0, false) = true
            publish(1, 0, 0) = true
            block(1) = 2
            channel(0, *) = 1 0 1 2 0 1 1 0 0
            party(0, 0) = 1018
            party(1, 0) = 980
            party(2, 0) = 1002
            block(20) = 22
            party(0, 0) = 1018
            party(1, 0) = 980
            party(2, 0) = 1002
            """, GUARDED + """
            publish(1, 0, 0) = true
            block(1) = 2
            channel(0, 7) = 0
            party(0, 0) = 1020
            party(2, 0) = 1000
            """, """
            open(2, 1, 100, 20) = 0
            terms(2, 1, 0, 0) = true
            pay(1, 2, 5, 0) = 5
            block(1) = 1
            publish(1, 0, 0) = true
            block(1) = 2
            party(2, 0) = 1020
            party(0, 0) = 1000
            """, """
            open(2, 1, 100, 20) = 0
            terms(2, 1, 0, 0) = true
            pay(1, 2, 5, 0) = 5
            block(1) = 1
            online(2, false) = true
            publish(1, 0, 0) = true
            block(1) = 2
            party(2, 0) = 1018
            party(0, 0) = 1002
            """);
    }

    private static void whoseGuard() {
        DOC.says("Terms", "and whose GUARD it is, by numbers", GUARDED + """
            terms(0, 1, 0, -1) = true
            online(0, false) = true
            publish(1, 0, 0) = true
            block(2) = 3
            channel(0, 7) = 20
            block(1) = 4
            party(0, 0) = 1000
            party(1, 0) = 1000
            party(2, 0) = 1000
            """, GUARDED + """
            online(0, false) = true
            publish(1, 0, 0) = true
            terms(0, 1, 0, 5) = true
            block(1) = 2
            party(0, 0) = 1018
            party(2|3|4, 0) = 1000
            party(5, 0) = 1002
            """, """
            open(0, 1, 100, 20) = 0
            open(3, 4, 100, 40) = 1
            terms(0|3, 1, 0, 2) = true
            pay(1, 0, 5, 0) = 5
            pay(4, 3, 5, 1) = 5
            block(1) = 1
            online(0|3, false) = true
            publish(1, 0, 0) = true
            publish(4, 1, 0) = true
            block(1) = 2
            party(0, 0) = 1018
            party(3, 0) = 1036
            party(2, 0) = 1006
            """, """
            open(0, 1, 100, 20) = 0
            terms(2, 1, 0, 0) = true
            terms(1, 1, 0, 3) = true
            pay(1, 0, 5, 0) = 5
            block(1) = 1
            online(0|2, false) = true
            publish(1, 0, 0) = true
            block(1) = 2
            channel(0, 7) = 20
            party(2|3, 0) = 1000
            """);
    }

    private static void guardsTurn() {
        String low = """
            open(2, 1, 100, 20) = 0
            terms(2, 1, 0, 0) = true
            pay(1, 2, 5, 0) = 5
            block(1) = 1
            online(2|0, false) = true
            publish(1, 0, 0) = true
            block(2) = 3
            channel(0, 7) = 20
            """;
        String high = GUARDED + """
            online(0|2, false) = true
            publish(1, 0, 0) = true
            """;
        DOC.says("Promise 11", "all parties that are ONLINE have their TURN, by numbers", low + """
            online(0, true) = true
            block(1) = 4
            party(0, 0) = 1002
            party(1, 0) = 980
            party(2, 0) = 1018
            """, high + """
            block(2) = 3
            channel(0, 7) = 20
            online(2, true) = true
            block(1) = 4
            party(0|1|2, 0) = 1000
            """, high + """
            block(1) = 2
            online(2, true) = true
            block(1) = 3
            party(0, 0) = 1018
            party(1, 0) = 980
            party(2, 0) = 1002
            """);
    }

    private static void atLast() {
        String guardCheats = """
            open(0, 1, 300, 100) = 0
            terms(0, 1, 0, 1) = true
            pay(1, 0, 10, 0) = 10
            block(1) = 1
            online(0, false) = true
            publish(1, 0, 0) = true
            """;
        DOC.says("Terms", "At last, for each party that is not ONLINE and whose GUARD it is", guardCheats + """
            block(1) = 2
            channel(0, 7) = 0
            party(0, 0) = 1090
            party(1, 0) = 910
            """, guardCheats + """
            online(1, false) = true
            block(1) = 2
            online(1, true) = true
            block(1) = 3
            party(0, 0) = 1090
            party(1, 0) = 910
            """, guardCheats + """
            online(1, false) = true
            block(2) = 3
            channel(0, 7) = 100
            online(1, true) = true
            block(1) = 4
            channel(0, 7) = 0
            party(0|1, 0) = 1000
            """);
    }

    private static void closedOnly() {
        DOC.says("Terms", "channel by channel of that one, by numbers, CLOSED", GUARDED + """
            open(0, 3, 50, 50) = 1
            close(1) = true
            online(0, false) = true
            block(5) = 6
            channel(0, 0) = 0
            channel(1, 0) = 2
            state(0, 2, *) = 105 15 0
            party(2, 0) = 1000
            """, """
            open(0, 1, 100, 20) = 0
            open(3, 0, 30, 100) = 1
            open(0, 4, 100, 40) = 2
            open(1, 4, 100, 100) = 3
            terms(0, 1, 0, 2) = true
            pay(1, 0, 5, 0) = 5
            pay(3, 0, 5, 1) = 5
            pay(4, 0, 5, 2) = 5
            pay(1, 4, 5, 3) = 5
            block(1) = 1
            online(0|4, false) = true
            publish(1, 0, 0) = true
            publish(3, 1, 0) = true
            publish(1, 3, 0) = true
            block(1) = 2
            channel(0|1, 7) = 0
            channel(2, 0) = 0
            channel(3, 7) = 100
            party(0, 0) = 945
            party(2, 0) = 1005
            """);
    }

    private static void publishedByTheOther() {
        DOC.says("Terms", "published by the other side", GUARDED + """
            online(0|1, false) = true
            publish(0, 0, 0) = true
            block(1) = 2
            channel(0, *) = 1 0 1 2 0 0 1 100 0
            party(2, 0) = 1000
            """, GUARDED + """
            terms(1, 1, 0, 2) = true
            online(0|1, false) = true
            publish(0, 0, 0) = true
            block(1) = 2
            channel(0, *) = 1 0 1 2 0 0 1 0 0
            party(0, 0) = 900
            party(1, 0) = 1090
            party(2, 0) = 1010
            """);
    }

    private static void notByTheLatest() {
        DOC.says("Terms", "and not by the LATEST state: that one PUNISHES", GUARDED + """
            online(0, false) = true
            publish(1, 0, 2) = true
            block(1) = 2
            channel(0, *) = 1 0 1 2 2 1 1 15 0
            party(0, 0) = 1005
            party(2, 0) = 1000
            block(2) = 4
            party(1, 0) = 995
            """, GUARDED + """
            online(0, false) = true
            publish(1, 0, 1) = true
            channel(0, *) = 1 0 1 2 1 1 1 15 1
            block(1) = 2
            channel(0, *) = 1 0 1 2 1 1 1 0 0
            party(0, 0) = 1018
            party(1, 0) = 980
            party(2, 0) = 1002
            """);
    }

    private static void tenth() {
        int[][] gainAndFee = {{1, 0}, {9, 0}, {10, 1}, {11, 1}, {19, 1}, {20, 2}, {99, 9}, {100, 10}, {1000, 100}};
        String[] runs = new String[gainAndFee.length];
        for (int i = 0; i < runs.length; i++) {
            int gain = gainAndFee[i][0];
            int fee = gainAndFee[i][1];
            runs[i] = String.format("open(0, 1, 100, %d) = 0%n", gain) + """
                terms(0, 1, 0, 2) = true
                pay(1, 0, 1, 0) = 1
                block(1) = 1
                online(0, false) = true
                publish(1, 0, 0) = true
                block(1) = 2
                """ + String.format("party(0, 0) = %d%nparty(1, 0) = %d%nparty(2, 0) = %d%n", 1000 + gain - fee, 1000 - gain, 1000 + fee);
        }
        DOC.says("Terms", "and pays a tenth (without fraction) of what it gets by that to the GUARD", runs);
    }

    private static void tenthOfEach() {
        DOC.says("Terms", "a tenth (without fraction) of what it gets by that", """
            open(0, 1, 100, 19) = 0
            open(3, 0, 19, 100) = 1
            terms(0, 1, 0, 2) = true
            pay(1, 0, 1, 0) = 1
            pay(3, 0, 1, 1) = 1
            block(1) = 1
            online(0, false) = true
            publish(1, 0, 0) = true
            publish(3, 1, 0) = true
            block(1) = 2
            party(0, 0) = 1036
            block(1) = 3
            party(0, 0) = 1036
            party(2, 0) = 1002
            """, """
            open(0, 1, 100, 20) = 0
            terms(0, 1, 0, 2) = true
            pay(1, 0, 6, 0) = 6
            pay(0, 1, 7, 1) = 7
            pay(1, 0, 3, 2) = 3
            block(1) = 1
            online(0, false) = true
            publish(1, 0, 3) = true
            channel(0, *) = 1 0 1 6 3 1 1 11 3
            block(1) = 2
            channel(0, *) = 1 0 1 6 3 1 1 0 0
            party(0, 0) = 1018
            party(1, 0) = 980
            party(2, 0) = 1002
            """);
    }
}
