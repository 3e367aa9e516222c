/** The channels: the section 'Terms' where it tells of them, and promises 4, 8, 9, 13, 14 and 15. */
public final class ChannelTest {
    private static final Sentences DOC = new Sentences("ChannelTest");
    private static final String TEN_STATES = "open(0, 1, 300, 300) = 0\n" + Sentences.settled(0, 1, 5);

    public static void main(String[] args) {
        channels();
        lastChannel();
        states();
        partsOfLocks();
        ready();
        change();
        canBeMade();
        addLocks();
        settleLocks();
        failLocks();
        open();
        close();
        renew();
        renewLimits();
        channel();
        state();
        lock();
        DOC.end();
    }

    /** The last channel goes through all that a channel can: the last state, three outputs, each way that they can go. */
    private static void lastChannel() {
        String sevenBefore = "";
        for (int c = 0; c < 7; c++) {
            sevenBefore += "open(4, 5, 1, 1) = " + c + "\n";
        }
        String threeLocks = sevenBefore + "open(0, 1, 300, 300) = 7\n" + Sentences.settled(0, 1, 4) + """
            pay(0, 1, 40, 4) = 40
            pay(1, 0, 50, 5) = 50
            pay(0, 1, 60, 6) = 60
            state(7, 11, *) = 160 290 3
            lock(7, 11, 2, *) = 0 60 6 7
            """;
        DOC.says("Terms", "CHANNELS 0..7", threeLocks + """
            publish(0, 7, 11) = true
            channel(7, *) = 1 0 1 11 11 0 4 160 3
            lock(7, -1, 0, *) = 0 40 4 7
            lock(7, -1, 1, *) = 1 50 5 7
            lock(7, -1, 2, *) = 0 60 6 7
            block(1) = 5
            channel(7, *) = 1 0 1 11 11 0 4 210 0
            party(1, 0) = 1090
            block(2) = 7
            party(0, 0) = 910
            """, threeLocks + """
            publish(0, 7, 11) = true
            online(1, false) = true
            block(3) = 7
            channel(7, *) = 1 0 1 11 11 0 4 0 0
            party(0, 0) = 1010
            party(1, 0) = 990
            """, threeLocks + """
            publish(1, 7, 10) = true
            channel(7, *) = 1 0 1 11 10 1 4 290 2
            block(1) = 5
            channel(7, *) = 1 0 1 11 10 1 4 0 0
            party(0, 0) = 1300
            party(1, 0) = 700
            """, threeLocks + """
            terms(0, 1, 0, 2) = true
            online(0, false) = true
            publish(1, 7, 10) = true
            block(1) = 5
            channel(7, *) = 1 0 1 11 10 1 4 0 0
            party(0, 0) = 1262
            party(1, 0) = 700
            party(2, 0) = 1038
            """);
    }

    private static void channels() {
        DOC.says("Terms", "CHANNELS 0..7 come one after the other.", """
            channel(0, 0) = NONE
            open(0, 0, 1, 1) = REFUSED
            open(0, 1, 1, 1) = 0
            channel(0, 0) = 0
            channel(1, 0) = NONE
            open(0, 1, 0, 0) = REFUSED
            open(1, 2, 1, 1) = 1
            close(0) = true
            open(2, 3, 1, 1) = 2
            publish(2, 2, 0) = true
            open(3, 4, 1, 1) = 3
            open(4, 5, 1, 1) = 4
            open(5, 0, 1, 1) = 5
            open(0, 1, 1, 1) = 6
            channel(7, 0) = NONE
            close(7) = false
            publish(1, 7, 0) = false
            open(1, 0, 1, 1) = 7
            channel(7, 0) = 0
            channel(-1|8|MIN|MAX, 0) = NONE
            open(0, 1, 1, 1) = FULL, unchanged
            renew(7, 1, 1) = true
            publish(1, 7, 0) = true
            """);
        DOC.says("Terms", "A channel has two SIDES, 0 and 1, which are parties", """
            open(5, 0, 20, 30) = 0
            channel(0, 1) = 5
            channel(0, 2) = 0
            open(0, 5, 20, 30) = 1
            channel(1, 1) = 0
            channel(1, 2) = 5
            """);
        DOC.says("Terms", "is OPEN, CLOSED or GONE", """
            open(0, 1, 20, 30) = 0
            open(0, 1, 20, 30) = 1
            channel(0|1, 0) = 0
            publish(0, 0, 0) = true
            close(1) = true
            channel(0, 0) = 1
            channel(1, 0) = 2
            block(20) = 20
            channel(0, 0) = 1
            channel(1, 0) = 2
            """);
    }

    private static void states() {
        DOC.says("Terms", "has STATES 0, 1, .. (at most to 11), of which the LATEST has the greatest number", """
            open(0, 1, 300, 300) = 0
            channel(0, 3) = 0
            state(0, 0, *) = 300 300 0
            state(0, 1, 0|1|2) = NONE
            """, TEN_STATES + """
            channel(0, 3) = 10
            state(0, 10, *) = 250 350 0
            state(0, 11, 0|1|2) = NONE
            pay(0, 1, 10, 5) = 10
            channel(0, 3) = 11
            state(0, 11, *) = 240 350 1
            state(0, 12, 0|1|2) = NONE
            pay(0, 1, 10, 6) = NONE, unchanged
            block(1) = 6
            channel(0, 3) = 11
            block(20) = 26
            channel(0, 3) = 11
            state(0, 12, 0|1|2) = NONE
            """);
        DOC.says("Terms", "a row of up to 3 LOCKS", """
            open(0, 1, 300, 300) = 0
            state(0, 0, 2) = 0
            pay(0, 1, 10, 0) = 10
            pay(1, 0, 10, 1) = 10
            state(0, 2, 2) = 2
            pay(0, 1, 10, 2) = 10
            state(0, 3, 2) = 3
            lock(0, 3, 0|1|2, 1) = 10
            lock(0, 3, 3, 0|1|2|3) = NONE
            pay(0, 1, 10, 3) = NONE, unchanged
            pay(1, 0, 10, 3) = NONE, unchanged
            """);
    }

    private static void partsOfLocks() {
        DOC.says("Terms", "each from a side, to the other one, with an amount, a secret, and an EXPIRY, a height", """
            open(4, 2, 100, 100) = 0
            pay(4, 2, 20, 0) = 20
            block(1) = 1
            pay(2, 4, 30, 15) = 30
            lock(0, 1, 0, *) = 0 20 0 3
            lock(0, 3, 0, *) = 1 30 15 4
            state(0, 2, *) = 80 120 0
            block(1) = 2
            state(0, 4, *) = 110 90 0
            """);
    }

    private static void ready() {
        DOC.says("Terms", "It is READY if it is OPEN and both parties are ONLINE.", """
            open(0, 1, 50, 60) = 0
            most(0, 1) = 50
            most(1, 0) = 60
            online(0, false) = true
            most(0|1, 0|1) = 0
            close(0) = false, unchanged
            renew(0, 1, 1) = false, unchanged
            online(1, false) = true
            most(0|1, 0|1) = 0
            close(0) = false, unchanged
            renew(0, 1, 1) = false, unchanged
            online(0, true) = true
            most(0|1, 0|1) = 0
            close(0) = false, unchanged
            renew(0, 1, 1) = false, unchanged
            online(1, true) = true
            most(0, 1) = 50
            most(1, 0) = 60
            renew(0, 1, 1) = true
            close(0) = true
            most(0|1, 0|1) = 0
            """, """
            open(0, 1, 50, 60) = 0
            publish(0, 0, 0) = true
            most(0|1, 0|1) = 0
            close(0) = false, unchanged
            renew(0, 1, 1) = false, unchanged
            """);
    }

    private static void change() {
        DOC.says("Terms", "A CHANGE makes the next state of the LATEST one", """
            open(0, 1, 100, 100) = 0
            pay(0, 1, 20, 0) = 20
            channel(0, 3) = 1
            state(0, 1, *) = 80 100 1
            pay(1, 0, 30, 1) = 30
            channel(0, 3) = 2
            state(0, 2, *) = 80 70 2
            block(1) = 1
            channel(0, 3) = 4
            state(0, 3, *) = 110 70 1
            state(0, 4, *) = 110 90 0
            """);
    }

    private static void canBeMade() {
        DOC.says("Terms", "it CAN be made if this has a number below 11", TEN_STATES + """
            most(0, 1) = 250
            most(1, 0) = 255
            pay(0, 1, 10, 5) = 10
            most(0|1, 0|1) = 0
            pay(0, 1, 10, 6) = NONE, unchanged
            pay(1, 0, 10, 6) = NONE, unchanged
            """, "open(0, 1, 300, 300) = 0\n" + Sentences.settled(0, 1, 4) + """
            pay(0, 1, 20, 4) = 20
            pay(0, 1, 30, 5) = 30
            state(0, 10, *) = 210 340 2
            block(1) = 5
            channel(0, 0) = 0
            channel(0, 3) = 11
            state(0, 11, *) = 210 360 1
            lock(0, 11, 0, *) = 0 30 5 7
            block(1) = 6
            channel(0, *) = 1 0 1 11 11 1 6 390 0
            state(0, 11, *) = 210 360 1
            party(0, 0) = 910
            """, "open(0, 1, 300, 100) = 0\nopen(1, 2, 300, 0) = 1\n" + Sentences.settled(0, 1, 4) + """
            pay(0, 2, 20, 4) = 21
            pay(0, 2, 30, 5) = 31
            online(2, false) = true
            block(5) = 9
            channel(0, 0) = 0
            channel(0, 3) = 10
            state(0, 10, *) = 208 140 2
            block(1) = 10
            state(0, 11, *) = 229 140 1
            lock(0, 11, 0, *) = 0 31 5 10
            channel(0, *) = 1 0 1 11 11 0 10 260 0
            party(1, 0) = 1040
            """);
    }

    private static void addLocks() {
        DOC.says("Terms", "To ADD a lock: its amount is taken from the balance of the side that it is from; it is the last of the row.", """
            open(0, 1, 100, 50) = 0
            pay(0, 1, 101, 0) = NONE, unchanged
            pay(0, 1, 100, 0) = 100
            state(0, 0, *) = 100 50 0
            state(0, 1, *) = 0 50 1
            lock(0, 1, 0, *) = 0 100 0 3
            pay(0, 1, 1, 1) = NONE, unchanged
            pay(1, 0, 51, 1) = NONE, unchanged
            pay(1, 0, 49, 1) = 49
            state(0, 2, *) = 0 1 2
            lock(0, 2, 0, *) = 0 100 0 3
            lock(0, 2, 1, *) = 1 49 1 3
            pay(1, 0, 1, 9) = 1
            state(0, 3, *) = 0 0 3
            lock(0, 3, 0, *) = 0 100 0 3
            lock(0, 3, 1, *) = 1 49 1 3
            lock(0, 3, 2, *) = 1 1 9 3
            state(0, 1, *) = 0 50 1
            lock(0, 1, 1, 0|1|2|3) = NONE
            """);
    }

    private static void settleLocks() {
        String words = "To SETTLE one: its amount comes to the balance of the side that it is to, "
            + "and the party that it is from KNOWS the secret from then on";
        DOC.says("Terms", words, """
            open(0, 1, 300, 0) = 0
            pay(0, 1, 300, 5) = REFUSED
            pay(0, 1, 200, 5) = 200
            state(0, 1, *) = 100 0 1
            party(0, 5) = 0
            party(1, 5) = 32
            block(1) = 1
            state(0, 2, *) = 100 200 0
            party(0|1, 5) = 32
            """, """
            open(1, 0, 300, 100) = 0
            pay(1, 0, 10, 0) = 10
            pay(1, 0, 20, 1) = 20
            pay(1, 0, 40, 2) = 40
            block(1) = 1
            state(0, 3, *) = 230 100 3
            state(0, 4, *) = 230 110 2
            state(0, 5, *) = 230 130 1
            state(0, 6, *) = 230 170 0
            channel(0, 3) = 6
            """);
        DOC.says("Terms", "in both cases the lock goes from the row", """
            open(1, 0, 300, 100) = 0
            pay(1, 0, 10, 0) = 10
            pay(1, 0, 20, 1) = 20
            pay(1, 0, 40, 2) = 40
            block(1) = 1
            lock(0, 3, 0, *) = 0 10 0 3
            lock(0, 4, 0, *) = 0 20 1 3
            lock(0, 4, 1, *) = 0 40 2 3
            lock(0, 4, 2, 0|1|2|3) = NONE
            lock(0, 5, 0, *) = 0 40 2 3
            lock(0, 5, 1, 0|1|2|3) = NONE
            lock(0, 6, 0, 0|1|2|3) = NONE
            """, """
            open(0, 1, 300, 100) = 0
            pay(0, 1, 50, 0) = 50
            pay(1, 0, 7, 1) = 7
            pay(0, 1, 30, 2) = 30
            block(1) = 1
            state(0, 3, *) = 220 93 3
            state(0, 4, *) = 227 93 2
            lock(0, 4, 0, *) = 0 50 0 3
            lock(0, 4, 1, *) = 0 30 2 3
            state(0, 5, *) = 227 143 1
            lock(0, 5, 0, *) = 0 30 2 3
            state(0, 6, *) = 227 173 0
            """, """
            open(0, 1, 300, 100) = 0
            pay(0, 1, 50, 0) = 50
            pay(0, 1, 30, 1) = 30
            pay(1, 0, 7, 2) = 7
            block(1) = 1
            state(0, 4, *) = 227 93 2
            lock(0, 4, 0, *) = 0 50 0 3
            lock(0, 4, 1, *) = 0 30 1 3
            lock(0, 4, 2, 0|1|2|3) = NONE
            state(0, 5, *) = 227 143 1
            lock(0, 5, 0, *) = 0 30 1 3
            state(0, 6, *) = 227 173 0
            """);
    }

    private static void failLocks() {
        DOC.says("Terms", "to FAIL it: to that of the side that it is from; in both cases the lock goes from the row.", """
            open(0, 1, 300, 0) = 0
            open(1, 2, 300, 0) = 1
            open(2, 3, 300, 0) = 2
            pay(0, 3, 10, 0) = 12
            pay(0, 2, 20, 1) = 21
            pay(0, 3, 30, 2) = 32
            online(2|3, false) = true
            block(5) = 5
            state(0, 3, *) = 235 0 3
            channel(0, 3) = 3
            block(1) = 6
            channel(0, 3) = 4
            state(0, 4, *) = 256 0 2
            lock(0, 4, 0, *) = 0 12 0 9
            lock(0, 4, 1, *) = 0 32 2 9
            lock(0, 4, 2, 0|1|2|3) = NONE
            block(3) = 9
            state(0, 5, *) = 268 0 1
            lock(0, 5, 0, *) = 0 32 2 9
            state(0, 6, *) = 300 0 0
            channel(0, 3) = 6
            party(0|1, 5) = 0
            """, """
            open(1, 0, 5, 100) = 0
            open(2, 1, 6, 100) = 1
            pay(0, 2, 20, 2) = 21
            online(2, false) = true
            block(6) = 6
            state(0, 1, *) = 5 79 1
            state(0, 2, *) = 5 100 0
            party(0|1, 5) = 0
            """);
    }

    private static void open() {
        DOC.says("Promise 4", "A channel of two different parties, both ONLINE", """
            open(0, 0, 1, 1) = REFUSED, unchanged
            open(3, 3, 1, 1) = REFUSED, unchanged
            open(5, 5, 1, 1) = REFUSED, unchanged
            online(2, false) = true
            open(2, 3, 1, 1) = REFUSED, unchanged
            open(3, 2, 1, 1) = REFUSED, unchanged
            online(3, false) = true
            open(2, 3, 1, 1) = REFUSED, unchanged
            online(2, true) = true
            open(2, 3, 1, 1) = REFUSED, unchanged
            open(3, 2, 1, 1) = REFUSED, unchanged
            online(3, true) = true
            open(2, 3, 1, 1) = 0
            open(3, 2, 1, 1) = 1
            open(2, 3, 1, 1) = 2
            """);
        DOC.says("Promise 4", "which give x and y COINS (that they have, 0 or more each, not 0 both)", """
            open(0, 1, 0, 0) = REFUSED, unchanged
            open(0, 1, -1|MIN, 0|1|5|1000) = REFUSED, unchanged
            open(0, 1, 0|1|5|1000, -1|MIN) = REFUSED, unchanged
            open(0, 1, -1|MIN, -1|MIN) = REFUSED, unchanged
            open(0, 1, 1001|MAX, 0|1|1000) = REFUSED, unchanged
            open(0, 1, 0|1|1000, 1001|MAX) = REFUSED, unchanged
            open(0, 1, 1, 0) = 0
            open(0, 1, 0, 1) = 1
            open(0, 1, 1000, 0) = REFUSED, unchanged
            open(0, 1, 0, 1000) = REFUSED, unchanged
            open(0, 1, 999, 999) = 2
            party(0|1, 0) = 0
            open(0, 1, 1, 0) = REFUSED, unchanged
            open(0, 1, 0, 1) = REFUSED, unchanged
            open(0, 2, 0, 1000) = 3
            open(3, 1, 1000, 0) = 4
            state(3, 0, *) = 0 1000 0
            state(4, 0, *) = 1000 0 0
            """);
        DOC.says("Promise 4", "its number, its LATEST state is 0, with these balances", """
            open(4, 2, 30, 0) = 0
            channel(0, *) = 0 4 2 0 NONE NONE NONE NONE NONE
            state(0, 0, *) = 30 0 0
            state(0, 1, 0|1|2) = NONE
            party(4, *) = 970 1 1 0 NONE 0 30
            party(2, *) = 1000 1 1 0 NONE 0 0
            open(2, 4, 40, 50) = 1
            channel(1, *) = 0 2 4 0 NONE NONE NONE NONE NONE
            state(1, 0, *) = 40 50 0
            party(4, *) = 920 1 1 0 NONE 0 80
            party(2, *) = 960 1 1 0 NONE 0 40
            state(0, 0, *) = 30 0 0
            """);
        DOC.says("Promise 4", "REFUSED if it is not so; FULL if there are 8", """
            open(0, 1, 10, 10) = 0
            open(0, 1, 10, 10) = 1
            open(0, 1, 10, 10) = 2
            open(0, 1, 10, 10) = 3
            open(0, 1, 10, 10) = 4
            open(0, 1, 10, 10) = 5
            open(0, 1, 10, 10) = 6
            open(2, 3, 1001, 1) = REFUSED, unchanged
            open(2, 3, 1, 1) = 7
            open(2, 3, 1, 1) = FULL, unchanged
            open(0, 1, 10, 10) = FULL, unchanged
            """);
    }

    private static void close() {
        DOC.says("Promise 8", "A READY channel without locks in its LATEST state is GONE: both get their balances in COINS.", """
            open(0, 1, 300, 100) = 0
            pay(0, 1, 50, 0) = 50
            block(1) = 1
            close(0) = true
            party(0, 0) = 950
            party(1, 0) = 1050
            party(0|1, 6) = 0
            channel(0, *) = 2 0 1 2 NONE NONE NONE NONE NONE
            block(5) = 6
            party(0, 0) = 950
            party(1, 0) = 1050
            """, """
            open(0, 1, 300, 0) = 0
            close(0) = true
            party(0|1, 0) = 1000
            channel(0, 0) = 2
            """, """
            open(0, 1, 10, 10) = 0
            open(4, 2, 30, 40) = 1
            open(5, 3, 50, 60) = 2
            pay(4, 2, 5, 0) = 5
            block(1) = 1
            close(1) = true
            party(4, *) = 995 1 1 0 NONE 1 0
            party(2, *) = 1005 1 1 0 NONE 1 0
            channel(0|2, 0) = 0
            party(0|1, 0) = 990
            """);
        DOC.says("Promise 8", "False, and nothing changes, if it is not such.", """
            close(-1|0|7|8|MIN|MAX) = false, unchanged
            open(0, 1, 300, 100) = 0
            close(-1|1|7|8|MIN|MAX) = false, unchanged
            pay(0, 1, 50, 0) = 50
            close(0) = false, unchanged
            pay(1, 0, 5, 1) = 5
            close(0) = false, unchanged
            pay(0, 1, 5, 2) = 5
            close(0) = false, unchanged
            block(1) = 1
            online(0, false) = true
            close(0) = false, unchanged
            online(0, true) = true
            online(1, false) = true
            close(0) = false, unchanged
            online(1, true) = true
            close(0) = true
            close(0) = false, unchanged
            """, """
            open(0, 1, 300, 100) = 0
            publish(1, 0, 0) = true
            close(0) = false, unchanged
            block(3) = 3
            close(0) = false, unchanged
            """);
    }

    private static void renew() {
        DOC.says("Promise 9", "Such a channel gets new states", """
            renew(-1|0|7|8|MIN|MAX, 0, 0) = false, unchanged
            open(0, 1, 300, 100) = 0
            renew(-1|1|7|8|MIN|MAX, 0, 0) = false, unchanged
            renew(0, 0, 0) = true
            pay(0, 1, 50, 0) = 50
            renew(0, 0, 0) = false, unchanged
            pay(1, 0, 5, 1) = 5
            renew(0, 0, 0) = false, unchanged
            pay(0, 1, 5, 2) = 5
            renew(0, 0, 0) = false, unchanged
            block(1) = 1
            online(0, false) = true
            renew(0, 0, 0) = false, unchanged
            online(0, true) = true
            online(1, false) = true
            renew(0, 0, 0) = false, unchanged
            online(1, true) = true
            renew(0, 0, 0) = true
            close(0) = true
            renew(0, 0, 0) = false, unchanged
            """, """
            open(0, 1, 300, 100) = 0
            publish(1, 0, 0) = true
            renew(0, 0, 0) = false, unchanged
            """);
        DOC.says("Promise 9", "its LATEST state is 0, with these; the older ones are no more", TEN_STATES + """
            renew(0, 5, -20) = true
            channel(0, *) = 0 0 1 0 NONE NONE NONE NONE NONE
            state(0, 0, *) = 255 330 0
            state(0, 1|2|9|10|11, 0|1|2) = NONE
            lock(0, 0|1|3|9, 0, 0|1|2|3) = NONE
            publish(0, 0, 1|10) = false, unchanged
            most(0, 1) = 255
            pay(1, 0, 150, 6) = 150
            state(0, 1, *) = 255 180 1
            lock(0, 1, 0, *) = 1 150 6 8
            publish(0, 0, 2) = false, unchanged
            publish(0, 0, 1) = true
            block(1) = 6
            channel(0, *) = 1 0 1 1 1 0 5 405 0
            """, """
            open(0, 1, 300, 100) = 0
            renew(0, 0, 0) = true
            state(0, 0, *) = 300 100 0
            state(0, 1, 0|1|2) = NONE
            publish(1, 0, 0) = true
            block(1) = 1
            channel(0, 7) = 100
            """);
    }

    private static void renewLimits() {
        String allCoins = "";
        for (int p = 1; p < 6; p++) {
            allCoins += String.format("open(0, %d, 1, 1000) = %d%npay(0, %d, 1, %d) = 1%nblock(1) = %d%n", p, p - 1, p, p, 2 * p - 1);
            allCoins += String.format("publish(%d, %d, 0) = true%nblock(1) = %d%n", p, p - 1, 2 * p);
        }
        DOC.says("Promise 9", "x and y (-6000..6000) come from COINS of its sides to their balances", """
            open(0, 1, 300, 100) = 0
            renew(0, 50, -20) = true
            state(0, 0, *) = 350 80 0
            party(0, 0) = 650
            party(1, 0) = 920
            renew(0, -6001|-6000|6000|6001|MIN|MAX, 0) = false, unchanged
            renew(0, 0, -6001|-6000|6000|6001|MIN|MAX) = false, unchanged
            renew(0, 6000, -6000) = false, unchanged
            renew(0, MIN|MAX, MIN|MAX) = false, unchanged
            """, """
            open(0, 1, 10, 10) = 0
            open(4, 2, 30, 40) = 1
            open(5, 3, 50, 60) = 2
            renew(1, 7, -9) = true
            state(1, 0, *) = 37 31 0
            party(4, *) = 963 1 1 0 NONE 0 37
            party(2, *) = 969 1 1 0 NONE 0 31
            renew(2, -8, 6) = true
            state(2, 0, *) = 42 66 0
            party(5, *) = 958 1 1 0 NONE 0 42
            party(3, *) = 934 1 1 0 NONE 0 66
            renew(0, 1, 2) = true
            state(0, 0, *) = 11 12 0
            party(0, 0) = 989
            party(1, 0) = 988
            """, allCoins + """
            party(0, 0) = 6000
            open(3, 0, 0, 1) = 5
            open(0, 3, 1, 0) = 6
            renew(6, -1, 0) = true
            renew(5, 0, -1) = true
            renew(5, 0, 6001|MAX) = false, unchanged
            renew(5, 0, 6000) = true
            state(5, 0, *) = 0 6000 0
            party(0, 0) = 0
            renew(5, 0, -6001|MIN) = false, unchanged
            renew(5, 0, -6000) = true
            renew(6, 6001|MAX, 0) = false, unchanged
            renew(6, 6000, 0) = true
            state(6, 0, *) = 6000 0 0
            renew(6, -6001|MIN, 0) = false, unchanged
            renew(6, -6000, 0) = true
            party(0, 0) = 6000
            """);
        DOC.says("Promise 9", "none of which may be below 0 then", """
            open(0, 1, 300, 100) = 0
            renew(0, -301, 0|100|900) = false, unchanged
            renew(0, 0|100|700, -101) = false, unchanged
            renew(0, -301, -101) = false, unchanged
            renew(0, -300, 0) = true
            state(0, 0, *) = 0 100 0
            renew(0, -1, 0) = false, unchanged
            renew(0, 0, -100) = true
            state(0, 0, *) = 0 0 0
            channel(0, 0) = 0
            party(0|1, *) = 1000 1 1 0 NONE 0 0
            renew(0, 0, -1) = false, unchanged
            renew(0, 0, 0) = true
            renew(0, 1, 1) = true
            state(0, 0, *) = 1 1 0
            """);
        DOC.says("Promise 9", "False, and nothing changes, if it is not so.", """
            open(0, 1, 300, 100) = 0
            pay(0, 1, 50, 0) = 50
            block(1) = 1
            renew(0, -251, 0) = false, unchanged
            renew(0, 0, -151) = false, unchanged
            renew(0, 701, 0) = false, unchanged
            renew(0, 0, 901) = false, unchanged
            renew(0, 1, 901) = false, unchanged
            renew(0, 701, 1) = false, unchanged
            state(0, 0, *) = 300 100 0
            state(0, 1, *) = 250 100 1
            state(0, 2, *) = 250 150 0
            renew(0, -250, -150) = true
            """);
    }

    private static void channel() {
        DOC.says("Promise 13", "what 0: 0 OPEN, 1 CLOSED, 2 GONE; 1, 2: its parties; 3: the number of the LATEST state; 4: of the published one; 5: the PUBLISHER; "
            + "6: the HEIGHT of publishing; 7: what is HELD; 8: how many OUTPUTS there are", """
            block(3) = 3
            open(4, 2, 300, 100) = 0
            pay(4, 2, 50, 7) = 50
            pay(2, 4, 30, 8) = 30
            publish(2, 0, 1) = true
            channel(0, *) = 1 4 2 2 1 2 3 100 1
            """, """
            open(0, 5, 300, 0) = 0
            pay(0, 5, 1, 7|8|9) = 1
            publish(5, 0, 3) = true
            channel(0, *) = 1 0 5 3 3 5 0 0 3
            """, """
            open(0, 5, 300, 0) = 0
            channel(0, *) = 0 0 5 0 NONE NONE NONE NONE NONE
            publish(0, 0, 0) = true
            channel(0, *) = 1 0 5 0 0 0 0 300 0
            """, """
            open(5, 0, 300, 0) = 0
            close(0) = true
            channel(0, *) = 2 5 0 0 NONE NONE NONE NONE NONE
            """);
        DOC.says("Promise 13", "NONE if there is none, for others, and for 4..8 if it is not CLOSED", """
            channel(0, 0|1|2|3|4|5|6|7|8) = NONE
            open(0, 1, 300, 100) = 0
            open(1, 2, 300, 100) = 1
            open(0, 2, 300, 100) = 2
            close(1) = true
            publish(2, 2, 0) = true
            channel(-1|3|7|8|MIN|MAX, 0|1|2|3|4|5|6|7|8) = NONE
            channel(0|1|2, -1|9|10|MIN|MAX) = NONE
            channel(0, *) = 0 0 1 0 NONE NONE NONE NONE NONE
            channel(1, *) = 2 1 2 0 NONE NONE NONE NONE NONE
            channel(2, *) = 1 0 2 0 0 2 0 100 0
            """);
    }

    private static void state() {
        DOC.says("Promise 14", "what 0, 1: the balances; 2: how many locks; NONE if there is none, or for others.", """
            state(0|7, 0, 0|1|2) = NONE
            open(0, 1, 300, 100) = 0
            pay(0, 1, 50, 0) = 50
            state(0, 0, *) = 300 100 0
            state(0, 1, *) = 250 100 1
            state(0, -1|2|11|12|MIN|MAX, 0|1|2) = NONE
            state(0, 0|1, -1|3|4|MIN|MAX) = NONE
            state(-1|1|7|8|MIN|MAX, 0, 0|1|2) = NONE
            publish(0, 0, 1) = true
            state(0, -1|2, 0|1|2) = NONE
            """);
        DOC.says("Promise 14", "(States stay as they are till they are no more.)", """
            open(0, 1, 300, 100) = 0
            pay(0, 1, 50, 0) = 50
            pay(1, 0, 20, 1) = 20
            block(1) = 1
            state(0, 0, *) = 300 100 0
            state(0, 1, *) = 250 100 1
            state(0, 2, *) = 250 80 2
            state(0, 3, *) = 270 80 1
            state(0, 4, *) = 270 130 0
            lock(0, 2, 0, *) = 0 50 0 3
            lock(0, 2, 1, *) = 1 20 1 3
            lock(0, 3, 0, *) = 0 50 0 3
            publish(0, 0, 2) = true
            block(5) = 6
            channel(0, 8) = 0
            state(0, 0, *) = 300 100 0
            state(0, 1, *) = 250 100 1
            state(0, 2, *) = 250 80 2
            state(0, 3, *) = 270 80 1
            state(0, 4, *) = 270 130 0
            lock(0, 2, 0, *) = 0 50 0 3
            lock(0, 2, 1, *) = 1 20 1 3
            lock(0, 3, 0, *) = 0 50 0 3
            """, """
            open(0, 1, 300, 100) = 0
            pay(0, 1, 50, 0) = 50
            block(1) = 1
            close(0) = true
            state(0, 0, *) = 300 100 0
            state(0, 1, *) = 250 100 1
            lock(0, 1, 0, *) = 0 50 0 3
            state(0, 2, *) = 250 150 0
            open(0, 1, 20, 10) = 1
            block(3) = 4
            state(0, 2, *) = 250 150 0
            """, "open(0, 1, 300, 300) = 0\nopen(2, 3, 70, 80) = 1\n" + Sentences.settled(0, 1, 4) + """
            pay(0, 1, 40, 4) = 40
            pay(0, 1, 50, 5) = 50
            pay(0, 1, 60, 6) = 60
            publish(0, 0, 11) = true
            channel(0, 8) = 3
            block(1) = 5
            channel(0, 8) = 0
            state(0, 9, *) = 220 340 1
            state(0, 10, *) = 170 340 2
            state(0, 11, *) = 110 340 3
            lock(0, 10, 1, *) = 0 50 5 7
            lock(0, 11, 2, *) = 0 60 6 7
            state(1, 0, *) = 70 80 0
            """);
    }

    private static void lock() {
        DOC.says("Promise 15", "Of the j-th lock of a state, or (k -1) the j-th OUTPUT, what 0: the side that it is from; "
            + "1: its amount; 2: its secret; 3: its EXPIRY", """
            block(2) = 2
            open(0, 1, 300, 100) = 0
            pay(0, 1, 255, 4) = 255
            pay(1, 0, 20, 15) = 20
            pay(0, 1, 1, 0) = 1
            lock(0, 1, 0, *) = 0 255 4 5
            lock(0, 3, 0, *) = 0 255 4 5
            lock(0, 3, 1, *) = 1 20 15 5
            lock(0, 3, 2, *) = 0 1 0 5
            publish(0, 0, 2) = true
            lock(0, -1, 0, *) = 0 255 4 5
            lock(0, -1, 1, *) = 1 20 15 5
            lock(0, 3, 2, *) = 0 1 0 5
            """, """
            open(0, 1, 300, 100) = 0
            pay(1, 0, 20, 1) = 20
            pay(0, 1, 30, 2) = 30
            online(0, false) = true
            publish(0, 0, 2) = true
            block(1) = 1
            lock(0, -1, 0, *) = 1 20 1 3
            lock(0, -1, 1, 0|1|2|3) = NONE
            lock(0, 2, 1, *) = 0 30 2 3
            """);
        DOC.says("Promise 15", "NONE if there is none, or for others.", """
            lock(0|7, -1|0, 0, 0|1|2|3) = NONE
            open(0, 1, 300, 100) = 0
            lock(0, -1|0, 0, 0|1|2|3) = NONE
            pay(0, 1, 50, 4) = 50
            pay(0, 1, 50, 5) = 50
            lock(0, 1, 1, 0|1|2|3) = NONE
            lock(0, 2, -1|2|3|MIN|MAX, 0|1|2|3) = NONE
            lock(0, 2, 0|1, -1|4|5|MIN|MAX) = NONE
            lock(0, -2|-1|3|11|12|MIN|MAX, 0, 0|1|2|3) = NONE
            lock(-1|1|7|8|MIN|MAX, 1|-1, 0, 0|1|2|3) = NONE
            publish(0, 0, 1) = true
            lock(0, -1, 0, *) = 0 50 4 3
            lock(0, -1, -1|1|2|3|MIN|MAX, 0|1|2|3) = NONE
            lock(0, -1, 0, -1|4|MIN|MAX) = NONE
            lock(0, -2|3, 0, 0|1|2|3) = NONE
            """, """
            open(0, 1, 300, 100) = 0
            pay(0, 1, 50, 4) = 50
            block(1) = 1
            close(0) = true
            lock(0, -1, 0, 0|1|2|3) = NONE
            """);
    }
}
