import java.util.ArrayList;
import java.util.List;

/** The routes: the section 'Terms' where it tells of them, and promises 5, 6 and 7. */
public final class RouteTest {
    private static final Sentences DOC = new Sentences("RouteTest");
    private static final String ROW_OF_THREE = """
        open(0, 1, 300, 300) = 0
        open(1, 2, 300, 300) = 1
        open(2, 3, 300, 300) = 2
        """;
    private static final String ROW_OF_FIVE = """
        open(0, 1, 100, 0) = 0
        open(1, 2, 100, 0) = 1
        open(2, 3, 100, 0) = 2
        open(3, 4, 100, 0) = 3
        open(4, 5, 100, 0) = 4
        """;

    public static void main(String[] args) {
        rowOfChannels();
        readyChannels();
        amounts();
        amountsAtTheEnds();
        balances();
        locks();
        changes();
        leastFirstAmount();
        fewestChannels();
        firstNumbers();
        pay();
        paySecret();
        payLocks();
        payAnswers();
        route();
        most();
        DOC.end();
    }

    private static void rowOfChannels() {
        DOC.says("Terms", "is a row of 1 to 4 READY channels from p over different parties to q", ROW_OF_FIVE + """
            route(0, 0, 10, 8) = NONE
            route(0, 1, 10, *) = 0 NONE NONE NONE 10 NONE NONE NONE 1
            route(0, 2, 10, *) = 0 1 NONE NONE 11 10 NONE NONE 2
            route(0, 3, 10, *) = 0 1 2 NONE 12 11 10 NONE 3
            route(0, 4, 10, *) = 0 1 2 3 13 12 11 10 4
            route(1, 5, 10, *) = 1 2 3 4 13 12 11 10 4
            route(0, 5, 1, 0|1|2|3|4|5|6|7|8) = NONE
            most(0, 5) = 0
            most(0, 4) = 97
            pay(0, 5, 1, 0) = NONE, unchanged
            open(3, 5, 100, 0) = 5
            route(0, 5, 10, *) = 0 1 2 5 13 12 11 10 4
            pay(0, 5, 1, 0) = 4
            """, """
            open(5, 4, 0, 100) = 0
            open(4, 0, 100, 0) = 1
            open(1, 0, 0, 100) = 2
            route(4, 5, 10, *) = 0 NONE NONE NONE 10 NONE NONE NONE 1
            route(4, 1, 10, *) = 1 2 NONE NONE 11 10 NONE NONE 2
            route(5, 4|0|1, 10, 8) = NONE
            route(1, 0|4|5, 10, 8) = NONE
            """, """
            open(0, 1, 100, 0) = 0
            open(0, 1, 100, 0) = 1
            open(1, 0, 50, 100) = 2
            open(0, 2, 9, 0) = 3
            most(0, 1) = 100
            most(0, 2) = 9
            route(0, 2, 9, *) = 3 NONE NONE NONE 9 NONE NONE NONE 1
            route(0, 2, 10, 8) = NONE
            """);
    }

    private static void readyChannels() {
        List<String> runs = new ArrayList<>();
        String row = ROW_OF_THREE + "route(0, 3, 10, 8) = 3\n";
        String none = """
            route(0, 3, 10, 0|4|8) = NONE
            pay(0, 3, 10, 0) = NONE, unchanged
            most(0, 3) = 0
            """;
        for (int p = 0; p < 4; p++) {
            runs.add(row + String.format("online(%d, false) = true%n", p) + none
                + String.format("online(%d, true) = true%nroute(0, 3, 10, 8) = 3%n", p));
        }
        for (int c = 0; c < 3; c++) {
            runs.add(row + String.format("close(%d) = true%n", c) + none);
            runs.add(row + String.format("publish(%d, %d, 0) = true%n", c, c) + none);
        }
        runs.add("""
            open(0, 1, 100, 0) = 0
            open(1, 2, 100, 0) = 1
            open(0, 3, 100, 0) = 2
            open(3, 2, 100, 0) = 3
            route(0, 2, 10, 0) = 0
            online(1, false) = true
            route(0, 2, 10, 0) = 2
            publish(3, 3, 0) = true
            route(0, 2, 10, 0) = NONE
            online(1, true) = true
            route(0, 2, 10, 0) = 0
            """);
        DOC.says("Terms", "READY channels", runs.toArray(new String[0]));
    }

    private static void amounts() {
        DOC.says("Terms", "The AMOUNT of its last channel is v", """
            open(0, 1, 300, 0) = 0
            open(1, 2, 300, 0) = 1
            terms(0|1|2, 9, 20, -1) = true
            route(0, 1, 1, 4) = 1
            route(0, 1, 255, 4) = 255
            route(0, 2, 1, 5) = 1
            route(0, 2, 200, 5) = 200
            """);
        DOC.says("Terms", "of each other one that of the channel behind it, "
            + "and BASE + that * RATE / 100 (without fraction) of the party between", """
            open(0, 1, 500, 0) = 0
            open(1, 2, 500, 0) = 1
            terms(1, 0, 1, -1) = true
            route(0, 2, 99, 4) = 99
            route(0, 2, 100, 4) = 101
            route(0, 2, 199, 4) = 200
            route(0, 2, 200, 4) = 202
            terms(1, 0, 20, -1) = true
            route(0, 2, 1, 4) = 1
            route(0, 2, 4, 4) = 4
            route(0, 2, 5, 4) = 6
            route(0, 2, 9, 4) = 10
            route(0, 2, 10, 4) = 12
            terms(1, 5, 19, -1) = true
            route(0, 2, 5, 4) = 10
            route(0, 2, 6, 4) = 12
            terms(1, 0, 0, -1) = true
            route(0, 2, 255, 4) = 255
            terms(1, 9, 0, -1) = true
            route(0, 2, 255, 4) = 264
            """, """
            open(0, 1, 1000, 0) = 0
            open(1, 2, 1000, 0) = 1
            open(2, 3, 500, 0) = 2
            terms(1, 9, 20, -1) = true
            terms(2, 0, 7, -1) = true
            route(0, 3, 99, *) = 0 1 2 NONE 135 105 99 NONE 3
            route(0, 3, 14, *) = 0 1 2 NONE 25 14 14 NONE 3
            route(0, 3, 15, *) = 0 1 2 NONE 28 16 15 NONE 3
            route(0, 3, 255, *) = 0 1 2 NONE 335 272 255 NONE 3
            terms(0|3|4|5, 9, 20, -1) = true
            route(0, 3, 255, *) = 0 1 2 NONE 335 272 255 NONE 3
            """);
    }

    private static void amountsAtTheEnds() {
        DOC.says("Terms", "BASE + that * RATE / 100 (without fraction)", """
            open(0, 1, 473, 0) = 0
            open(1, 2, 387, 0) = 1
            open(2, 3, 315, 0) = 2
            open(3, 4, 255, 0) = 3
            terms(1|2|3, 9, 20, -1) = true
            route(0, 4, 255, *) = 0 1 2 3 473 387 315 255 4
            route(0, 4, 1, *) = 0 1 2 3 34 21 10 1 4
            most(0, 4) = 255
            renew(0, -1, 0) = true
            most(0, 4) = 254
            terms(1|2|3, 0, 0, -1) = true
            route(0, 4, 255, *) = 0 1 2 3 255 255 255 255 4
            """);
    }

    private static void balances() {
        DOC.says("Terms", "In each channel the sending side's balance in the LATEST state is not below the amount", """
            open(0, 1, 52, 400) = 0
            open(1, 2, 51, 400) = 1
            open(2, 3, 50, 400) = 2
            route(0, 3, 50, 8) = 3
            route(0, 3, 51, 8) = NONE
            renew(0, -1, 0) = true
            route(0, 3, 50, 8) = NONE
            renew(0, 1, 0) = true
            renew(1, -1, 0) = true
            route(0, 3, 50, 8) = NONE
            renew(1, 1, 0) = true
            renew(2, -1, 0) = true
            route(0, 3, 50, 8) = NONE
            pay(0, 3, 50, 0) = NONE, unchanged
            renew(2, 1, 0) = true
            pay(0, 3, 50, 0) = 52
            state(0, 1, 0) = 0
            state(1, 1, 0) = 0
            state(2, 1, 0) = 0
            """, """
            open(0, 1, 100, 5) = 0
            most(0, 1) = 100
            most(1, 0) = 5
            pay(0, 1, 60, 0) = 60
            most(0, 1) = 40
            most(1, 0) = 5
            pay(0, 1, 41, 1) = NONE, unchanged
            block(1) = 1
            most(0, 1) = 40
            most(1, 0) = 65
            pay(1, 0, 66, 1) = NONE, unchanged
            pay(1, 0, 65, 1) = 65
            """, """
            open(0, 1, 0, 100) = 0
            most(0, 1) = 0
            pay(0, 1, 1, 0) = NONE, unchanged
            """);
    }

    private static void locks() {
        String[] runs = new String[3];
        for (int c = 0; c < 3; c++) {
            String over = String.format("pay(%d, %d, 1, ", c, c + 1);
            String back = String.format("pay(%d, %d, 1, ", c + 1, c);
            runs[c] = ROW_OF_THREE + over + "0) = 1\n" + back + "1) = 1\n" + """
                route(0, 3, 10, 8) = 3
                route(3, 0, 10, 8) = 3
                """ + back + "2) = 1\n" + """
                route(0, 3, 10, 0|4|8) = NONE
                route(3, 0, 10, 0|4|8) = NONE
                pay(0, 3, 10, 3) = NONE, unchanged
                most(0, 3) = 0
                block(1) = 1
                route(0, 3, 10, 8) = 3
                pay(0, 3, 10, 3) = 12
                """;
        }
        DOC.says("Terms", "that state has at most 2 locks", runs);
    }

    private static void changes() {
        String[] runs = new String[3];
        for (int c = 0; c < 3; c++) {
            String channel = "channel(" + c + ", 3) = ";
            runs[c] = ROW_OF_THREE + Sentences.settled(c, c + 1, 5) + channel + "10\n" + """
                route(0, 3, 10, 8) = 3
                route(3, 0, 10, 8) = 3
                """ + String.format("pay(%d, %d, 10, 5) = 10%n", c + 1, c) + channel + "11\n" + """
                route(0, 3, 10, 0|4|8) = NONE
                route(3, 0, 10, 0|4|8) = NONE
                pay(0, 3, 10, 6) = NONE, unchanged
                most(0, 3) = 0
                """;
        }
        DOC.says("Terms", "and a CHANGE CAN be made", runs);
    }

    private static void leastFirstAmount() {
        DOC.says("Terms", "is that with the least first AMOUNT", """
            open(0, 1, 300, 0) = 0
            open(1, 2, 300, 0) = 1
            open(0, 3, 300, 0) = 2
            open(3, 4, 300, 0) = 3
            open(4, 2, 300, 0) = 4
            route(0, 2, 50, *) = 0 1 NONE NONE 51 50 NONE NONE 2
            terms(1, 2, 0, -1) = true
            route(0, 2, 50, *) = 0 1 NONE NONE 52 50 NONE NONE 2
            terms(1, 3, 0, -1) = true
            route(0, 2, 50, *) = 2 3 4 NONE 52 51 50 NONE 3
            terms(1, 0, 10, -1) = true
            route(0, 2, 19, 4) = 20
            route(0, 2, 29, *) = 0 1 NONE NONE 31 29 NONE NONE 2
            route(0, 2, 30, *) = 2 3 4 NONE 32 31 30 NONE 3
            pay(0, 2, 30, 0) = 32
            state(2, 1, *) = 268 0 1
            channel(0, 3) = 0
            """, """
            open(0, 1, 300, 0) = 0
            open(1, 2, 300, 0) = 1
            open(2, 3, 300, 0) = 2
            open(0, 4, 300, 0) = 3
            open(4, 5, 300, 0) = 4
            open(5, 3, 300, 0) = 5
            terms(1, 3, 0, -1) = true
            terms(2, 2, 0, -1) = true
            terms(4, 0, 0, -1) = true
            terms(5, 4, 0, -1) = true
            route(0, 3, 50, *) = 3 4 5 NONE 54 54 50 NONE 3
            terms(4, 1, 0, -1) = true
            route(0, 3, 50, *) = 0 1 2 NONE 55 52 50 NONE 3
            """, """
            open(0, 1, 300, 0) = 0
            open(1, 2, 300, 0) = 1
            open(0, 3, 300, 0) = 2
            open(3, 2, 300, 0) = 3
            terms(1, 0, 5, -1) = true
            route(0, 2, 39, *) = 0 1 NONE NONE 40 39 NONE NONE 2
            route(0, 2, 40, *) = 2 3 NONE NONE 41 40 NONE NONE 2
            """);
    }

    private static void fewestChannels() {
        DOC.says("Terms", "of several with the fewest channels", """
            open(0, 1, 300, 0) = 0
            open(1, 2, 300, 0) = 1
            open(2, 3, 300, 0) = 2
            open(1, 3, 300, 0) = 3
            open(0, 3, 40, 0) = 4
            terms(1|2, 0, 0, -1) = true
            route(0, 3, 40, *) = 4 NONE NONE NONE 40 NONE NONE NONE 1
            route(0, 3, 41, *) = 0 3 NONE NONE 41 41 NONE NONE 2
            close(3) = true
            route(0, 3, 41, *) = 0 1 2 NONE 41 41 41 NONE 3
            """, """
            open(0, 1, 300, 0) = 0
            open(1, 2, 300, 0) = 1
            open(2, 3, 300, 0) = 2
            open(3, 4, 300, 0) = 3
            open(2, 4, 300, 0) = 4
            terms(1|2|3, 0, 0, -1) = true
            route(0, 4, 9, *) = 0 1 4 NONE 9 9 9 NONE 3
            close(4) = true
            route(0, 4, 9, *) = 0 1 2 3 9 9 9 9 4
            """);
    }

    private static void firstNumbers() {
        DOC.says("Terms", "of several that whose row of numbers comes first (by the first that differ)", """
            open(0, 1, 10, 0) = 0
            open(1, 0, 0, 20) = 1
            open(0, 1, 20, 0) = 2
            route(0, 1, 10, 0) = 0
            route(0, 1, 11, 0) = 1
            pay(0, 1, 11, 0) = 11
            route(0, 1, 11, 0) = 2
            """, """
            open(2, 3, 300, 0) = 0
            open(0, 1, 300, 0) = 1
            open(0, 2, 300, 0) = 2
            open(1, 3, 300, 0) = 3
            open(1, 3, 300, 0) = 4
            open(0, 1, 300, 0) = 5
            route(0, 3, 40, *) = 1 3 NONE NONE 41 40 NONE NONE 2
            pay(0, 3, 255, 0) = 256
            route(0, 3, 100, *) = 2 0 NONE NONE 101 100 NONE NONE 2
            terms(2, 2, 0, -1) = true
            route(0, 3, 100, *) = 5 4 NONE NONE 101 100 NONE NONE 2
            route(0, 3, 43, *) = 1 3 NONE NONE 44 43 NONE NONE 2
            route(0, 3, 44, *) = 5 3 NONE NONE 45 44 NONE NONE 2
            route(0, 3, 45, *) = 5 3 NONE NONE 46 45 NONE NONE 2
            route(0, 3, 46, *) = 5 4 NONE NONE 47 46 NONE NONE 2
            """, """
            open(0, 1, 300, 0) = 0
            open(1, 2, 300, 0) = 1
            open(3, 4, 10, 0) = 2
            open(2, 3, 300, 0) = 3
            open(3, 4, 300, 0) = 4
            open(2, 3, 300, 0) = 5
            route(0, 3, 10, *) = 0 1 3 NONE 12 11 10 NONE 3
            route(0, 4, 10, *) = 0 1 3 2 13 12 11 10 4
            route(0, 4, 11, *) = 0 1 3 4 14 13 12 11 4
            close(3) = true
            route(0, 4, 10, *) = 0 1 5 2 13 12 11 10 4
            route(0, 4, 11, *) = 0 1 5 4 14 13 12 11 4
            """);
    }

    private static void pay() {
        DOC.says("Promise 5", "Sends v, 1..255, from p to another party q by the BEST ROUTE", """
            open(0, 1, 1000, 500) = 0
            pay(0, 1, 0|-1|256|257|511|MIN|MAX, 3) = REFUSED, unchanged
            pay(0, 1, 1, 0) = 1
            pay(0, 1, 255, 1) = 255
            state(0, 2, *) = 744 500 2
            lock(0, 2, 0, *) = 0 1 0 3
            lock(0, 2, 1, *) = 0 255 1 3
            """, """
            open(0, 5, 100, 100) = 0
            pay(0, 0, 5, 3) = REFUSED, unchanged
            pay(2, 2, 5, 3) = REFUSED, unchanged
            pay(5, 5, 5, 3) = REFUSED, unchanged
            pay(-1|6|MIN|MAX, 5, 5, 3) = REFUSED, unchanged
            pay(0, -1|6|MIN|MAX, 5, 3) = REFUSED, unchanged
            pay(0, 5, 5, 3) = 5
            pay(5, 0, 5, 4) = 5
            """, """
            open(0, 1, 300, 0) = 0
            open(1, 2, 300, 0) = 1
            open(0, 3, 300, 0) = 2
            open(3, 2, 300, 0) = 3
            terms(1, 9, 0, -1) = true
            pay(0, 2, 20, 0) = 21
            channel(0|1, 3) = 0
            state(2, 1, *) = 279 0 1
            state(3, 1, *) = 280 0 1
            """);
    }

    private static void paySecret() {
        DOC.says("Promise 5", "with a secret that no payment had before, which q KNOWS then", """
            open(0, 1, 300, 100) = 0
            open(1, 2, 300, 100) = 1
            pay(0, 1, 5, 3) = 5
            party(1, 5) = 8
            party(0|2|3|4|5, 5) = 0
            pay(0, 1, 5, 3) = REFUSED, unchanged
            pay(1, 0, 5, 3) = REFUSED, unchanged
            pay(1, 2, 5, 3) = REFUSED, unchanged
            block(1) = 1
            pay(0, 1, 5, 3) = REFUSED, unchanged
            pay(0, 2, 5, 4) = 6
            party(2, 5) = 16
            party(0|1, 5) = 8
            online(2, false) = true
            block(9) = 10
            channel(0, 3) = 4
            party(0|1, 5) = 8
            pay(0, 1, 5, 4) = REFUSED, unchanged
            pay(0, 1, 5, 5) = 5
            """, """
            open(0, 1, 300, 100) = 0
            pay(0, 1, 5, 0) = 5
            pay(0, 1, 5, 15) = 5
            pay(0, 1, 5, 0|15|16|-1) = REFUSED, unchanged
            pay(0, 1, 5, 1) = 5
            """, """
            open(0, 1, 300, 100) = 0
            pay(0, 1, 5, 0) = 5
            block(1) = 1
            renew(0, 0, 0) = true
            pay(0, 1, 5, 0) = REFUSED, unchanged
            close(0) = true
            open(2, 3, 300, 100) = 1
            pay(2, 3, 5, 0) = REFUSED, unchanged
            pay(2, 3, 5, 1) = 5
            """);
    }

    private static void payLocks() {
        DOC.says("Promise 5", "locks are ADDED, from the first channel on, with the AMOUNTS, "
            + "and EXPIRY HEIGHT + 3 * (how many channels there are from this one on)", ROW_OF_FIVE + """
            pay(0, 1, 10, 0) = 10
            lock(0, 1, 0, *) = 0 10 0 3
            pay(1, 3, 10, 1) = 11
            lock(1, 1, 0, *) = 0 11 1 6
            lock(2, 1, 0, *) = 0 10 1 3
            block(7) = 7
            pay(0, 4, 60, 9) = 63
            state(0, 3, *) = 27 10 1
            state(1, 3, *) = 27 11 1
            state(2, 3, *) = 29 10 1
            state(3, 1, *) = 40 0 1
            lock(0, 3, 0, *) = 0 63 9 19
            lock(1, 3, 0, *) = 0 62 9 16
            lock(2, 3, 0, *) = 0 61 9 13
            lock(3, 1, 0, *) = 0 60 9 10
            channel(4, 3) = 0
            """, """
            block(7) = 7
            open(3, 2, 100, 100) = 0
            open(4, 3, 0, 100) = 1
            open(4, 5, 100, 0) = 2
            terms(3, 3, 10, -1) = true
            terms(4, 0, 20, -1) = true
            pay(2, 5, 60, 9) = 82
            state(0, 1, *) = 100 18 1
            state(1, 1, *) = 0 28 1
            state(2, 1, *) = 40 0 1
            lock(0, 1, 0, *) = 1 82 9 16
            lock(1, 1, 0, *) = 1 72 9 13
            lock(2, 1, 0, *) = 0 60 9 10
            party(5, 5) = 512
            party(2|3|4, 5) = 0
            party(2, 0) = 900
            pay(3, 2, 5, 0) = 5
            state(0, 2, *) = 95 18 2
            lock(0, 2, 0, *) = 1 82 9 16
            lock(0, 2, 1, *) = 0 5 0 10
            """);
    }

    private static void payAnswers() {
        DOC.says("Promise 5", "Answers the first AMOUNT; REFUSED if it is not as said; NONE if there is no ROUTE.", """
            open(0, 1, 100, 0) = 0
            open(1, 2, 50, 0) = 1
            pay(0, 3, 5, 4) = NONE, unchanged
            pay(0, 2, 51, 4) = NONE, unchanged
            pay(2, 0, 1, 4) = NONE, unchanged
            pay(0, 2, 0|256, 4) = REFUSED, unchanged
            pay(0, 2, 50, 16) = REFUSED, unchanged
            pay(0, 2, 50, 4) = 51
            pay(0, 1, 1, 4) = REFUSED, unchanged
            pay(0, 1, 49, 5) = 49
            pay(0, 1, 1, 6) = NONE, unchanged
            """);
    }

    private static void route() {
        DOC.says("Promise 6", "Of the BEST ROUTE what 0..3: its channels, 4..7: their AMOUNTS, 8: how many there are.", ROW_OF_FIVE + """
            route(0, 1, 10, *) = 0 NONE NONE NONE 10 NONE NONE NONE 1
            route(1, 3, 10, *) = 1 2 NONE NONE 11 10 NONE NONE 2
            route(1, 5, 10, *) = 1 2 3 4 13 12 11 10 4
            route(1, 5, 10, 0) = 1, unchanged
            route(1, 5, 10, 8) = 4, unchanged
            """);
        String used = "";
        for (int c = 0; c < 6; c++) {
            used += "open(0, 1, 100, 0) = " + c + "\n";
        }
        DOC.says("Promise 6", "NONE if there is none, for what is another, or where pay would be REFUSED for p, q, v.", ROW_OF_FIVE + """
            route(1, 5, 10, -1|9|10|MIN|MAX) = NONE
            route(0, 1, 10, -1|1|2|3|5|6|7|9) = NONE
            route(0, 5, 1, 0|1|2|3|4|5|6|7|8) = NONE
            route(1, 0, 1, 0|1|2|3|4|5|6|7|8) = NONE
            route(0, 1, 0|-1|256|MIN|MAX, 0|4|8) = NONE
            route(0|1|5, -1|6|MIN|MAX, 10, 0|4|8) = NONE
            route(-1|6|MIN|MAX, 0|1|5, 10, 0|4|8) = NONE
            route(0, 0, 10, 0|4|8) = NONE
            route(5, 5, 10, 0|4|8) = NONE
            route(-1, -1, 10, 0|4|8) = NONE
            route(0, 1, 1, 8) = 1
            route(0, 1, 100, 8) = 1
            route(0, 1, 101, 8) = NONE
            """, """
            open(0, 1, 300, 0) = 0
            route(0, 1, 255, 8) = 1
            route(0, 1, 256, 8) = NONE
            route(0, 1, 1, 8) = 1
            route(0, 1, 0, 8) = NONE
            """, used + """
            pay(0, 1, 1, 0|1|2|3|4|5|6|7|8|9|10|11|12|13|14|15) = 1
            route(0, 1, 10, *) = 5 NONE NONE NONE 10 NONE NONE NONE 1
            """);
    }

    private static void most() {
        DOC.says("Promise 7", "The greatest v (to 255) for which there is a ROUTE from p to q", """
            open(0, 1, 254, 255) = 0
            most(0, 1) = 254
            most(1, 0) = 255
            renew(0, 1, 1) = true
            most(0, 1) = 255
            most(1, 0) = 255
            renew(0, 745, 0) = true
            most(0, 1) = 255
            renew(0, -1000, -255) = true
            most(0, 1) = 0
            most(1, 0) = 1
            """, """
            open(0, 1, 254, 256) = 0
            open(1, 2, 500, 0) = 1
            most(0, 2) = 253
            most(0, 2) = 253, unchanged
            terms(1, 0, 20, -1) = true
            renew(0, -134, 0) = true
            most(0, 2) = 100
            renew(0, -1, 0) = true
            most(0, 2) = 99
            open(0, 2, 98, 0) = 2
            most(0, 2) = 99
            renew(2, 2, 0) = true
            most(0, 2) = 100
            pay(0, 2, 100, 0) = 100
            most(0, 2) = 99
            """, """
            open(0, 1, 300, 0) = 0
            open(1, 2, 300, 0) = 1
            terms(1, 9, 20, -1) = true
            most(0, 2) = 243
            renew(0, 14, 0) = true
            most(0, 2) = 254
            renew(0, 1, 0) = true
            most(0, 2) = 255
            """);
        DOC.says("Promise 7", "0 if there is none, or one is not a party, or both are the same", """
            open(0, 5, 10, 0) = 0
            most(0, 5) = 10
            most(5, 0) = 0
            most(0, 1|2|3|4) = 0
            most(-1|6|MIN|MAX, 0|5|-1|6) = 0
            most(0|5, -1|6|MIN|MAX) = 0
            most(0, 0) = 0
            most(5, 5) = 0
            online(5, false) = true
            most(0, 5) = 0
            """);
    }
}
