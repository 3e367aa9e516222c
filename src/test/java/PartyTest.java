/** The parties: the section 'Terms' where it tells of them, and promises 1, 2, 3, 12 and 16. */
public final class PartyTest {
    private static final Sentences DOC = new Sentences("PartyTest");

    public static void main(String[] args) {
        termsOfParties();
        newObject();
        online();
        terms();
        party();
        partyOwns();
        height();
        DOC.end();
    }

    private static void termsOfParties() {
        DOC.says("Terms", "PARTIES 0..5", """
            party(0|5, 0) = 1000
            party(-1|6|MIN|MAX, 0) = NONE
            online(0|5, false) = true
            online(-1|6|MIN|MAX, false) = false, unchanged
            online(0|5, true) = true
            terms(0, 1, 0, 5) = true
            terms(5, 1, 0, 0) = true
            terms(-1|6|MIN|MAX, 1, 0, -1) = false, unchanged
            open(5, 0, 10, 20) = 0
            open(-1|6|MIN|MAX, 0, 1, 1) = REFUSED, unchanged
            open(0, -1|6|MIN|MAX, 1, 1) = REFUSED, unchanged
            most(5, 0) = 10
            most(0, 5) = 20
            most(-1|6|MIN|MAX, 0) = 0
            most(0, -1|6|MIN|MAX) = 0
            route(0, 5, 1, 0) = 0
            route(-1|6|MIN|MAX, 5, 1, 0) = NONE
            route(0, -1|6|MIN|MAX, 1, 0) = NONE
            pay(0, 5, 1, 0) = 1
            pay(-1|6|MIN|MAX, 5, 1, 1) = REFUSED, unchanged
            pay(0, -1|6|MIN|MAX, 1, 1) = REFUSED, unchanged
            publish(-1|6|MIN|MAX, 0, 0) = false, unchanged
            publish(5, 0, 0) = true
            """);
        DOC.says("Terms", "have COINS (1000 at first)", """
            party(0|1|2|3|4|5, 0) = 1000
            open(0, 1, 1001, 0) = REFUSED, unchanged
            open(0, 1, 0, 1001) = REFUSED, unchanged
            open(0, 1, 1000, 1000) = 0
            party(0|1, 0) = 0
            """);
        DOC.says("Terms", "are ONLINE (at first) or not", """
            party(0|1|2|3|4|5, 1) = 1
            online(0|1|2|3|4|5, true) = false, unchanged
            """);
        DOC.says("Terms", "KNOW some of the SECRETS 0..15 (at first none)", """
            party(0|1|2|3|4|5, 5) = 0
            open(0, 1, 300, 100) = 0
            pay(0, 1, 1, -1|16|17|31|32|47|MIN|MAX) = REFUSED, unchanged
            pay(0, 1, 1, 0|15) = 1
            party(1, 5) = 32769
            party(0, 5) = 0
            """);
        DOC.says("Terms", "have a BASE 0..9 (1 at first)", """
            party(0|1|2|3|4|5, 2) = 1
            terms(3, -1|10|MIN|MAX, 0, -1) = false, unchanged
            terms(3, 0, 0, -1) = true
            party(3, 2) = 0
            terms(3, 9, 0, -1) = true
            party(3, 2) = 9
            """);
        DOC.says("Terms", "a RATE 0..20 (0 at first)", """
            party(0|1|2|3|4|5, 3) = 0
            terms(3, 1, 20, -1) = true
            party(3, 3) = 20
            terms(3, 1, -1|21|MIN|MAX, -1) = false, unchanged
            terms(3, 1, 0, -1) = true
            party(3, 3) = 0
            """);
        DOC.says("Terms", "perhaps a GUARD, another party (at first none)", """
            party(0|1|2|3|4|5, 4) = NONE
            terms(3, 1, 0, 3) = false, unchanged
            terms(3, 1, 0, 2) = true
            party(3, 4) = 2
            terms(3, 1, 0, 3) = false, unchanged
            terms(3, 1, 0, 4) = true
            party(3, 4) = 4
            """);
        DOC.says("Terms", "The chain has a HEIGHT, 0 at first.", """
            height() = 0
            open(0, 1, 5, 5) = 0
            pay(0, 1, 5, 0) = 5
            lock(0, 1, 0, 3) = 3
            publish(0, 0, 0) = true
            channel(0, 6) = 0
            height() = 0
            block(1) = 1
            height() = 1
            """);
    }

    private static void newObject() {
        DOC.says("Promise 1", "No channels, height 0.", """
            height() = 0
            channel(0|1|2|3|4|5|6|7, 0|1|2|3|4|5|6|7|8) = NONE
            state(0|7, 0, 0|1|2) = NONE
            lock(0|7, -1|0, 0, 0|1|2|3) = NONE
            most(0|1|2|3|4|5, 0|1|2|3|4|5) = 0
            route(0, 5, 1, 0|4|8) = NONE
            party(0|1|2|3|4|5, 6) = 0
            """, """
            pay(0, 1, 1, 0) = NONE, unchanged
            close(0) = false, unchanged
            renew(0, 0, 0) = false, unchanged
            publish(0, 0, 0) = false, unchanged
            open(0, 1, 1, 1) = 0
            """);
    }

    private static void online() {
        DOC.says("Promise 2", "A party is ONLINE from now on, or not", """
            online(0|5, false) = true
            party(0|5, 1) = 0
            party(1|2|3|4, 1) = 1
            open(0, 1, 1, 1) = REFUSED
            block(20) = 20
            party(0|5, 1) = 0
            online(0, true) = true
            party(0, 1) = 1
            party(5, 1) = 0
            open(0, 1, 1, 1) = 0
            """);
        DOC.says("Promise 2", "false, and nothing changes, if there is none, or it is so", """
            open(0, 1, 5, 5) = 0
            online(-1|6|7|MIN|MAX, true|false) = false, unchanged
            online(0|1|2|3|4|5, true) = false, unchanged
            online(0|1|2|3|4|5, false) = true
            online(0|1|2|3|4|5, false) = false, unchanged
            online(-1|6|7|MIN|MAX, true|false) = false, unchanged
            online(0|1|2|3|4|5, true) = true
            party(0|1|2|3|4|5, 1) = 1
            """);
    }

    private static void terms() {
        DOC.says("Promise 3", "BASE, RATE and GUARD (-1 none) of a party", """
            terms(0, 9, 20, 5) = true
            party(0, *) = 1000 1 9 20 5 0 0
            terms(5, 0, 0, 0) = true
            party(5, *) = 1000 1 0 0 0 0 0
            terms(2, 3, 7, 4) = true
            party(2, *) = 1000 1 3 7 4 0 0
            terms(2, 3, 7, 4) = true
            terms(2, 4, 8, -1) = true
            party(2, *) = 1000 1 4 8 NONE 0 0
            party(1|3|4, 2) = 1
            party(1|3|4, 3) = 0
            party(1|3|4, 4) = NONE
            online(4|5, false) = true
            terms(4, 2, 5, 5) = true
            party(4, *) = 1000 0 2 5 5 0 0
            """);
        DOC.says("Promise 3", "false, and nothing changes, if there is no such party, base, rate, or guard, which is not p", """
            terms(2, 5, 6, 1) = true
            terms(-1|6|MIN|MAX, 0, 0, 0|-1) = false, unchanged
            terms(2, -1|10|MIN|MAX, 0, 3) = false, unchanged
            terms(2, 0, -1|21|MIN|MAX, 3) = false, unchanged
            terms(2, 0, 0, -2|6|MIN|MAX) = false, unchanged
            party(2, *) = 1000 1 5 6 1 0 0
            """, """
            terms(0, 0, 0, 0) = false, unchanged
            terms(1, 0, 0, 1) = false, unchanged
            terms(2, 0, 0, 2) = false, unchanged
            terms(3, 0, 0, 3) = false, unchanged
            terms(4, 0, 0, 4) = false, unchanged
            terms(5, 0, 0, 5) = false, unchanged
            terms(0, 0, 0, 1|2|3|4|5) = true
            terms(5, 0, 0, 0|1|2|3|4) = true
            """);
    }

    private static void party() {
        DOC.says("Promise 12", "what 0: COINS; 1: 1 if it is ONLINE, else 0; 2: BASE; 3: RATE; 4: GUARD, or NONE", """
            party(3, *) = 1000 1 1 0 NONE 0 0
            terms(3, 7, 11, 0) = true
            online(3, false) = true
            party(3, *) = 1000 0 7 11 0 0 0
            online(3, true) = true
            open(3, 0, 1000, 0) = 0
            party(3, *) = 0 1 7 11 0 0 1000
            """);
        DOC.says("Promise 12", "5: the sum of 2^s of secrets that it KNOWS", """
            open(0, 1, 100, 0) = 0
            open(0, 1, 100, 0) = 1
            open(0, 1, 100, 0) = 2
            open(0, 1, 100, 0) = 3
            open(0, 1, 100, 0) = 4
            open(0, 1, 100, 0) = 5
            pay(0, 1, 1, 0) = 1
            party(1, 5) = 1
            pay(0, 1, 1, 3) = 1
            party(1, 5) = 9
            pay(0, 1, 1, 1|2|4|5|6|7|8|9|10|11|12|13|14) = 1
            party(1, 5) = 32767
            pay(0, 1, 1, 15) = 1
            party(1, 5) = 65535
            party(0, 5) = 0
            block(1) = 1
            party(0|1, 5) = 65535
            party(2|3|4|5, 5) = 0
            """);
        DOC.says("Promise 12", "NONE for others", """
            open(0, 5, 10, 10) = 0
            party(0|5, -1|7|8|MIN|MAX) = NONE
            party(-1|6|MIN|MAX, 0|1|2|3|4|5|6) = NONE
            party(0|5, 6) = 10
            """);
    }

    private static void partyOwns() {
        DOC.says("Promise 12", "6: what is HELD for it, and its balances in LATEST states of OPEN channels, together", """
            open(0, 1, 300, 100) = 0
            open(2, 0, 30, 40) = 1
            open(0, 3, 7, 5) = 2
            open(2, 3, 60, 70) = 3
            party(0, *) = 653 1 1 0 NONE 0 347
            pay(0, 1, 50, 0) = 50
            party(0, 6) = 297
            party(1, 6) = 100
            block(1) = 1
            party(0, 6) = 297
            party(1, 6) = 150
            close(1) = true
            party(0, 6) = 257
            party(2, 6) = 60
            publish(0, 0, 2) = true
            party(0, 6) = 257
            party(1, 6) = 0
            publish(3, 2, 0) = true
            party(0, 6) = 250
            party(3, 6) = 75
            block(2) = 3
            party(0, 6) = 250
            block(1) = 4
            party(0, 6) = 0
            party(3, 6) = 70
            """, """
            open(0, 1, 10, 20) = 0
            open(2, 0, 40, 80) = 1
            open(0, 3, 160, 0) = 2
            open(0, 3, 320, 0) = 3
            publish(0, 1, 0) = true
            party(0, 6) = 570
            publish(0, 3, 0) = true
            party(0, 6) = 570
            close(2) = true
            party(0, 6) = 410
            publish(1, 0, 0) = true
            party(0, 6) = 400
            party(1, 6) = 20
            """, """
            open(0, 1, 300, 100) = 0
            pay(0, 1, 50, 0) = 50
            block(1) = 1
            publish(0, 0, 0) = true
            party(0, 6) = 300
            party(1, 6) = 0
            block(1) = 2
            party(0|1, 6) = 0
            """);
    }

    private static void height() {
        DOC.says("Promise 16", "HEIGHT.", """
            height() = 0
            block(1) = 1
            height() = 1
            block(20) = 21
            height() = 21
            block(0|21) = REFUSED
            height() = 21
            online(0, false) = true
            open(1, 2, 1, 1) = 0
            height() = 21
            """);
    }
}
