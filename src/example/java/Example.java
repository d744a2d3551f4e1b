/** What ThrownMarks answers: each comment begins with the answer of the call beside it. */
public final class Example {
    public static void main(String[] args) {
        ThrownMarks x = new ThrownMarks();
        tell(x.panel(3, 2));              // 6: marks of 3 judges for 2 skaters, all of them 0
        tell(x.card(0, 20));              // 0: judge 0 had given 0 and 0; now 3 and 2, as 3 * 6 + 2
        tell(x.card(1, 27));              // 0: judge 1 gives 4 and 3
        tell(x.mark(2, 1, 5));            // 0: judge 2 gives 0 and 5
        tell(x.land(false, 2, 1));        // 0: judge 2 was of land 0 and is of land 1
        tell(x.land(true, 0, 1));         // 0: skater 0, too

        tell(x.write(5, 0x53312F5330L));  // 5: bytes of the text S1/S0, its first byte the highest
        tell(x.fault());                  // -9: NONE
        tell(x.rule(0));                  // 2: parts that rule 0 has now
        tell(x.worth(0, 0, 0));           // 3: what S1 leaves of 3, 4, 0
        tell(x.worth(0, 1, 0));           // 3: what S1 leaves of 2, 3, 5
        tell(x.worth(0, 1, 1));           // 10: S0 leaves all of them
        tell(x.place(0, 1));              // 1: by S0, as both are alike by S1
        tell(x.place(0, 0));              // 2

        tell(x.could(0, 2, 0));           // 1: the place to which judge 2 could bring skater 0
        tell(x.best(0, 2, 0));            // 0: by 0 and 0
        tell(x.bends(0, 2));              // 1: yes, both are of land 1
        tell(x.few(0, 0, 1));             // 1: judge 0 (bit 0) alone could bring skater 0 to place 1
        tell(x.drawn(0, 1, 1));           // 1: of three judges one has skater 1 alone at place 1
        tell(x.rests(0, true));           // 3: if judges 0 and 1 (bits 0 and 1) lean, none would change its mind

        tell(x.keep());                   // 1: past card
        tell(x.lean(2));                  // -7: 0 times 2 others, less 3 and 4
        tell(x.seldom(2));                // 3: all three would lean as much or more for land 1

        tell(x.place(0, 2));              // -1: UNKNOWN, there is no skater 2
        tell(x.mark(0, 0, 6));            // -2: BAD, marks are 0 to 5
        tell(x.write(1, 0x2F));           // 6: bytes of the text S1/S0/
        tell(x.rule(0));                  // -3: LATE, the text has a fault; rule 0 is what it was
        tell(x.write(8, 0));              // 14: bytes, eight of them 0
        tell(x.write(3, 0));              // -4: FULL, it would be 17; the text is what it was
    }

    private static void tell(int answer) {
        System.out.println(answer);
    }
}
