/** Each sentence of promises 1 to 4, and of what they lean on, that names a boundary. */
public final class WickEdges extends Edges {
    public static void main(String[] args) throws Exception {
        runAll(WickEdges.class);
    }

    // ---- terms

    /** "NONE is -1; NO -4611686018427387904"; "BAD (-2) STATE (-3), FULL (-4)". */
    static void constants() {
        due("NONE", ByTheFlame.NONE, -1);
        due("BAD", ByTheFlame.BAD, -2);
        due("STATE", ByTheFlame.STATE, -3);
        due("FULL", ByTheFlame.FULL, -4);
        due("NO", ByTheFlame.NO, -4611686018427387904L);
    }

    /** "An object is used for at most 512 calls after it has been made": the 511th and the 512th are still as told. */
    static void fiveHundredAndTwelveCalls() {
        ByTheFlame x = new ByTheFlame();
        due("call 1", x.wick(WICK, 0, 99), 0);
        for (int call = 2; call <= 510; call++) {
            due("call " + call, x.set(MOMENT, 0, call), call == 2 ? 0 : call - 1);
        }
        due("call 511", x.count(3), 510);
        due("call 512", x.sure(1), bits(50));
    }

    // ---- promise 1

    /** "No WICKS"; "DAMP 0 at first", "MOMENT 0 at first". */
    static void newObjectHasNoWicks() {
        ByTheFlame x = new ByTheFlame();
        due("count of wicks", x.count(0), 0);
        due("told", x.told(0, PARTS), BAD);
        due("light", x.light(0, 1), BAD);
        due("spans by wick 0", x.spans(1, 0), BAD);
        due("spans by none", x.spans(0, 0), 0);
        due("damp", x.count(2), 0);
        due("moment", x.count(3), 0);
    }

    /** "THE RULE at first is TEXT 0", THE TAPE is empty, no IMAGE, "SHEETS missing (as all are at first)". */
    static void newObjectHasNothingElse() {
        ByTheFlame x = new ByTheFlame();
        due("texts", x.count(4), 1);
        due("bytes of the tape", x.count(5), 0);
        due("the rule", x.count(6), 0);
        due("an image", x.back(), STATE);
        for (int sheet = 0; sheet < 4; sheet++) {
            due("sheet " + sheet, x.cell(sheet, 0, 0), NOTHING);
        }
        due("the first text fed is number 1", read(x, "costs 1;worth 1;drift 1;"), 1);
    }

    /** "TEXT 0, at first THE RULE, is: costs 1 ; worth span ; drift 1 ;". */
    static void textZero() {
        ByTheFlame x = withWicks(WICK, 0, 10);
        due("one end costs", x.tell(1, 10, 1), 1);
        due("two ends cost", x.tell(1, 5, 1), 2);
        due("worth of 10", x.worth(1, 1), 10);
        due("one copy", x.copies(0, 1, 1), 1);
        due("two copies", x.copies(0, 2, 1), 2);
    }

    // ---- promise 2

    /** KIND 0 .. 5. */
    static void wickKind() {
        for (int kind = 0; kind <= 5; kind++) {
            ByTheFlame x = new ByTheFlame();
            due("kind " + kind, x.wick(kind, 0, 1), 0);
            due("its kind", x.told(0, 4), kind);
        }
        for (int kind : new int[] {-1, 6, 7, LEAST_INT, MOST_INT}) {
            refused("kind " + kind, () -> withWicks(WICK, 1, 2), BAD, x -> x.wick(kind, 0, 1));
        }
    }

    /** "a NUMBER (0 .. 9)". */
    static void wickNumber() {
        for (int number : new int[] {0, 1, 8, 9}) {
            ByTheFlame x = new ByTheFlame();
            due("number " + number, x.wick(WICK, number, 1), 0);
            due("its number", x.told(0, NUMBER), number);
        }
        for (int number : new int[] {-1, 10, 11, LEAST_INT, MOST_INT}) {
            refused("number " + number, () -> withWicks(WICK, 1, 2), BAD, x -> x.wick(WICK, number, 1));
        }
    }

    /** "A WICK (parts 1 .. 99)". */
    static void wickParts() {
        for (int parts : new int[] {1, 2, 98, 99}) {
            ByTheFlame x = new ByTheFlame();
            due("parts " + parts, x.wick(WICK, 0, parts), 0);
            due("its parts", x.told(0, PARTS), parts);
        }
        for (int parts : new int[] {0, -1, 100, 101, LEAST_INT, MOST_INT}) {
            refused("parts " + parts, () -> withWicks(WICK, 1, 2), BAD, x -> x.wick(WICK, 0, parts));
        }
    }

    /** "LIT 0 at first", "BURNT 0 at first". */
    static void wickIsNeitherLitNorBurnt() {
        ByTheFlame x = withWicks(TWISTED, 9, 99);
        due("lit", x.told(0, LIT), 0);
        due("burnt", x.told(0, BURNT), 0);
        due("out", x.out(0), NONE);
    }

    /** "WICKS (4 at most, numbered from 0)", FULL. */
    static void fourWicksAtMost() {
        ByTheFlame x = new ByTheFlame();
        for (int w = 0; w < 4; w++) {
            due("wick " + w, x.wick(w, w, 10 + w), w);
            due("how many", x.count(0), w + 1);
        }
        due("the last one's parts", x.told(3, PARTS), 13);
        refused("a fifth wick", WickEdges::four, FULL, y -> y.wick(WICK, 0, 1));
    }

    /** "BAD; FULL": of a wick that is bad while there are four, BAD is answered. */
    static void wickBadAheadOfFull() {
        refused("kind 6", WickEdges::four, BAD, x -> x.wick(6, 0, 1));
        refused("number 10", WickEdges::four, BAD, x -> x.wick(WICK, 10, 1));
        refused("parts 100", WickEdges::four, BAD, x -> x.wick(WICK, 0, 100));
    }

    /** A refused wick takes no number. */
    static void refusedWickTakesNoNumber() {
        ByTheFlame x = new ByTheFlame();
        due("bad", x.wick(WICK, 0, 0), BAD);
        due("the first", x.wick(WICK, 0, 1), 0);
        due("bad", x.wick(6, 0, 1), BAD);
        due("the second", x.wick(WICK, 0, 1), 1);
    }

    private static ByTheFlame four() {
        ByTheFlame x = withWicks(WICK, 1, 10, OILED, 2, 20, GREEN, 3, 30, WAXED, 4, 40);
        x.light(1, 1);
        return x;
    }

    // ---- promise 3

    private static ByTheFlame two() {
        ByTheFlame x = withWicks(WICK, 3, 50, GREEN, 4, 60);
        x.set(DAMP, 0, 5);
        x.set(MOMENT, 0, 70);
        x.light(1, 1);
        x.set(BURNT, 1, 8);
        return x;
    }

    private static void setWithin(int what, int most) {
        ByTheFlame x = two();
        int was = what == DAMP ? 5 : what == MOMENT ? 70 : x.told(1, what);
        for (int v : new int[] {0, 1, most - 1, most}) {
            due("set(" + what + ") to " + v, x.set(what, 1, v), was);
            due("what it is", what == DAMP ? x.count(2) : what == MOMENT ? x.count(3) : x.told(1, what), v);
            was = v;
        }
        for (int v : new int[] {-1, most + 1, LEAST_INT, MOST_INT}) {
            refused("set(" + what + ") to " + v, WickEdges::two, BAD, y -> y.set(what, 1, v));
        }
    }

    /** "PARTS (0 .. 99)". */
    static void setParts() {
        setWithin(PARTS, 99);
    }

    /** "LIT (0, 1 or 2 ends)". */
    static void setLit() {
        setWithin(LIT, 2);
    }

    /** "BURNT (parts; 0 .. 999)". */
    static void setBurnt() {
        setWithin(BURNT, 999);
    }

    /** "a NUMBER (0 .. 9)". */
    static void setNumber() {
        setWithin(NUMBER, 9);
    }

    /** "DAMP (0 .. 9)". */
    static void setDamp() {
        setWithin(DAMP, 9);
    }

    /** "MOMENT (0 .. 9999)". */
    static void setMoment() {
        setWithin(MOMENT, 9999);
    }

    /** what 0 .. 5. */
    static void setWhat() {
        for (int what : new int[] {-1, 6, 7, LEAST_INT, MOST_INT}) {
            refused("set(" + what + ")", WickEdges::two, BAD, x -> x.set(what, 0, 1));
        }
    }

    /** Of what is one WICK's, of is a WICK. */
    static void setOfNoWick() {
        for (int what = PARTS; what <= NUMBER; what++) {
            int asked = what;
            for (int of : new int[] {-1, 2, 3, 4, LEAST_INT, MOST_INT}) {
                refused("set(" + what + ") of " + of, WickEdges::two, BAD, x -> x.set(asked, of, 1));
            }
            due("of the first one", two().set(what, 0, 1), what == PARTS ? 50 : what == NUMBER ? 3 : 0);
            due("of the last one", two().set(what, 1, 1), what == PARTS ? 60 : what == LIT ? 1 : what == BURNT ? 8 : 4);
        }
    }

    /** "by 4, 5 of does not matter". */
    static void setDampAndMomentOfAny() {
        for (int of : new int[] {LEAST_INT, -1, 0, 1, 2, 4, MOST_INT}) {
            ByTheFlame x = two();
            due("damp of " + of, x.set(DAMP, of, 6), 5);
            due("moment of " + of, x.set(MOMENT, of, 71), 70);
            due("damp", x.count(2), 6);
            due("moment", x.count(3), 71);
            due("without wicks", new ByTheFlame().set(DAMP, of, 9), 0);
        }
    }

    /** "PARTS (what 0; if v is 0, LIT is 0, too)". */
    static void setPartsToNothingPutsItOut() {
        for (int lit = 0; lit <= 2; lit++) {
            ByTheFlame x = withWicks(WICK, 0, 9, WICK, 0, 9);
            x.set(LIT, 0, lit);
            x.set(LIT, 1, 1);
            due("parts 1", x.set(PARTS, 0, 1), 9);
            due("still lit", x.told(0, LIT), lit);
            due("parts 0", x.set(PARTS, 0, 0), 1);
            due("lit no more", x.told(0, LIT), 0);
            due("the other one is lit", x.told(1, LIT), 1);
            due("burnt is as it was", x.told(0, BURNT), 0);
            due("parts 5", x.set(PARTS, 0, 5), 0);
            due("not lit by that", x.told(0, LIT), 0);
        }
    }

    /** "STATE: LIT above 0 of one that has no PARTS." */
    static void setLitWithoutParts() {
        Made out = () -> {
            ByTheFlame x = two();
            x.set(PARTS, 0, 0);
            return x;
        };
        due("lit 0", out.anew().set(LIT, 0, 0), 0);
        refused("lit 1", out, STATE, x -> x.set(LIT, 0, 1));
        refused("lit 2", out, STATE, x -> x.set(LIT, 0, 2));
        refused("lit 3: BAD is ahead", out, BAD, x -> x.set(LIT, 0, 3));
        refused("lit -1: BAD is ahead", out, BAD, x -> x.set(LIT, 0, -1));
        due("the other one has parts", out.anew().set(LIT, 1, 2), 1);
        ByTheFlame x = out.anew();
        x.set(PARTS, 0, 1);
        due("one part", x.set(LIT, 0, 1), 0);
    }

    /** Each set() changes that alone. */
    static void setChangesNothingElse() {
        int[] now = {50, 0, 0, 3};
        for (int what = PARTS; what <= NUMBER; what++) {
            ByTheFlame x = two();
            x.set(what, 0, 2);
            for (int other = PARTS; other <= NUMBER; other++) {
                due("set(" + what + "), then told(" + other + ")", x.told(0, other), other == what ? 2 : now[other]);
            }
            due("the other one's parts", x.told(1, PARTS), 60);
            due("the other one is lit", x.told(1, LIT), 1);
            due("damp", x.count(2), 5);
            due("moment", x.count(3), 70);
        }
    }

    // ---- promise 4

    /** told() of a WICK. */
    static void toldOfNoWick() {
        due("the first", four().told(0, PARTS), 10);
        due("the last", four().told(3, PARTS), 40);
        for (int wick : new int[] {-1, 4, LEAST_INT, MOST_INT}) {
            refused("told of " + wick, WickEdges::four, BAD, x -> x.told(wick, PARTS));
        }
        due("the last of two", two().told(1, PARTS), 60);
        due("behind the last of two", two().told(2, PARTS), BAD);
    }

    /** what 0 .. 8. */
    static void toldWhat() {
        long[] all = {60, 1, 8, 4, GREEN, 1, 12, 1, 1};
        for (int what = 0; what <= 8; what++) {
            int asked = what;
            changesNothing("told(1, " + what + ")", WickEdges::two, all[what], x -> x.told(1, asked));
        }
        for (int what : new int[] {-1, 9, LEAST_INT, MOST_INT}) {
            refused("told(0, " + what + ")", WickEdges::two, BAD, x -> x.told(0, what));
        }
    }

    private static void fast(int kind, int number, int damp, int one, int both) {
        ByTheFlame x = withWicks(kind, number, 99);
        x.set(DAMP, 0, damp);
        String of = "kind " + kind + ", number " + number + ", damp " + damp;
        due("not lit, " + of, x.told(0, 5), 0);
        due("would be with one end, " + of, x.told(0, 7), one);
        due("would be with both, " + of, x.told(0, 8), both);
        x.light(0, 1);
        due("one end, " + of, x.told(0, 5), one);
        x.burn(1);
        due("parts then", x.told(0, PARTS), 99 - one);
        x.light(0, 1);
        due("both ends, " + of, x.told(0, 5), both);
        x.burn(1);
        due("parts then", x.told(0, PARTS), 99 - one - both);
    }

    /** "WICK: l", whatever the damp and the NUMBER. */
    static void fastOfWick() {
        fast(WICK, 0, 0, 1, 2);
        fast(WICK, 0, 9, 1, 2);
        fast(WICK, 9, 9, 1, 2);
    }

    /** "OILED: l more than a WICK". */
    static void fastOfOiled() {
        fast(OILED, 0, 0, 2, 4);
        fast(OILED, 0, 9, 2, 4);
        fast(OILED, 9, 0, 2, 4);
    }

    /** "GREEN: a WICK's, but 1 less, if d is above NUMBER"; "FAST 1 at least". */
    static void fastOfGreen() {
        fast(GREEN, 4, 3, 1, 2);
        fast(GREEN, 4, 4, 1, 2);
        fast(GREEN, 4, 5, 1, 1);
        fast(GREEN, 0, 0, 1, 2);
        fast(GREEN, 0, 1, 1, 1);
        fast(GREEN, 8, 8, 1, 2);
        fast(GREEN, 8, 9, 1, 1);
        fast(GREEN, 9, 9, 1, 2);
    }

    /** "WAXED: NUMBER modulo 3 more than an OILED, if l is 2, else as an OILED". */
    static void fastOfWaxed() {
        for (int number = 0; number <= 9; number++) {
            int[] more = {0, 1, 2, 0, 1, 2, 0, 1, 2, 0};
            fast(WAXED, number, 0, 2, 4 + more[number]);
            fast(WAXED, number, 9, 2, 4 + more[number]);
        }
    }

    /** "ROPE: as a GREEN, but 1, if l is 1". */
    static void fastOfRope() {
        fast(ROPE, 4, 3, 1, 2);
        fast(ROPE, 4, 4, 1, 2);
        fast(ROPE, 4, 5, 1, 1);
        fast(ROPE, 0, 0, 1, 2);
        fast(ROPE, 0, 1, 1, 1);
        fast(ROPE, 8, 9, 1, 1);
        fast(ROPE, 9, 9, 1, 2);
    }

    /** "TWISTED: half (cut) of d less than an OILED"; "FAST 1 at least". */
    static void fastOfTwisted() {
        int[] one = {2, 2, 1, 1, 1, 1, 1, 1, 1, 1};
        int[] both = {4, 4, 3, 3, 2, 2, 1, 1, 1, 1};
        for (int damp = 0; damp <= 9; damp++) {
            fast(TWISTED, 0, damp, one[damp], both[damp]);
            fast(TWISTED, 9, damp, one[damp], both[damp]);
        }
    }

    private static void ash(int kind, int number, int burnt, int due) {
        ByTheFlame x = withWicks(kind, number, 9);
        x.set(BURNT, 0, burnt);
        due("ash of kind " + kind + ", number " + number + ", burnt " + burnt, x.told(0, 6), due);
        x.set(DAMP, 0, 9);
        due("by damp 9, too", x.told(0, 6), due);
    }

    /** "WICK: BURNT". */
    static void ashOfWick() {
        ash(WICK, 0, 0, 0);
        ash(WICK, 9, 1, 1);
        ash(WICK, 9, 999, 999);
    }

    /** "OILED: half (cut) of a WICK's". */
    static void ashOfOiled() {
        ash(OILED, 9, 0, 0);
        ash(OILED, 9, 1, 0);
        ash(OILED, 9, 2, 1);
        ash(OILED, 9, 3, 1);
        ash(OILED, 9, 998, 499);
        ash(OILED, 9, 999, 499);
    }

    /** "GREEN: NUMBER more than a WICK". */
    static void ashOfGreen() {
        ash(GREEN, 0, 0, 0);
        ash(GREEN, 9, 0, 9);
        ash(GREEN, 1, 7, 8);
        ash(GREEN, 9, 999, 1008);
    }

    /** "WAXED: an OILED's less NUMBER"; "ASH 0 at least, in the end". */
    static void ashOfWaxed() {
        ash(WAXED, 0, 0, 0);
        ash(WAXED, 1, 0, 0);
        ash(WAXED, 5, 9, 0);
        ash(WAXED, 5, 10, 0);
        ash(WAXED, 5, 11, 0);
        ash(WAXED, 5, 12, 1);
        ash(WAXED, 9, 999, 490);
    }

    /** "ROPE: twice a GREEN's". */
    static void ashOfRope() {
        ash(ROPE, 0, 0, 0);
        ash(ROPE, 9, 0, 18);
        ash(ROPE, 1, 7, 16);
        ash(ROPE, 9, 999, 2016);
    }

    /** "TWISTED: an OILED's and BURNT by 3 (cut)". */
    static void ashOfTwisted() {
        int[] due = {0, 0, 1, 2, 3, 3, 5, 5};
        for (int burnt = 0; burnt < due.length; burnt++) {
            ash(TWISTED, 9, burnt, due[burnt]);
        }
        ash(TWISTED, 0, 998, 499 + 332);
        ash(TWISTED, 0, 999, 499 + 333);
    }
}
