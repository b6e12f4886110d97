/** Each sentence of promises 16 to 25, and of what they lean on, that names a boundary. */
public final class CopyEdges extends Edges {
    public static void main(String[] args) throws Exception {
        runAll(CopyEdges.class);
    }

    /** Wick 0 isn't lit, wick 1 is at one end, wick 2 has no parts; there is an image of wick 0 alone. */
    private static ByTheFlame unlike() {
        ByTheFlame x = withWicks(WICK, 2, 50);
        x.image();
        x.wick(TWISTED, 3, 60);
        x.wick(GREEN, 4, 70);
        x.light(1, 1);
        x.set(PARTS, 2, 0);
        x.set(DAMP, 0, 1);
        x.set(MOMENT, 0, 12);
        x.set(BURNT, 0, 25);
        return x;
    }

    // ---- promise 16

    /** "BAD: no such WICK". */
    static void cheatOfNoWick() {
        for (int wick : new int[] {-1, 3, 4, LEAST_INT, MOST_INT}) {
            refused("cheat " + wick, CopyEdges::unlike, BAD, x -> x.cheat(wick));
        }
        changesNothing("the first", CopyEdges::unlike, NONE, x -> x.cheat(0));
        due("the last", withWicks(WICK, 0, 9, TWISTED, 0, 9).cheat(1), 2);
        due("without wicks", new ByTheFlame().cheat(0), BAD);
    }

    /** "or it has no PARTS". */
    static void cheatWithoutParts() {
        refused("no parts", CopyEdges::unlike, BAD, x -> x.cheat(2));
        ByTheFlame x = withWicks(TWISTED, 0, 9);
        x.set(PARTS, 0, 1);
        due("one part burns in a moment by any damp", x.cheat(0), NONE);
        x.set(PARTS, 0, 2);
        due("two parts", x.cheat(0), 2);
        x.set(PARTS, 0, 0);
        due("no parts", x.cheat(0), BAD);
        x.set(PARTS, 0, 99);
        due("99 parts", x.cheat(0), 2);
    }

    /** "the least DAMP (0 .. 9) by which that would take more MOMENTS ... than in DAMP 0; NONE." */
    static void cheatOfEachKind() {
        int[] due = {NONE, NONE, NONE, NONE, NONE, 2};
        for (int kind = WICK; kind <= TWISTED; kind++) {
            for (int number = 0; number <= 9; number += 3) {
                due("kind " + kind, withWicks(kind, number, 50).cheat(0), due[kind]);
            }
        }
    }

    /** "a WICK burns, LIT at one end": whatever it is LIT, and DAMP, now. */
    static void cheatWhateverIsNow() {
        for (int damp = 0; damp <= 9; damp++) {
            for (int lit = 0; lit <= 2; lit++) {
                ByTheFlame x = withWicks(TWISTED, 0, 50);
                x.set(DAMP, 0, damp);
                x.set(LIT, 0, lit);
                due("damp " + damp + ", lit " + lit, x.cheat(0), 2);
                due("damp is as it was", x.count(2), damp);
                due("lit is as it was", x.told(0, LIT), lit);
            }
        }
    }

    // ---- promise 17

    /** "BAD: ash is not 0 .. 9999." */
    static void whichAsh() {
        for (int ash : new int[] {-1, -2, 10000, 10001, LEAST_INT, MOST_INT}) {
            refused("which " + ash, CopyEdges::unlike, BAD, x -> x.which(ash));
        }
        for (int ash : new int[] {1, 2, 9998, 9999}) {
            changesNothing("which " + ash, CopyEdges::unlike, 0, x -> x.which(ash));
        }
        due("0", withWicks(WAXED, 9, 18).which(0), 1);
        due("0, without wicks", new ByTheFlame().which(0), 0);
    }

    /** "WICKS (bits) whose ASH would be just so much": one less, just so much, one more. */
    static void whichJustSoMuch() {
        int[] kinds = {WICK, OILED, GREEN, WAXED, ROPE, TWISTED};
        int[] ashes = {31, 15, 38, 8, 76, 25};
        for (int i = 0; i < kinds.length; i++) {
            ByTheFlame x = withWicks(WICK, 0, 1, kinds[i], 7, 20);
            x.set(BURNT, 1, 11);
            due("one less, kind " + i, x.which(ashes[i] - 1), 0);
            due("just so much, kind " + i, x.which(ashes[i]), 2);
            due("one more, kind " + i, x.which(ashes[i] + 1), 0);
        }
    }

    /** "(bits)": none, one, all four. */
    static void whichBits() {
        ByTheFlame x = withWicks(WICK, 0, 10, OILED, 0, 20, GREEN, 3, 7, WAXED, 2, 24);
        due("all four", x.which(10), 15);
        due("none", x.which(11), 0);
        for (int w = 0; w < 4; w++) {
            int was = x.told(w, PARTS);
            x.set(PARTS, w, was + 4);
            due("all but " + w, x.which(10), 15 - (1 << w));
            x.set(PARTS, w, was);
        }
    }

    /** "were all their PARTS BURNT, too": what is BURNT and what is left; lit or not; without PARTS, too. */
    static void whichBurntAndLeft() {
        ByTheFlame x = withWicks(WICK, 0, 50);
        due("50", x.which(50), 1);
        x.light(0, 1);
        x.burn(49);
        due("burnt 49, left 1", x.which(50), 1);
        x.burn(1);
        due("burnt 50, left 0", x.which(50), 1);
        due("nothing is burnt by it", x.told(0, BURNT), 50);
    }

    /** "BURNT (999 at most)". */
    static void whichBounded() {
        ByTheFlame x = withWicks(WICK, 0, 10);
        x.set(BURNT, 0, 988);
        due("998", x.which(998), 1);
        x.set(BURNT, 0, 989);
        due("999", x.which(999), 1);
        x.set(BURNT, 0, 990);
        due("999, not 1000", x.which(999), 1);
        due("1000", x.which(1000), 0);
        ByTheFlame rope = withWicks(ROPE, 9, 99);
        rope.set(BURNT, 0, 999);
        due("the most ash", rope.which(2016), 1);
    }

    // ---- promise 18

    /** "PARTS of a told WICK": BAD, if there is none such. */
    static void copiesOfNoWick() {
        for (int wick : new int[] {-1, 3, 4, LEAST_INT, MOST_INT}) {
            refused("copies " + wick, CopyEdges::unlike, BAD, x -> x.copies(wick, 1, 1));
        }
        changesNothing("the first", CopyEdges::unlike, 1, x -> x.copies(0, 1, 1));
        changesNothing("the last, which has no parts", CopyEdges::unlike, 1, x -> x.copies(2, 1, 1));
        due("without wicks", new ByTheFlame().copies(0, 1, 1), BAD);
    }

    /** "n copies (1 .. 12)". */
    static void copiesHowMany() {
        for (int n : new int[] {0, -1, 13, 14, LEAST_INT, MOST_INT}) {
            refused("of " + n, CopyEdges::unlike, BAD, x -> x.copies(0, n, 1));
        }
        for (int n : new int[] {1, 2, 11, 12}) {
            due("of " + n, unlike().copies(0, n, 1), n);
        }
    }

    /** "BRANCH (1 .. 4)". */
    static void copiesBranch() {
        for (int branch : new int[] {0, -1, 5, 6, LEAST_INT, MOST_INT}) {
            refused("by " + branch, CopyEdges::unlike, BAD, x -> x.copies(0, 12, branch));
        }
        int[] due = {12, 3, 2, 2};
        for (int branch = 1; branch <= 4; branch++) {
            due("by " + branch, unlike().copies(0, 12, branch), due[branch - 1]);
        }
    }

    /** "copy k is made by copy (k less 1) by BRANCH, cut": where one more copy is one more behind the standard. */
    static void copiesMadeByWhich() {
        int[][] behind = {
            {1, 2, 3, 4, 5, 6, 7, 8, 9, 10, 11, 12}, {1, 1, 2, 2, 2, 2, 3, 3, 3, 3, 3, 3},
            {1, 1, 1, 2, 2, 2, 2, 2, 2, 2, 2, 2}, {1, 1, 1, 1, 2, 2, 2, 2, 2, 2, 2, 2}};
        // by 2: 1 2 | 3 .. 6 | 7 .. 14; by 3: 1 .. 3 | 4 .. 12; by 4: 1 .. 4 | 5 .. 20
        for (int branch = 1; branch <= 4; branch++) {
            for (int n = 1; n <= 12; n++) {
                due(n + " copies by " + branch, withWicks(WICK, 0, 9).copies(0, n, branch), behind[branch - 1][n - 1]);
            }
        }
    }

    /** "off by drift more than that one": each copy's own one. */
    static void copiesOffByWhatTheyAreCopiedFrom() {
        // copy 2 alone is off, by 50; by 2 it makes copies 5 and 6, by 1 copy 3
        ByTheFlame x = ruled(withWicks(WICK, 0, 9), "costs 1;worth 1;drift (wick=2)*50+(2<wick);");
        due("copy 1 is off by 0", x.copies(0, 1, 2), 0);
        due("copy 2 by 50", x.copies(0, 2, 2), 50);
        due("copies 3, 4 by 1", x.copies(0, 4, 2), 50);
        due("copy 5 by 51", x.copies(0, 5, 2), 51);
        due("copy 11 by 52", x.copies(0, 10, 2), 51);
        due("copy 11 by 52", x.copies(0, 11, 2), 52);
        due("by 4: copy 8 isn't made by copy 2", x.copies(0, 8, 4), 50);
        due("by 4: copy 9 is", x.copies(0, 9, 4), 51);
        due("by 1: each is", x.copies(0, 12, 1), 60);
    }

    /** "(0 is the standard, which is not off)"; drift 0 .. 99 each. */
    static void copiesBetweenTheBounds() {
        due("none is off", ruled(withWicks(WICK, 0, 9), "costs 1;worth 1;drift -wick;").copies(0, 12, 1), 0);
        due("most", ruled(withWicks(WICK, 0, 9), "costs 1;worth 1;drift 9999;").copies(0, 12, 1), 1188);
        due("12 behind", ruled(withWicks(WICK, 0, 9), "costs 1;worth 1;drift span;").copies(0, 12, 1), 78);
    }

    /** "how far that copy is off that is off most": not the last one's. */
    static void copiesOffMost() {
        ByTheFlame x = ruled(withWicks(WICK, 0, 9), "costs 1;worth 1;drift 9-wick;");
        due("copy 1 of four", x.copies(0, 4, 4), 8);
        due("copy 5 of five: 4 more than 8", x.copies(0, 5, 4), 12);
        due("of twelve", x.copies(0, 12, 4), 12);
    }

    // ---- promise 19

    /** BAD: no such WICK. */
    static void bestOfNoWick() {
        for (int wick : new int[] {-1, 3, 4, LEAST_INT, MOST_INT}) {
            refused("best " + wick, CopyEdges::unlike, BAD, x -> x.best(wick, 1, 0));
        }
        changesNothing("the first", CopyEdges::unlike, 1, x -> x.best(0, 1, 0));
        changesNothing("the last, which has no parts", CopyEdges::unlike, 1, x -> x.best(2, 1, 1));
        due("without wicks", new ByTheFlame().best(0, 1, 0), BAD);
    }

    /** "n copies (1 .. 12)". */
    static void bestHowMany() {
        for (int n : new int[] {0, -1, 13, 14, LEAST_INT, MOST_INT}) {
            refused("of " + n, CopyEdges::unlike, BAD, x -> x.best(0, n, 0));
            refused("of " + n, CopyEdges::unlike, BAD, x -> x.best(0, n, 1));
        }
        int[] branch = {1, 2, 3, 4, 2, 2, 3, 3, 3, 3, 3, 3};
        int[] off = {1, 1, 1, 1, 2, 2, 2, 2, 2, 2, 2, 2};
        for (int n = 1; n <= 12; n++) {
            due("branch of " + n, unlike().best(0, n, 0), branch[n - 1]);
            due("off of " + n, unlike().best(0, n, 1), off[n - 1]);
        }
    }

    /** "BEST BRANCH (what 0), how far off then (1)". */
    static void bestWhat() {
        for (int what : new int[] {-1, 2, 3, LEAST_INT, MOST_INT}) {
            refused("what " + what, CopyEdges::unlike, BAD, x -> x.best(0, 4, what));
        }
        changesNothing("the branch", CopyEdges::unlike, 4, x -> x.best(0, 4, 0));
        changesNothing("how far off", CopyEdges::unlike, 1, x -> x.best(0, 4, 1));
    }

    /** "of 1 .. 4 that by which that is least; of like ones the first". */
    static void bestOfLikeOnes() {
        due("all alike", bestBy("0", 12), 1);
        due("by 2, 3, 4 alike", bestBy("1", 2), 2);
        due("by 3, 4 alike", bestBy("1", 3), 3);
        due("by 4 alone", bestBy("1", 4), 4);
        // copy 4 is 4 behind the standard by 1, 2 by 2 and by 3, 1 by 4
        due("by 1 and 4 alike", bestBy("(wick=4 and span=2)", 4), 1);
        due("by 2 and 3 alike", bestBy("(wick=4 and not span=2)", 4), 2);
        due("by 3 alone", bestBy("(wick=3 and 1<span)+(wick=4 and span<2)", 4), 3);
    }

    private static int bestBy(String drift, int n) {
        return ruled(withWicks(WICK, 0, 9), "costs 1;worth 1;drift " + drift + ";").best(0, n, 0);
    }

    // ---- promise 20

    private static ByTheFlame judged(int sort, int... items) {
        return lay(unlike(), 0, sort, items);
    }

    private static void judgedIs(int due, int... items) {
        due("judge " + java.util.Arrays.toString(items), judged(2, items).judge(0), due);
    }

    /** "BAD: SHEET". */
    static void judgeNoSheet() {
        for (int sheet : new int[] {-1, 4, 5, LEAST_INT, MOST_INT}) {
            refused("judge " + sheet, CopyEdges::unlike, BAD, x -> x.judge(sheet));
        }
        for (int sheet = 0; sheet < 4; sheet++) {
            due("judge " + sheet, lay(unlike(), sheet, 2, 0, 0, 1).judge(sheet), NONE);
        }
    }

    /** "-11": it is missing. */
    static void judgeMissing() {
        for (int sheet = 0; sheet < 4; sheet++) {
            int asked = sheet;
            refused("judge " + sheet, CopyEdges::unlike, NOTHING, x -> x.judge(asked));
        }
        ByTheFlame x = judged(2, 0, 0, 1);
        x.sheet(0, -1, 0);
        due("missing again", x.judge(0), NOTHING);
    }

    /** "BAD: its size isn't by threes": 0 is. */
    static void judgeSize() {
        for (int size = 0; size <= 40; size++) {
            int n = size;
            Made made = () -> {
                ByTheFlame x = unlike();
                x.sheet(0, 2, n);
                return x;
            };
            changesNothing("size " + size, made, size % 3 != 0 ? BAD : size == 0 ? NONE : 0, x -> x.judge(0));
        }
    }

    /** "in how many MOMENTS from now on (0 .. 250)". */
    static void judgeMoments() {
        judgedIs(0, -1, 0, 1);
        judgedIs(NONE, 0, 0, 1);
        judgedIs(NONE, 1, 0, 1);
        judgedIs(NONE, 249, 0, 1);
        judgedIs(NONE, 250, 0, 1);
        judgedIs(0, 251, 0, 1);
        judgedIs(0, LEAST_INT, 0, 1);
        judgedIs(0, MOST_INT, 0, 1);
        judgedIs(1, 250, 0, 1, 251, 0, 1);
    }

    /** "of which WICK". */
    static void judgeWick() {
        judgedIs(0, 0, -1, 1);
        judgedIs(NONE, 0, 0, 1);
        judgedIs(NONE, 0, 1, 1);
        judgedIs(0, 0, 3, 1);
        judgedIs(0, 0, 4, 1);
        judgedIs(0, 0, LEAST_INT, 1);
        judgedIs(0, 0, MOST_INT, 1);
        due("without wicks", lay(new ByTheFlame(), 0, 2, 0, 0, 1).judge(0), 0);
        due("without wicks, no rows", lay(new ByTheFlame(), 0, 2).judge(0), NONE);
    }

    /** "how many ends (1, 2)". */
    static void judgeEnds() {
        judgedIs(0, 0, 0, -1);
        judgedIs(0, 0, 0, 0);
        judgedIs(NONE, 0, 0, 1);
        judgedIs(NONE, 0, 0, 2);
        judgedIs(0, 0, 0, 3);
        judgedIs(0, 0, 0, LEAST_INT);
        judgedIs(0, 0, 0, MOST_INT);
    }

    /** "that tells fewer MOMENTS than the row ahead". */
    static void judgeFewerMoments() {
        judgedIs(NONE, 5, 0, 1, 6, 0, 1);
        judgedIs(NONE, 5, 0, 1, 5, 0, 1);
        judgedIs(1, 5, 0, 1, 4, 0, 1);
        judgedIs(1, 5, 0, 1, 0, 0, 1);
        judgedIs(2, 0, 0, 1, 5, 0, 1, 4, 1, 1);
        judgedIs(NONE, 250, 0, 1, 250, 0, 1);
    }

    /** "or whose WICK has no PARTS then": a moment ahead of its end, just then. */
    static void judgeWithoutParts() {
        judgedIs(0, 0, 2, 1);
        // wick 0 has 50 parts; wick 1, of 60 parts, is lit: 2 parts burn in each moment
        judgedIs(NONE, 0, 0, 1, 49, 0, 1);
        judgedIs(1, 0, 0, 1, 50, 0, 1);
        judgedIs(1, 0, 0, 1, 51, 0, 1);
        judgedIs(NONE, 29, 1, 1);
        judgedIs(0, 30, 1, 1);
        judgedIs(NONE, 24, 0, 1, 48, 0, 1);
        judgedIs(1, 0, 0, 2, 25, 0, 1);
        judgedIs(1, 24, 0, 2, 49, 0, 1);
        judgedIs(NONE, 28, 1, 1, 28, 0, 1);
        judgedIs(1, 28, 1, 1, 29, 1, 1);
    }

    /** "or fewer ends that aren't LIT". */
    static void judgeEndsThatAreNotLit() {
        judgedIs(NONE, 0, 1, 1);
        judgedIs(0, 0, 1, 2);
        judgedIs(NONE, 0, 0, 1, 0, 0, 1);
        judgedIs(1, 0, 0, 1, 0, 0, 2);
        judgedIs(1, 0, 0, 2, 0, 0, 1);
        judgedIs(2, 0, 0, 1, 0, 0, 1, 0, 0, 1);
    }

    /** "the first row (from 0) that isn't such": of two the first; the 13th is the last that a sheet has. */
    static void judgeTheFirstRow() {
        judgedIs(0, 0, 0, 3, 0, 0, 3);
        judgedIs(1, 0, 0, 1, 0, 0, 3, 0, 0, 3);
        judgedIs(0, 0, 0, 3, 0, 0, 1);
        ByTheFlame x = withWicks(WICK, 0, 99);
        x.sheet(0, 2, 39);
        x.cell(0, 2, 1);
        x.cell(0, 5, 1);
        due("the third has no end", x.judge(0), 2);
    }

    /** "in thought": nothing of it stays, not for the next judge() either. */
    static void judgeInThought() {
        Made made = () -> judged(2, 0, 0, 2, 20, 1, 1, 25, 1, 1);
        changesNothing("judge", made, 2, x -> x.judge(0));
        ByTheFlame x = judged(2, 0, 0, 2, 20, 1, 1);
        due("once", x.judge(0), NONE);
        due("again", x.judge(0), NONE);
        due("moment", x.count(3), 12);
    }

    /** Rows of bytes and shorts are judged as the numbers that they hold. */
    static void judgeBytesAndShorts() {
        due("127, a byte", judged(0, 127, 0, 1).judge(0), NONE);
        due("128 is -128, a byte", judged(0, 128, 0, 1).judge(0), 0);
        due("250 is -6, a byte", judged(0, 250, 0, 1).judge(0), 0);
        due("256 is 0, a byte", judged(0, 256, 0, 1).judge(0), NONE);
        due("250, a short", judged(1, 250, 0, 1).judge(0), NONE);
        due("251, a short", judged(1, 251, 0, 1).judge(0), 0);
        due("65536 + 250 is 250, a short", judged(1, 65786, 0, 1).judge(0), NONE);
        due("65535 is -1, a short", judged(1, 65535, 0, 1).judge(0), 0);
    }

    // ---- promise 21

    /** How many ends of a wick are drawn by a seed. */
    private static int ends(int seed, int wick) {
        long z = seed;
        for (int w = 0; w <= wick; w++) {
            z = (int) (z * 1103515245L + 12345L);
        }
        return (int) ((z & 0xffffffffL) >> 11) % 3;
    }

    private static final int[] SEEDS = {0, 1, -1, 2, 5, 77, -77, 1000000, MOST_INT, LEAST_INT, MOST_INT - 1, LEAST_INT + 1};

    /** "z = z * 1103515245 + 12345 (an int; SEED at first): (z >>> 11) % 3 of its ends", by any SEED. */
    static void drawnByAnySeed() {
        int[] lasts = {0, 50, 25};
        for (int seed : SEEDS) {
            due("seed " + seed, withWicks(WICK, 0, 50).drawn(seed), lasts[ends(seed, 0)]);
        }
        changesNothing("seed 9", CopyEdges::unlike, Math.max(30, lasts[ends(9, 0)]), x -> x.drawn(9));
    }

    /** "for each WICK": z goes on by each, also by one that is LIT or has no PARTS. */
    static void drawnForEachWick() {
        int[] lasts = {0, 50, 25};
        for (int seed : SEEDS) {
            for (int w = 0; w < 4; w++) {
                ByTheFlame x = withWicks(WICK, 0, 50, WICK, 0, 50, WICK, 0, 50, WICK, 0, 50);
                for (int other = 0; other < 4; other++) {
                    x.set(PARTS, other, other == w ? 50 : 0);
                }
                due("wick " + w + " by " + seed, x.drawn(seed), lasts[ends(seed, w)]);
                if (w > 0) {
                    x.set(PARTS, 0, 1);
                    x.set(LIT, 0, 1);
                    due("wick " + w + " by " + seed, x.drawn(seed), Math.max(1, lasts[ends(seed, w)]));
                }
            }
        }
    }

    /** "if it has PARTS and isn't LIT". */
    static void drawnIfItIsNotLit() {
        for (int seed : SEEDS) {
            ByTheFlame x = withWicks(WICK, 0, 50);
            x.light(0, 1);
            due("one end is lit, seed " + seed, x.drawn(seed), 50);
            x.light(0, 1);
            due("both are lit, seed " + seed, x.drawn(seed), 25);
            x.set(PARTS, 0, 0);
            due("no parts, seed " + seed, x.drawn(seed), 0);
        }
    }

    /** "in how many MOMENTS the last one goes OUT (0: none is LIT)". */
    static void drawnTheLastOne() {
        for (int seed : SEEDS) {
            due("no wicks", new ByTheFlame().drawn(seed), 0);
            int[] parts = {40, 60, 99, 20};
            int last = 0;
            for (int w = 0; w < 4; w++) {
                int ends = ends(seed, w);
                last = Math.max(last, ends == 0 ? 0 : (parts[w] + ends - 1) / ends);
            }
            due("of four, seed " + seed, withWicks(WICK, 0, 40, WICK, 0, 60, WICK, 0, 99, WICK, 0, 20).drawn(seed), last);
        }
    }

    // ---- promise 22

    /** "n seeds (1 .. 20)". */
    static void chanceHowMany() {
        for (int n : new int[] {0, -1, 21, 22, LEAST_INT, MOST_INT}) {
            refused("of " + n, CopyEdges::unlike, ByTheFlame.NO, x -> x.chance(0, n, 0, 0));
        }
        for (int n : new int[] {1, 2, 19, 20}) {
            due("above, of " + n, new ByTheFlame().chance(5, n, 0, 0), 1);
            due("below, of " + n, new ByTheFlame().chance(5, n, 0, 1), 1);
        }
    }

    /** "span (0 .. 250)". */
    static void chanceSpan() {
        for (int span : new int[] {-1, -2, 251, 252, LEAST_INT, MOST_INT}) {
            refused("span " + span, CopyEdges::unlike, ByTheFlame.NO, x -> x.chance(0, 3, span, 0));
        }
        for (int span : new int[] {0, 1, 249, 250}) {
            changesNothing("span " + span, CopyEdges::unlike, 0, x -> x.chance(0, 3, span, 0));
            changesNothing("span " + span, CopyEdges::unlike, 1, x -> x.chance(0, 3, span, 1));
        }
    }

    /** "part 0 above, 1 below the line". */
    static void chancePart() {
        for (int part : new int[] {-1, 2, 3, LEAST_INT, MOST_INT}) {
            refused("part " + part, CopyEdges::unlike, ByTheFlame.NO, x -> x.chance(0, 3, 0, part));
        }
    }

    /** "in lowest terms": from none of n to all of n. */
    static void chanceInLowestTerms() {
        int[] lasts = {0, 50, 25};
        for (int seed : SEEDS) {
            for (int ends = 0; ends <= 2; ends++) {
                for (int n = 1; n <= 20; n++) {
                    int above = 0;
                    for (int i = 0; i < n; i++) {
                        above += ends(seed + i, 0) == ends ? 1 : 0;
                    }
                    int below = n;
                    for (int d = n; d > 1; d--) {
                        while (above % d == 0 && below % d == 0) {
                            above /= d;
                            below /= d;
                        }
                    }
                    ByTheFlame x = withWicks(WICK, 0, 50);
                    due(n + " from " + seed + ", above", x.chance(seed, n, lasts[ends], 0), above);
                    due(n + " from " + seed + ", below", x.chance(seed, n, lasts[ends], 1), below);
                }
            }
        }
        ByTheFlame lit = withWicks(WICK, 0, 50);
        lit.light(0, 1);
        due("none of 20, above", lit.chance(1, 20, 49, 0), 0);
        due("none of 20, below", lit.chance(1, 20, 49, 1), 1);
        due("all of 20, above", lit.chance(1, 20, 50, 0), 1);
        due("all of 20, below", lit.chance(1, 20, 50, 1), 1);
    }

    /** "SEED and each 1 more (an int)": behind the most int comes the least. */
    static void chanceWraps() {
        int[] lasts = {0, 50, 25};
        for (int ends = 0; ends <= 2; ends++) {
            int above = (ends(MOST_INT, 0) == ends ? 1 : 0) + (ends(LEAST_INT, 0) == ends ? 1 : 0);
            ByTheFlame x = withWicks(WICK, 0, 50);
            due("above", x.chance(MOST_INT, 2, lasts[ends], 0), above == 0 ? 0 : 1);
            due("below", x.chance(MOST_INT, 2, lasts[ends], 1), above == 1 ? 2 : 1);
        }
    }

    // ---- promises 23 and 24

    /** "STATE: there is none." */
    static void backWithoutImage() {
        Made made = () -> {
            ByTheFlame x = withWicks(WICK, 0, 9, GREEN, 1, 8);
            x.light(0, 1);
            return x;
        };
        refused("back", made, STATE, x -> x.back());
        refused("back without wicks", ByTheFlame::new, STATE, x -> x.back());
    }

    /** "how many WICKS": none, one, all four; image() changes nothing that is seen but by back(). */
    static void imageHowManyWicks() {
        ByTheFlame x = new ByTheFlame();
        for (int n = 0; n <= 4; n++) {
            due("image", x.image(), n);
            due("back", x.back(), n);
            due("wicks", x.count(0), n);
            due("wick", x.wick(WICK, 0, 10 + n), n < 4 ? n : FULL);
        }
        changesNothing("image twice", () -> {
            ByTheFlame y = unlike();
            y.image();
            return y;
        }, 3, y -> y.image());
    }

    /** "AN IMAGE keeps PARTS, LIT, BURNT, NUMBERS, DAMP, MOMENT, THE RULE": each of them. */
    static void imageKeepsEach() {
        for (int what = PARTS; what <= MOMENT; what++) {
            ByTheFlame x = unlike();
            x.image();
            int[] was = new int[4];
            for (int i = 0; i < 4; i++) {
                was[i] = x.told(1, i);
            }
            x.set(what, 1, 2);
            due("back", x.back(), 3);
            for (int i = 0; i < 4; i++) {
                due("told(1, " + i + ")", x.told(1, i), was[i]);
            }
            due("damp", x.count(2), 1);
            due("moment", x.count(3), 12);
        }
        ByTheFlame x = withWicks(WICK, 0, 9);
        read(x, "costs 2;worth 3;drift 4;");
        x.image();
        x.force(1);
        x.back();
        due("the rule", x.count(6), 0);
        due("drift", x.copies(0, 1, 1), 1);
        x.force(1);
        x.image();
        x.force(0);
        x.back();
        due("the rule", x.count(6), 1);
        due("drift", x.copies(0, 1, 1), 4);
    }

    /** "(WICKS that came since go)": their numbers are given anew. */
    static void wicksThatCameSinceGo() {
        ByTheFlame x = unlike();
        due("back to wick 0 alone", x.back(), 1);
        due("wick 1 went", x.told(1, PARTS), BAD);
        due("nor is it lit", x.count(1), 0);
        due("a new one", x.wick(ROPE, 9, 5), 1);
        due("its kind", x.told(1, 4), ROPE);
        due("not lit", x.told(1, LIT), 0);
        due("not burnt", x.told(1, BURNT), 0);
        due("back again", x.back(), 1);
        ByTheFlame none = new ByTheFlame();
        due("an image of none", none.image(), 0);
        for (int w = 0; w < 4; w++) {
            none.wick(WICK, 0, 1);
        }
        due("all four go", none.back(), 0);
        due("there is room", none.wick(WICK, 0, 1), 0);
    }

    /** What it doesn't keep stays: TEXTS, THE TAPE, SHEETS. */
    static void backLeavesTheRest() {
        ByTheFlame x = withWicks(WICK, 0, 9);
        x.image();
        read(x, "costs 2;worth 3;drift 4;");
        x.feed('c');
        lay(x, 1, 0, 0, 0, 1);
        x.back();
        due("texts", x.count(4), 2);
        due("bytes", x.count(5), 1);
        due("the sheet", x.judge(1), NONE);
        due("the text", x.force(1), 0);
        due("the tape", x.text(), -100);
    }

    /** The last IMAGE counts, and stays when it was gone back to. */
    static void theLastImageCounts() {
        ByTheFlame x = withWicks(WICK, 0, 50);
        x.image();
        x.set(PARTS, 0, 40);
        x.image();
        x.set(PARTS, 0, 30);
        for (int i = 0; i < 3; i++) {
            due("back", x.back(), 1);
            due("parts", x.told(0, PARTS), 40);
            x.light(0, 2);
            x.burn(3);
        }
    }

    // ---- promise 25

    /** what 0 .. 7. */
    static void countWhat() {
        for (int what : new int[] {-1, 8, 9, LEAST_INT, MOST_INT}) {
            refused("count " + what, CopyEdges::unlike, BAD, x -> x.count(what));
        }
        int[] due = {3, 1, 1, 12, 1, 0, 0, 110};
        for (int what = 0; what <= 7; what++) {
            int asked = what;
            changesNothing("count " + what, CopyEdges::unlike, due[what], x -> x.count(asked));
        }
    }

    /** From the least to the most that can be counted. */
    static void countLeastAndMost() {
        ByTheFlame none = new ByTheFlame();
        ByTheFlame most = withWicks(WICK, 0, 99, WICK, 0, 99, WICK, 0, 99, WICK, 0, 99);
        for (int w = 0; w < 4; w++) {
            most.light(w, 1 + w % 2);
        }
        most.set(DAMP, 0, 9);
        most.set(MOMENT, 0, 9999);
        for (int t = 1; t <= 5; t++) {
            read(most, "costs 1" + REST);
        }
        most.force(5);
        for (int i = 0; i < 160; i++) {
            most.feed(32);
        }
        int[] due = {4, 4, 9, 9999, 6, 160, 5, 396};
        for (int what = 0; what <= 7; what++) {
            due("least of " + what, none.count(what), what == 4 ? 1 : 0);
            due("most of " + what, most.count(what), due[what]);
        }
    }
}
