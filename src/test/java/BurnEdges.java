/** Each sentence of promises 8 to 10, and of what they lean on, that names a boundary. */
public final class BurnEdges extends Edges {
    public static void main(String[] args) throws Exception {
        runAll(BurnEdges.class);
    }

    /** Wick 0 isn't lit, wick 1 is at one end, wick 2 at both, wick 3 has no parts. */
    private static ByTheFlame unlike() {
        ByTheFlame x = withWicks(WICK, 0, 50, WICK, 0, 60, WICK, 0, 70, WICK, 0, 80);
        x.set(LIT, 1, 1);
        x.set(LIT, 2, 2);
        x.set(PARTS, 3, 0);
        x.set(BURNT, 2, 30);
        x.set(MOMENT, 0, 40);
        x.image();
        return x;
    }

    // ---- promise 8

    /** "Ends of a WICK": 0 .. the last one. */
    static void lightNoWick() {
        for (int wick : new int[] {-1, 4, LEAST_INT, MOST_INT}) {
            refused("light " + wick, BurnEdges::unlike, BAD, x -> x.light(wick, 1));
        }
        for (int wick : new int[] {1, 2, 3}) {
            refused("light " + wick + " of one", () -> withWicks(WICK, 0, 9), BAD, x -> x.light(wick, 1));
        }
        due("light the first", withWicks(WICK, 0, 9, WICK, 0, 9).light(0, 1), 1);
        due("light the last", withWicks(WICK, 0, 9, WICK, 0, 9).light(1, 1), 1);
        due("light without wicks", new ByTheFlame().light(0, 1), BAD);
    }

    /** "Ends (1, 2)". */
    static void lightEnds() {
        for (int ends : new int[] {-1, 0, 3, LEAST_INT, MOST_INT}) {
            refused("light " + ends + " ends", BurnEdges::unlike, BAD, x -> x.light(0, ends));
        }
        due("one end", unlike().light(0, 1), 1);
        due("two ends", unlike().light(0, 2), 2);
    }

    /** "STATE: fewer ends that aren't LIT". */
    static void lightNoMoreThanTwoEnds() {
        due("one of two", unlike().light(0, 1), 1);
        due("two of two", unlike().light(0, 2), 2);
        due("one of one", unlike().light(1, 1), 2);
        refused("two of one", BurnEdges::unlike, STATE, x -> x.light(1, 2));
        refused("one of none", BurnEdges::unlike, STATE, x -> x.light(2, 1));
        refused("two of none", BurnEdges::unlike, STATE, x -> x.light(2, 2));
        ByTheFlame x = unlike();
        due("one", x.light(0, 1), 1);
        due("one more", x.light(0, 1), 2);
        due("no third", x.light(0, 1), STATE);
        due("both are lit", x.told(0, LIT), 2);
    }

    /** "STATE: it has no PARTS". */
    static void lightWithoutParts() {
        refused("one end", BurnEdges::unlike, STATE, x -> x.light(3, 1));
        refused("two ends", BurnEdges::unlike, STATE, x -> x.light(3, 2));
        ByTheFlame x = unlike();
        x.set(PARTS, 3, 1);
        due("of one part", x.light(3, 2), 2);
        x.burn(1);
        due("out", x.light(3, 1), STATE);
    }

    /** "BAD; STATE". */
    static void lightBadAheadOfState() {
        refused("three ends without parts", BurnEdges::unlike, BAD, x -> x.light(3, 3));
        refused("no ends without parts", BurnEdges::unlike, BAD, x -> x.light(3, 0));
        refused("three ends where both are lit", BurnEdges::unlike, BAD, x -> x.light(2, 3));
    }

    /** "truly lit": it is LIT, and no moment has gone by. */
    static void lightChangesLitAlone() {
        ByTheFlame x = unlike();
        x.light(0, 2);
        due("lit", x.told(0, LIT), 2);
        due("how many are lit", x.count(1), 3);
        due("parts", x.told(0, PARTS), 50);
        due("burnt", x.told(0, BURNT), 0);
        due("moment", x.count(3), 40);
    }

    // ---- promise 9

    /** "n MOMENTS (0 .. 250)". */
    static void burnMoments() {
        for (int n : new int[] {-1, -250, 251, 252, LEAST_INT, MOST_INT}) {
            refused("burn " + n, BurnEdges::unlike, BAD, x -> x.burn(n));
        }
        for (int n : new int[] {0, 1, 249, 250}) {
            ByTheFlame x = new ByTheFlame();
            due("burn " + n, x.burn(n), 0);
            due("moment", x.count(3), n);
        }
    }

    /** No moment: nothing burns. */
    static void burnForNoMoment() {
        changesNothing("burn 0", BurnEdges::unlike, 0, x -> x.burn(0));
    }

    /** "of each WICK that is LIT as many parts burn as it is FAST". */
    static void burnForOneMoment() {
        ByTheFlame x = unlike();
        due("burn 1", x.burn(1), 0);
        int[] parts = {50, 59, 68, 0};
        int[] burnt = {0, 1, 32, 0};
        int[] lit = {0, 1, 2, 0};
        for (int w = 0; w < 4; w++) {
            due("parts", x.told(w, PARTS), parts[w]);
            due("burnt", x.told(w, BURNT), burnt[w]);
            due("lit", x.told(w, LIT), lit[w]);
        }
        due("moment", x.count(3), 41);
    }

    /** "one that has no PARTS left then goes OUT (LIT is 0)": a moment ahead, just then, a moment behind. */
    static void burnUntilItGoesOut() {
        int[] gone = {0, 1, 1};
        int[] left = {1, 0, 0};
        for (int i = 0; i < 3; i++) {
            ByTheFlame x = withWicks(WICK, 0, 10, WICK, 0, 99);
            x.light(0, 1);
            x.light(1, 1);
            due("how many went out", x.burn(9 + i), gone[i]);
            due("parts", x.told(0, PARTS), left[i]);
            due("burnt", x.told(0, BURNT), 10 - left[i]);
            due("lit", x.told(0, LIT), left[i]);
            due("the other one's parts", x.told(1, PARTS), 90 - i);
            due("how many are lit", x.count(1), 2 - gone[i]);
        }
    }

    /** "no more than it has": in the last moment fewer parts burn than it is FAST. */
    static void burnNoMoreThanItHas() {
        int[] parts = {2, 3, 4, 5};
        int[] goneAfterOne = {1, 1, 1, 0};
        for (int i = 0; i < parts.length; i++) {
            ByTheFlame x = withWicks(OILED, 0, parts[i]);
            x.light(0, 2);
            due("out in one moment", x.burn(1), goneAfterOne[i]);
            due("burnt", x.told(0, BURNT), Math.min(4, parts[i]));
            due("parts", x.told(0, PARTS), Math.max(0, parts[i] - 4));
            due("lit", x.told(0, LIT), goneAfterOne[i] == 1 ? 0 : 2);
            due("out in two", x.burn(1), 1 - goneAfterOne[i]);
            due("burnt", x.told(0, BURNT), parts[i]);
            due("parts", x.told(0, PARTS), 0);
        }
    }

    /** "BURNT so many more (999 at most)". */
    static void burnBounded() {
        int[] was = {996, 997, 998, 999, 989, 990, 979};
        int[] then = {998, 999, 999, 999, 999, 999, 999};
        int[] moments = {1, 1, 1, 1, 5, 5, 250};
        for (int i = 0; i < was.length; i++) {
            ByTheFlame x = withWicks(WICK, 0, 99);
            x.set(BURNT, 0, was[i]);
            x.light(0, 2);
            x.burn(moments[i]);
            due("burnt from " + was[i], x.told(0, BURNT), then[i]);
            due("parts go all the same", x.told(0, PARTS), Math.max(0, 99 - 2 * moments[i]));
        }
    }

    /** "MOMENT is 1 more (9999 at most)". */
    static void momentBounded() {
        int[] was = {9997, 9998, 9999, 9748, 9749, 9750, 0};
        int[] n = {1, 1, 1, 250, 250, 250, 250};
        int[] then = {9998, 9999, 9999, 9998, 9999, 9999, 250};
        for (int i = 0; i < was.length; i++) {
            ByTheFlame x = withWicks(WICK, 0, 5);
            x.light(0, 1);
            x.set(MOMENT, 0, was[i]);
            due("it burns all the same", x.burn(n[i]), n[i] == 1 ? 0 : 1);
            due("moment from " + was[i], x.count(3), then[i]);
            due("parts", x.told(0, PARTS), n[i] == 1 ? 4 : 0);
        }
    }

    /** "how many went OUT": none, one, all four; one that was out ahead isn't counted. */
    static void burnCountsWhatWentOut() {
        ByTheFlame x = withWicks(WICK, 0, 10, WICK, 0, 20, WICK, 0, 20, WICK, 0, 40);
        due("none is lit", x.burn(1), 0);
        for (int w = 0; w < 4; w++) {
            x.light(w, 1);
        }
        due("none yet", x.burn(9), 0);
        due("one", x.burn(1), 1);
        due("none more", x.burn(9), 0);
        due("two", x.burn(1), 2);
        due("the last one", x.burn(250), 1);
        due("none is left", x.burn(250), 0);
        ByTheFlame all = withWicks(WICK, 0, 10, WICK, 0, 20, WICK, 0, 20, WICK, 0, 40);
        for (int w = 0; w < 4; w++) {
            all.light(w, 1);
        }
        due("all four at last", all.burn(40), 4);
    }

    /** n moments are as many times one moment. */
    static void burnMomentByMoment() {
        for (int kind = WICK; kind <= TWISTED; kind++) {
            ByTheFlame once = lit(kind);
            ByTheFlame each = lit(kind);
            int gone = 0;
            for (int n = 0; n < 17; n++) {
                gone += each.burn(1);
            }
            due("went out, kind " + kind, once.burn(17), gone);
            same("kind " + kind, state(once), state(each));
        }
    }

    private static ByTheFlame lit(int kind) {
        ByTheFlame x = withWicks(kind, 4, 33, kind, 5, 34, kind, 6, 99, kind, 7, 98);
        x.set(DAMP, 0, 6);
        x.set(BURNT, 3, 990);
        for (int w = 0; w < 4; w++) {
            x.light(w, 1 + w % 2);
        }
        return x;
    }

    // ---- promise 10

    /** BAD: no such WICK. */
    static void outOfNoWick() {
        for (int wick : new int[] {-1, 4, LEAST_INT, MOST_INT}) {
            refused("out " + wick, BurnEdges::unlike, BAD, x -> x.out(wick));
        }
        ByTheFlame x = withWicks(WICK, 0, 9, WICK, 0, 8);
        x.light(0, 1);
        x.light(1, 1);
        due("the first", x.out(0), 9);
        due("the last", x.out(1), 8);
        due("behind the last", x.out(2), BAD);
        due("without wicks", new ByTheFlame().out(0), BAD);
    }

    /** "NONE: it isn't LIT." */
    static void outOfOneThatIsNotLit() {
        changesNothing("not lit", BurnEdges::unlike, NONE, x -> x.out(0));
        changesNothing("without parts", BurnEdges::unlike, NONE, x -> x.out(3));
        changesNothing("one end is lit", BurnEdges::unlike, 60, x -> x.out(1));
        changesNothing("both ends are lit", BurnEdges::unlike, 35, x -> x.out(2));
    }

    /** "in how many MOMENTS from now on a WICK goes OUT": the last moment's parts may be fewer. */
    static void outOfWholeAndBrokenMoments() {
        int[] parts = {1, 2, 3, 4, 5, 7, 8, 9, 98, 99};
        int[] byFour = {1, 1, 1, 1, 2, 2, 2, 3, 25, 25};
        for (int i = 0; i < parts.length; i++) {
            ByTheFlame x = withWicks(OILED, 0, parts[i]);
            x.light(0, 2);
            due("out of " + parts[i], x.out(0), byFour[i]);
            due("not a moment ahead", x.burn(byFour[i] - 1), 0);
            due("a moment to go", x.out(0), 1);
            due("then", x.burn(1), 1);
            due("not lit", x.out(0), NONE);
        }
    }

    /** "from now on", by DAMP now. */
    static void outByDampNow() {
        ByTheFlame x = withWicks(TWISTED, 0, 99);
        x.light(0, 1);
        int[] due = {50, 50, 99, 99, 99, 99, 99, 99, 99, 99};
        for (int damp = 0; damp <= 9; damp++) {
            x.set(DAMP, 0, damp);
            due("damp " + damp, x.out(0), due[damp]);
        }
        x.burn(90);
        due("from now on", x.out(0), 9);
        due("longest", x.set(PARTS, 0, 99), 9);
        due("longest", x.out(0), 99);
    }
}
