/** Each sentence of promises 11 to 15, and of what they lean on, that names a boundary. */
public final class TellEdges extends Edges {
    public static void main(String[] args) throws Exception {
        runAll(TellEdges.class);
    }

    /** Wick 0 has 60 parts, wick 1 is lit, wick 2 has no parts, wick 3 has 40 parts. */
    private static ByTheFlame unlike() {
        ByTheFlame x = withWicks(WICK, 0, 60, WICK, 0, 50, WICK, 0, 30, WICK, 0, 40);
        x.light(1, 1);
        x.set(PARTS, 2, 0);
        x.set(MOMENT, 0, 7);
        x.image();
        return x;
    }

    private static ByTheFlame two(int parts, int others) {
        return withWicks(WICK, 0, parts, WICK, 0, others);
    }

    /** A call by some wicks is BAD by each that the document names, and answers else. */
    private static void bySome(String call, long refusal, long byNone, long byFirst, SomeCall asked) {
        for (int some : new int[] {-1, 16, 17, 32, LEAST_INT, MOST_INT}) {
            refused(call + " by none such: " + some, TellEdges::unlike, refusal, x -> asked.on(x, some));
        }
        for (int some : new int[] {2, 3, 10, 11}) {
            refused(call + " by one that is lit: " + some, TellEdges::unlike, refusal, x -> asked.on(x, some));
        }
        for (int some : new int[] {4, 5, 12, 13}) {
            refused(call + " by one without parts: " + some, TellEdges::unlike, refusal, x -> asked.on(x, some));
        }
        refused(call + " by all", TellEdges::unlike, refusal, x -> asked.on(x, 15));
        changesNothing(call + " by none", TellEdges::unlike, byNone, x -> asked.on(x, 0));
        changesNothing(call + " by the first", TellEdges::unlike, byFirst, x -> asked.on(x, 1));
        due(call + " by none, without wicks", asked.on(new ByTheFlame(), 0), byNone);
        due(call + " by the first, without wicks", asked.on(new ByTheFlame(), 1), refusal);
        due(call + " behind the last", asked.on(two(60, 40), 4), refusal);
        ByTheFlame x = unlike();
        x.set(PARTS, 0, 1);
        due(call + " by one that has one part is not refused", asked.on(x, 1) == refusal ? 1 : 0, 0);
        x.set(LIT, 0, 1);
        due(call + " by one end lit", asked.on(x, 1), refusal);
        x.set(LIT, 0, 0);
        x.set(PARTS, 0, 0);
        due(call + " by no parts", asked.on(x, 1), refusal);
    }

    interface SomeCall {
        long on(ByTheFlame x, int some);
    }

    // ---- promise 11

    /** "BAD: some is none such, has no PARTS, or is LIT." */
    static void spansBySome() {
        bySome("spans", BAD, 0, 1 << 29, (x, some) -> x.spans(some, 1));
    }

    /** "block 0 .. 12". */
    static void spansBlock() {
        for (int block : new int[] {-1, 13, 14, LEAST_INT, MOST_INT}) {
            refused("block " + block, TellEdges::unlike, BAD, x -> x.spans(1, block));
        }
        int[] due = {1 << 30, 1 << 29, 0, 0, 0, 0, 0, 0, 0, 0, 0, 0, 0};
        for (int block = 0; block <= 12; block++) {
            due("block " + block, unlike().spans(1, block), due[block]);
        }
    }

    /** "bit i for 31 times block, and i (i 0 .. 30)". */
    static void spansBits() {
        int[] parts = {1, 2, 29, 30, 31, 32, 61, 62, 63, 92, 93, 99};
        for (int p : parts) {
            ByTheFlame x = withWicks(WICK, 0, p);
            for (int block = 0; block <= 4; block++) {
                long due = 0;
                for (int span : new int[] {p, (p + 1) / 2}) {
                    due |= span / 31 == block ? 1L << span % 31 : 0;
                }
                due("parts " + p + ", block " + block, x.spans(1, block), due);
            }
        }
    }

    /** No span is 0; the longest are four times 99, in block 12. */
    static void spansShortestAndLongest() {
        ByTheFlame x = withWicks(WICK, 0, 1, WICK, 0, 1, WICK, 0, 1, WICK, 0, 1);
        due("1 to 4", x.spans(15, 0), bits(1, 2, 3, 4));
        due("1 to 3", x.spans(7, 0), bits(1, 2, 3));
        ByTheFlame y = withWicks(WICK, 0, 99, WICK, 0, 99, WICK, 0, 99, WICK, 0, 99);
        due("396", y.spans(15, 12), 1 << 24);
        due("347", y.spans(15, 11), 1 << 6);
        due("297 at most by three", y.spans(14, 9), 1 << 18);
        due("297 at most by three", y.spans(14, 10), 0);
    }

    /** "(each WICK 0, 1 or 2)"; "if any is LIT then". */
    static void tellingLightsNoneOneOrBoth() {
        due("60 and 30", withWicks(WICK, 0, 60).spans(1, 1), bits(29));
        due("60 and 30", withWicks(WICK, 0, 60).spans(1, 0), bits(30));
        due("by one alone", two(20, 7).spans(2, 0), bits(4, 7));
        due("by one alone", two(20, 7).spans(1, 0), bits(10, 20));
    }

    /** "then one may light any ends more of those that have PARTS (2 of each at most, with those LIT), and so on". */
    static void tellingLightsMoreWhenAnyGoesOut() {
        // 20 and 6: alone 20 10 6 3; behind one another 26 23 16 13; together, then perhaps the second end too
        due("20 and 6", two(20, 6).spans(3, 0), bits(3, 6, 10, 13, 16, 20, 23, 26, 12));
        due("not 4, 7 or 14", two(20, 6).spans(3, 0) & bits(4, 7, 14), 0);
        // wick 0's second end is lit when wick 1 goes out: 6 + 7, 3 + 9 moments
        due("13", two(20, 6).tell(3, 13, 0), 3);
        due("12", two(20, 6).tell(3, 12, 0), 4);
    }

    /** "MOMENTS go by until any goes OUT": two at the same moment are one. */
    static void tellingOfTwoThatGoOutAtOnce() {
        due("both at 10", two(10, 20).spans(3, 0) & bits(10), bits(10));
        due("one event", two(10, 10).tell(3, 10, 0), 1);
        // cut up: 9 at both ends is 5 moments, as is 10
        due("5", two(9, 10).tell(3, 5, 0), 2);
        due("4 is not", two(9, 10).tell(3, 4, 0), NONE);
    }

    /** "It TELLS each span of MOMENTS from the beginning to one behind which any goes OUT", not to a lighting alone. */
    static void tellingTellsFromTheBeginning() {
        due("from 30 to 45 isn't told", two(60, 60).tell(3, 15, 0), NONE);
        due("from 30 to 45, nor by block 0", two(60, 60).spans(3, 0), bits(30));
        due("from 10 to 30 of 30 isn't told", two(30, 10).tell(1, 20, 0), NONE);
        due("from the beginning it is: 10, then 10 at both ends", two(30, 10).tell(3, 20, 0), 3);
    }

    /** "(as they are, nothing else burning, DAMP as now), in thought". */
    static void tellingInThought() {
        ByTheFlame x = withWicks(GREEN, 4, 40, WICK, 0, 10);
        x.light(1, 1);
        x.set(DAMP, 0, 4);
        due("what else burns tells nothing", x.spans(1, 0), bits(20));
        due("40", x.spans(1, 1), bits(40 - 31));
        x.set(DAMP, 0, 5);
        due("damper: both ends burn as one", x.spans(1, 0), 0);
        due("40", x.spans(1, 1), bits(40 - 31));
        x.set(PARTS, 0, 30);
        due("as it is", x.spans(1, 0), bits(30));
        due("nothing is lit by it", x.count(1), 1);
        due("no parts are gone", x.count(7), 40);
        due("no moment has gone by", x.count(3), 0);
    }

    /** What is told follows each change: of wicks, damp, number, by light, burn, back. */
    static void tellingFollowsEachChange() {
        ByTheFlame x = withWicks(ROPE, 3, 20);
        due("at first", x.spans(1, 0), bits(10, 20));
        x.image();
        x.set(DAMP, 0, 4);
        due("damp", x.spans(1, 0), bits(20));
        x.set(NUMBER, 0, 4);
        due("number", x.spans(1, 0), bits(10, 20));
        x.set(PARTS, 0, 12);
        due("parts", x.spans(1, 0), bits(6, 12));
        x.light(0, 1);
        due("light", x.spans(1, 0), BAD);
        x.burn(4);
        x.set(LIT, 0, 0);
        due("burn", x.spans(1, 0), bits(4, 8));
        x.back();
        due("back", x.spans(1, 0), bits(10, 20));
        due("wick", x.wick(WICK, 0, 5), 1);
        due("wick", x.spans(3, 0) & bits(5, 25), bits(5, 25));
        due("first, with two wicks", x.tell(1, 10, 2), 20);
        x.wick(WICK, 0, 5);
        due("first, with three", x.tell(1, 10, 2), 200);
        due("cheapest", x.tell(1, 10, 1), 2);
        ruled(x, "costs 8" + REST);
        due("the rule", x.tell(1, 10, 1), 16);
    }

    /** A call tells what holds of its own wicks, whatever was asked ahead of it. */
    static void tellingAfterAnother() {
        ByTheFlame x = withWicks(WICK, 0, 60, WICK, 0, 60, TWISTED, 0, 20);
        due("by both", x.between(3, 15), 1);
        due("by one", x.between(1, 15), 0);
        due("by both", x.tell(3, 45, 0), 4);
        due("by one", x.tell(1, 45, 0), NONE);
        due("by none", x.worth(0, 0), NONE);
        due("by one", x.worth(2, 0), 60);
        due("twisted", x.spans(4, 0), bits(5, 10));
        due("in any damp", x.sure(4), 0);
        due("twisted in damp 0", x.spans(4, 0), bits(5, 10));
        due("one that burns alike in any damp", x.sure(1), bits(30, 60));
        due("twisted in damp 0", x.tell(4, 5, 0), 2);
        due("cheapest", x.tell(4, 5, 1), 2);
        due("first", x.tell(4, 5, 2), 2);
    }

    // ---- promise 12

    /** "BAD (of some as of spans(), too)". */
    static void tellBySome() {
        bySome("least", BAD, NONE, 2, (x, some) -> x.tell(some, x.told(0, PARTS) == 1 ? 1 : 30, 0));
        bySome("cheapest", BAD, NONE, 2, (x, some) -> x.tell(some, x.told(0, PARTS) == 1 ? 1 : 30, 1));
        bySome("first", BAD, NONE, x4(2), (x, some) -> x.tell(some, x.told(0, PARTS) == 1 ? 1 : 30, 2));
    }

    /** The digit of wick 0 where there are four wicks. */
    private static int x4(int ends) {
        return ends * 1000;
    }

    /** "a span (1 .. 400)". */
    static void tellSpan() {
        for (int what = 0; what <= 2; what++) {
            int asked = what;
            for (int span : new int[] {0, -1, 401, 402, LEAST_INT, MOST_INT}) {
                refused("span " + span, TellEdges::unlike, BAD, x -> x.tell(1, span, asked));
            }
            for (int span : new int[] {1, 2, 29, 31, 59, 61, 399, 400}) {
                changesNothing("span " + span, TellEdges::unlike, NONE, x -> x.tell(1, span, asked));
            }
        }
        due("span 1", withWicks(WICK, 0, 1).tell(1, 1, 0), 1);
        due("span 2", withWicks(WICK, 0, 2).tell(1, 2, 0), 1);
        due("span 60", unlike().tell(1, 60, 0), 1);
    }

    /** "LEAST (what 0), CHEAPEST (1), FIRST (2)". */
    static void tellWhat() {
        for (int what : new int[] {-1, 3, 4, LEAST_INT, MOST_INT}) {
            refused("what " + what, TellEdges::unlike, BAD, x -> x.tell(1, 30, what));
        }
        ByTheFlame x = ruled(withWicks(WICK, 0, 60), "costs 7" + REST);
        due("least", x.tell(1, 30, 0), 2);
        due("cheapest", x.tell(1, 30, 1), 14);
        due("first", x.tell(1, 30, 2), 2);
    }

    /** "NONE: none does": a moment fewer, just so many, a moment more. */
    static void tellNone() {
        ByTheFlame x = two(60, 60);
        int[] told = {30, 45, 60, 90, 120};
        for (int span : told) {
            for (int what = 0; what <= 2; what++) {
                due(span - 1 + " moments", x.tell(3, span - 1, what), NONE);
                due(span + " moments are told", x.tell(3, span, what) > 0 ? 1 : 0, 1);
                due(span + 1 + " moments", x.tell(3, span + 1, what), NONE);
            }
        }
    }

    /** "LEAST: the fewest ends that are lit ahead of its end": one to eight. */
    static void leastEnds() {
        ByTheFlame x = two(60, 60);
        due("60", x.tell(3, 60, 0), 1);
        due("30", x.tell(3, 30, 0), 2);
        due("120", x.tell(3, 120, 0), 2);
        due("90", x.tell(3, 90, 0), 3);
        due("45", x.tell(3, 45, 0), 4);
        ByTheFlame y = withWicks(WICK, 0, 64, WICK, 0, 64, WICK, 0, 64, WICK, 0, 64);
        due("32 times 4", y.tell(15, 128, 0), 2);
        due("60: 32, 48, 56, 60", y.tell(15, 60, 0), 8);
        due("56", y.tell(15, 56, 0), 6);
        due("48", y.tell(15, 48, 0), 4);
    }

    /** "of all TELLINGS": the least isn't the first one found. */
    static void leastOfAllTellings() {
        due("30 by the one end of wick 1", two(60, 30).tell(3, 30, 0), 1);
        due("30 by the one end of wick 0", two(30, 60).tell(3, 30, 0), 1);
        due("30 by the one end", two(30, 60).tell(3, 30, 2), 10);
        due("30 by the one end", two(60, 30).tell(3, 30, 2), 1);
    }

    /** "the least that ends lit ahead of its end cost together": what is lit at its end isn't counted. */
    static void cheapestAheadOfItsEnd() {
        ByTheFlame x = ruled(two(10, 10), "costs 9" + REST);
        due("10", x.tell(3, 10, 1), 9);
        due("20", x.tell(3, 20, 1), 18);
        due("5", x.tell(3, 5, 1), 18);
        due("15", x.tell(3, 15, 1), 27);
        due("7 is not told, but 8", x.tell(3, 7, 1), NONE);
        due("8", x.tell(3, 8, 1), 36);
    }

    /** "CHEAPEST: of all TELLINGS": not of those of LEAST ends alone. */
    static void cheapestIsNotLeast() {
        ByTheFlame x = ruled(two(30, 60), "costs (wick=0)*90+10" + REST);
        due("least", x.tell(3, 30, 0), 1);
        due("cheapest is 99 by the bound, or 20", x.tell(3, 30, 1), 20);
        due("first, of least", x.tell(3, 30, 2), 10);
        due("by wick 0 alone", x.tell(1, 30, 1), 99);
    }

    /** "(of a WICK both ends of which are lit at once, the first one ahead of the other)". */
    static void cheapestOfBothEndsAtOnce() {
        ByTheFlame x = ruled(withWicks(WICK, 0, 10), "costs 5+lit*20" + REST);
        due("one end", x.tell(1, 10, 1), 5);
        due("both ends", x.tell(1, 5, 1), 30);
        ByTheFlame y = ruled(withWicks(WICK, 0, 10, WICK, 0, 10), "costs 5+lit*20" + REST);
        due("both of one, one of the other", y.tell(3, 15, 1), 35);
        due("what was lit ahead is lit", y.tell(3, 8, 1), 5 + 25 + 5 + 25);
    }

    /** A second end that makes it no faster costs nothing where it needn't be lit. */
    static void cheapestWithoutUselessEnds() {
        ByTheFlame x = ruled(withWicks(GREEN, 0, 10), "costs 5" + REST);
        x.set(DAMP, 0, 1);
        due("one end", x.tell(1, 10, 1), 5);
        due("least", x.tell(1, 10, 0), 1);
        due("first", x.tell(1, 10, 2), 1);
        due("both ends are no faster", x.tell(1, 5, 1), NONE);
    }

    /** "how many ends of WICKS 0, 1, .. are lit at the beginning, as digits (WICK 0's the highest)". */
    static void firstAsDigits() {
        due("one wick", withWicks(WICK, 0, 60).tell(1, 30, 2), 2);
        due("wick 0 of two", two(60, 7).tell(3, 30, 2), 20);
        due("wick 1 of two", two(7, 60).tell(3, 30, 2), 2);
        due("wick 0 of four", withWicks(WICK, 0, 64, WICK, 0, 1, WICK, 0, 1, WICK, 0, 1).tell(15, 32, 2), 2000);
        due("wick 3 of four", withWicks(WICK, 0, 1, WICK, 0, 1, WICK, 0, 1, WICK, 0, 64).tell(15, 32, 2), 2);
        due("what is lit later isn't told", two(60, 60).tell(3, 120, 2), 1);
        due("45", two(60, 60).tell(3, 45, 2), 12);
    }

    /** "of like ones the least number". */
    static void firstOfLikeOnes() {
        due("one end of either", two(60, 60).tell(3, 60, 2), 1);
        due("both ends of either", two(60, 60).tell(3, 30, 2), 2);
        due("20 then 10, or 10 then 20", two(20, 10).tell(3, 30, 2), 1);
        due("three alike", withWicks(WICK, 0, 60, WICK, 0, 60, WICK, 0, 60).tell(7, 60, 2), 1);
        due("by the first two alone", withWicks(WICK, 0, 60, WICK, 0, 60, WICK, 0, 60).tell(3, 60, 2), 10);
    }

    /** "of TELLINGS of LEAST ends". */
    static void firstOfLeastEnds() {
        due("one end of wick 0, not two of wick 1", two(30, 60).tell(3, 30, 2), 10);
        due("two ends of wick 0, not one and one later", two(24, 6).tell(3, 12, 2), 20);
    }

    // ---- promise 13

    /** "BAD (of some as of spans(), too)". */
    static void betweenBySome() {
        bySome("between", BAD, 0, 1, (x, some) -> x.between(some, x.told(0, PARTS) == 1 ? 1 : 30));
    }

    /** "span 1 .. 400". */
    static void betweenSpan() {
        for (int span : new int[] {0, -1, 401, 402, LEAST_INT, MOST_INT}) {
            refused("span " + span, TellEdges::unlike, BAD, x -> x.between(1, span));
        }
        for (int span : new int[] {1, 2, 29, 31, 59, 61, 399, 400}) {
            changesNothing("span " + span, TellEdges::unlike, 0, x -> x.between(1, span));
        }
        due("span 1", withWicks(WICK, 0, 1).between(1, 1), 1);
        due("span 396", withWicks(WICK, 0, 99, WICK, 0, 99, WICK, 0, 99, WICK, 0, 99).between(15, 396), 1);
        due("span 397", withWicks(WICK, 0, 99, WICK, 0, 99, WICK, 0, 99, WICK, 0, 99).between(15, 397), 0);
    }

    /** "two spans of which the one is as much more than the other one as the told span". */
    static void betweenTwoSpans() {
        ByTheFlame x = two(60, 60);
        due("15 less 1", x.between(3, 14), 0);
        due("from 30 to 45", x.between(3, 15), 1);
        due("15 and 1", x.between(3, 16), 0);
        ByTheFlame y = withWicks(WICK, 0, 60, WICK, 0, 60, WICK, 0, 60);
        due("from 30 to 45 and 53", y.between(7, 8), 1);
        due("from 30 to 53: not one behind the other", y.between(7, 23), 1);
        due("22", y.between(7, 22), 0);
    }

    /** "or that TELLS the told span itself". */
    static void betweenTellsItself() {
        ByTheFlame x = two(60, 60);
        int[] told = {30, 45, 60, 90, 120};
        for (int span : told) {
            due("span " + span, x.between(3, span), 1);
            due("span and 1", x.between(3, span + 1), 0);
            due("span less 1", x.between(3, span - 1), 0);
        }
    }

    /** "there is a TELLING that TELLS two spans": one TELLING, not two. */
    static void betweenByOneTelling() {
        ByTheFlame x = two(60, 60);
        due("45 and 120 are of two tellings", x.between(3, 75), 0);
        ByTheFlame y = withWicks(WAXED, 5, 12);
        due("2", y.between(1, 2), 1);
        due("6", y.between(1, 6), 1);
        due("6 and 2 are of two tellings", y.between(1, 4), 0);
    }

    // ---- promise 14

    /** "BAD (of some as of spans(), too); NONE." */
    static void worthBySome() {
        bySome("the span", BAD, NONE, 60, (x, some) -> x.worth(some, 0));
        bySome("its worth", BAD, NONE, 60, (x, some) -> x.worth(some, 1));
    }

    /** "the span (what 0), what it is worth (1)". */
    static void worthWhat() {
        for (int what : new int[] {-1, 2, 3, LEAST_INT, MOST_INT}) {
            refused("what " + what, TellEdges::unlike, BAD, x -> x.worth(1, what));
        }
        ByTheFlame x = ruled(withWicks(WICK, 0, 60), "costs 1;worth 100-span;drift 1;");
        due("the span", x.worth(1, 0), 30);
        due("its worth", x.worth(1, 1), 70);
    }

    /** "that of most worth; of like ones the least". */
    static void worthOfLikeOnes() {
        due("all alike", by("5").worth(3, 0), 30);
        due("one less worth than the next", by("5+(45<span)").worth(3, 0), 60);
        due("the last one", by("5+(90<span)").worth(3, 0), 120);
        due("the last one but one", by("5+(60<span and span<91)").worth(3, 0), 90);
        due("the first one", by("5+(span<45)").worth(3, 0), 30);
        due("two in the middle", by("5+(30<span and span<90)").worth(3, 0), 45);
    }

    private static ByTheFlame by(String worth) {
        return ruled(two(60, 60), "costs 1;worth " + worth + ";drift 1;");
    }

    /** "worth (0 .. 999, else the bound)": beyond a bound they are alike. */
    static void worthAtTheBounds() {
        due("below 0 are alike", by("0-span").worth(3, 0), 30);
        due("worth 0", by("0-span").worth(3, 1), 0);
        due("worth 0, all of them", by("0").worth(3, 0), 30);
        due("1 above 0", by("(span=90)-(span<90)*5").worth(3, 0), 90);
        due("above 999 are alike", by("999+span").worth(3, 0), 30);
        due("999", by("999+span").worth(3, 1), 999);
        due("998 is less", by("998+(span=60)").worth(3, 0), 60);
        due("999 by the 60 alone", by("998+(span=60)+(span=120)*7").worth(3, 0), 60);
    }

    /** "of all spans that any TELLS". */
    static void worthOfToldSpansAlone() {
        due("44 isn't told", by("(span=44)*9").worth(3, 1), 0);
        due("45 is", by("(span=45)*9").worth(3, 1), 9);
        due("46 isn't", by("(span=46)*9").worth(3, 1), 0);
        due("not by one wick", by("(span=45)*9").worth(1, 1), 0);
        ByTheFlame x = ruled(withWicks(WICK, 0, 99, WICK, 0, 99, WICK, 0, 99, WICK, 0, 99),
                "costs 1;worth span;drift 1;");
        due("the longest", x.worth(15, 0), 396);
        due("the shortest", withWicks(WICK, 0, 1).worth(1, 0), 1);
    }

    // ---- promise 15

    /** "NO: some, as of spans()." */
    static void sureBySome() {
        bySome("sure", ByTheFlame.NO, 0, bits(30, 60), (x, some) -> x.sure(some));
    }

    /** "spans (1 .. 60, as bits)". */
    static void sureFromOneToSixty() {
        due("1", withWicks(WICK, 0, 1).sure(1), bits(1));
        due("2 and 1", withWicks(WICK, 0, 2).sure(1), bits(1, 2));
        due("59 and 30", withWicks(WICK, 0, 59).sure(1), bits(30, 59));
        due("60 and 30", withWicks(WICK, 0, 60).sure(1), bits(30, 60));
        due("not 61, but 31", withWicks(WICK, 0, 61).sure(1), bits(31));
        due("not 62, but 31", withWicks(WICK, 0, 62).sure(1), bits(31));
        due("not 63 and 64", withWicks(WICK, 0, 63, WICK, 0, 64).sure(3), bits(32, 48));
    }

    /** "were DAMP any of 0 .. 9": the least, the most, each. */
    static void sureWhateverTheDamp() {
        for (int number = 0; number <= 9; number++) {
            long due = number == 9 ? bits(10, 20) : bits(20);
            due("green, number " + number, withWicks(GREEN, number, 20).sure(1), due);
            due("rope, number " + number, withWicks(ROPE, number, 20).sure(1), due);
        }
        due("twisted", withWicks(TWISTED, 0, 20).sure(1), 0);
        due("oiled", withWicks(OILED, 0, 20).sure(1), bits(5, 10));
        due("waxed", withWicks(WAXED, 5, 18).sure(1), bits(3, 9));
    }

    /** DAMP now does not matter, and is as it was. */
    static void sureWhateverTheDampNow() {
        for (int damp = 0; damp <= 9; damp++) {
            ByTheFlame x = withWicks(GREEN, 8, 20);
            x.set(DAMP, 0, damp);
            due("sure by damp " + damp, x.sure(1), bits(20));
            due("damp", x.count(2), damp);
            due("spans by damp now", x.spans(1, 0), damp == 9 ? bits(20) : bits(10, 20));
        }
    }

    /** "(not the same one each time)". */
    static void sureByUnlikeTellings() {
        // green tells 10 by damp 0 .. 4, twisted by damp 2 .. 9
        ByTheFlame x = withWicks(GREEN, 4, 20, TWISTED, 0, 10);
        due("green alone", x.sure(1) & bits(10), 0);
        due("twisted alone", x.sure(2) & bits(10), 0);
        due("both", x.sure(3) & bits(10), bits(10));
        // green tells 10 by damp 0 alone now: by damp 1 none does
        x.set(NUMBER, 0, 0);
        due("but not by damp 1", x.sure(3) & bits(10), 0);
        x.set(NUMBER, 0, 1);
        due("by damp 1, too", x.sure(3) & bits(10), bits(10));
    }
}
