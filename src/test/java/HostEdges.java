/** Each sentence of promises 26 to 30, and of what they lean on, that names a boundary. */
public final class HostEdges extends Edges {
    public static void main(String[] args) throws Exception {
        runAll(HostEdges.class);
    }

    /** No wicks; sheet 0 of bytes, 1 of shorts, 2 of ints hold two wicks each; sheet 3 is missing. */
    private static ByTheFlame three() {
        ByTheFlame x = new ByTheFlame();
        lay(x, 0, 0, 0, 1, 11, 1, 2, 12);
        lay(x, 1, 1, 2, 3, 13, 3, 4, 14);
        lay(x, 2, 2, 4, 5, 15, 5, 6, 16);
        return x;
    }

    /** What stands in a sheet as the wick that is made of three items from one on: PARTS, NUMBER and KIND as digits. */
    private static int wickAt(ByTheFlame x, int sheet, int sort, int from) {
        x.image();
        int came = x.wicks(sheet, sort, from, 1);
        int last = x.count(0) - 1;
        int told = came != 1 ? came : x.told(last, PARTS) * 100 + x.told(last, NUMBER) * 10 + x.told(last, 4);
        x.back();
        return told;
    }

    // ---- promise 26

    /** "SHEETS 0 .. 3". */
    static void sheetNumber() {
        for (int sheet : new int[] {-1, 4, 5, LEAST_INT, MOST_INT}) {
            refused("sheet " + sheet, HostEdges::three, BAD, x -> x.sheet(sheet, 0, 1));
            refused("missing " + sheet, HostEdges::three, BAD, x -> x.sheet(sheet, -1, 1));
        }
        for (int sheet = 0; sheet < 4; sheet++) {
            ByTheFlame x = new ByTheFlame();
            due("sheet " + sheet, x.sheet(sheet, 0, 1), 1);
            for (int other = 0; other < 4; other++) {
                due("item 0 of " + other, x.cell(other, 0, 1), other == sheet ? 1 : NOTHING);
            }
        }
    }

    /** "of sort 0 bytes, 1 shorts, 2 ints"; "missing (sort -1)". */
    static void sheetSort() {
        for (int sort : new int[] {-2, -3, 3, 4, LEAST_INT, MOST_INT}) {
            refused("sort " + sort, HostEdges::three, BAD, x -> x.sheet(0, sort, 3));
        }
        for (int sort = 0; sort <= 2; sort++) {
            ByTheFlame x = three();
            due("sort " + sort, x.sheet(0, sort, 3), 1);
            for (int other = 0; other <= 2; other++) {
                due("taken for " + other, x.wicks(0, other, 0, 0), other == sort ? 0 : UNLIKE);
            }
        }
        ByTheFlame x = three();
        due("missing", x.sheet(0, -1, 3), 1);
        due("missing", x.cell(0, 0, 1), NOTHING);
        due("missing already", x.sheet(3, -1, 3), 1);
        due("missing", x.cell(3, 0, 1), NOTHING);
    }

    /** "BAD: n above 40". */
    static void sheetSize() {
        for (int sort = 0; sort <= 2; sort++) {
            int asked = sort;
            for (int n : new int[] {41, 42, 1000000, MOST_INT}) {
                refused("n " + n, HostEdges::three, BAD, x -> x.sheet(asked, asked, n));
                refused("n " + n, HostEdges::three, BAD, x -> x.sheet(3, asked, n));
            }
            for (int n : new int[] {0, 1, 2, 39, 40}) {
                ByTheFlame x = three();
                due("n " + n, x.sheet(0, sort, n), 1);
                due("the last item", x.cell(0, n - 1, 1), n == 0 ? OUTSIDE : 1);
                due("behind it", x.cell(0, n, 1), OUTSIDE);
            }
        }
    }

    /** "-14 a size below 0". */
    static void sheetBelowNothing() {
        for (int n : new int[] {-1, -2, LEAST_INT}) {
            for (int sort = 0; sort <= 2; sort++) {
                int asked = sort;
                refused("n " + n, HostEdges::three, BELOW, x -> x.sheet(0, asked, n));
                refused("n " + n, HostEdges::three, BELOW, x -> x.sheet(3, asked, n));
            }
        }
    }

    /** "BAD: no such SHEET, sort; n above 40; -14": BAD is ahead. */
    static void sheetBadAheadOfBelow() {
        refused("no such sheet", HostEdges::three, BAD, x -> x.sheet(4, 0, -1));
        refused("no such sheet", HostEdges::three, BAD, x -> x.sheet(-1, 0, -1));
        refused("no such sort", HostEdges::three, BAD, x -> x.sheet(0, 3, -1));
        refused("no such sort", HostEdges::three, BAD, x -> x.sheet(0, -2, -1));
    }

    /** "(sort -1: n does not matter)". */
    static void sheetMissingWhateverN() {
        for (int n : new int[] {LEAST_INT, -1, 0, 1, 40, 41, MOST_INT}) {
            ByTheFlame x = three();
            due("missing by " + n, x.sheet(1, -1, n), 1);
            due("it is", x.cell(1, 0, 0), NOTHING);
            due("the others aren't", x.cell(0, 0, 0), 1);
            due("the others aren't", x.cell(2, 0, 0), 1);
        }
    }

    /** "all 0": of the same sort and size, too; when it was missing; where it was shorter. */
    static void sheetAllNothing() {
        for (int sort = 0; sort <= 2; sort++) {
            ByTheFlame x = lay(new ByTheFlame(), 0, sort, 1, 2, 3, 4, 5, 6);
            due("as it was laid", wickAt(x, 0, sort, 0), 321);
            x.sheet(0, sort, 6);
            due("anew", wickAt(x, 0, sort, 0), 0);
            x.cell(0, 2, 7);
            due("kind 0, number 0, parts 7", wickAt(x, 0, sort, 0), 700);
            lay(x, 0, sort, 1, 2, 3, 4, 5, 6);
            x.sheet(0, sort, 2);
            x.sheet(0, sort, 6);
            x.cell(0, 5, 9);
            due("behind a shorter one", wickAt(x, 0, sort, 3), 900);
            lay(x, 0, sort, 1, 2, 3, 4, 5, 6);
            x.sheet(0, -1, 0);
            x.sheet(0, sort, 6);
            x.cell(0, 2, 8);
            due("behind a missing one", wickAt(x, 0, sort, 0), 800);
        }
    }

    // ---- promise 27

    /** "BAD: no such SHEET". */
    static void cellOfNoSheet() {
        for (int sheet : new int[] {-1, 4, 5, LEAST_INT, MOST_INT}) {
            refused("cell of " + sheet, HostEdges::three, BAD, x -> x.cell(sheet, 0, 9));
            refused("BAD is ahead", HostEdges::three, BAD, x -> x.cell(sheet, -1, 9));
        }
    }

    /** "-11": it is missing. */
    static void cellOfMissing() {
        for (int i : new int[] {-1, 0, 1, 40, LEAST_INT, MOST_INT}) {
            refused("item " + i, HostEdges::three, NOTHING, x -> x.cell(3, i, 9));
        }
    }

    /** "-12 a place outside". */
    static void cellOutside() {
        for (int sheet = 0; sheet <= 2; sheet++) {
            int asked = sheet;
            for (int i : new int[] {-1, 6, 7, 39, 40, LEAST_INT, MOST_INT}) {
                refused("item " + i, HostEdges::three, OUTSIDE, x -> x.cell(asked, i, 9));
            }
            ByTheFlame x = three();
            due("the first", x.cell(sheet, 0, 1), 1);
            due("the second", x.cell(sheet, 1, 8), 1);
            due("the last", x.cell(sheet, 5, 77), 1);
            due("they are so", wickAt(x, sheet, sheet, 0), (11 + 2 * sheet) * 100 + 81);
            due("they are so", wickAt(x, sheet, sheet, 3) / 100, 77);
        }
        ByTheFlame none = new ByTheFlame();
        none.sheet(0, 0, 0);
        due("of no items", none.cell(0, 0, 1), OUTSIDE);
    }

    private static void holds(int sort, int v, int due) {
        ByTheFlame x = lay(new ByTheFlame(), 0, sort, 0, 0, v);
        int parts = wickAt(x, 0, sort, 0) / 100;
        due("sort " + sort + " holds " + v, parts, due);
    }

    /** "(of bytes, shorts its lowest 8, 16 bits)". */
    static void cellLowestBits() {
        holds(0, 99, 99);
        holds(0, 256 + 99, 99);
        holds(0, -256 + 99, 99);
        holds(0, 65536 + 99, 99);
        holds(0, 128 + 99, 0);
        holds(0, MOST_INT - 255 + 7, 7);
        holds(1, 99, 99);
        holds(1, 256 + 99, 0);
        holds(1, 32768 + 99, 0);
        holds(1, 65536 + 99, 99);
        holds(1, -65536 + 99, 99);
        holds(1, LEAST_INT + 99, 99);
        holds(2, 99, 99);
        holds(2, 256 + 99, 0);
        holds(2, 65536 + 99, 0);
        holds(2, LEAST_INT + 99, 0);
        holds(2, MOST_INT, 0);
    }

    // ---- promise 28

    /** "BAD: no such SHEET": either. */
    static void copyOfNoSheet() {
        for (int sheet : new int[] {-1, 4, 5, LEAST_INT, MOST_INT}) {
            refused("from " + sheet, HostEdges::three, BAD, x -> x.copy(sheet, 0, 0, 0, 1));
            refused("to " + sheet, HostEdges::three, BAD, x -> x.copy(0, 0, sheet, 0, 1));
            refused("BAD ahead of -11", HostEdges::three, BAD, x -> x.copy(3, 0, sheet, 0, 1));
            refused("BAD ahead of -11", HostEdges::three, BAD, x -> x.copy(sheet, 0, 3, 0, 1));
            refused("BAD ahead of -12", HostEdges::three, BAD, x -> x.copy(0, -1, sheet, 0, 1));
        }
    }

    /** "-11": either is missing, ahead of the others. */
    static void copyOfMissing() {
        refused("from", HostEdges::three, NOTHING, x -> x.copy(3, 0, 0, 0, 1));
        refused("to", HostEdges::three, NOTHING, x -> x.copy(0, 0, 3, 0, 1));
        refused("both", HostEdges::three, NOTHING, x -> x.copy(3, 0, 3, 0, 1));
        refused("of no numbers", HostEdges::three, NOTHING, x -> x.copy(3, 0, 0, 0, 0));
        refused("ahead of -12", HostEdges::three, NOTHING, x -> x.copy(0, -1, 3, 0, 1));
        refused("ahead of -12", HostEdges::three, NOTHING, x -> x.copy(3, 0, 0, 0, -1));
    }

    /** "-13: they are of unlike sorts", ahead of -12. */
    static void copyOfUnlikeSorts() {
        for (int from = 0; from <= 2; from++) {
            for (int to = 0; to <= 2; to++) {
                int f = from;
                int t = to;
                if (from != to) {
                    refused(from + " to " + to, HostEdges::three, UNLIKE, x -> x.copy(f, 0, t, 0, 1));
                    refused("of no numbers", HostEdges::three, UNLIKE, x -> x.copy(f, 0, t, 0, 0));
                    refused("ahead of -12", HostEdges::three, UNLIKE, x -> x.copy(f, 0, t, 0, -1));
                    refused("ahead of -12", HostEdges::three, UNLIKE, x -> x.copy(f, 7, t, 0, 1));
                }
            }
        }
    }

    /** Sheets 0 and 3 are both of shorts: the one has six items, the other three. */
    private static ByTheFlame alike() {
        ByTheFlame x = three();
        lay(x, 0, 1, 1, 2, 3, 4, 5, 1);
        lay(x, 3, 1, 2, 5, 4);
        return x;
    }

    /** "-12 (also with n below 0)". */
    static void copyOutside() {
        int[][] outside = {
            {-1, 0, 1}, {6, 0, 1}, {0, -1, 1}, {0, 3, 1}, {0, 0, 4}, {4, 0, 3}, {0, 1, 3}, {5, 0, 2}, {0, 2, 2},
            {7, 0, 0}, {0, 4, 0}, {-1, 0, 0}, {0, -1, 0}, {0, 0, -1}, {1, 1, -1}, {6, 3, -1}, {0, 0, LEAST_INT},
            {0, 0, MOST_INT}, {MOST_INT, 0, 1}, {0, MOST_INT, 1}, {MOST_INT, 0, MOST_INT}, {LEAST_INT, 0, 1},
            {0, LEAST_INT, 1}, {1, 0, MOST_INT}, {0, 1, MOST_INT}, {LEAST_INT, LEAST_INT, LEAST_INT},
            {6, 0, LEAST_INT}, {MOST_INT, MOST_INT, LEAST_INT}};
        for (int[] o : outside) {
            refused("from " + o[0] + " to " + o[1] + ", " + o[2], HostEdges::alike, OUTSIDE,
                    x -> x.copy(0, o[0], 3, o[1], o[2]));
        }
    }

    /** Just inside: the first ones, the last ones, all of them, none at either end. */
    static void copyInside() {
        int[][] inside = {{0, 0, 1}, {5, 0, 1}, {0, 2, 1}, {5, 2, 1}, {3, 0, 3}, {0, 0, 3}, {4, 1, 2}, {4, 0, 2}};
        int[] was = {1, 2, 3, 4, 5, 1};
        for (int[] i : inside) {
            ByTheFlame x = alike();
            due("from " + i[0] + " to " + i[1] + ", " + i[2], x.copy(0, i[0], 3, i[1], i[2]), i[2]);
            int[] then = {2, 5, 4};
            for (int k = 0; k < i[2]; k++) {
                then[i[1] + k] = was[i[0] + k];
            }
            due("it stands there", wickAt(x, 3, 1, 0), then[2] * 100 + then[1] * 10 + then[0]);
            due("it stands here", wickAt(x, 0, 1, 0), 321);
            due("it stands here", wickAt(x, 0, 1, 3), 154);
        }
        changesNothing("none behind the last", HostEdges::alike, 0, x -> x.copy(0, 6, 3, 3, 0));
        changesNothing("none ahead of the first", HostEdges::alike, 0, x -> x.copy(0, 0, 3, 0, 0));
    }

    /** "(as they were)": onto itself, forwards and backwards. */
    static void copyOntoItself() {
        for (int sort = 0; sort <= 2; sort++) {
            ByTheFlame x = lay(new ByTheFlame(), 0, sort, 1, 2, 3, 4, 5, 6, 7);
            due("forwards", x.copy(0, 0, 0, 1, 6), 6);
            due("1 1 2", wickAt(x, 0, sort, 0), 211);
            due("3 4 5", wickAt(x, 0, sort, 3), 543);
            due("4 5 6", wickAt(x, 0, sort, 4), 654);
            ByTheFlame y = lay(new ByTheFlame(), 0, sort, 1, 2, 3, 4, 5, 6, 5);
            due("backwards", y.copy(0, 1, 0, 0, 6), 6);
            due("2 3 4", wickAt(y, 0, sort, 0), 432);
            due("5 6 5", wickAt(y, 0, sort, 3), 565);
            due("all onto itself", y.copy(0, 0, 0, 0, 7), 7);
            due("one too many", y.copy(0, 0, 0, 1, 7), OUTSIDE);
            due("2 3 4", wickAt(y, 0, sort, 0), 432);
        }
    }

    /** All 40 of a sheet. */
    static void copyAll() {
        ByTheFlame x = new ByTheFlame();
        x.sheet(0, 2, 40);
        x.sheet(1, 2, 40);
        x.cell(0, 39, 9);
        due("41", x.copy(0, 0, 1, 0, 41), OUTSIDE);
        due("40 from 1 on", x.copy(0, 1, 1, 0, 40), OUTSIDE);
        due("nothing came", wickAt(x, 1, 2, 37), 0);
        due("40", x.copy(0, 0, 1, 0, 40), 40);
        due("the last one came", wickAt(x, 1, 2, 37), 900);
    }

    // ---- promise 29

    /** "BAD: no such SHEET". */
    static void wicksBySheet() {
        for (int sheet : new int[] {-1, 4, 5, LEAST_INT, MOST_INT}) {
            refused("by " + sheet, HostEdges::three, BAD, x -> x.wicks(sheet, 0, 0, 1));
        }
        for (int sheet = 0; sheet <= 2; sheet++) {
            due("by " + sheet, three().wicks(sheet, sheet, 0, 1), 1);
        }
    }

    /** "BAD: sort": missing is none that it can be taken for. */
    static void wicksSort() {
        for (int sort : new int[] {-1, -2, 3, 4, LEAST_INT, MOST_INT}) {
            refused("sort " + sort, HostEdges::three, BAD, x -> x.wicks(0, sort, 0, 1));
            refused("sort " + sort + " of a missing one", HostEdges::three, BAD, x -> x.wicks(3, sort, 0, 1));
        }
    }

    /** "n of them (0 .. 5)". */
    static void wicksHowMany() {
        for (int n : new int[] {-1, -2, 6, 7, LEAST_INT, MOST_INT}) {
            refused("n " + n, HostEdges::three, BAD, x -> x.wicks(0, 0, 0, n));
            refused("n " + n + ", BAD ahead of -13", HostEdges::three, BAD, x -> x.wicks(0, 1, 0, n));
            refused("n " + n + ", BAD ahead of -11", HostEdges::three, BAD, x -> x.wicks(3, 0, 0, n));
        }
        int[] due = {0, 1, 2, 3, 4, 4};
        for (int n = 0; n <= 5; n++) {
            ByTheFlame x = lay(new ByTheFlame(), 0, 0, 0, 0, 1, 0, 0, 2, 0, 0, 3, 0, 0, 4, 0, 0, 5);
            due("n " + n, x.wicks(0, 0, 0, n), due[n]);
            due("wicks", x.count(0), due[n]);
        }
    }

    /** "-13": it is of another sort. */
    static void wicksOfAnotherSort() {
        for (int sheet = 0; sheet <= 2; sheet++) {
            for (int sort = 0; sort <= 2; sort++) {
                int s = sheet;
                int other = sort;
                if (sheet != sort) {
                    refused(sheet + " for " + sort, HostEdges::three, UNLIKE, x -> x.wicks(s, other, 0, 1));
                    refused("of none", HostEdges::three, UNLIKE, x -> x.wicks(s, other, 0, 0));
                    refused("ahead of -12", HostEdges::three, UNLIKE, x -> x.wicks(s, other, -1, 1));
                }
            }
        }
    }

    /** "-11": a missing one is of no other sort. */
    static void wicksOfMissing() {
        for (int sort = 0; sort <= 2; sort++) {
            int asked = sort;
            refused("sort " + sort, HostEdges::three, NOTHING, x -> x.wicks(3, asked, 0, 1));
            refused("of none", HostEdges::three, NOTHING, x -> x.wicks(3, asked, 0, 0));
            refused("ahead of -12", HostEdges::three, NOTHING, x -> x.wicks(3, asked, -1, 1));
        }
    }

    /** "-12": from is outside, at once. */
    static void wicksOutsideAtOnce() {
        for (int from : new int[] {-1, -2, -3, 4, 5, 6, 7, 40, 41, LEAST_INT, MOST_INT, MOST_INT - 2}) {
            for (int n : new int[] {1, 2, 5}) {
                refused("from " + from + ", " + n, HostEdges::three, OUTSIDE, x -> x.wicks(0, 0, from, n));
            }
        }
        for (int from = 0; from <= 3; from++) {
            due("from " + from, wickAt(three(), 0, 0, from) >= 0 ? 1 : 0, 1);
        }
        due("from 0", wickAt(three(), 0, 0, 0), 1110);
        due("from 3, the last three", wickAt(three(), 0, 0, 3), 1221);
        due("from 1: parts 1, number 11 is left out", wickAt(three(), 0, 0, 1), 0);
    }

    /** "-12: what stood ahead came." */
    static void wicksOutsideAtLast() {
        for (int n = 0; n <= 5; n++) {
            ByTheFlame x = three();
            due("n " + n, x.wicks(1, 1, 0, n), n <= 2 ? n : OUTSIDE);
            due("wicks", x.count(0), Math.min(2, n));
            due("the second one's parts", x.told(1, PARTS), n < 2 ? BAD : 14);
        }
        ByTheFlame x = three();
        due("from 3", x.wicks(1, 1, 3, 2), OUTSIDE);
        due("one came", x.count(0), 1);
        due("its parts", x.told(0, PARTS), 14);
        ByTheFlame y = three();
        due("from 2: 13 is no kind; 4 and 14 without more", y.wicks(1, 1, 2, 2), OUTSIDE);
        due("none came", y.count(0), 0);
        ByTheFlame full = lay(withWicks(WICK, 0, 1, WICK, 0, 2, WICK, 0, 3), 0, 0, 0, 0, 7, 0, 0, 8);
        due("one has room, then outside", full.wicks(0, 0, 0, 3), OUTSIDE);
        due("it came", full.told(3, PARTS), 7);
    }

    /** "three by three (as of wick())": KIND, NUMBER, parts, and what it refuses is left out. */
    static void wicksAsOfWick() {
        int[][] rows = {{0, 0, 1}, {5, 9, 99}, {-1, 0, 1}, {6, 0, 1}, {0, -1, 1}, {0, 10, 1}, {0, 0, 0}, {0, 0, 100}};
        for (int sort = 0; sort <= 2; sort++) {
            for (int i = 0; i < rows.length; i++) {
                ByTheFlame x = lay(new ByTheFlame(), 0, sort, rows[i]);
                due("row " + i, x.wicks(0, sort, 0, 1), i < 2 ? 1 : 0);
                due("wicks", x.count(0), i < 2 ? 1 : 0);
                due("kind", x.told(0, 4), i < 2 ? rows[i][0] : BAD);
                due("number", x.told(0, NUMBER), i < 2 ? rows[i][1] : BAD);
                due("parts", x.told(0, PARTS), i < 2 ? rows[i][2] : BAD);
            }
        }
    }

    /** "how many came (others are left out)": a bad one between, and those that have no room. */
    static void wicksLeftOut() {
        ByTheFlame x = lay(new ByTheFlame(), 0, 2, 0, 0, 1, 6, 0, 1, 0, 0, 2, 0, 0, 0, 0, 0, 3);
        due("three of five", x.wicks(0, 2, 0, 5), 3);
        int[] parts = {1, 2, 3};
        for (int w = 0; w < 3; w++) {
            due("parts of " + w, x.told(w, PARTS), parts[w]);
        }
        due("one has room", x.wicks(0, 2, 0, 5), 1);
        due("none has room", x.wicks(0, 2, 0, 5), 0);
        due("four", x.count(0), 4);
        due("the fourth", x.told(3, PARTS), 1);
    }

    /** No wicks asked: no place either. */
    static void wicksOfNone() {
        for (int from : new int[] {LEAST_INT, -1, 0, 5, 6, 7, 40, 41, MOST_INT}) {
            changesNothing("none from " + from, HostEdges::three, 0, x -> x.wicks(0, 0, from, 0));
        }
    }

    // ---- promise 30

    private static ByTheFlame sixths(int kind) {
        return withWicks(kind, 4, 10, WICK, 9, 20);
    }

    /** "BAD: k" (0 .. 5), ahead of -11. */
    static void takenForNoKind() {
        for (int k : new int[] {-1, -2, 6, 7, LEAST_INT, MOST_INT}) {
            refused("for " + k, () -> sixths(ROPE), BAD, x -> x.taken(0, k));
            refused("for " + k + ", ahead of -11", () -> sixths(ROPE), BAD, x -> x.taken(2, k));
        }
    }

    /** "-11: no such WICK", ahead of -13. */
    static void takenNoWick() {
        for (int wick : new int[] {-1, 2, 3, 4, LEAST_INT, MOST_INT}) {
            for (int k : new int[] {0, 5}) {
                refused(wick + " for " + k, () -> sixths(ROPE), NOTHING, x -> x.taken(wick, k));
            }
        }
        due("the first", sixths(ROPE).taken(0, 0), 4);
        due("the last", sixths(ROPE).taken(1, 0), 9);
        due("without wicks", new ByTheFlame().taken(0, 0), NOTHING);
    }

    /** "KIND k, or one under that one (also by others between)"; "-13". */
    static void takenForEachKind() {
        String[] under = {"0", "01", "02", "013", "024", "015"};
        for (int kind = WICK; kind <= TWISTED; kind++) {
            int of = kind;
            for (int k = WICK; k <= TWISTED; k++) {
                int asked = k;
                int due = under[kind].indexOf('0' + k) >= 0 ? 4 : UNLIKE;
                changesNothing(kind + " for " + k, () -> sixths(of), due, x -> x.taken(0, asked));
            }
        }
    }

    /** "its NUMBER": 0 .. 9, as it is now. */
    static void takenNumber() {
        for (int number = 0; number <= 9; number++) {
            ByTheFlame x = withWicks(ROPE, number, 10);
            due("number " + number, x.taken(0, GREEN), number);
            x.set(NUMBER, 0, 9 - number);
            due("number " + (9 - number), x.taken(0, ROPE), 9 - number);
            x.set(PARTS, 0, 0);
            due("without parts, too", x.taken(0, WICK), 9 - number);
        }
    }
}
