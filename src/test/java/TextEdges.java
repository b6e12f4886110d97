/** Each sentence of promises 5 to 7, and of what they lean on, that names a boundary. */
public final class TextEdges extends Edges {
    private static final String[] NAMES = {"parts", "damp", "lit", "burnt", "wick", "span"};
    private static final String[] KEYS = {"costs", "worth", "drift", "or", "and", "not"};

    public static void main(String[] args) throws Exception {
        runAll(TextEdges.class);
    }

    /** A text with such costs is a TEXT. */
    private static void stands(String costs) {
        ByTheFlame x = new ByTheFlame();
        due("costs " + costs, read(x, "costs " + costs + REST), 1);
        due("texts", x.count(4), 2);
        due("the tape is empty", x.count(5), 0);
    }

    /** The tape has a FAULT at a place; no text comes of it. */
    private static void fault(String tape, int place) {
        ByTheFlame x = new ByTheFlame();
        due("fault of " + tape, read(x, tape), -100 - place);
        due("the tape is empty", x.count(5), 0);
        due("no text more", x.count(4), 1);
        due("none can be forced", x.force(1), BAD);
    }

    /** The costs have a FAULT where the sign ^ stands, which is left out. */
    private static void faultAt(String costs) {
        String marked = "costs " + costs + REST;
        int place = marked.indexOf('^');
        fault(marked.substring(0, place) + marked.substring(place + 1), place);
    }

    // ---- promise 5

    /** "A byte (0 .. 255)". */
    static void feedByte() {
        for (int letter : new int[] {0, 1, 254, 255}) {
            due("feed " + letter, new ByTheFlame().feed(letter), 1);
        }
        Made some = () -> fed("costs 7;wor");
        for (int letter : new int[] {-1, 256, 257, LEAST_INT, MOST_INT}) {
            refused("feed " + letter, some, BAD, x -> x.feed(letter));
        }
    }

    private static ByTheFlame fed(String tape) {
        ByTheFlame x = new ByTheFlame();
        for (int i = 0; i < tape.length(); i++) {
            due("feed", x.feed(tape.charAt(i)), i + 1);
        }
        return x;
    }

    /** "THE TAPE (160 bytes at most)", FULL. */
    static void feedToTheEndOfTheTape() {
        ByTheFlame x = fed(" ".repeat(158));
        due("byte 159", x.feed(' '), 159);
        due("byte 160", x.feed(' '), 160);
        due("byte 161", x.feed(' '), FULL);
        due("bytes", x.count(5), 160);
        due("blanks alone end too early", x.text(), -260);
        due("there is room again", x.feed('c'), 1);
        refused("byte 161", () -> fed(longest()), FULL, y -> y.feed(';'));
    }

    /** "BAD; FULL". */
    static void feedBadAheadOfFull() {
        refused("256", () -> fed(longest()), BAD, x -> x.feed(256));
        refused("-1", () -> fed(longest()), BAD, x -> x.feed(-1));
    }

    private static String longest() {
        return "costs 1;worth 1;drift 1" + "+1".repeat(68) + ";";
    }

    /** A text may be just as long as THE TAPE: its last byte counts. */
    static void textOf160Bytes() {
        due("bytes", longest().length(), 160);
        due("160 bytes", read(new ByTheFlame(), longest()), 1);
        ByTheFlame x = fed(longest());
        x.feed(';');
        due("a 161st byte did not come", x.text(), 1);
        due("the last byte can't stand there", read(new ByTheFlame(), longest().substring(0, 159) + ")"), -259);
        due("159 bytes end too early", read(new ByTheFlame(), longest().substring(0, 159)), -259);
    }

    /** Each TEXT has 160 bytes of its own, one behind the other, a FAULT between them. */
    static void textsOf160Bytes() {
        ByTheFlame x = withWicks(WICK, 0, 9);
        due("160 bytes", read(x, longest()), 1);
        due("160 bytes and a fault at last", read(x, longest().substring(0, 159) + "?"), -259);
        due("160 bytes", read(x, longest().replace("+1;", "+7;")), 2);
        x.force(1);
        due("1 and 68 times 1", x.copies(0, 1, 1), 69);
        x.force(2);
        due("6 more", x.copies(0, 1, 1), 75);
    }

    // ---- promise 6

    /** "There are 6 TEXTS at most, TEXT 0 with them"; text() answers the number. */
    static void sixTextsAtMost() {
        ByTheFlame x = new ByTheFlame();
        for (int t = 1; t <= 5; t++) {
            due("text " + t, read(x, "costs " + t + REST), t);
            due("texts", x.count(4), t + 1);
        }
        due("a seventh", read(x, "costs 6" + REST), FULL);
        due("texts", x.count(4), 6);
    }

    private static ByTheFlame fiveFed() {
        ByTheFlame x = withWicks(WICK, 0, 10);
        for (int t = 1; t <= 5; t++) {
            read(x, "costs " + t + ";worth 1" + t + ";drift 2" + t + ";");
        }
        return x;
    }

    /** "FULL (ahead of all): no TEXT more has room (THE TAPE stays)." */
    static void fullAheadOfAll() {
        Made tapeWithFault = () -> {
            ByTheFlame x = fiveFed();
            x.feed('?');
            return x;
        };
        refused("ahead of a fault", tapeWithFault, FULL, x -> x.text());
        refused("of an empty tape", TextEdges::fiveFed, FULL, x -> x.text());
        ByTheFlame x = tapeWithFault.anew();
        due("full", x.text(), FULL);
        due("the tape stays", x.count(5), 1);
        due("and goes on", x.feed('?'), 2);
        due("full", x.text(), FULL);
        due("the tape stays", x.count(5), 2);
    }

    /** Ahead of the sixth TEXT, a FAULT leaves room for one. */
    static void faultAheadOfTheLastText() {
        ByTheFlame x = new ByTheFlame();
        for (int t = 1; t <= 4; t++) {
            due("text " + t, read(x, "costs " + t + REST), t);
        }
        due("a fault", read(x, "costs"), -105);
        due("texts", x.count(4), 5);
        due("the sixth", read(x, "costs 5" + REST), 5);
        due("none more", read(x, "costs"), FULL);
    }

    /** "THE TAPE, which is empty then (by a FAULT, too)". */
    static void tapeIsEmptyThen() {
        ByTheFlame x = new ByTheFlame();
        due("a fault", read(x, "costs 1;x"), -108);
        due("bytes", x.count(5), 0);
        due("nothing of it is left", read(x, "costs 1" + REST), 1);
        due("bytes", x.count(5), 0);
        due("nothing of that is left", x.text(), -100);
        due("it begins anew", x.feed(1), 1);
    }

    /** A FAULT takes no number, and leaves the TEXTS that are. */
    static void faultLeavesTheTexts() {
        ByTheFlame x = withWicks(WICK, 0, 1);
        due("a text", read(x, "costs 7;worth 8;drift 9;"), 1);
        due("a fault", read(x, "costs 3;worth 4;drift 5"), -123);
        due("forced", x.force(1), 0);
        due("costs", x.tell(1, 1, 1), 7);
        due("worth", x.worth(1, 1), 8);
        due("drift", x.copies(0, 1, 1), 9);
        due("a fault", read(x, "costs 3;worth 4;drift 5"), -123);
        due("costs", x.tell(1, 1, 1), 7);
        due("drift", x.copies(0, 1, 1), 9);
        due("the next one", read(x, "costs 2;worth 4;drift 5;"), 2);
        due("is not yet the rule", x.copies(0, 1, 1), 9);
    }

    /** "-100 less the place": the first byte, one behind it, the last one. */
    static void faultFromTheFirstByteOn() {
        fault("?osts 1" + REST, 0);
        fault(" ?osts 1" + REST, 1);
        fault("costs 1" + REST + "?", 27);
        fault("costs 1" + REST + ";", 27);
        fault("costs 1" + REST + "1", 27);
        fault("costs 1" + REST + "costs 1" + REST, 27);
    }

    /** "(the text's size, if it ends too early)", blanks with it. */
    static void faultAtTheEnd() {
        String whole = "costs 1;worth span;drift 1;";
        int[] early = {0, 5, 7, 8, 13, 18, 19, 24, 26};
        for (int size : early) {
            fault(whole.substring(0, size), size);
            fault(whole.substring(0, size) + " ", size + 1);
            fault(whole.substring(0, size) + "\n \n", size + 3);
        }
        ByTheFlame x = new ByTheFlame();
        due("just long enough", read(x, whole), 1);
        due("blanks behind it", read(x, whole + " \n"), 2);
    }

    /** "also of a byte that begins none": of all bytes behind a 1. */
    static void everyByte() {
        for (int letter = 0; letter <= 255; letter++) {
            boolean blank = letter == 32 || letter == 10;
            boolean digit = letter >= '0' && letter <= '9';
            boolean standsThere = blank || digit || letter > 0 && "+-*<=;".indexOf(letter) >= 0;
            ByTheFlame x = fed("costs 1");
            x.feed(letter);
            due("byte " + letter + " behind costs 1", x.text(), standsThere ? -108 : -107);
        }
    }

    /** A byte that begins none, at the very beginning: only blanks may stand there ahead of costs. */
    static void everyByteAheadOfAll() {
        for (int letter = 0; letter <= 255; letter++) {
            ByTheFlame x = new ByTheFlame();
            x.feed(letter);
            boolean blank = letter == 32 || letter == 10;
            due("byte " + letter + " ahead", read(x, " costs 1" + REST), blank ? 1 : -100);
        }
    }

    /** "blanks (32, 10) may stand between" - or not; never within a TOKEN. */
    static void blanksBetweenTokens() {
        ByTheFlame x = new ByTheFlame();
        due("none", read(x, "costs1;worth(span);drift-1;"), 1);
        due("many", read(x, "\n\n  costs \n 1  ;\nworth\n(\nspan\n)\n;\n drift\n-\n1\n;  \n"), 2);
        fault("co sts 1" + REST, 0);
        fault("cos\nts 1" + REST, 0);
        faultAt("1 ^2");
        faultAt("1\n^2");
        faultAt("^pa rts");
    }

    /** "TOKENS, each as long as can be": WORDS. */
    static void wordsAsLongAsCanBe() {
        fault("costsparts" + REST, 0);
        faultAt("^partsdamp");
        faultAt("^notparts");
        faultAt("1 ^orparts");
        faultAt("1 ^andnot 1");
        stands("not(parts)");
        stands("1or 2");
        stands("1and 2");
        faultAt("parts^1");
        faultAt("1^parts");
    }

    /** "WORDS (a .. z)", "NUMBERS (as many digits as stand there)": from a to z, from 0 to 9, no byte more. */
    static void lettersAndDigits() {
        for (char letter = 'a'; letter <= 'z'; letter++) {
            fault("costs" + letter + " 1" + REST, 0);
        }
        for (char digit = '0'; digit <= '9'; digit++) {
            fault("costs 1234" + digit + REST, 6);
        }
        fault("costs" + (char) ('a' - 1) + " 1" + REST, 5);
        fault("costs" + (char) ('z' + 1) + " 1" + REST, 5);
        fault("costs 1234" + (char) ('0' - 1) + REST, 10);
        fault("costs 1234" + (char) ('9' + 1) + REST, 10);
    }

    /** A WORD is a KEY or a NAME as a whole: no byte less, no byte more, no other letter. */
    static void wordsAsAWhole() {
        for (String name : NAMES) {
            stands(name);
            faultAt("^" + name + "s");
            faultAt("^" + name.substring(0, name.length() - 1));
            faultAt("^" + name.substring(1));
            faultAt("^" + name.substring(0, name.length() - 1) + "x");
            faultAt("^" + name.toUpperCase());
        }
        for (String key : new String[] {"orr", "o", "annd", "an", "nott"}) {
            faultAt("1 ^" + key + " 1");
        }
        for (String key : new String[] {"nott", "no", "ot"}) {
            faultAt("^" + key + " 1");
        }
        for (String key : new String[] {"cost", "costss", "worth", "drift", "Costs", "parts", "or"}) {
            fault(key + " 1" + REST, 0);
        }
    }

    /** "costs, worth, drift, or, and, not are KEYS": no NAMES. */
    static void keysAreNoNames() {
        for (String key : KEYS) {
            faultAt(key.equals("not") ? "not ^" : "^" + key);
            faultAt("1 + ^" + key + " 1");
            faultAt("- ^" + key + " 1");
        }
    }

    /** "NUMBERS (as many digits as stand there, 4 at most)"; "a NUMBER that is too long": its first byte. */
    static void numbersOfFourDigits() {
        for (String number : new String[] {"0", "9", "00", "999", "0000", "9999", "1000"}) {
            stands(number);
            stands("1+" + number);
        }
        for (String number : new String[] {"00000", "10000", "99999", "000001", "1".repeat(100)}) {
            faultAt("^" + number);
            faultAt("1+^" + number);
        }
        faultAt("1234 ^5");
        faultAt("^12345 6");
        faultAt("1 ^12345");
    }

    /** "TEXT: costs E ; worth E ; drift E ;": each of them, in this order, once. */
    static void threeSections() {
        fault("costs;worth 1;drift 1;", 5);
        fault("costs 1 worth 1;drift 1;", 8);
        fault("worth 1;costs 1;drift 1;", 0);
        fault("costs 1;drift 1;worth 1;", 8);
        fault("costs 1;costs 1;worth 1;", 8);
        fault("costs 1;worth 1;worth 1;", 16);
        fault("costs 1;worth;drift 1;", 13);
        fault("costs 1;worth 1;drift;", 21);
        fault("costs 1;;worth 1;drift 1;", 8);
        fault(";", 0);
    }

    /** "E: AND { or AND }", "AND: NOT { and NOT }": none, one, many; none of them lacking. */
    static void orsAndAnds() {
        stands("1");
        stands("1 or 1");
        stands("1 or 1 or 1 or 1 or 1 or 1 or 1 or 1");
        stands("1 and 1");
        stands("1 and 1 and 1 and 1 and 1 and 1 and 1");
        stands("1 and 1 or 1 and 1");
        faultAt("1 or^");
        faultAt("1 or ^or 1");
        faultAt("1 and ^or 1");
        faultAt("1 or ^and 1");
        faultAt("1 and^");
    }

    /** "SUM, perhaps < or = and a SUM": none or one. */
    static void oneComparison() {
        stands("1<2");
        stands("1=2");
        stands("1<2 and 2=3 or 3<4");
        stands("(1<2)<3");
        stands("not 1<2");
        faultAt("1<2^<3");
        faultAt("1=2^=3");
        faultAt("1<2^=3");
        faultAt("1<^<2");
        faultAt("1<^=2");
        faultAt("^<1");
        faultAt("1<^");
        faultAt("not 1<2^<3");
    }

    /** "NOT: not NOT, or SUM": a not may stand ahead of a NOT alone. */
    static void notAheadOfANotAlone() {
        stands("not not 1");
        stands("1 and not 1 or not 1");
        stands("(not 1)");
        stands("1<(not 1)");
        faultAt("1<^not 1");
        faultAt("1+^not 1");
        faultAt("1*^not 1");
        faultAt("-^not 1");
        faultAt("1 ^not 1");
        faultAt("not^");
    }

    /** "SUM: TERM { + or - TERM }", "TERM: ONE { * ONE }", "ONE: a NUMBER, a NAME, - ONE, ( E )". */
    static void sumsAndTerms() {
        stands("1+1-1*1*1");
        stands("1--1");
        stands("1+-1");
        stands("1*-1");
        stands("(1)");
        stands("(1 or 1<1)");
        faultAt("^+1");
        faultAt("^*1");
        faultAt("1+^+1");
        faultAt("1*^*1");
        faultAt("1-^");
        faultAt("1+^");
        faultAt("1*^");
        faultAt("(^)");
        faultAt("^)");
        faultAt("(1^");
        faultAt("(1)^)");
        faultAt("1^(1)");
        faultAt("(1)^1");
        faultAt("parts ^damp");
    }

    // ---- "a ( , a not, a - ahead of a ONE while 5 of these are open"

    /** Four, five, six of a kind. */
    static void fiveOpenAtMost() {
        stands("((((1))))");
        stands("(((((1)))))");
        faultAt("(((((^(1))))))");
        stands("----1");
        stands("-----1");
        faultAt("-----^-1");
        stands("not not not not 1");
        stands("not not not not not 1");
        faultAt("not not not not not ^not 1");
    }

    /** Of unlike kinds, the sixth being each of them. */
    static void fiveOpenOfUnlikeKinds() {
        stands("(not(-(1)))");
        stands("not(not(-1))");
        faultAt("not(not(-^(1)))");
        faultAt("(not(--^-1))");
        faultAt("(not((not ^not 1)))");
        faultAt("(((-(^-1))))");
        faultAt("((((not ^(1)))))");
        faultAt("((((not ^-1))))");
        faultAt("(((((^not 1)))))");
    }

    /** "(a ( till its ) ": behind it there is room for one more. */
    static void openTillItsClose() {
        stands("((((1)+(1))))");
        stands("((((1+(1)))))");
        stands("(((((1)+(1)))))");
        faultAt("(((((1+^(1))))))");
        stands("(1)+(((((1)))))");
        stands("(((((1)))))+(((((1)))))*-----1");
        stands("((((-1)+-1)))");
        faultAt("((((-1+(^(1))))))");
    }

    /** "not and - till what they belong to ends": a - till its ONE ends. */
    static void minusTillItsOneEnds() {
        stands("-----1-----(1)*-----1");
        stands("-(1)+(((((1)))))");
        stands("-1*(((((1)))))");
        stands("-((((1))))");
        faultAt("-((((^(1)))))");
        stands("--(((1)))+(((((1)))))");
        faultAt("--(((^(1))))");
        faultAt("1------^-1");
    }

    /** "not and - till what they belong to ends": a not till its NOT ends, with the SUM behind < or =. */
    static void notTillItsNotEnds() {
        stands("not ((((1))))");
        faultAt("not ((((^(1)))))");
        stands("not 1 and (((((1)))))");
        stands("not 1 or (((((1)))))");
        stands("not 1+((((1))))");
        faultAt("not 1+((((^(1)))))");
        stands("not 1<((((1))))");
        faultAt("not 1<((((^(1)))))");
        faultAt("not (1)=----^-1");
        stands("not not not not not 1 and not not not not not 1 or not not not not not 1");
        faultAt("1 or not not not not not ^not 1");
        stands("(not 1)+((((1))))");
    }

    /** A - between two TERMS isn't ahead of a ONE. */
    static void minusBetweenTermsIsNotCounted() {
        stands("(((((1-1)))))");
        stands("(((((1-1-1-1-1-1-1)))))");
        faultAt("(((((1-^-1)))))");
        faultAt("(((((1*^-1)))))");
        faultAt("(((((^-1)))))");
    }

    /** Each E begins with none open. */
    static void eachSectionBeginsAnew() {
        due("five in each", read(new ByTheFlame(), "costs (((((1)))));worth -----1;drift not not not not not 1;"), 1);
        fault("costs 1;worth ------1;drift 1;", 19);
        fault("costs 1;worth 1;drift ((((((1))))));", 27);
    }

    // ---- what an E is

    private static ByTheFlame valued(String worth) {
        ByTheFlame x = withWicks(WICK, 3, 1);
        x.set(DAMP, 0, 7);
        x.set(BURNT, 0, 5);
        return ruled(x, "costs 0;worth " + worth + ";drift 0;");
    }

    private static void value(String worth, int due) {
        due("worth " + worth, valued(worth).worth(1, 1), due);
    }

    /** "worth: what a span is worth (0 .. 999, else the bound)". */
    static void worthBounded() {
        value("0-9999*9999", 0);
        value("-1", 0);
        value("0", 0);
        value("1", 1);
        value("998", 998);
        value("999", 999);
        value("1000", 999);
        value("9999*9999", 999);
        value("-9999*9999", 0);
    }

    /** "costs: what it costs to light one end of a WICK (0 .. 99, else the bound)". */
    static void costsBounded() {
        String[] costs = {"-9999*9999", "-1", "0", "1", "98", "99", "100", "9999*9999"};
        int[] due = {0, 0, 0, 1, 98, 99, 99, 99};
        for (int i = 0; i < costs.length; i++) {
            ByTheFlame x = ruled(withWicks(WICK, 0, 10), "costs " + costs[i] + REST);
            due("one end at " + costs[i], x.tell(1, 10, 1), due[i]);
            due("each of two ends at " + costs[i], x.tell(1, 5, 1), 2 * due[i]);
        }
    }

    /** "drift: how far a copy is off more than what it is copied from (0 .. 99, else the bound)". */
    static void driftBounded() {
        String[] drift = {"-9999*9999", "-1", "0", "1", "98", "99", "100", "9999*9999"};
        int[] due = {0, 0, 0, 1, 98, 99, 99, 99};
        for (int i = 0; i < drift.length; i++) {
            ByTheFlame x = ruled(withWicks(WICK, 0, 10), "costs 1;worth 1;drift " + drift[i] + ";");
            due("one copy by " + drift[i], x.copies(0, 1, 1), due[i]);
            due("each of three copies by " + drift[i], x.copies(0, 3, 1), 3 * due[i]);
        }
    }

    /** "An E is an int (32 bits, wrapping)". */
    static void wrapping() {
        value("8192*8192*32-1<0", 0);
        value("8192*8192*32<0", 1);
        value("-(8192*8192*32)<0", 1);
        value("8192*8192*32-1=-(8192*8192*32)-1", 1);
        value("8192*8192*64", 0);
        value("8192*8192*64+7", 7);
        value("8192*8192*64*9999+3", 3);
        value("-(8192*8192*32-1)-2+1<0", 1);
        value("-(8192*8192*32-1)-2<0", 0);
    }

    /** "of or, and, not, <, = 1 or 0 (what is not 0 is true)". */
    static void oneOrZero() {
        value("5 or 7", 1);
        value("-1 or 0", 1);
        value("0 or 1", 1);
        value("0 or 0", 0);
        value("5 and 7", 1);
        value("-1 and -2", 1);
        value("5 and 0", 0);
        value("0 and 5", 0);
        value("not 0", 1);
        value("not 1", 0);
        value("not -1", 0);
        value("not not 7", 1);
        value("7", 7);
    }

    /** "<, =": below, alike, above. */
    static void comparisons() {
        value("4<5", 1);
        value("5<5", 0);
        value("6<5", 0);
        value("-6<-5", 1);
        value("4=5", 0);
        value("5=5", 1);
        value("6=5", 0);
        value("(5<6)*9", 9);
    }

    /** What binds closer: * ahead of + -, these ahead of < =, these ahead of not, and, or. */
    static void whatBindsCloser() {
        value("2+3*4", 14);
        value("20-2*3", 14);
        value("-2+9", 7);
        value("9-3-2", 4);
        value("9-(3-2)", 8);
        value("2+3=5", 1);
        value("2<1+2", 1);
        value("not 0=1", 1);
        value("(not 0)=1", 1);
        value("not 2<9", 0);
        value("(not 2)<9", 1);
        value("not 0 and 0", 0);
        value("not (0 and 0)", 1);
        value("1 or 0 and 0", 1);
        value("(1 or 0) and 0", 0);
        value("0 and 0 or 1", 1);
        value("not 1 or 1", 1);
    }

    /** "damp: DAMP"; "worth: span: that; parts, lit, burnt, wick: 0". */
    static void namesInWorth() {
        value("damp", 7);
        value("span", 1);
        for (String name : new String[] {"parts", "lit", "burnt", "wick"}) {
            value(name + "+3", 3);
        }
    }

    /** "costs: parts, lit, burnt: ahead of it; wick: its number; span: how many moments from the beginning on". */
    static void namesInCosts() {
        // wick 0, of 10 parts, at one end, then wick 1, of 12 parts, at both: 16 moments
        int[] first = {10, 7, 0, 5, 0, 0};
        int[] second = {12, 7, 0, 6, 1, 10};
        int[] third = {12, 7, 1, 6, 1, 10};
        for (int i = 0; i < NAMES.length; i++) {
            ByTheFlame x = withWicks(WICK, 3, 10, WICK, 4, 12);
            x.set(DAMP, 0, 7);
            x.set(BURNT, 0, 5);
            x.set(BURNT, 1, 6);
            // the other way round, which tells 16 moments, too, costs 100 more
            ruled(x, "costs " + NAMES[i] + "+(wick=1 and span<10)*50" + REST);
            due(NAMES[i], x.tell(3, 16, 1), first[i] + second[i] + third[i]);
        }
    }

    /** "PARTS, LIT, BURNT ahead of it": of one that has burnt in thought, too. */
    static void namesInCostsOfOneThatBurns() {
        due("burnt by then", lateEnd("burnt", 0), 5);
        due("burnt by then", lateEnd("burnt", 60), 65);
        due("parts by then", lateEnd("parts", 60), 14);
        due("span by then", lateEnd("span", 60), 5);
    }

    /** "BURNT (999 at most)", in thought, too. */
    static void burntInThoughtIsBounded() {
        due("998", lateEnd("(burnt-900)", 993), 98);
        due("999", lateEnd("(burnt-900)", 994), 99);
        due("999", lateEnd("(burnt-950)", 994), 49);
        due("999, not 1000", lateEnd("(burnt-950)", 995), 49);
        due("999, not 1004", lateEnd("(burnt-950)", 999), 49);
    }

    /** What the second end costs of a wick of 19 parts that has burnt for 5 moments; only so 12 moments are told. */
    private static int lateEnd(String costs, int burnt) {
        ByTheFlame x = withWicks(WICK, 0, 19, WICK, 0, 5);
        x.set(BURNT, 0, burnt);
        ruled(x, "costs (lit=1)*" + costs + REST);
        return x.tell(3, 12, 1);
    }

    /** "drift: parts: PARTS of a told WICK; wick: which copy, from 1 on; span: copies behind; lit, burnt: 0". */
    static void namesInDrift() {
        int[] first = {12, 7, 0, 0, 1, 1};
        int[] both = {24, 14, 0, 0, 3, 3};
        for (int i = 0; i < NAMES.length; i++) {
            ByTheFlame x = withWicks(WICK, 3, 10, WICK, 4, 12);
            x.set(DAMP, 0, 7);
            x.set(BURNT, 1, 6);
            x.light(1, 1);
            ruled(x, "costs 1;worth 1;drift " + NAMES[i] + ";");
            due(NAMES[i], x.copies(1, 1, 1), first[i]);
            due(NAMES[i], x.copies(1, 2, 1), both[i]);
        }
    }

    // ---- promise 7

    /** "A TEXT is THE RULE": 0 .. the last one. */
    static void forceOfNoText() {
        for (int text : new int[] {-1, 1, 2, LEAST_INT, MOST_INT}) {
            refused("force " + text, () -> withWicks(WICK, 0, 9), BAD, x -> x.force(text));
        }
        for (int text : new int[] {-1, 6, 7, LEAST_INT, MOST_INT}) {
            refused("force " + text, TextEdges::fiveFed, BAD, x -> x.force(text));
        }
        due("the last one", fiveFed().force(5), 0);
        ByTheFlame x = new ByTheFlame();
        read(x, "costs 1" + REST);
        due("the only one more", x.force(1), 0);
        due("behind it", x.force(2), BAD);
        due("the rule", x.count(6), 1);
    }

    /** "which was". */
    static void forceAnswersWhichWas() {
        ByTheFlame x = fiveFed();
        int was = 0;
        for (int text : new int[] {0, 5, 5, 1, 4, 0, 2}) {
            due("force " + text, x.force(text), was);
            due("the rule", x.count(6), text);
            due("costs", x.tell(1, 10, 1), text == 0 ? 1 : text);
            due("worth", x.worth(1, 1), text == 0 ? 10 : 10 + text);
            due("drift", x.copies(0, 1, 1), text == 0 ? 1 : 20 + text);
            was = text;
        }
    }
}
