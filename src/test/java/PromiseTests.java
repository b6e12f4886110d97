/** For each promise: ordinary calls, the edges that the document names, wrong numbers. */
public final class PromiseTests {
    private static int wrong = 0;
    private static int promise = 0;

    private static void due(String call, long got, long want) {
        if (got != want) {
            wrong++;
            System.out.println("promise " + promise + ": " + call + " answered " + got + ", due is " + want);
        }
    }

    private static ByTheFlame withWicks(int... kindsNumbersParts) {
        ByTheFlame x = new ByTheFlame();
        for (int i = 0; i + 2 < kindsNumbersParts.length; i += 3) {
            x.wick(kindsNumbersParts[i], kindsNumbersParts[i + 1], kindsNumbersParts[i + 2]);
        }
        return x;
    }

    private static int read(ByTheFlame x, String text) {
        for (int i = 0; i < text.length(); i++) {
            x.feed(text.charAt(i));
        }
        return x.text();
    }

    private static ByTheFlame ruled(ByTheFlame x, String text) {
        due("text " + text, read(x, text), x.count(4) - 1);
        x.force(x.count(4) - 1);
        return x;
    }

    private static void lay(ByTheFlame x, int sheet, int sort, int... items) {
        x.sheet(sheet, sort, items.length);
        for (int i = 0; i < items.length; i++) {
            x.cell(sheet, i, items[i]);
        }
    }

    public static void main(String[] args) {
        newObject();
        wick();
        set();
        told();
        feed();
        text();
        textDepth();
        textValues();
        force();
        light();
        burn();
        out();
        spans();
        tell();
        tellCosts();
        between();
        worth();
        sure();
        cheat();
        which();
        copies();
        best();
        judge();
        drawn();
        chance();
        imageAndBack();
        count();
        sheet();
        cell();
        copy();
        wicks();
        taken();
        System.out.println(wrong == 0 ? "all promises hold" : wrong + " answers are not as due");
        if (wrong != 0) {
            System.exit(1);
        }
    }

    private static void newObject() {
        promise = 1;
        ByTheFlame x = new ByTheFlame();
        int[] due = {0, 0, 0, 0, 1, 0, 0, 0};
        for (int what = 0; what < due.length; what++) {
            due("count(" + what + ")", x.count(what), due[what]);
        }
        for (int sheet = 0; sheet < 4; sheet++) {
            due("cell of a missing sheet", x.cell(sheet, 0, 0), -11);
        }
    }

    private static void wick() {
        promise = 2;
        ByTheFlame x = new ByTheFlame();
        int[][] bad = {{-1, 0, 1}, {6, 0, 1}, {0, -1, 1}, {0, 10, 1}, {0, 0, 0}, {0, 0, 100}, {0, 0, -5}};
        for (int[] b : bad) {
            due("wick", x.wick(b[0], b[1], b[2]), -2);
        }
        due("count", x.count(0), 0);
        due("first", x.wick(5, 9, 99), 0);
        due("second", x.wick(0, 0, 1), 1);
        due("third", x.wick(1, 1, 1), 2);
        due("fourth", x.wick(2, 2, 2), 3);
        due("fifth", x.wick(2, 2, 2), -4);
        due("bad ahead of full", x.wick(6, 2, 2), -2);
        due("kind", x.told(0, 4), 5);
        due("number", x.told(0, 3), 9);
        due("parts", x.told(0, 0), 99);
        due("lit", x.told(0, 1), 0);
        due("burnt", x.told(0, 2), 0);
    }

    private static void set() {
        promise = 3;
        ByTheFlame x = withWicks(0, 3, 50);
        int[] most = {99, 2, 999, 9, 9, 9999};
        int[] was = {50, 0, 0, 3, 0, 0};
        for (int what = 0; what <= 5; what++) {
            due("too little", x.set(what, 0, -1), -2);
            due("too much", x.set(what, 0, most[what] + 1), -2);
            due("most", x.set(what, 0, most[what]), was[what]);
            due("again", x.set(what, 0, most[what]), most[what]);
        }
        due("what", x.set(6, 0, 0), -2);
        due("what", x.set(-1, 0, 0), -2);
        for (int what = 0; what <= 3; what++) {
            due("of", x.set(what, 1, 0), -2);
            due("of", x.set(what, -1, 0), -2);
        }
        due("of does not matter", x.set(4, 77, 1), 9);
        due("of does not matter", x.set(5, -77, 1), 9999);
        due("lit", x.told(0, 1), 2);
        due("parts 0", x.set(0, 0, 0), 99);
        due("lit goes, too", x.told(0, 1), 0);
        due("state", x.set(1, 0, 1), -3);
        due("bad ahead of state", x.set(1, 0, 3), -2);
        due("lit 0 is fine", x.set(1, 0, 0), 0);
        due("parts", x.set(0, 0, 5), 0);
        due("not lit again", x.told(0, 1), 0);
    }

    private static void told() {
        promise = 4;
        // kind, number, damp, fast with one end, with both
        int[][] fast = {
            {0, 0, 9, 1, 2}, {1, 0, 9, 2, 4}, {2, 4, 4, 1, 2}, {2, 4, 5, 1, 1}, {2, 9, 9, 1, 2},
            {3, 5, 0, 2, 6}, {3, 6, 0, 2, 4}, {3, 7, 9, 2, 5}, {4, 4, 4, 1, 2}, {4, 4, 5, 1, 1},
            {5, 0, 0, 2, 4}, {5, 0, 1, 2, 4}, {5, 0, 2, 1, 3}, {5, 0, 5, 1, 2}, {5, 0, 6, 1, 1}, {5, 0, 9, 1, 1}};
        for (int[] f : fast) {
            ByTheFlame x = withWicks(f[0], f[1], 9);
            x.set(4, 0, f[2]);
            due("fast 1 of kind " + f[0], x.told(0, 7), f[3]);
            due("fast 2 of kind " + f[0], x.told(0, 8), f[4]);
            due("fast now", x.told(0, 5), 0);
            x.light(0, 1);
            due("fast now", x.told(0, 5), f[3]);
            x.light(0, 1);
            due("fast now", x.told(0, 5), f[4]);
        }
        // kind, number, burnt, ash
        int[][] ash = {{0, 9, 7, 7}, {1, 9, 7, 3}, {2, 9, 7, 16}, {3, 3, 7, 0}, {3, 2, 7, 1}, {4, 9, 7, 32},
            {4, 9, 999, 2016}, {5, 9, 7, 5}, {5, 9, 999, 832}, {3, 9, 0, 0}, {2, 5, 0, 5}};
        for (int[] a : ash) {
            ByTheFlame x = withWicks(a[0], a[1], 9);
            x.set(2, 0, a[2]);
            due("ash of kind " + a[0], x.told(0, 6), a[3]);
        }
        ByTheFlame x = withWicks(0, 0, 9);
        due("wick", x.told(1, 0), -2);
        due("wick", x.told(-1, 0), -2);
        due("what", x.told(0, -1), -2);
        due("what", x.told(0, 9), -2);
    }

    private static void feed() {
        promise = 5;
        ByTheFlame x = new ByTheFlame();
        due("below", x.feed(-1), -2);
        due("above", x.feed(256), -2);
        for (int i = 1; i <= 160; i++) {
            due("feed", x.feed(i % 2 * 255), i);
        }
        due("full", x.feed(0), -4);
        due("bad ahead of full", x.feed(256), -2);
        due("bytes", x.count(5), 160);
        due("fault", x.text(), -100);
        due("empty then", x.count(5), 0);
    }

    private static void fault(String text, int place) {
        ByTheFlame x = new ByTheFlame();
        due("fault of " + text, read(x, text), -100 - place);
        due("the tape is empty", x.count(5), 0);
        due("no text came", x.count(4), 1);
    }

    private static void text() {
        promise = 6;
        fault("", 0);
        fault("  \n", 3);
        fault("costs", 5);
        fault("costs 1 ; worth 1 ; drift 1", 27);
        fault("costs 1 ; worth 1 ; drift 1 ", 28);
        fault("costs 1;worth 1;drift 1;;", 24);
        fault("costs 1;worth 1;drift 1; costs", 25);
        fault("worth 1;", 0);
        fault("costs 1;drift 1;", 8);
        fault("costs ;", 6);
        fault("costs 12345;", 6);
        fault("costs 1 2;", 8);
        fault("costs a;", 6);
        fault("costsparts;", 0);
        fault("Costs 1;", 0);
        fault("costs 1\t;", 7);
        fault("costs 1 @", 8);
        fault("costs 1 / 2", 8);
        fault("costs 1 < 2 < 3;", 12);
        fault("costs 1 < 2 = 3;", 12);
        fault("costs 1 + not 2;", 10);
        fault("costs - not 2;", 8);
        fault("costs (1;", 8);
        fault("costs 1);", 7);
        fault("costs or;", 6);
        fault("costs 1 or;", 10);
        fault("costs 1 and or 2;", 12);
        fault("costs costs;", 6);
        fault("costs 1 not 2;", 8);
        fault("costs parts damp;", 12);
        fault("costs 1+;", 8);
        fault("costs 1*;", 8);
        fault("costs +1;", 6);
        fault("costs 1 < not 2;", 10);
        ByTheFlame x = new ByTheFlame();
        due("no blanks", read(x, "costs1;worth2*span;drift-3or 4;"), 1);
        due("blanks", read(x, "\n costs 0001\n;\n\nworth ( span ) ; drift not 1 and not not 2 ;  "), 2);
        due("names", read(x, "costs parts+damp+lit+burnt+wick+span;worth 9999;drift 1<2;"), 3);
        due("minus", read(x, "costs 1--1;worth 1-(-1);drift 1*-1;"), 4);
        due("last", read(x, "costs 1;worth 1;drift 1;"), 5);
        due("texts", x.count(4), 6);
        due("full, ahead of a fault", read(x, "oh"), -4);
        due("the tape stays", x.count(5), 2);
        ByTheFlame whole = new ByTheFlame();
        StringBuilder longest = new StringBuilder("costs 1;worth 1;drift 1");
        while (longest.length() < 159) {
            longest.append(longest.length() == 158 ? " " : "+1");
        }
        due("160 bytes", read(whole, longest.append(";").toString()), 1);
    }

    private static void textDepth() {
        fault("costs ((((((1))))));", 11);
        fault("costs ------1;", 11);
        fault("costs not not not not not not 1;", 26);
        fault("costs (-(-(-1)));", 11);
        fault("costs not(not(not -1));", 18);
        fault("costs 1------(1);", 13);
        ByTheFlame x = new ByTheFlame();
        due("five (", read(x, "costs (((((1)))));worth 1;drift 1;"), 1);
        due("five -", read(x, "costs -----1;worth 1;drift 1;"), 2);
        due("five not", read(x, "costs not not not not not 1;worth 1;drift 1;"), 3);
        due("six in worth", read(x, "costs -----1-----1*(((((1)))));worth not not not(-(1))and(((((2)))));drift 1;"), -150);
        due("closed again", read(x, "costs -----1------1*(((((1)))));worth not not not(-1)and(((((2)))));drift 1;"), 4);
        due("an operator's - isn't counted", read(x, "costs (((((1-1)))));worth 1;drift (((((1-1-1-1)))));"), 5);
    }

    /** What an expression is, told by worth (0 .. 999) of the only span 1. */
    private static void value(String e, int due) {
        ByTheFlame x = withWicks(0, 0, 1);
        x.set(4, 0, 7);
        ruled(x, "costs 0;worth " + e + ";drift 0;");
        due("value of " + e, x.worth(1, 1), due);
    }

    private static void textValues() {
        value("7", 7);
        value("0042", 42);
        value("1+2*3", 7);
        value("(1+2)*3", 9);
        value("9-3-2", 4);
        value("2*-3+10", 4);
        value("-3", 0);
        value("9999", 999);
        value("- -3", 3);
        value("not 0", 1);
        value("not 5", 0);
        value("not not 5", 1);
        value("not 5 = 0", 1);
        value("1<2", 1);
        value("2<1", 0);
        value("-1<0", 1);
        value("2=2", 1);
        value("1+1=2", 1);
        value("5 or 0", 1);
        value("0 or 0", 0);
        value("5 and 6", 1);
        value("1 and 1", 1);
        value("2<2", 0);
        value("5 and 0", 0);
        value("1 or 0 and 0", 1);
        value("(1 or 0) and 0", 0);
        value("not 0 and 0", 0);
        value("5*(2<3)", 5);
        value("damp", 7);
        value("span*100+parts+lit+burnt+wick", 100);
        value("9999*9999*9999*9999", bounded(9999 * 9999 * 9999 * 9999));
        value("9999*9999*43+1", bounded(9999 * 9999 * 43 + 1));
        value("9999*9999*43<0", 9999 * 9999 * 43 < 0 ? 1 : 0);
    }

    private static int bounded(int v) {
        return Math.max(0, Math.min(999, v));
    }

    private static void force() {
        promise = 7;
        ByTheFlame x = withWicks(0, 0, 4);
        due("none such", x.force(1), -2);
        due("none such", x.force(-1), -2);
        due("text 0", x.force(0), 0);
        due("text", read(x, "costs 7;worth 100-span;drift 3;"), 1);
        due("not yet", x.worth(1, 0), 4);
        due("not yet", x.tell(1, 4, 1), 1);
        due("forced", x.force(1), 0);
        due("the rule", x.count(6), 1);
        due("worth", x.worth(1, 0), 2);
        due("costs", x.tell(1, 4, 1), 7);
        due("drift", x.copies(0, 1, 1), 3);
        due("back", x.force(0), 1);
        due("costs", x.tell(1, 4, 1), 1);
        due("worth", x.worth(1, 0), 4);
    }

    private static void light() {
        promise = 8;
        ByTheFlame x = withWicks(0, 0, 4, 0, 0, 4);
        due("wick", x.light(2, 1), -2);
        due("wick", x.light(-1, 1), -2);
        due("ends", x.light(0, 0), -2);
        due("ends", x.light(0, 3), -2);
        due("one", x.light(0, 1), 1);
        due("no two more", x.light(0, 2), -3);
        due("one more", x.light(0, 1), 2);
        due("no more", x.light(0, 1), -3);
        due("both", x.light(1, 2), 2);
        x.set(0, 1, 0);
        due("no parts", x.light(1, 1), -3);
        due("bad ahead of state", x.light(1, 3), -2);
    }

    private static void burn() {
        promise = 9;
        ByTheFlame x = withWicks(0, 0, 5, 3, 4, 99, 4, 0, 9, 0, 0, 9);
        due("below", x.burn(-1), -2);
        due("above", x.burn(251), -2);
        due("moment", x.count(3), 0);
        due("no moments", x.burn(0), 0);
        due("none is lit", x.burn(3), 0);
        due("moment", x.count(3), 3);
        x.light(0, 1);
        x.light(1, 2);
        x.set(2, 1, 990);
        due("burn", x.burn(4), 0);
        due("parts", x.told(0, 0), 1);
        due("burnt", x.told(0, 2), 4);
        due("parts", x.told(1, 0), 79);
        due("burnt at most", x.told(1, 2), 999);
        due("not lit", x.told(3, 0), 9);
        due("one goes out", x.burn(1), 1);
        due("lit", x.told(0, 1), 0);
        x.set(0, 0, 3);
        x.light(0, 2);
        due("two go out", x.burn(250), 2);
        due("no more than it has", x.told(0, 2), 8);
        x.set(5, 0, 9990);
        due("burn", x.burn(250), 0);
        due("moment at most", x.count(3), 9999);
    }

    private static void out() {
        promise = 10;
        ByTheFlame x = withWicks(0, 0, 99, 5, 0, 9);
        due("none such", x.out(2), -2);
        due("none such", x.out(-1), -2);
        due("not lit", x.out(0), -1);
        x.light(0, 1);
        x.light(1, 2);
        due("out", x.out(0), 99);
        due("cut up", x.out(1), 3);
        x.set(4, 0, 9);
        due("by damp", x.out(1), 9);
        x.burn(9);
        due("went out", x.out(1), -1);
    }

    private static void spans() {
        promise = 11;
        ByTheFlame x = withWicks(0, 0, 60, 0, 0, 60, 0, 0, 1);
        due("block", x.spans(1, -1), -2);
        due("block", x.spans(1, 13), -2);
        due("some", x.spans(8, 0), -2);
        due("some", x.spans(-1, 0), -2);
        due("none", x.spans(0, 0), 0);
        due("30", x.spans(2, 0), 1 << 30);
        due("60", x.spans(2, 1), 1 << 29);
        x.light(2, 1);
        due("lit", x.spans(4, 0), -2);
        due("another is lit", x.spans(2, 0), 1 << 30);
        x.burn(1);
        due("no parts", x.spans(4, 0), -2);
        due("no parts", x.spans(7, 0), -2);
        due("45", x.spans(3, 1), 1 << 29 | 1 << 14);
        due("nothing is changed", x.count(3), 1);
        due("nothing is changed", x.count(7), 120);
        x.set(0, 0, 40);
        due("as it is now", x.spans(1, 0), 1 << 20);
        due("a block begins", withWicks(0, 0, 31).spans(1, 1), 1);
        due("a block ends ahead of it", withWicks(0, 0, 31).spans(1, 0), 1 << 16);
        ByTheFlame longest = withWicks(0, 0, 99, 0, 0, 99, 0, 0, 99, 0, 0, 99);
        due("one behind the other", longest.spans(15, 12), 1 << 396 - 12 * 31);
        due("three and a half", longest.spans(15, 11), 1 << 347 - 11 * 31);
    }

    private static void tell() {
        promise = 12;
        ByTheFlame x = withWicks(0, 0, 60, 0, 0, 60, 0, 0, 7);
        int[][] bad = {{1, 0, 0}, {1, 401, 0}, {1, 1, -1}, {1, 1, 3}, {8, 1, 0}, {-1, 1, 0}};
        for (int[] b : bad) {
            due("bad", x.tell(b[0], b[1], b[2]), -2);
        }
        due("none", x.tell(3, 400, 0), -1);
        ByTheFlame damp = withWicks(2, 0, 20);
        due("both ends", damp.tell(1, 10, 0), 2);
        damp.set(4, 0, 1);
        due("both ends are no faster", damp.tell(1, 10, 0), -1);
        due("one end", damp.tell(1, 20, 0), 1);
        due("one end", damp.tell(1, 20, 2), 1);
        due("none", x.tell(3, 44, 0), -1);
        due("none", x.tell(3, 44, 1), -1);
        due("none", x.tell(3, 44, 2), -1);
        due("none by no wick", x.tell(0, 1, 0), -1);
        due("least", x.tell(3, 45, 0), 4);
        due("first, a digit for each wick", x.tell(3, 45, 2), 120);
        due("first of one", x.tell(2, 60, 2), 10);
        due("first of one", x.tell(1, 60, 2), 100);
        due("first of one", x.tell(4, 4, 2), 2);
        due("least of two like ones", x.tell(3, 60, 2), 10);
        x.wick(0, 0, 9);
        due("a digit more", x.tell(3, 45, 2), 1200);
        x.light(3, 1);
        due("lit", x.tell(9, 45, 2), -2);
        x.set(0, 3, 0);
        due("no parts", x.tell(9, 45, 2), -2);
    }

    private static void tellCosts() {
        ByTheFlame x = ruled(withWicks(0, 0, 12, 1, 0, 30), "costs parts+lit*9+span+burnt*2+wick*50+damp;worth 1;drift 1;");
        due("one end", x.tell(1, 12, 1), 12);
        due("both at once: the first is lit ahead of the other", x.tell(1, 6, 1), 12 + 21);
        x.set(4, 0, 3);
        due("damp", x.tell(1, 6, 1), 15 + 24);
        due("wick", x.tell(2, 15, 1), 83);
        x.set(4, 0, 0);
        due("a later end: 12 moments on, 24 burnt", x.tell(3, 14, 1), 12 + (30 + 50) + Math.min(99, 6 + 9 + 12 + 48 + 50));
        x.set(2, 0, 100);
        due("the bound above", x.tell(1, 12, 1), 99);
        ruled(x, "costs 0-5;worth 1;drift 1;");
        due("the bound below", x.tell(1, 12, 1), 0);
        ByTheFlame y = ruled(withWicks(0, 0, 30, 0, 0, 60), "costs wick*40+(lit=1)*59;worth 1;drift 1;");
        due("least is not cheapest: least", y.tell(3, 30, 0), 1);
        due("cheapest", y.tell(3, 30, 1), 0);
        due("both ends", y.tell(2, 30, 1), 40 + 99);
    }

    private static void between() {
        promise = 13;
        ByTheFlame x = withWicks(0, 0, 60, 0, 0, 60);
        due("span", x.between(3, 0), -2);
        due("span", x.between(3, 401), -2);
        due("some", x.between(4, 1), -2);
        due("some", x.between(-1, 1), -2);
        due("between 30 and 45", x.between(3, 15), 1);
        due("itself", x.between(3, 45), 1);
        due("itself", x.between(3, 120), 1);
        due("by two tellings, but not by one", x.between(3, 75), 0);
        due("none", x.between(3, 14), 0);
        due("one wick tells one span alone", x.between(1, 30), 1);
        due("by no wick", x.between(0, 1), 0);
        x.light(0, 1);
        due("lit", x.between(1, 1), -2);
        x.set(0, 0, 0);
        due("no parts", x.between(1, 1), -2);
        ByTheFlame y = withWicks(0, 0, 40, 0, 0, 70);
        due("40 and 70", y.between(3, 30), 1);
        due("20 and 70, 35 and 40", y.between(3, 50), 1);
        due("20 and 40 by two tellings", y.between(1, 20), 1);
        due("40 is told, not 41", y.between(3, 41), 0);
    }

    private static void worth() {
        promise = 14;
        ByTheFlame x = withWicks(0, 0, 60, 0, 0, 60);
        due("what", x.worth(1, 2), -2);
        due("what", x.worth(1, -1), -2);
        due("some", x.worth(4, 0), -2);
        due("some", x.worth(-4, 0), -2);
        due("none", x.worth(0, 0), -1);
        due("none", x.worth(0, 1), -1);
        due("span", x.worth(3, 0), 120);
        due("worth", x.worth(3, 1), 120);
        ruled(x, "costs 1;worth 5;drift 1;");
        due("of like ones the least", x.worth(3, 0), 30);
        ruled(x, "costs 1;worth 0-1;drift 1;");
        due("worth nothing, yet told", x.worth(3, 0), 30);
        due("the bound", x.worth(3, 1), 0);
        ruled(x, "costs 1;worth span*40;drift 1;");
        due("the bound", x.worth(3, 1), 999);
        due("of those at the bound the least", x.worth(3, 0), 30);
        x.light(0, 1);
        due("lit", x.worth(3, 0), -2);
        x.set(0, 0, 0);
        due("no parts", x.worth(3, 0), -2);
    }

    private static void sure() {
        promise = 15;
        ByTheFlame x = withWicks(0, 0, 60, 2, 4, 20, 5, 0, 33, 4, 9, 62);
        due("some", x.sure(16), ByTheFlame.NO);
        due("some", x.sure(-1), ByTheFlame.NO);
        due("none", x.sure(0), 0);
        due("60 and 30", x.sure(1), 1L << 60 | 1L << 30);
        due("20 alone: 10 not by damp above 4", x.sure(2), 1L << 20);
        due("none", x.sure(4), 0);
        due("up to 60", x.sure(8), 1L << 31);
        due("from 1 on", withWicks(0, 0, 1).sure(1), 2);
        due("damp 9, too: two ends are faster up to 8", withWicks(2, 8, 20).sure(1), 1L << 20);
        x.set(4, 0, 9);
        due("whatever the damp is now", x.sure(2), 1L << 20);
        due("spans by the damp that is now", x.spans(2, 0), 1 << 20);
        x.light(0, 1);
        due("lit", x.sure(1), ByTheFlame.NO);
        x.set(0, 0, 0);
        due("no parts", x.sure(1), ByTheFlame.NO);
    }

    private static void cheat() {
        promise = 16;
        ByTheFlame x = withWicks(0, 0, 9, 5, 0, 9, 5, 0, 1, 2, 0, 9);
        due("none such", x.cheat(4), -2);
        due("none such", x.cheat(-1), -2);
        due("wick", x.cheat(0), -1);
        due("twisted", x.cheat(1), 2);
        due("twisted, but one part", x.cheat(2), -1);
        due("green", x.cheat(3), -1);
        x.set(4, 0, 9);
        x.light(1, 2);
        due("as if at one end, whatever the damp now", x.cheat(1), 2);
        x.set(0, 1, 0);
        due("no parts", x.cheat(1), -2);
    }

    private static void which() {
        promise = 17;
        ByTheFlame x = withWicks(0, 0, 9, 1, 0, 18, 2, 2, 7, 3, 1, 20);
        due("below", x.which(-1), -2);
        due("above", x.which(10000), -2);
        due("edge", x.which(9999), 0);
        due("all of them", x.which(9), 15);
        x.set(2, 0, 3);
        due("burnt, too", x.which(12), 1);
        due("others", x.which(9), 14);
        x.light(1, 1);
        x.burn(2);
        due("burnt or not", x.which(9), 14);
        x.set(2, 0, 999);
        due("999 at most", x.which(999), 1);
        due("ash 0", x.which(0), 0);
    }

    private static void copies() {
        promise = 18;
        ByTheFlame x = withWicks(0, 0, 9);
        int[][] bad = {{1, 1, 1}, {-1, 1, 1}, {0, 0, 1}, {0, 13, 1}, {0, 1, 0}, {0, 1, 5}};
        for (int[] b : bad) {
            due("bad", x.copies(b[0], b[1], b[2]), -2);
        }
        due("chain", x.copies(0, 12, 1), 12);
        due("by two", x.copies(0, 7, 2), 3);
        due("by four", x.copies(0, 4, 4), 1);
        ruled(x, "costs 1;worth 1;drift (wick=2)*50+span*parts+lit+burnt+damp;");
        due("copy 2 is off most", x.copies(0, 3, 3), 59);
        due("copy 3 is made by it", x.copies(0, 3, 1), 9 + 68 + 27);
        x.set(4, 0, 4);
        due("damp", x.copies(0, 1, 1), 13);
        x.set(0, 0, 0);
        due("no parts", x.copies(0, 1, 1), 4);
        ruled(x, "costs 1;worth 1;drift 500;");
        due("the bound", x.copies(0, 12, 1), 12 * 99);
        ruled(x, "costs 1;worth 1;drift 0-5;");
        due("the bound", x.copies(0, 12, 1), 0);
    }

    private static void best() {
        promise = 19;
        ByTheFlame x = withWicks(0, 0, 9);
        int[][] bad = {{1, 1, 0}, {-1, 1, 0}, {0, 0, 0}, {0, 13, 0}, {0, 1, -1}, {0, 1, 2}};
        for (int[] b : bad) {
            due("bad", x.best(b[0], b[1], b[2]), -2);
        }
        due("one copy: the first", x.best(0, 1, 0), 1);
        due("one copy", x.best(0, 1, 1), 1);
        due("four", x.best(0, 4, 0), 4);
        due("four", x.best(0, 4, 1), 1);
        due("three", x.best(0, 12, 0), 3);
        due("three", x.best(0, 12, 1), 2);
        ruled(x, "costs 1;worth 1;drift (wick<span+1)*9;");
        due("two", x.best(0, 2, 0), 1 + 1);
        due("two", x.best(0, 2, 1), 9);
    }

    private static void judge() {
        promise = 20;
        ByTheFlame x = withWicks(0, 0, 10, 1, 0, 9);
        due("none such", x.judge(-1), -2);
        due("none such", x.judge(4), -2);
        due("missing", x.judge(0), -11);
        lay(x, 0, 2, 1, 0);
        due("not by threes", x.judge(0), -2);
        lay(x, 0, 2);
        due("no rows", x.judge(0), -1);
        int[][] good = {{0, 0, 1, 0, 0, 1, 0, 1, 2}, {250, 0, 2, 250, 1, 1}, {3, 0, 1, 12, 0, 1}, {4, 0, 1, 4, 1, 1, 8, 1, 1}};
        for (int[] g : good) {
            lay(x, 0, 2, g);
            due("good", x.judge(0), -1);
        }
        // the number ahead of each is the row that is due
        int[][] bad = {{0, -1, 0, 1}, {0, 251, 0, 1}, {0, 0, 2, 1}, {0, 0, -1, 1}, {0, 0, 0, 0}, {0, 0, 0, 3},
            {1, 5, 0, 1, 4, 1, 1}, {1, 0, 0, 1, 0, 0, 2}, {2, 0, 0, 1, 5, 0, 1, 8, 0, 1}, {1, 2, 0, 1, 12, 0, 1},
            {1, 0, 1, 2, 3, 1, 1}, {2, 0, 1, 1, 1, 1, 1, 2, 1, 1}};
        for (int[] b : bad) {
            lay(x, 0, 2, java.util.Arrays.copyOfRange(b, 1, b.length));
            due("judge " + java.util.Arrays.toString(b), x.judge(0), b[0]);
        }
        due("only in thought", x.count(1), 0);
        due("only in thought", x.count(7), 19);
        x.light(0, 1);
        lay(x, 0, 1, 9, 0, 1);
        due("lit already, one part left", x.judge(0), -1);
        lay(x, 0, 1, 10, 0, 1);
        due("out by then", x.judge(0), 0);
        lay(x, 0, 0, 1, 0, 2);
        due("one end alone isn't lit", x.judge(0), 0);
        lay(x, 1, 0, 127, 1, 1, 128, 1, 1);
        due("128 is below 0 as a byte", x.judge(1), 1);
    }

    private static int drawnEnds(int seed, int wick) {
        int z = seed;
        for (int w = 0; w <= wick; w++) {
            z = z * 1103515245 + 12345;
        }
        return (z >>> 11) % 3;
    }

    private static void drawn() {
        promise = 21;
        due("no wicks", new ByTheFlame().drawn(5), 0);
        int[] lasts = {0, 9, 5};
        for (int seed = -40; seed < 40; seed++) {
            ByTheFlame x = withWicks(0, 0, 9, 0, 0, 7, 0, 0, 9);
            x.set(0, 0, 0);
            x.set(0, 1, 0);
            due("only the last has parts", x.drawn(seed * 99991), lasts[drawnEnds(seed * 99991, 2)]);
            x.set(0, 1, 30);
            x.light(1, 1);
            due("the lit one is last", x.drawn(seed * 99991), 30);
            due("only in thought", x.told(2, 1), 0);
        }
    }

    private static void chance() {
        promise = 22;
        ByTheFlame x = withWicks(0, 0, 9);
        int[][] bad = {{0, 0, 0}, {21, 0, 0}, {1, -1, 0}, {1, 251, 0}, {1, 0, -1}, {1, 0, 2}};
        for (int[] b : bad) {
            due("bad", x.chance(0, b[0], b[1], b[2]), ByTheFlame.NO);
        }
        int[] seeds = {0, 1, -7, 2147483640, 123456789};
        int[] span = {0, 9, 5};
        for (int seed : seeds) {
            x = withWicks(0, 0, 9);
            for (int n = 1; n <= 20; n++) {
                for (int ends = 0; ends <= 2; ends++) {
                    int hits = 0;
                    for (int i = 0; i < n; i++) {
                        hits += drawnEnds(seed + i, 0) == ends ? 1 : 0;
                    }
                    int common = java.math.BigInteger.valueOf(hits).gcd(java.math.BigInteger.valueOf(n)).intValue();
                    due("above", x.chance(seed, n, span[ends], 0), hits / common);
                    due("below", x.chance(seed, n, span[ends], 1), n / common);
                }
            }
        }
        due("never", x.chance(0, 20, 250, 0), 0);
        due("never", x.chance(0, 20, 250, 1), 1);
    }

    private static void imageAndBack() {
        promise = 24;
        ByTheFlame x = withWicks(0, 3, 9, 5, 4, 30);
        due("none", x.back(), -3);
        x.light(0, 1);
        x.set(2, 1, 17);
        x.set(4, 0, 2);
        x.set(5, 0, 50);
        promise = 23;
        due("image", x.image(), 2);
        ruled(x, "costs 9;worth 9;drift 9;");
        x.wick(2, 2, 2);
        x.burn(4);
        x.set(0, 1, 1);
        x.set(1, 0, 2);
        x.set(2, 1, 18);
        x.set(3, 0, 9);
        x.set(4, 0, 9);
        x.feed(65);
        x.sheet(0, 0, 3);
        promise = 24;
        due("back", x.back(), 2);
        int[] due = {2, 1, 2, 50, 2, 1, 0, 39};
        for (int what = 0; what < due.length; what++) {
            due("count(" + what + ")", x.count(what), due[what]);
        }
        due("parts", x.told(1, 0), 30);
        due("lit", x.told(0, 1), 1);
        due("burnt", x.told(1, 2), 17);
        due("burnt", x.told(0, 2), 0);
        due("number", x.told(0, 3), 3);
        due("the sheet stays", x.cell(0, 2, 1), 1);
        due("gone", x.told(2, 0), -2);
        due("spans by damp 2", x.tell(2, 30, 0), 1);
        x.burn(9);
        due("back again", x.back(), 2);
        due("parts", x.told(0, 0), 9);
        x.wick(1, 1, 1);
        promise = 23;
        due("a new image", x.image(), 3);
        x.set(0, 2, 5);
        promise = 24;
        due("back to that", x.back(), 3);
        due("parts", x.told(2, 0), 1);
        ByTheFlame none = new ByTheFlame();
        promise = 23;
        due("no wicks", none.image(), 0);
        none.wick(0, 0, 1);
        promise = 24;
        due("no wicks", none.back(), 0);
        due("no wicks", none.count(0), 0);
        due("another kind may come", none.wick(5, 1, 1), 0);
        due("its kind", none.told(0, 4), 5);
        due("not lit", none.told(0, 1), 0);
    }

    private static void count() {
        promise = 25;
        ByTheFlame x = withWicks(0, 0, 9, 0, 0, 8, 0, 0, 7);
        due("what", x.count(-1), -2);
        due("what", x.count(8), -2);
        x.light(0, 2);
        x.light(2, 1);
        x.set(4, 0, 6);
        x.set(5, 0, 123);
        ruled(x, "costs 9;worth 9;drift 9;");
        x.feed(1);
        x.feed(1);
        int[] due = {3, 2, 6, 123, 2, 2, 1, 24};
        for (int what = 0; what < due.length; what++) {
            due("count(" + what + ")", x.count(what), due[what]);
        }
    }

    private static void sheet() {
        promise = 26;
        ByTheFlame x = new ByTheFlame();
        int[][] bad = {{-1, 0, 1}, {4, 0, 1}, {0, -2, 1}, {0, 3, 1}, {0, 0, 41}, {0, 3, -1}, {4, 0, -1}};
        for (int[] b : bad) {
            due("bad", x.sheet(b[0], b[1], b[2]), -2);
        }
        due("below 0", x.sheet(0, 0, -1), -14);
        due("still missing", x.cell(0, 0, 0), -11);
        due("none", x.sheet(0, 0, 0), 1);
        due("outside", x.cell(0, 0, 0), -12);
        due("most", x.sheet(3, 2, 40), 1);
        due("last", x.cell(3, 39, 1), 1);
        due("refused", x.sheet(3, 2, 41), -2);
        due("nothing changed", x.cell(3, 39, 1), 1);
        due("missing", x.sheet(3, -1, -99), 1);
        due("missing", x.cell(3, 0, 1), -11);
        due("missing, n does not matter", x.sheet(3, -1, 99), 1);
        ByTheFlame y = new ByTheFlame();
        lay(y, 0, 2, 1, 1, 1);
        due("all 0 again", y.sheet(0, 2, 3), 1);
        due("parts 0 is no wick", y.wicks(0, 2, 0, 1), 0);
    }

    private static void cell() {
        promise = 27;
        ByTheFlame x = new ByTheFlame();
        due("none such", x.cell(-1, 0, 0), -2);
        due("none such", x.cell(4, 0, 0), -2);
        due("missing", x.cell(1, 0, 0), -11);
        x.sheet(1, 0, 3);
        due("outside", x.cell(1, -1, 0), -12);
        due("outside", x.cell(1, 3, 0), -12);
        lay(x, 1, 0, 256 + 5, -256 + 9, 65536 + 99);
        due("lowest 8 bits", x.wicks(1, 0, 0, 1), 1);
        lay(x, 1, 1, 65536 + 4, -65536 + 8, 131072 + 98);
        due("lowest 16 bits", x.wicks(1, 1, 0, 1), 1);
        lay(x, 1, 1, 256 + 4, 8, 98);
        due("more than 8 bits", x.wicks(1, 1, 0, 1), 0);
        lay(x, 1, 2, 65536 + 4, 8, 98);
        due("all bits", x.wicks(1, 2, 0, 1), 0);
        due("kind", x.told(0, 4), 5);
        due("number", x.told(0, 3), 9);
        due("parts", x.told(0, 0), 99);
        due("kind", x.told(1, 4), 4);
        due("number", x.told(1, 3), 8);
        due("parts", x.told(1, 0), 98);
    }

    private static void copy() {
        promise = 28;
        ByTheFlame x = new ByTheFlame();
        lay(x, 0, 1, 1, 2, 3, 4, 5, 6);
        lay(x, 1, 1, 0, 0, 0);
        lay(x, 2, 2, 0, 0, 0);
        due("none such", x.copy(-1, 0, 0, 0, 0), -2);
        due("none such", x.copy(0, 0, 4, 0, 0), -2);
        due("missing", x.copy(3, 0, 0, 0, 0), -11);
        due("missing", x.copy(0, 0, 3, 0, 0), -11);
        due("missing ahead of outside", x.copy(0, -1, 3, 0, 0), -11);
        due("unlike", x.copy(0, 0, 2, 0, 1), -13);
        due("unlike ahead of outside", x.copy(0, -1, 2, 0, 1), -13);
        int[][] outside = {{-1, 0, 1}, {0, -1, 1}, {0, 0, -1}, {0, 0, 4}, {4, 0, 3}, {0, 1, 3}, {7, 0, 0}, {0, 4, 0},
            {2147483647, 0, 1}, {1, 0, 2147483647}, {0, 2147483647, 2}, {-2147483648, 0, -2147483648}};
        for (int[] o : outside) {
            due("outside", x.copy(0, o[0], 1, o[1], o[2]), -12);
        }
        due("none", x.copy(0, 6, 1, 3, 0), 0);
        due("two", x.copy(0, 1, 1, 0, 2), 2);
        due("one", x.copy(0, 3, 1, 2, 1), 1);
        due("a wick 2 3 4", x.wicks(1, 1, 0, 1), 1);
        due("kind", x.told(0, 4), 2);
        due("parts", x.told(0, 0), 4);
        due("in itself, as they were", x.copy(0, 0, 0, 1, 5), 5);
        due("1 1 2 3 4 5", x.wicks(0, 1, 0, 2), 2);
        due("1 1 2", x.told(1, 0) * 100 + x.told(1, 3) * 10 + x.told(1, 4), 211);
        due("3 4 5", x.told(2, 0) * 100 + x.told(2, 3) * 10 + x.told(2, 4), 543);
    }

    private static void wicks() {
        promise = 29;
        ByTheFlame x = new ByTheFlame();
        due("none such", x.wicks(4, 0, 0, 0), -2);
        due("none such", x.wicks(-1, 0, 0, 0), -2);
        due("sort", x.wicks(0, -1, 0, 0), -2);
        due("sort", x.wicks(0, 3, 0, 0), -2);
        due("n", x.wicks(0, 0, 0, -1), -2);
        due("n", x.wicks(0, 0, 0, 6), -2);
        due("missing", x.wicks(0, 2, 0, 1), -11);
        lay(x, 0, 1, 0, 1, 9, 6, 1, 9, 1, 2, 8);
        due("another sort", x.wicks(0, 0, 0, 1), -13);
        due("another sort", x.wicks(0, 2, 99, 1), -13);
        due("none", x.wicks(0, 1, 0, 0), 0);
        due("nothing is asked", x.wicks(0, 1, 99, 0), 0);
        due("outside", x.wicks(0, 1, -1, 1), -12);
        due("outside", x.wicks(0, 1, -2147483648, 5), -12);
        due("outside", x.wicks(0, 1, 2147483647, 5), -12);
        due("outside", x.wicks(0, 1, 7, 1), -12);
        due("none came", x.count(0), 0);
        due("two came", x.wicks(0, 1, 0, 3), 2);
        due("kind", x.told(1, 4), 1);
        due("outside, but one came", x.wicks(0, 1, 6, 2), -12);
        due("three", x.count(0), 3);
        due("one has room", x.wicks(0, 1, 0, 3), 1);
        due("full", x.wicks(0, 1, 0, 3), 0);
        due("full and outside", x.wicks(0, 1, 0, 4), -12);
    }

    private static void taken() {
        promise = 30;
        boolean[][] under = {
            {true, false, false, false, false, false}, {true, true, false, false, false, false},
            {true, false, true, false, false, false}, {true, true, false, true, false, false},
            {true, false, true, false, true, false}, {true, true, false, false, false, true}};
        for (int kind = 0; kind < 6; kind++) {
            ByTheFlame x = withWicks(kind, kind + 3, 1);
            for (int k = 0; k < 6; k++) {
                due("kind " + kind + " for " + k, x.taken(0, k), under[kind][k] ? kind + 3 : -13);
            }
            due("k", x.taken(0, 6), -2);
            due("k", x.taken(0, -1), -2);
            due("k ahead of wick", x.taken(9, 6), -2);
            due("wick", x.taken(1, 0), -11);
            due("wick", x.taken(-1, 0), -11);
        }
    }
}
