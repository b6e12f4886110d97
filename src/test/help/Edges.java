import java.lang.reflect.Method;
import java.util.Arrays;
import java.util.Comparator;

/** What the tests of the edges share. A test is a static method without arguments, named after a sentence of the document. */
abstract class Edges {
    static final int BAD = -2, STATE = -3, FULL = -4, NONE = -1, NOTHING = -11, OUTSIDE = -12, UNLIKE = -13, BELOW = -14;
    static final int LEAST_INT = -2147483648, MOST_INT = 2147483647;
    static final int WICK = 0, OILED = 1, GREEN = 2, WAXED = 3, ROPE = 4, TWISTED = 5;
    static final int PARTS = 0, LIT = 1, BURNT = 2, NUMBER = 3, DAMP = 4, MOMENT = 5;
    /** Behind THE RULE's own text: what each part of a text is when a test doesn't ask for it. */
    static final String REST = ";worth span;drift 1;";

    private static int wrong = 0;
    private static String test = "";

    interface Call {
        long on(ByTheFlame x);
    }

    interface Made {
        ByTheFlame anew();
    }

    /** Runs every test of a class; ends with exit code 1 if an answer was not the one that is due. */
    static void runAll(Class<?> tests) throws Exception {
        Method[] all = tests.getDeclaredMethods();
        Arrays.sort(all, Comparator.comparing(Method::getName));
        int ran = 0;
        for (Method m : all) {
            if (m.getParameterCount() == 0 && m.getReturnType() == void.class) {
                test = m.getName();
                m.setAccessible(true);
                m.invoke(null);
                ran++;
            }
        }
        System.out.println(tests.getName() + ": " + ran + " tests, " + wrong + " wrong answers");
        if (wrong != 0 || ran == 0) {
            System.exit(1);
        }
    }

    static void due(String call, long got, long want) {
        if (got != want) {
            wrong++;
            System.out.println(test + ": " + call + " answered " + got + ", due is " + want);
        }
    }

    static void same(String what, String got, String want) {
        if (!got.equals(want)) {
            wrong++;
            System.out.println(test + ": " + what + "\n  is     " + got + "\n  due is " + want);
        }
    }

    /** The call answers so, and what all calls answer then is what they answer without it. */
    static void changesNothing(String call, Made made, long answer, Call asked) {
        ByTheFlame x = made.anew();
        due(call, asked.on(x), answer);
        same("the state behind " + call, state(x), state(made.anew()));
    }

    /** The call answers the refusal and changes nothing. */
    static void refused(String call, Made made, long refusal, Call asked) {
        changesNothing(call, made, refusal, asked);
    }

    /** All that can be seen of an object, by some 200 calls, the later of which change it. */
    static String state(ByTheFlame x) {
        StringBuilder s = new StringBuilder();
        tellWicks(x, s);
        tellSheets(x, s);
        tellTexts(x, s);
        note(s, "back", x.back());
        tellWicks(x, s);
        if (x.count(0) == 0) {
            x.image();
            tellCells(x, s);
        }
        return s.toString();
    }

    private static void note(StringBuilder s, String what, long... answers) {
        s.append(what).append(Arrays.toString(answers).replace(" ", "")).append(' ');
    }

    private static void tellWicks(ByTheFlame x, StringBuilder s) {
        for (int what = 0; what <= 7; what++) {
            note(s, "count" + what, x.count(what));
        }
        for (int w = 0; w < 4; w++) {
            for (int what = 0; what <= 6; what++) {
                note(s, "told" + w + "," + what, x.told(w, what));
            }
            note(s, "spans" + w, x.spans(1 << w, 0));
        }
    }

    private static void tellSheets(ByTheFlame x, StringBuilder s) {
        for (int sheet = 0; sheet < 4; sheet++) {
            for (int sort = 0; sort <= 2; sort++) {
                note(s, "sort" + sheet + "," + sort, x.wicks(sheet, sort, 0, 0));
            }
            int[] places = {0, 1, 2, 3, 4, 5, 6, 7, 39, 40};
            for (int i : places) {
                note(s, "size" + sheet + "," + i, x.copy(sheet, i, sheet, i, 0));
            }
            note(s, "judge" + sheet, x.judge(sheet));
        }
    }

    private static void tellTexts(ByTheFlame x, StringBuilder s) {
        note(s, "text", x.text(), x.count(4), x.count(5));
        for (int t = 0; t < 6; t++) {
            note(s, "force" + t, x.force(t), x.copies(0, 2, 1), x.worth(1, 1));
        }
    }

    /** There are no wicks: up to four can be made of what stands in each sheet. */
    private static void tellCells(ByTheFlame x, StringBuilder s) {
        for (int sheet = 0; sheet < 4; sheet++) {
            for (int sort = 0; sort <= 2; sort++) {
                note(s, "wicks" + sheet, x.wicks(sheet, sort, 0, 2));
            }
            for (int w = 0; w < 2; w++) {
                note(s, "came" + w, x.told(w, PARTS), x.told(w, NUMBER), x.told(w, 4));
            }
            x.back();
        }
    }

    static ByTheFlame withWicks(int... kindsNumbersParts) {
        ByTheFlame x = new ByTheFlame();
        for (int i = 0; i + 2 < kindsNumbersParts.length; i += 3) {
            x.wick(kindsNumbersParts[i], kindsNumbersParts[i + 1], kindsNumbersParts[i + 2]);
        }
        return x;
    }

    static int read(ByTheFlame x, String text) {
        for (int i = 0; i < text.length(); i++) {
            x.feed(text.charAt(i));
        }
        return x.text();
    }

    /** The text, which has no fault, becomes THE RULE. */
    static ByTheFlame ruled(ByTheFlame x, String text) {
        int number = x.count(4);
        due("the text " + text, read(x, text), number);
        x.force(number);
        return x;
    }

    static ByTheFlame lay(ByTheFlame x, int sheet, int sort, int... items) {
        x.sheet(sheet, sort, items.length);
        for (int i = 0; i < items.length; i++) {
            x.cell(sheet, i, items[i]);
        }
        return x;
    }

    /** Spans, as bits for spans() and sure(). */
    static long bits(int... spans) {
        long all = 0;
        for (int span : spans) {
            all |= 1L << span;
        }
        return all;
    }
}
