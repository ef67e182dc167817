/** Each promise by itself: ordinary inputs, the edges that the document names, wrong inputs. */
public final class PromiseTest {
    private static final int NONE = -1, UNKNOWN = -1000000001, OUTSIDE = -1000000002, NOT = -1000000003, FULL = -1000000004;
    private static final int MIN = Integer.MIN_VALUE, MAX = Integer.MAX_VALUE;
    /** Two who let, one who drags by 2, one who pushes by 1; TEETH 5, LIMIT 2, RESIN 0. */
    private static final String PLAIN = "l2,4;p10 7 3 5 0;p8 3 2 5 0;p12 5 0 2 1;p6 0 1 6 2;";

    private static int wrong = 0;
    private static int promise = 0;

    private static void due(String call, int got, int want) {
        if (got != want) {
            wrong++;
            System.out.println("promise " + promise + ": " + call + " answered " + got + ", due is " + want);
        }
    }

    public static void main(String[] args) {
        Runnable[] promises = {
            PromiseTest::newObject, PromiseTest::feed, PromiseTest::yard, PromiseTest::fault, PromiseTest::told,
            PromiseTest::wood, PromiseTest::person, PromiseTest::log, PromiseTest::stroke, PromiseTest::rest,
            PromiseTest::sides, PromiseTest::oil, PromiseTest::wedge, PromiseTest::file, PromiseTest::wish,
            PromiseTest::habit, PromiseTest::drift, PromiseTest::undo, PromiseTest::toGo, PromiseTest::fresh,
            PromiseTest::wishes, PromiseTest::quarrel, PromiseTest::withWhom, PromiseTest::changes, PromiseTest::whenWedge,
            PromiseTest::whenRest, PromiseTest::worthFile, PromiseTest::see, PromiseTest::habits, PromiseTest::end,
            PromiseTest::write, PromiseTest::judge, PromiseTest::tear, PromiseTest::seed, PromiseTest::keep, PromiseTest::goBack,
        };
        for (Runnable each : promises) {
            promise++;
            each.run();
        }
        if (wrong > 0) {
            System.exit(1);
        }
    }

    // ---- helpers

    private static int read(Saw x, String text) {
        for (int i = 0; i < text.length(); i++) {
            x.feed(text.charAt(i));
        }
        return x.yard();
    }

    private static Saw saw(String text) {
        Saw x = new Saw();
        int layers = read(x, text);
        if (layers < 0) {
            due("yard() of " + text, layers, 0);
        }
        return x;
    }

    private static Saw pair(String text, int a, int b) {
        Saw x = saw(text);
        due("log", x.log(a, b), a);
        return x;
    }

    /** All that can be told of an object without changing it. */
    private static String allOf(Saw x) {
        StringBuilder s = new StringBuilder();
        for (int i = 0; i <= 18; i++) {
            s.append(x.told(i)).append(' ');
        }
        for (int p = 0; p < 4; p++) {
            for (int i = 0; i < 8; i++) {
                s.append(x.person(p, i)).append(' ');
            }
        }
        return s.toString();
    }

    private static void same(String call, String got, String want) {
        if (!got.equals(want)) {
            wrong++;
            System.out.println("promise " + promise + ": " + call + " left " + got + ", due is " + want);
        }
    }

    private static void strokesDue(String what, Saw x, int... cuts) {
        for (int i = 0; i < cuts.length; i++) {
            due(what + ": stroke " + i, x.stroke(1), cuts[i]);
        }
    }

    // ---- the yard

    private static void newObject() {
        Saw x = new Saw();
        int[] want = {0, 0, 0, NONE, NONE, NONE, 0, 0, 0, 0, 0, 5, 2, 0, 12, 0, 0, 0, 0};
        for (int i = 0; i < want.length; i++) {
            due("told(" + i + ")", x.told(i), want[i]);
        }
        due("wood(0)", x.wood(0), UNKNOWN);
        due("person(0, 0)", x.person(0, 0), UNKNOWN);
        due("fault()", x.fault(), NONE);
        due("log(0, 1)", x.log(0, 1), UNKNOWN);
        due("toGo()", x.toGo(), NOT);
        due("stroke(1)", x.stroke(1), NOT);
        due("withWhom(0)", x.withWhom(0), NOT);
        due("end(-1)", x.end(-1), NOT);
        due("goBack(0)", x.goBack(0), NOT);
        due("undo(1)", x.undo(1), NOT);
        due("seed(7)", x.seed(7), 0);
        due("tear()", x.tear(), 0);
        due("NONE", PullSaw.NONE, NONE);
        due("UNKNOWN", PullSaw.UNKNOWN, UNKNOWN);
        due("OUTSIDE", PullSaw.OUTSIDE, OUTSIDE);
        due("NOT", PullSaw.NOT, NOT);
        due("FULL", PullSaw.FULL, FULL);
    }

    private static void feed() {
        Saw x = new Saw();
        due("feed(-1)", x.feed(-1), OUTSIDE);
        due("feed(256)", x.feed(256), OUTSIDE);
        due("feed(MIN)", x.feed(MIN), OUTSIDE);
        due("feed(MAX)", x.feed(MAX), OUTSIDE);
        due("told(2)", x.told(2), 0);
        due("feed(0)", x.feed(0), 1);
        due("feed(255)", x.feed(255), 2);
        for (int i = 3; i <= 250; i++) {
            due("feed(32) " + i, x.feed(32), i);
        }
        due("feed(32) full", x.feed(32), FULL);
        due("feed(256) full", x.feed(256), OUTSIDE);
        due("told(2)", x.told(2), 250);
        due("yard()", x.yard(), -11);
        due("feed(32)", x.feed(32), 1);
    }

    private static void yardDue(String text, int layers) {
        due("yard() of '" + text + "'", read(new Saw(), text), layers);
    }

    private static void yard() {
        yardDue("", 0);
        yardDue("   ", 0);
        yardDue("l1;", 1);
        yardDue("l1,2,3,4,5,6,7,8,9,1,2,3;", 12);
        yardDue("  l 1 , 002 ; p 20 9 5 9 2 ; s 9 9 9 ; c 12 ; ", 2);
        yardDue("l1;c0;s1 0 0;p1 0 0 0 0;p1 0 0 0 0;p1 0 0 0 0;p001 000 0 0 0;", 1);

        Saw x = pair(PLAIN + "s3 1 4;c1;", 0, 1);
        x.stroke(2);
        x.wedge();
        x.file();
        x.see(1);
        x.write(2);
        x.keep(0);
        x.keep(1);
        x.stroke(1);
        x.seed(77);
        String was = allOf(x);
        due("a fault", read(x, "l9,9,9;p1 1 1 1 1;x"), -11);
        same("a fault", allOf(x), was);
        due("IMAGE behind a fault", x.goBack(0), 1);
        x.seed(77);
        x.stroke(1);
        due("a yard", read(x, "l9,8,7;p5 1 1 1 1;s2 3 4;c2;"), 3);
        int[] want = {3, 1, 0, NONE, NONE, NONE, 0, 0, 0, 0, 0, 2, 3, 4, 2, 0, 0, 0, 0};
        for (int i = 0; i < want.length; i++) {
            due("told(" + i + ")", x.told(i), want[i]);
        }
        due("goBack(0)", x.goBack(0), NOT);
        due("goBack(1)", x.goBack(1), NOT);
        due("undo(1)", x.undo(1), NOT);
        due("wood(2)", x.wood(2), 7);
        due("person(0, 0)", x.person(0, 0), 5);
        due("person(0, 5)", x.person(0, 5), 5);
        due("person(0, 6)", x.person(0, 6), 0);
        due("person(1, 0)", x.person(1, 0), UNKNOWN);
        due("THE SEED stays", x.seed(0), 77);
        due("an empty text", x.yard(), 0);
        due("told(11)", x.told(11), 5);
        due("told(12)", x.told(12), 2);
        due("told(13)", x.told(13), 0);
        due("told(14)", x.told(14), 12);
        due("told(1)", x.told(1), 0);
    }

    private static void faultDue(String text, int kind, int place) {
        Saw x = new Saw();
        due("yard() of '" + text + "'", read(x, text), -10 - kind);
        due("fault() of '" + text + "'", x.fault(), place);
        due("told(2) of '" + text + "'", x.told(2), 0);
        due("told(0) of '" + text + "'", x.told(0), 0);
        due("yard() behind '" + text + "'", x.yard(), 0);
        due("fault() behind '" + text + "'", x.fault(), NONE);
    }

    private static void fault() {
        faultDue("x", 1, 0);
        faultDue("  L1;", 1, 2);
        faultDue("1", 1, 0);
        faultDue("12345", 1, 0);
        faultDue("s5 2 0;", 1, 0);
        faultDue("c1;", 1, 0);
        faultDue("l", 1, 1);
        faultDue("l  ", 1, 3);
        faultDue("l1", 1, 2);
        faultDue("l1 ", 1, 3);
        faultDue("l1,", 1, 3);
        faultDue("l,1;", 1, 1);
        faultDue("ll1;", 1, 1);
        faultDue("l1 1;", 1, 3);
        faultDue("l1 9999;", 1, 3);
        faultDue("l1,1,1,1,1,1,1,1,1,1,1,1,1;", 1, 24);
        faultDue("l1;;", 1, 3);
        faultDue("l1;\t", 1, 3);
        faultDue("l1;p1 0 0 0;", 1, 11);
        faultDue("l1;p1 0 0 0 0 0;", 1, 14);
        faultDue("l1;p1,0 0 0 0;", 1, 5);
        faultDue("l1;p1 0 0 0 0", 1, 13);
        faultDue("l1;s1 0 0 c1;", 1, 10);
        faultDue("l1;c;", 1, 4);
        faultDue("l1;\u00ff", 1, 3);
        faultDue("l1;\0", 1, 3);
        faultDue("l-1;", 1, 1);
        faultDue("l0;", 2, 1);
        faultDue("l10;", 2, 1);
        faultDue("l 0001;", 2, 2);
        faultDue("l1,0", 2, 3);
        faultDue("l99999999999999999999;", 2, 1);
        faultDue("l1;p0 0 0 0 0;", 2, 4);
        faultDue("l1;p21 0 0 0 0;", 2, 4);
        faultDue("l1;p1 10 0 0 0;", 2, 6);
        faultDue("l1;p1 0 6 0 0;", 2, 8);
        faultDue("l1;p1 0 0 10 0;", 2, 10);
        faultDue("l1;p1 0 0 0 3;", 2, 12);
        faultDue("l1;s0 0 0;", 2, 4);
        faultDue("l1;s10 0 0;", 2, 4);
        faultDue("l1;s1 10 0;", 2, 6);
        faultDue("l1;s1 0 10;", 2, 8);
        faultDue("l1;c13;", 2, 4);
        faultDue("l1;l", 3, 3);
        faultDue("l1; l0;", 3, 4);
        faultDue("l1;s1 0 0;s", 3, 10);
        faultDue("l1;c1;c", 3, 6);
        faultDue("l1;p1 0 0 0 0;p1 0 0 0 0;p1 0 0 0 0;p1 0 0 0 0;p", 3, 47);
        Saw x = new Saw();
        read(x, "l1;x");
        due("fault()", x.fault(), 3);
        x.feed('l');
        due("fault() ahead of the next yard()", x.fault(), 3);
    }

    private static void told() {
        Saw x = saw(PLAIN + "s3 1 4;c1;");
        int[] bare = {2, 4, 0, NONE, NONE, NONE, 0, 0, 0, 0, 0, 3, 1, 4, 1, 0, 0, 0, 0};
        for (int i = 0; i < bare.length; i++) {
            due("told(" + i + ")", x.told(i), bare[i]);
        }
        x.feed('l');
        x.log(1, 0);
        due("stroke", x.stroke(1), 12);
        x.wedge();
        x.see(1);
        x.see(1);
        x.write(1);
        int[] want = {2, 4, 1, 1, 0, 0, 12, 4, -4, 4, 1, 3, 1, 4, 1, 0, 2, 1, 2};
        for (int i = 0; i < want.length; i++) {
            due("told(" + i + ")", x.told(i), want[i]);
        }
        x = pair(PLAIN, 0, 1);
        x.stroke(99);
        due("told(15)", x.told(15), 1);
        due("told(6)", x.told(6), 200);
        due("told(-1)", x.told(-1), OUTSIDE);
        due("told(19)", x.told(19), OUTSIDE);
        due("told(MIN)", x.told(MIN), OUTSIDE);
        due("told(MAX)", x.told(MAX), OUTSIDE);
    }

    private static void wood() {
        Saw x = saw("l9,1,5;");
        due("wood(0)", x.wood(0), 9);
        due("wood(1)", x.wood(1), 1);
        due("wood(2)", x.wood(2), 5);
        due("wood(3)", x.wood(3), UNKNOWN);
        due("wood(-1)", x.wood(-1), UNKNOWN);
        due("wood(MIN)", x.wood(MIN), UNKNOWN);
        due("wood(MAX)", x.wood(MAX), UNKNOWN);
        read(x, "l4;");
        due("wood(1) behind a shorter log", x.wood(1), UNKNOWN);
    }

    private static void person() {
        Saw x = saw("l1,1;p12 6 3 2 1;p9 8 5 7 2;");
        int[][] want = {{12, 6, 3, 2, 1, 12, 0, 0}, {9, 8, 5, 7, 2, 9, 0, 0}};
        for (int p = 0; p < 2; p++) {
            for (int what = 0; what < 8; what++) {
                due("person(" + p + ", " + what + ")", x.person(p, what), want[p][what]);
            }
        }
        due("person(0, 8)", x.person(0, 8), OUTSIDE);
        due("person(0, -1)", x.person(0, -1), OUTSIDE);
        due("person(2, 8)", x.person(2, 8), UNKNOWN);
        due("person(-1, 0)", x.person(-1, 0), UNKNOWN);
        due("person(MIN, 0)", x.person(MIN, 0), UNKNOWN);
        due("person(MAX, MAX)", x.person(MAX, MAX), UNKNOWN);
        x.wish(0, 4);
        x.habit(0, 3);
        due("person(0, 0)", x.person(0, 0), 12);
        due("person(0, 5)", x.person(0, 5), 4);
        due("person(0, 3)", x.person(0, 3), 3);
        x.log(1, 0);
        x.stroke(1);
        due("person(1, 6)", x.person(1, 6), 5);
        due("person(1, 7)", x.person(1, 7), -1);
    }

    // ---- deeds

    private static void log() {
        Saw x = saw(PLAIN);
        due("log(0, 0)", x.log(0, 0), UNKNOWN);
        due("log(0, 4)", x.log(0, 4), UNKNOWN);
        due("log(-1, 0)", x.log(-1, 0), UNKNOWN);
        due("log(MIN, MAX)", x.log(MIN, MAX), UNKNOWN);
        due("told(3)", x.told(3), NONE);
        x.wish(0, 7);
        x.habit(1, 3);
        due("log(2, 1)", x.log(2, 1), 2);
        due("told(18)", x.told(18), 0);
        x.stroke(3);
        x.wedge();
        x.file();
        due("log(0, 1)", x.log(0, 1), 0);
        int[] want = {2, 4, 0, 0, 1, 0, 0, 0, 0, 0, 0, 6, 2, 0, 12, 0, 0, 0, 0};
        for (int i = 0; i < want.length; i++) {
            due("told(" + i + ")", x.told(i), want[i]);
        }
        due("who sawed is fresh", x.person(2, 6), 0);
        due("who sawed is calm", x.person(2, 7), 0);
        due("WISHES stay", x.person(0, 5), 7);
        due("HABITS stay", x.person(1, 3), 3);
        due("undo(1)", x.undo(1), NOT);
    }

    private static void stroke() {
        Saw x = saw(PLAIN);
        due("no PAIR", x.stroke(1), NOT);
        due("OUTSIDE ahead of NOT", x.stroke(0), OUTSIDE);
        x.log(0, 1);
        due("stroke(0)", x.stroke(0), OUTSIDE);
        due("stroke(100)", x.stroke(100), OUTSIDE);
        due("stroke(MIN)", x.stroke(MIN), OUTSIDE);
        strokesDue("by turns", x, 25, 20, 25, 20, 25, 10, 12);
        due("told(6)", x.told(6), 137);
        due("person(0, 6)", x.person(0, 6), 9);
        due("person(1, 6)", x.person(1, 6), 3);
        due("told(8)", x.told(8), 28);
        due("told(5)", x.told(5), 1);
        // 10, 11 (one less tired by the wood's share), 10, 11, 10, 11 and the last one whole
        due("to THROUGH, all told whole", x.stroke(99), 10 + 12 + 10 + 11 + 10 + 11);
        due("told(6)", x.told(6), 200);
        due("THROUGH", x.stroke(1), NOT);
        due("OUTSIDE ahead of NOT", x.stroke(100), OUTSIDE);
        strokeRules();
        strokeAnswers();
        strokeTires();
    }

    private static void strokeRules() {
        strokesDue("drags by 2", pair("l2;p10 0 0 5 0;p10 0 0 2 0;", 0, 1), 20, 25);
        strokesDue("drags by 4, more than there is", pair("l1;p3 0 0 5 0;p3 0 0 4 0;", 0, 1), 0, 15);
        strokesDue("pushes by LIMIT: half more, cut", pair("l1;p5 0 0 5 0;p1 0 0 7 0;s5 2 0;", 0, 1), 35, 5);
        strokesDue("pushes by more: BUCKLES", pair("l1;p5 0 0 5 0;p1 0 0 8 0;s5 2 0;", 0, 1), 0, 5);
        strokesDue("LIMIT 0", pair("l1;p5 0 0 5 0;p1 0 0 6 0;s5 0 0;", 0, 1), 0, 5);
        strokesDue("WOOD cuts the product", pair("l9;p7 0 0 5 0;p8 0 0 5 0;", 0, 1), 3, 4);
        strokesDue("CLOSES from 0", pair("l1;p5 0 0 5 0;p4 0 0 5 0;c0;", 0, 1), 10, 10);
        strokesDue("CLOSES from 1", pair("l1,1;p9 0 0 5 0;p7 0 0 5 0;c1;s9 0 0;", 0, 1), 81, 63, 36);
        Saw x = pair("l1;p5 0 0 5 0;p4 0 0 5 0;c0;", 0, 1);
        x.wedge();
        strokesDue("with a WEDGE", x, 25, 20);
        x = pair("l5,5;p5 9 0 5 0;p9 4 0 5 0;s1 2 6;", 0, 1);
        strokesDue("GUM", x, 1, 1, 0, 1, 0, 1, 0, 1);
        due("told(9)", x.told(9), 48);
        due("ASKEW by CUTS above 0 alone", x.told(8), 25);
        x = pair("l9;p5 0 0 5 0;p5 0 0 5 0;s9 0 5;", 0, 1);
        strokesDue("a tenth of 5, 10, 15, 20", x, 5, 5, 4, 4, 3);
        x = pair("l1;p4 0 0 5 0;p9 0 0 5 0;c0;s2 0 9;", 0, 1);
        strokesDue("GUM ahead of the half", x, 4, 8, 2, 6, 0, 4);
        x = pair("l9;p9 0 0 5 0;p20 0 0 5 0;", 0, 1);
        x.wish(0, 4);
        x.wish(1, 20);
        strokesDue("the lesser of FORCE and WISH", x, 2, 11);
        x = pair("l1;p9 0 0 5 0;p20 0 0 5 0;", 0, 1);
        x.wish(0, 20);
        strokesDue("FORCE the lesser", x, 45);
        x = pair("l1,1;p20 0 0 5 0;p20 0 0 7 0;s9 9 0;", 0, 1);
        strokesDue("a CUT through both", x, 270);
        due("told(6)", x.told(6), 200);
        due("told(15)", x.told(15), 1);
        x = pair("l1,9;p20 0 0 5 0;p20 0 0 5 0;s9 0 0;", 0, 1);
        strokesDue("the LAYER where it begins", x, 180, 20);
    }

    private static void strokeAnswers() {
        Saw x = pair("l9,9;p9 0 0 1 1;p9 0 0 1 2;s1 0 0;", 0, 1);
        for (int i = 1; i <= 12; i++) {
            x.stroke(2);
            due("harder " + i, x.person(0, 7), Math.min(9, i));
            due("softer " + i, x.person(1, 7), -Math.min(9, i));
        }
        due("9 and 9, less 1, by 1 / 9", x.stroke(1), 1);
        x.habit(1, 0);
        x.habit(0, 5);
        due("9 less 9, then drags by 0: 9 and 9", x.stroke(2), 0 + 2);
        due("lets: nearer to 0", x.person(1, 7), -8);
        x.stroke(99);
        due("harder at 0", x.person(0, 7), 0);
        due("softer at 0", x.person(1, 7), 0);
        x = pair("l9,9;p9 0 0 1 1;p9 0 0 1 2;s1 0 0;", 0, 1);
        x.stroke(10);
        x.habit(0, 7);
        x.habit(1, 7);
        x.stroke(2);
        due("5, nearer to 0", x.person(0, 7), 4);
        due("-5, nearer to 0", x.person(1, 7), -4);
        x = pair("l9,9;p9 0 0 9 0;p9 0 0 9 1;s1 0 0;", 0, 1);
        x.stroke(4);
        due("BUCKLES is no drag", x.person(1, 7), 0);
        x = pair("l9,9;p9 0 0 1 0;p9 0 0 1 0;s1 0 0;", 0, 1);
        x.stroke(4);
        due("no BENT", x.person(1, 7), 0);
        x = pair("l1;p2 0 0 1 0;p2 0 0 1 2;s1 0 0;", 0, 1);
        strokesDue("less than nothing is nothing", x, 1, 1, 1, 0, 1, 0, 1, 0);
    }

    private static void strokeTires() {
        Saw x = pair("l9,9,9,9,9,9;p20 1 5 5 0;p20 9 1 5 0;s1 0 0;", 0, 1);
        x.stroke(1);
        due("the one who waits stays 0", x.person(1, 6), 0);
        x.stroke(6);
        due("TIRED of the first", x.person(0, 6), 4 * 3 + 5);
        due("TIRED of the other", x.person(1, 6), 0);
        strokesDue("a tenth of 17 - 1", x, 2, 2);
        x = pair("l2;p20 0 5 5 0;p20 0 5 5 0;s1 0 0;", 0, 1);
        strokesDue("TIRED / 10", x, 10, 10, 10, 10, 10, 10, 9, 9);
        x = pair("l9,9,9;p20 0 5 9 0;p20 0 3 9 0;s9 0 0;", 0, 1);
        due("BUCKLES: no CUT", x.stroke(1), 0);
        due("both are 2 more: who pulled", x.person(0, 6), 7);
        due("both are 2 more: the other one", x.person(1, 6), 1);
        due("ASKEW", x.told(8), 0);
        due("STROKES", x.told(7), 1);
        for (int i = 0; i < 7; i++) {
            x.stroke(99);
        }
        due("999 at most", x.person(1, 6), 999);
        due("999 at most", x.person(0, 6), 998);
    }

    private static void rest() {
        Saw x = saw(PLAIN);
        due("no PAIR", x.rest(1), NOT);
        due("OUTSIDE ahead of NOT", x.rest(0), OUTSIDE);
        x.log(0, 1);
        x.stroke(7);
        due("rest(0)", x.rest(0), OUTSIDE);
        due("rest(100)", x.rest(100), OUTSIDE);
        due("rest(MIN)", x.rest(MIN), OUTSIDE);
        due("rest(2)", x.rest(2), 9);
        due("person(0, 6)", x.person(0, 6), 3);
        due("person(1, 6)", x.person(1, 6), 0);
        due("who pulls next stays", x.told(5), 1);
        due("DEPTH", x.told(6), 137);
        due("rest(99)", x.rest(99), 108);
        due("person(0, 6)", x.person(0, 6), 0);
        x.stroke(99);
        due("THROUGH", x.rest(1), NOT);
        due("OUTSIDE ahead of NOT", x.rest(-1), OUTSIDE);
    }

    private static void sides() {
        Saw x = saw(PLAIN);
        due("no PAIR", x.sides(), NOT);
        x.log(0, 1);
        due("sides()", x.sides(), 1);
        due("LEFT", x.told(3), 1);
        due("RIGHT", x.told(4), 0);
        due("who pulls next stays", x.told(5), 0);
        x.stroke(1);
        due("ASKEW", x.told(8), -4);
        due("then the other one", x.told(5), 1);
        due("sides()", x.sides(), 0);
        due("who pulls next stays", x.told(5), 1);
        due("STROKES", x.told(7), 1);
        x.stroke(99);
        due("THROUGH", x.sides(), 1);
    }

    private static void oil() {
        Saw x = saw(PLAIN + "s5 2 4;");
        due("no PAIR", x.oil(), NOT);
        x.log(0, 1);
        due("no GUM", x.oil(), 0);
        due("no deed", x.told(18), 0);
        x.stroke(3);
        due("oil()", x.oil(), 12);
        due("GUM", x.told(9), 0);
        due("a deed", x.told(18), 2);
        due("STROKES", x.told(7), 3);
        x.stroke(99);
        due("THROUGH", x.oil() > 0 ? 1 : 0, 1);
    }

    private static void wedge() {
        Saw x = saw(PLAIN + "c0;");
        due("no PAIR", x.wedge(), NOT);
        x.log(0, 1);
        due("half", x.stroke(1), 12);
        due("wedge()", x.wedge(), 4);
        due("whole", x.stroke(1), 20);
        due("there is one", x.wedge(), NOT);
        due("told(10)", x.told(10), 1);
        due("who pulls next", x.told(5), 0);
        x = pair(PLAIN, 0, 1);
        x.stroke(99);
        due("THROUGH", x.wedge(), x.told(7));
        due("told(10)", x.told(10), 1);
    }

    private static void file() {
        Saw x = saw(PLAIN + "s8 2 0;");
        due("no PAIR", x.file(), NOT);
        x.log(0, 1);
        due("TEETH 8", x.stroke(1), 40);
        due("file()", x.file(), 9);
        due("STROKES", x.told(7), 21);
        due("TEETH 9", x.stroke(1), 36);
        due("they are 9", x.file(), NOT);
        due("STROKES", x.told(7), 22);
        x = pair(PLAIN, 0, 1);
        x.stroke(99);
        due("THROUGH", x.file(), 6);
        x.log(0, 1);
        due("TEETH stay", x.told(11), 6);
    }

    private static void wish() {
        Saw x = saw(PLAIN);
        due("wish(4, 1)", x.wish(4, 1), UNKNOWN);
        due("wish(-1, 0)", x.wish(-1, 0), UNKNOWN);
        due("wish(MAX, MAX)", x.wish(MAX, MAX), UNKNOWN);
        due("wish(0, 0)", x.wish(0, 0), OUTSIDE);
        due("wish(0, 21)", x.wish(0, 21), OUTSIDE);
        due("wish(0, MIN)", x.wish(0, MIN), OUTSIDE);
        due("wish(0, 10)", x.wish(0, 10), 10);
        due("no deed", x.told(18), 0);
        due("wish(0, 1)", x.wish(0, 1), 10);
        due("wish(0, 20)", x.wish(0, 20), 1);
        due("deeds", x.told(18), 2);
        due("FORCE", x.person(0, 0), 10);
        due("WISH", x.person(0, 5), 20);
        due("of the other one", x.person(1, 5), 8);
    }

    private static void habit() {
        Saw x = saw(PLAIN);
        due("habit(4, 1)", x.habit(4, 1), UNKNOWN);
        due("habit(-1, 10)", x.habit(-1, 10), UNKNOWN);
        due("habit(0, -1)", x.habit(0, -1), OUTSIDE);
        due("habit(0, 10)", x.habit(0, 10), OUTSIDE);
        due("habit(0, MAX)", x.habit(0, MAX), OUTSIDE);
        due("habit(0, 5)", x.habit(0, 5), 5);
        due("no deed", x.told(18), 0);
        due("habit(0, 9)", x.habit(0, 9), 5);
        due("habit(0, 0)", x.habit(0, 0), 9);
        due("deeds", x.told(18), 2);
        due("HABIT", x.person(0, 3), 0);
        due("of the other one", x.person(1, 3), 5);
    }

    private static void drift() {
        Saw x = saw(PLAIN + "s5 2 3;");
        due("no PAIR", x.drift(1), NOT);
        due("OUTSIDE ahead of NOT", x.drift(0), OUTSIDE);
        x.log(0, 1);
        due("drift(100)", x.drift(100), OUTSIDE);
        due("drift(MIN)", x.drift(MIN), OUTSIDE);
        due("none drawn", x.seed(0), 0);
        Saw y = pair(PLAIN + "s5 2 3;", 0, 1);
        long seed = 0;
        int rests = 0;
        int oils = 0;
        for (int i = 0; i < 25; i++) {
            seed = (seed * 1103515245L + 12345L) % 2147483648L;
            int draw = (int) (seed / 65536 % 8);
            if (y.told(15) == 0) {
                x.drift(1);
                if (draw == 0) {
                    rests++;
                    y.rest(1);
                } else if (draw == 1) {
                    oils++;
                    y.oil();
                } else {
                    y.stroke(1);
                }
                due("THE SEED", x.seed((int) seed), (int) seed);
            }
            for (int what = 3; what <= 10; what++) {
                due("turn " + i + ": told(" + what + ")", x.told(what), y.told(what));
            }
            due("turn " + i + ": TIRED", x.person(0, 6), y.person(0, 6));
        }
        due("there were rests and oil", rests > 0 && oils > 0 ? 1 : 0, 1);
        due("it is THROUGH", x.drift(1), NOT);
        x.log(0, 1);
        x.seed(0);
        due("many at once", x.drift(99), 200);
        due("a deed", x.told(18), 1);
        int stopped = x.seed(0);
        x.log(0, 1);
        for (int i = 0; i < 99 && x.told(15) == 0; i++) {
            x.drift(1);
        }
        due("no DRAW behind THROUGH", x.seed(0), stopped);
    }

    private static void undo() {
        Saw x = saw(PLAIN + "s5 2 3;");
        due("undo(0)", x.undo(0), OUTSIDE);
        due("undo(31)", x.undo(31), OUTSIDE);
        due("undo(MIN)", x.undo(MIN), OUTSIDE);
        due("undo(1)", x.undo(1), NOT);
        x.log(0, 1);
        String[] stood = new String[10];
        for (int deed = 0; deed < 9; deed++) {
            stood[deed] = x.work();
            deedOf(x, deed);
        }
        stood[9] = x.work();
        due("told(18)", x.told(18), 9);
        x = pair(PLAIN + "s5 2 3;", 0, 1);
        for (int deed = 0; deed < 9; deed++) {
            deedOf(x, deed);
        }
        x.oil();
        x.oil();
        x.undo(1);
        same("undo(1)", x.work(), stood[9]);
        int seedThen = x.seed(5);
        due("drawn", seedThen == 0 ? 0 : 1, 1);
        for (int i = 8; i >= 0; i--) {
            x.undo(1);
            same("undone to " + i, x.work(), stood[i]);
        }
        due("THE SEED stays", x.seed(0), 5);
        due("no more", x.undo(1), NOT);
        x.stroke(1);
        x.rest(1);
        x.rest(1);
        due("undo(4)", x.undo(4), NOT);
        due("undo(3)", x.undo(3), 0);
        undoOfMany();
    }

    private static void deedOf(Saw x, int deed) {
        switch (deed) {
            case 0: x.stroke(3); break;
            case 1: x.rest(2); break;
            case 2: x.sides(); break;
            case 3: x.wedge(); break;
            case 4: x.file(); break;
            case 5: x.wish(3, 3); break;
            case 6: x.habit(2, 9); break;
            case 7: x.oil(); break;
            default: x.drift(3); break;
        }
    }

    private static void undoOfMany() {
        Saw x = pair("l9,9,9,9,9,9;p1 0 0 5 0;p1 0 0 5 0;s1 0 0;", 0, 1);
        for (int i = 0; i < 45; i++) {
            x.rest(1);
        }
        due("30 are kept", x.told(18), 30);
        due("undo(30)", x.undo(30), 15);
        due("none is left", x.undo(1), NOT);
        x.rest(1);
        x.sides();
        due("undo(1)", x.undo(1), 16);
        x.keep(0);
        due("behind an IMAGE", x.undo(1), NOT);
        x.rest(1);
        due("refused ones are none", x.rest(0) == OUTSIDE && x.stroke(0) == OUTSIDE && x.wish(0, 0) == OUTSIDE ? x.told(18) : 0, 1);
        x.log(1, 0);
        due("behind a new log", x.undo(1), NOT);
        x.rest(1);
        x.goBack(0);
        due("behind an IMAGE gone back to", x.undo(1), NOT);
        x.rest(1);
        x.rest(1);
        x.see(1);
        x.write(1);
        due("undo(1)", x.undo(1), 17);
        due("SEEN stay", x.told(16), 1);
        due("THE BOOK stays", x.told(17), 1);
        due("yard()", read(x, "l1;x"), -11);
        due("a faulty text takes none", x.told(18), 1);
    }

    // ---- tried

    private static void toGo() {
        Saw x = saw(PLAIN);
        due("no PAIR", x.toGo(), NOT);
        x.log(0, 1);
        String was = allOf(x);
        due("toGo()", x.toGo(), 13);
        same("toGo()", allOf(x), was);
        x.stroke(3);
        due("toGo()", x.toGo(), 10);
        x.rest(5);
        due("RESTS are behind", x.toGo(), 10);
        x.stroke(10);
        due("THROUGH", x.told(15), 1);
        due("toGo() then", x.toGo(), 0);
        due("999", pair("l9,9,9,9,9,9,9,9,9,8;p9 0 0 5 0;p9 0 0 5 0;s1 0 0;", 0, 1).toGo(), NONE);
        x = pair("l9,9,9,9,9,9,9,9,9,9;p9 0 0 5 0;p9 0 0 5 0;s1 0 0;", 0, 1);
        due("1000 are too many", x.toGo(), NONE);
        x.stroke(1);
        due("999 are not", x.toGo(), 999);
        x.stroke(1);
        due("998", x.toGo(), 998);
        due("never", pair("l9;p1 0 0 5 0;p1 0 0 5 0;s1 0 0;", 0, 1).toGo(), NONE);
        toGoBehindAStall("l1,1;p5 0 0 9 0;p5 0 0 9 0;");
        toGoBehindAStall("l9;p9 0 0 9 0;p1 0 0 9 0;");
        toGoBehindAStall("l9;p1 0 0 9 0;p9 0 0 9 0;");
        toGoBehindAStall("l9;p9 0 0 4 2;p1 0 0 4 0;");
        toGoBehindAStall("l9;p1 0 0 4 0;p9 0 0 4 2;");
    }

    /** Nothing is cut for a while, for they are tired or answer soft; then it goes on. */
    private static void toGoBehindAStall(String text) {
        Saw x = pair(text, 0, 1);
        x.stroke(98);
        x.habit(0, 5);
        x.habit(1, 5);
        x.keep(0);
        due("a stall, " + text, x.stroke(4), 0);
        x.goBack(0);
        due("behind a stall, " + text, x.toGo(), byStrokes(x));
        x.sides();
        due("behind a stall, sides changed, " + text, x.toGo(), byStrokes(x));
    }

    /** By STROKES in plenty at first, then one by one. */
    private static int byStrokes(Saw x) {
        x.keep(1);
        int strokes = 0;
        while (strokes + 99 <= 999 && x.told(15) == 0) {
            x.keep(0);
            x.stroke(99);
            strokes += 99;
        }
        if (x.told(15) == 1) {
            x.goBack(0);
            strokes -= 99;
        }
        while (strokes < 999 && x.told(15) == 0) {
            x.stroke(1);
            strokes++;
        }
        int answer = x.told(15) == 1 ? strokes : NONE;
        x.goBack(1);
        return answer;
    }

    private static void fresh() {
        Saw x = saw(PLAIN + "c1;");
        due("fresh(0, 0)", x.fresh(0, 0), UNKNOWN);
        due("fresh(0, 4)", x.fresh(0, 4), UNKNOWN);
        due("fresh(-1, 1)", x.fresh(-1, 1), UNKNOWN);
        due("fresh(MAX, MIN)", x.fresh(MAX, MIN), UNKNOWN);
        x.log(0, 1);
        int halved = x.fresh(0, 1);
        due("as TO GO", halved, x.toGo());
        x.stroke(4);
        x.wedge();
        x.wish(0, 1);
        x.wish(1, 1);
        String was = allOf(x);
        due("of its own", x.fresh(0, 1), halved);
        same("fresh()", allOf(x), was);
        x.file();
        Saw y = pair(PLAIN + "c1;s6 2 0;", 1, 0);
        due("TEETH as now", x.fresh(1, 0), y.toGo());
        x.habit(0, 4);
        y.habit(0, 4);
        due("HABITS as now", x.fresh(1, 0), y.toGo());
        // 1, and 1 more behind each pull, less 4, times 5 / 9: nothing by five pulls; the other one never cuts
        y = saw("l9;p1 0 0 5 1;p1 0 0 4 0;");
        // then 1, 1, 2, 2, and 3 by each of 32 more
        due("harder from nothing", y.fresh(0, 1), 2 * (5 + 4 + 32) - 1);
        due("harder from nothing", y.fresh(1, 0), 2 * (5 + 4 + 32));
        due("the first one is LEFT and pulls first", saw("l1;p20 0 0 5 0;p1 0 0 5 0;").fresh(0, 1), 1);
        due("the other one first", saw("l1;p20 0 0 5 0;p1 0 0 5 0;").fresh(1, 0), 2);
        due("never", saw("l9;p1 0 0 5 0;p1 0 0 5 0;s1 0 0;").fresh(0, 1), NONE);
    }

    private static void wishes() {
        Saw x = saw("l1;p20 0 0 5 0;p20 0 0 5 0;");
        due("wishes(0, 0, 0)", x.wishes(0, 0, 0), UNKNOWN);
        due("wishes(0, 2, 9)", x.wishes(0, 2, 9), UNKNOWN);
        due("wishes(0, 1, 3)", x.wishes(0, 1, 3), OUTSIDE);
        due("wishes(0, 1, -1)", x.wishes(0, 1, -1), OUTSIDE);
        due("wishes(0, 1, MIN)", x.wishes(0, 1, MIN), OUTSIDE);
        due("one STROKE", x.wishes(0, 1, 0), 1);
        due("enough", x.wishes(0, 1, 1), 20);
        due("as little as can be", x.wishes(0, 1, 2), 1);
        x = saw("l1;p1 0 0 5 0;p20 0 0 5 0;");
        due("1 and 19", x.wishes(0, 1, 0), 2);
        due("1 and 19", x.wishes(0, 1, 1), 1);
        due("1 and 19", x.wishes(0, 1, 2), 19);
        x = saw("l1;p18 0 0 5 0;p9 0 0 5 0;");
        due("two STROKES", x.wishes(0, 1, 0), 2);
        due("the first one's lesser", x.wishes(0, 1, 1), 11);
        due("then the other's", x.wishes(0, 1, 2), 9);
        x = saw("l1,9;p12 0 0 5 0;p12 0 0 5 0;s9 0 0;");
        // by 108 and then 12 each; by 99, still in the soft wood, and 108 from there
        due("all their force", x.fresh(0, 1), 9);
        due("a lesser wish is quicker", x.wishes(0, 1, 0), 2);
        due("a lesser wish is quicker", x.wishes(0, 1, 1), 11);
        due("a lesser wish is quicker", x.wishes(0, 1, 2), 12);
        x.log(0, 1);
        x.wish(0, x.wishes(0, 1, 1));
        x.wish(1, x.wishes(0, 1, 2));
        due("these wishes, by a log", x.toGo(), x.wishes(0, 1, 0));
        String was = allOf(x);
        x.wishes(1, 0, 2);
        same("wishes()", allOf(x), was);
        x = saw("l9;p1 0 0 5 0;p1 0 0 5 0;s1 0 0;");
        due("never", x.wishes(0, 1, 0), NONE);
        due("never", x.wishes(0, 1, 1), NONE);
        due("never", x.wishes(0, 1, 2), NONE);
    }

    private static void quarrel() {
        Saw x = saw("l9,9;p9 0 0 1 1;p9 0 0 1 2;p9 0 0 5 0;s1 0 0;");
        due("quarrel(0, 0)", x.quarrel(0, 0), UNKNOWN);
        due("quarrel(0, 3)", x.quarrel(0, 3), UNKNOWN);
        due("quarrel(MIN, 0)", x.quarrel(MIN, 0), UNKNOWN);
        due("9, by its 9th pull", x.quarrel(0, 1), 17);
        due("-9, by its 9th pull", x.quarrel(1, 0), 17);
        due("who lets", x.quarrel(0, 2), NONE);
        due("none bent", x.quarrel(2, 0), NONE);
        x.habit(1, 5);
        due("pulls second", x.quarrel(0, 1), 18);
        x.habit(0, 0);
        due("drags by 0", x.quarrel(0, 1), NONE);
        String was = allOf(x);
        x.quarrel(1, 0);
        same("quarrel()", allOf(x), was);
        // 0 .. 7 by the harder one's pulls, and 9 by each of the other one's: 100 behind STROKE 16
        x = saw("l1;p1 0 0 1 1;p10 0 0 1 0;s1 0 0;");
        due("THROUGH ahead of it", x.quarrel(0, 1), NONE);
        // 0 .. 8, and 8 by each of the other one's: 100 behind STROKE 17
        x = saw("l1;p1 0 0 1 1;p9 0 0 1 0;s1 0 0;");
        due("THROUGH by it", x.quarrel(0, 1), 17);
    }

    private static void withWhom() {
        Saw x = saw("l1;p20 0 0 5 0;p20 0 0 5 0;p2 0 0 5 0;");
        due("withWhom(2)", x.withWhom(2), OUTSIDE);
        due("withWhom(-1)", x.withWhom(-1), OUTSIDE);
        due("withWhom(MAX)", x.withWhom(MAX), OUTSIDE);
        due("OUTSIDE ahead of NOT", new Saw().withWhom(2), OUTSIDE);
        due("NOT", new Saw().withWhom(1), NOT);
        due("not so many PEOPLE", x.withWhom(0), NONE);
        due("not so many PEOPLE", x.withWhom(1), NONE);
        x = saw("l1;p20 0 0 5 0;p20 0 0 5 0;p2 0 0 5 0;p2 0 0 5 0;");
        due("strong ones with weak ones", x.withWhom(0), 1 + 0);
        due("the first of like ones", x.withWhom(1), 2);
        x = saw("l5;p9 0 0 5 0;p9 0 0 5 0;p3 0 0 5 0;p3 0 0 5 0;");
        due("all like", x.withWhom(1), 2);
        x = saw("l1;p5 0 0 5 0;p5 0 0 5 0;p5 0 0 5 0;p5 0 0 5 0;");
        due("four alike", x.withWhom(1), 1);
        due("four alike", x.withWhom(0), 4);
        x = saw("l1;p5 0 0 5 0;p4 0 0 5 0;p5 0 0 5 0;p19 0 0 5 0;");
        // 0 with 1: 5 and 2; 0 with 2: 4 and 2; 0 with 3: 2 and 5
        due("the later one soonest", x.withWhom(1), 2);
        due("the later one", x.withWhom(0), 4);
        x = saw("l1;p1 0 0 5 0;p3 0 0 5 0;p6 0 0 5 0;p20 0 0 5 0;");
        // 0 with 1: 10 and 2; 0 with 2: 6 and 2; 0 with 3: 2 and 5
        due("the last of three", x.withWhom(1), 3);
        due("the last of three", x.withWhom(0), 5);
        x = saw("l1;p10 0 0 5 0;p10 0 0 5 0;p10 0 0 5 0;p20 0 0 5 0;");
        due("like ones but for none", x.withWhom(1), 1);
        x = saw("l1;p20 0 0 0 0;p10 0 0 1 0;p11 0 0 5 0;p11 0 0 5 0;");
        // 0 with 1: 95 by the first, so 2 and 2; 0 with 2: 1 and 2
        due("of like ones the sum", x.withWhom(1), 2);
        due("of like ones the sum", x.withWhom(0), 2);
        x = saw("l9;p1 0 0 5 0;p1 0 0 5 0;p9 0 0 5 0;p9 0 0 5 0;s1 0 0;");
        // 0 with 1 never ends
        due("never is no end", x.withWhom(1), 2);
        x = saw("l9;p1 0 0 5 0;p1 0 0 5 0;p1 0 0 5 0;p9 0 0 5 0;s1 0 0;");
        due("never", x.withWhom(0), NONE);
        due("never", x.withWhom(1), NONE);
    }

    private static void changes() {
        Saw x = saw(PLAIN);
        due("no PAIR", x.changes(1, 0, 0), NOT);
        due("OUTSIDE ahead of NOT", x.changes(0, 0, 0), OUTSIDE);
        x.log(0, 1);
        due("changes(0, 0, 0)", x.changes(0, 0, 0), OUTSIDE);
        due("changes(31, 0, 0)", x.changes(31, 0, 0), OUTSIDE);
        due("changes(1, -1, 0)", x.changes(1, -1, 0), OUTSIDE);
        due("changes(1, 1000, 0)", x.changes(1, 1000, 0), OUTSIDE);
        due("changes(1, 0, 2)", x.changes(1, 0, 2), OUTSIDE);
        due("changes(1, 0, -1)", x.changes(1, 0, -1), OUTSIDE);
        due("changes(MIN, MAX, MIN)", x.changes(MIN, MAX, MIN), OUTSIDE);
        due("4 a STROKE, above 3", x.changes(1, 3, 0), NONE);
        due("4 a STROKE, above 3", x.changes(1, 3, 1), NONE);
        due("no change", x.changes(5, 20, 0), 0);
        due("no change", x.changes(5, 20, 1), NONE);
        due("one change", x.changes(5, 19, 0), 1);
        due("as late as can be", x.changes(5, 19, 1), 4);
        due("30 within 4", x.changes(30, 4, 0), 15);
        due("30 within 4", x.changes(30, 4, 1), 1);
        due("30 within 40", x.changes(30, 40, 0), 1);
        due("30 within 40", x.changes(30, 40, 1), 10);
        due("30 within 999", x.changes(30, 999, 0), 0);
        x.stroke(3);
        due("from 12 on", x.changes(2, 12, 0), 1);
        due("from 12 on", x.changes(2, 12, 1), 0);
        due("back within 8", x.changes(1, 8, 0), 1);
        due("not within 7", x.changes(1, 7, 0), NONE);
        String was = allOf(x);
        x.changes(30, 20, 0);
        same("changes()", allOf(x), was);
        x.sides();
        due("sides as now", x.changes(5, 12, 0), 0);
        x.stroke(99);
        due("THROUGH too", x.changes(1, 999, 0), 0);
        x = pair("l1;p1 3 0 5 0;p1 3 0 5 0;", 0, 1);
        due("no lean", x.changes(30, 0, 0), 0);
    }

    private static void whenWedge() {
        Saw x = saw("l2,2;p10 0 0 5 0;p10 0 0 5 0;c1;");
        due("no PAIR", x.whenWedge(0), NOT);
        due("OUTSIDE ahead of NOT", x.whenWedge(2), OUTSIDE);
        x.log(0, 1);
        due("whenWedge(-1)", x.whenWedge(-1), OUTSIDE);
        due("whenWedge(MIN)", x.whenWedge(MIN), OUTSIDE);
        // 25 four times, then 12 nine times: 13; a WEDGE at once: 8 and 3
        due("toGo()", x.toGo(), 13);
        due("the least of like ones", x.whenWedge(0), 0);
        due("STROKES then", x.whenWedge(1), 11);
        String was = allOf(x);
        x.whenWedge(0);
        same("whenWedge()", allOf(x), was);
        x.stroke(5);
        due("13 - 5 are more than 4 and 3", x.whenWedge(1), 7);
        x.stroke(1);
        due("without it is no more", x.whenWedge(0), NONE);
        due("without it is no more", x.whenWedge(1), NONE);
        x = pair("l2,2;p10 0 0 5 0;p10 0 0 5 0;c1;", 0, 1);
        x.wedge();
        due("there is one", x.whenWedge(0), NONE);
        x = pair("l1;p1 0 0 5 0;p1 0 0 5 0;c0;", 0, 1);
        due("without it never", x.toGo(), NONE);
        due("never is more than any", x.whenWedge(0), 0);
        due("never is more than any", x.whenWedge(1), 23);
        x = pair("l9;p1 0 0 5 0;p1 0 0 5 0;s1 0 0;c0;", 0, 1);
        due("never", x.whenWedge(0), NONE);
        x = pair("l9,9;p20 0 5 5 0;p20 0 5 5 0;s9 0 0;c1;", 0, 1);
        x.stroke(99);
        due("THROUGH", x.whenWedge(0), NONE);
        wedgeTried("l3,9,2;p20 0 3 8 0;p10 0 0 4 1;s7 2 5;c1;", 0, NONE);
        wedgeTried("l9,1,9,1,9;p20 0 0 9 0;p16 0 0 7 1;s5 3 0;c2;", 19, 10);
        wedgeTried("l8,1,9,9;p5 0 4 5 2;p4 0 0 3 1;s5 2 0;c1;", 3, 99);
        // one STROKE more ahead of it would be fewer still, but 99 bounds it
        wedgeTried("l5,9,2,8,9;p1 0 4 0 2;p5 0 0 8 2;s4 4 0;c2;", 54, 98);
    }

    private static void wedgeTried(String text, int strokes, int ahead) {
        Saw x = pair(text, 0, 1);
        if (strokes > 0) {
            x.stroke(strokes);
        }
        due("whenWedge(0), " + text, x.whenWedge(0), ahead);
        due("by trying, " + text, wedgeByTrying(text, strokes, 0), ahead);
        due("whenWedge(1), " + text, x.whenWedge(1), wedgeByTrying(text, strokes, 1));
    }

    private static int wedgeByTrying(String text, int strokes, int what) {
        Saw x = pair(text, 0, 1);
        if (strokes > 0) {
            x.stroke(strokes);
        }
        int fewest = x.toGo() == NONE ? 9999 : x.toGo();
        int best = NONE;
        for (int k = 0; k < 100; k++) {
            Saw y = pair(text, 0, 1);
            y.strokes(strokes + k);
            if (y.told(15) == 1) {
                break;
            }
            y.wedge();
            int all = y.toGo() == NONE ? 9999 : y.toGo() + y.told(7) - strokes;
            if (all < fewest) {
                fewest = all;
                best = k;
            }
        }
        return what == 0 ? best : best == NONE ? NONE : fewest;
    }

    private static void whenRest() {
        Saw x = saw(PLAIN);
        due("no PAIR", x.whenRest(1, 0), NOT);
        due("OUTSIDE ahead of NOT", x.whenRest(0, 0), OUTSIDE);
        x.log(0, 1);
        due("whenRest(11, 0)", x.whenRest(11, 0), OUTSIDE);
        due("whenRest(MIN, 0)", x.whenRest(MIN, 0), OUTSIDE);
        due("whenRest(1, 2)", x.whenRest(1, 2), OUTSIDE);
        due("whenRest(1, -1)", x.whenRest(1, -1), OUTSIDE);
        due("no REST", x.whenRest(5, 0), 115);
        due("no REST", x.whenRest(5, 1), 0);
        due("ten turns", x.whenRest(10, 0), 169);
        String was = allOf(x);
        x.whenRest(10, 1);
        same("whenRest()", allOf(x), was);
        // 29 and 24 TIRED: 1 less 2 pulls next, then 3 less 2
        x = pair("l1,1,1;p3 0 5 5 0;p1 0 5 5 0;s9 0 0;", 0, 1);
        x.stroke(13);
        due("TIRED", x.person(0, 6), 29);
        due("TIRED", x.person(1, 6), 24);
        int depth = x.told(6);
        due("one turn: nothing by a STROKE, fewest RESTS", x.whenRest(1, 1), 0);
        due("one turn", x.whenRest(1, 0), depth);
        due("two turns: STROKES alone", x.whenRest(2, 0), depth + 9);
        due("two turns: STROKES alone", x.whenRest(2, 1), 0);
        // the first row of like ones would have 2 RESTS
        restsByTrying("l6,9,9,9,9,9,9,9;p4 0 5 7 1;p9 0 4 2 2;s2 5 0;c6;", 54, 6);
        restsByTrying("l1,1,1;p3 0 5 5 0;p1 0 5 5 0;s9 0 0;", 13, 6);
        restsByTrying("l2,3,1;p4 0 5 9 0;p6 0 5 9 0;s9 0 0;", 31, 5);
        restsByTrying("l9,9;p20 0 5 8 1;p20 0 5 3 2;s9 9 0;", 9, 7);
        x = pair("l1;p20 0 0 5 0;p20 0 0 5 0;s9 0 0;", 0, 1);
        due("THROUGH by the first", x.whenRest(10, 0), 100);
        due("THROUGH by the first", x.whenRest(10, 1), 0);
        x.stroke(1);
        due("THROUGH", x.whenRest(3, 0), 100);
        due("THROUGH", x.whenRest(3, 1), 0);
    }

    /** Every row by calls on an object of its own. */
    private static void restsByTrying(String text, int strokes, int n) {
        int best = -1;
        int leastRests = 0;
        String bestRow = "";
        for (int set = 0; set < 1 << n; set++) {
            Saw x = pair(text, 0, 1);
            x.stroke(strokes);
            StringBuilder row = new StringBuilder();
            for (int turn = 0; turn < n; turn++) {
                boolean rests = (set >> turn & 1) == 1;
                row.append(rests ? '1' : '0');
                if (rests) {
                    x.rest(1);
                } else {
                    x.stroke(1);
                }
            }
            int rests = Integer.bitCount(set);
            boolean like = x.told(6) == best && rests == leastRests;
            if (x.told(6) > best || x.told(6) == best && rests < leastRests || like && row.toString().compareTo(bestRow) < 0) {
                best = x.told(6);
                leastRests = rests;
                bestRow = row.toString();
            }
        }
        Saw x = pair(text, 0, 1);
        x.stroke(strokes);
        due("DEPTH, " + text, x.whenRest(n, 0), best);
        due("the SET, " + text, x.whenRest(n, 1), Integer.parseInt(new StringBuilder(bestRow).reverse().toString(), 2));
    }

    private static void worthFile() {
        Saw x = saw(PLAIN);
        due("no PAIR", x.worthFile(), NOT);
        x = pair("l9,9;p9 0 0 5 0;p9 0 0 5 0;s1 0 0;", 0, 1);
        due("200 less 100, less 20", x.worthFile(), 80);
        String was = allOf(x);
        x.worthFile();
        same("worthFile()", allOf(x), was);
        x.stroke(99);
        x.stroke(99);
        due("2 less 1, less 20", x.worthFile(), -19);
        x.stroke(2);
        due("THROUGH", x.worthFile(), -20);
        x = pair("l9,9;p9 0 0 5 0;p9 0 0 5 0;s9 0 0;", 0, 1);
        due("TEETH 9", x.worthFile(), -20);
        x = pair("l9;p1 0 0 5 0;p1 0 0 5 0;s1 0 0;", 0, 1);
        due("never, never", x.worthFile(), -20);
        x = pair("l9;p1 0 0 5 0;p1 0 0 5 0;s8 0 0;", 0, 1);
        due("never counts as 1000", x.worthFile(), 1000 - 100 - 20);
    }

    // ---- what was seen

    private static void see() {
        Saw x = new Saw();
        due("see(-1)", x.see(-1), OUTSIDE);
        due("see(1000)", x.see(1000), OUTSIDE);
        due("see(MIN)", x.see(MIN), OUTSIDE);
        due("see(0)", x.see(0), 1);
        due("see(999)", x.see(999), 2);
        for (int i = 3; i <= 8; i++) {
            due("see(5)", x.see(5), i);
        }
        due("see(5)", x.see(5), FULL);
        due("see(1000)", x.see(1000), OUTSIDE);
        due("told(16)", x.told(16), 8);
        due("told(17)", x.told(17), 0);
    }

    private static void habits() {
        Saw x = saw("l1,1;p10 0 0 3 0;p6 0 5 8 0;s5 2 0;");
        due("habits(0, 0)", x.habits(0, 0), UNKNOWN);
        due("habits(0, 2)", x.habits(0, 2), UNKNOWN);
        due("habits(MIN, 0)", x.habits(MIN, 0), UNKNOWN);
        due("nothing SEEN", x.habits(0, 1), 1023);
        x.see(50);
        due("drags by 0, or lets", x.habits(0, 1), 1 | 1 << 5);
        x.tear();
        x.see(45);
        due("drags by 1", x.habits(0, 1), 1 << 1);
        x.tear();
        x.see(75);
        due("pushes by 1 or 2", x.habits(0, 1), 1 << 6 | 1 << 7);
        x.tear();
        x.see(0);
        due("BUCKLES", x.habits(0, 1), 1 << 8 | 1 << 9);
        x.see(15);
        due("the other one's pull, against the first one's HABIT", x.habits(0, 1), 1 << 8 | 1 << 9);
        x.see(1);
        due("otherwise", x.habits(0, 1), 0);
        String was = allOf(x);
        x.habits(1, 0);
        same("habits()", allOf(x), was);
        x = saw("l1;p20 0 0 5 0;p20 0 0 5 0;");
        x.see(100);
        due("THROUGH by the last", x.habits(0, 1), 1 | 1 << 5);
        x.see(100);
        due("THROUGH ahead of the last", x.habits(0, 1), 0);
    }

    private static void end() {
        Saw x = saw("l1,1;p10 0 0 5 0;p10 0 0 5 0;p8 0 0 5 0;");
        due("nothing SEEN", x.end(-1), 6);
        int[] pairs = {1, 2, 10, 12, 20, 21};
        for (int i = 0; i < 6; i++) {
            due("end(" + i + ")", x.end(i), pairs[i]);
        }
        due("end(6)", x.end(6), NONE);
        due("end(-2)", x.end(-2), NONE);
        due("end(MIN)", x.end(MIN), NONE);
        due("end(MAX)", x.end(MAX), NONE);
        x.see(50);
        due("by 10", x.end(-1), 4);
        due("by 10", x.end(2), 10);
        x.see(40);
        due("by 10, by 8", x.end(-1), 2);
        due("by 10, by 8", x.end(0), 2);
        due("by 10, by 8", x.end(1), 12);
        due("by 10, by 8", x.end(2), NONE);
        x.log(2, 0);
        String was = allOf(x);
        x.end(0);
        same("end()", allOf(x), was);
        x.see(41);
        due("none", x.end(-1), 0);
        due("none", x.end(0), NONE);
        due("one PERSON", saw("l1;p1 0 0 0 0;").end(-1), 0);
        due("NOT", new Saw().end(0), NOT);
        x = saw("l1;p20 0 0 5 0;p20 0 0 5 0;");
        x.see(100);
        x.see(100);
        due("THROUGH ahead of the last", x.end(-1), 0);
    }

    private static void write() {
        Saw x = new Saw();
        due("write(-1)", x.write(-1), OUTSIDE);
        due("write(1000)", x.write(1000), OUTSIDE);
        due("write(MAX)", x.write(MAX), OUTSIDE);
        for (int i = 1; i <= 20; i++) {
            due("write " + i, x.write(i == 1 ? 0 : 999), i);
        }
        due("write(5)", x.write(5), FULL);
        due("write(1000)", x.write(1000), OUTSIDE);
        due("told(17)", x.told(17), 20);
        due("told(16)", x.told(16), 0);
    }

    private static void judge() {
        Saw x = saw(PLAIN);
        x.write(25);
        due("no PAIR", x.judge(), NOT);
        x.log(0, 1);
        x.write(20);
        x.write(25);
        due("all right", x.judge(), NONE);
        x.write(21);
        due("the fourth", x.judge(), 3);
        String was = allOf(x);
        x.judge();
        same("judge()", allOf(x), was);
        x.stroke(1);
        due("from now on", x.judge(), 0);
        x.tear();
        due("no BOOK", x.judge(), NONE);
        x = pair("l1;p20 0 0 5 0;p20 0 0 5 0;", 0, 1);
        x.write(100);
        due("THROUGH by the last", x.judge(), NONE);
        x.write(0);
        due("behind THROUGH", x.judge(), 1);
        x.stroke(1);
        due("behind THROUGH", x.judge(), 0);
        x.tear();
        due("THROUGH, no BOOK", x.judge(), NONE);
    }

    private static void tear() {
        Saw x = new Saw();
        x.see(1);
        x.see(1);
        x.write(1);
        due("tear()", x.tear(), 3);
        due("told(16)", x.told(16), 0);
        due("told(17)", x.told(17), 0);
        due("tear()", x.tear(), 0);
        due("see(1)", x.see(1), 1);
    }

    // ---- images

    private static void seed() {
        Saw x = new Saw();
        due("seed(-1)", x.seed(-1), OUTSIDE);
        due("seed(MIN)", x.seed(MIN), OUTSIDE);
        due("seed(MAX)", x.seed(MAX), 0);
        due("seed(0)", x.seed(0), MAX);
        due("seed(9)", x.seed(9), 0);
        due("seed(-1)", x.seed(-1), OUTSIDE);
        due("seed(9)", x.seed(9), 9);
    }

    private static void keep() {
        Saw x = new Saw();
        due("keep(-1)", x.keep(-1), UNKNOWN);
        due("keep(2)", x.keep(2), UNKNOWN);
        due("keep(MIN)", x.keep(MIN), UNKNOWN);
        due("no LAYERS", x.keep(0), 1);
        due("goBack(0)", x.goBack(0), 1);
        x = pair(PLAIN + "s5 2 3;c0;", 0, 1);
        x.stroke(2);
        due("a refused one takes nothing", x.keep(2) == UNKNOWN ? x.told(18) : 0, 1);
        due("keep(1)", x.keep(1), 1);
        due("nothing can be undone", x.undo(1), NOT);
        due("the other one was not kept", x.goBack(0), NOT);
        x.stroke(1);
        due("keep(1) again", x.keep(1), 1);
        x.stroke(1);
        x.goBack(1);
        due("the later one", x.told(7), 3);
    }

    private static void goBack() {
        Saw x = pair(PLAIN + "s5 2 3;c0;", 0, 1);
        due("goBack(-1)", x.goBack(-1), UNKNOWN);
        due("goBack(2)", x.goBack(2), UNKNOWN);
        due("goBack(MAX)", x.goBack(MAX), UNKNOWN);
        due("goBack(0)", x.goBack(0), NOT);
        x.stroke(3);
        x.seed(11);
        x.keep(0);
        String zero = allOf(x);
        x.sides();
        x.wedge();
        x.file();
        x.wish(0, 3);
        x.habit(1, 9);
        x.drift(5);
        x.keep(1);
        String one = allOf(x);
        int seedOne = x.seed(5);
        x.log(3, 2);
        x.stroke(4);
        due("goBack(0)", x.goBack(0), 1);
        same("goBack(0)", allOf(x), zero);
        due("THE SEED", x.seed(5), 11);
        due("nothing can be undone", x.undo(1), NOT);
        due("goBack(1)", x.goBack(1), 1);
        same("goBack(1)", allOf(x), one);
        due("THE SEED", x.seed(5), seedOne);
        x.stroke(1);
        due("goBack(1) again", x.goBack(1), 1);
        same("goBack(1) again", allOf(x), one);
        x.see(1);
        x.write(1);
        x.goBack(0);
        due("SEEN stay", x.told(16), 1);
        due("THE BOOK stays", x.told(17), 1);
    }
}
