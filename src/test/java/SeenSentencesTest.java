import java.math.BigInteger;

/** The sentences that name a boundary: section 3, what is seen, told by draws, undone, kept in images; promises 18, 28 to 36. */
public final class SeenSentencesTest extends Dues {
    /** TEETH 5 by WOOD 5: a CUT is its PULL. */
    private static final String EVEN = "l5,5,5,5,5,5,5,5,5,5,5,5;";
    private static final String LET = "p1 0 0 5 0;p1 0 0 5 0;s1 0 0;";

    public static void main(String[] args) {
        seenBounds();
        habitsThatFit();
        habitsThrough();
        habits();
        endThatFits();
        endThrough();
        end();
        bookBounds();
        wrongLine();
        behindThrough();
        judge();
        tear();
        draws();
        drawOfEight();
        drawnTillThrough();
        seedBounds();
        deedsThatCount();
        deedsThatDoNot();
        deedsRefused();
        deedsSince();
        deedsAtMost();
        seedStays();
        undoneWholly();
        undo();
        imagesKeep();
        imagesNotOfSection2();
        keep();
        goBack();
        close();
    }

    // ---- seen

    private static void seenBounds() {
        says("Promise 28", "SEEN (a CUT 0 .. 999): how many. OUTSIDE");
        Saw x = new Saw();
        for (int cut : new int[] {MIN, -1, 1000, 1001, MAX}) {
            due("see(" + cut + ")", x.see(cut), OUTSIDE);
        }
        due("told(16)", x.told(16), 0);
        due("see(0)", x.see(0), 1);
        due("see(1)", x.see(1), 2);
        due("see(998)", x.see(998), 3);
        due("see(999)", x.see(999), 4);
        says("Promise 28", "FULL (8)");
        due("see(5)", x.see(5), 5);
        due("see(5)", x.see(5), 6);
        due("the 7th", x.see(5), 7);
        due("the 8th", x.see(5), 8);
        due("a 9th", x.see(5), FULL);
        due("told(16)", x.told(16), 8);
        due("torn", x.tear(), 8);
        due("see(5)", x.see(5), 1);
    }

    private static void habitsThatFit() {
        says("3 HABITS", "those (0 .. 9) of the other one, by which, two being FRESH, the first one pulling first, all CUTS are so: a SET");
        int[] cuts = {10, 9, 8, 7, 6, 15, 0, 11, 5, 1};
        int[] sets = {1 | 1 << 5, 1 << 1, 1 << 2, 1 << 3, 1 << 4, 1 << 6 | 1 << 7, 1 << 8 | 1 << 9, 0, 0, 0};
        Saw x = new Saw(EVEN + "p10 0 0 3 0;p6 0 0 8 0;");
        due("nothing SEEN: all", x.habits(0, 1), 1023);
        for (int i = 0; i < cuts.length; i++) {
            x.see(cuts[i]);
            due("SEEN " + cuts[i], x.habits(0, 1), sets[i]);
            x.tear();
        }
        for (int i = 0; i < 8; i++) {
            x.see(i % 2 == 0 ? 15 : 3);
            due("SEEN " + (i + 1) + ": the other one pulls 6 less 3", x.habits(0, 1), 1 << 6 | 1 << 7);
        }
        x.tear();
        for (int i = 0; i < 8; i++) {
            x.see(i % 2 == 0 ? 15 : i < 7 ? 3 : 4);
        }
        due("the 8th is otherwise", x.habits(0, 1), 0);
        x.tear();
        x.see(9);
        due("of the other one: 6 and 3, LIMIT 2", x.habits(1, 0), 1 << 6 | 1 << 7);
        says("3 FRESH", "nobody TIRED, WISH their FORCE, ANSWER 0, GUM 0");
        x = Saw.of(EVEN + "p10 0 5 3 0;p6 0 5 8 0;s5 2 9;", 0, 1);
        x.stroke(9);
        x.wish(0, 1);
        x.see(10);
        due("not as now", x.habits(0, 1), 1 | 1 << 5);
        due("HABIT is as it was", x.person(1, 3), 8);
    }

    private static void habitsThrough() {
        says("3 HABITS", "all CUTS are so (THROUGH not ahead of the last)");
        throughByCuts("p12", 12, 8, true);
        throughByCuts("p13", 13, 8, true);
        throughByCuts("p14", 14, 8, true);
        throughByCuts("p15", 15, 7, true);
        throughByCuts("p15", 15, 8, false);
        throughByCuts("p20", 20, 5, true);
        throughByCuts("p20", 20, 6, false);
    }

    /** One LAYER: 100 behind 8 by 13 or 14 each, behind 7 by 15, behind 5 by 20. */
    private static void throughByCuts(String person, int cut, int many, boolean fits) {
        Saw x = new Saw("l5;" + (person + " 0 0 5 0;").repeat(2));
        for (int i = 0; i < many; i++) {
            x.see(cut);
        }
        due(many + " by " + cut, x.habits(0, 1), fits ? 1 | 1 << 5 : 0);
        due(many + " by " + cut + ": pairs", x.end(-1), fits ? 2 : 0);
    }

    private static void habits() {
        says("Promise 29", "HABITS: the SET. UNKNOWN, NOT: no LAYERS");
        Saw x = new Saw();
        due("nobody", x.habits(0, 1), UNKNOWN);
        x.read("l5;p10 0 0 5 0;p9 0 0 5 0;");
        int[][] unknown = {{-1, 0}, {0, -1}, {2, 0}, {0, 2}, {0, 0}, {1, 1}, {MIN, 0}, {0, MAX}};
        for (int[] each : unknown) {
            due("habits(" + each[0] + ", " + each[1] + ")", x.habits(each[0], each[1]), UNKNOWN);
        }
        due("habits(1, 0)", x.habits(1, 0), 1023);
    }

    private static void endThatFits() {
        says("3 AN END", "pairs (two unlike PEOPLE FRESH, in order) by which all CUTS are so: how many; the i-th (10 times the first and the other; rising)");
        Saw x = new Saw(EVEN + "p10 0 0 5 0;p9 0 0 5 0;p10 0 0 5 0;p8 0 0 5 0;");
        int[] all = {1, 2, 3, 10, 12, 13, 20, 21, 23, 30, 31, 32};
        due("nothing SEEN", x.end(-1), 12);
        for (int i = 0; i < 12; i++) {
            due("end(" + i + ")", x.end(i), all[i]);
        }
        due("end(12)", x.end(12), NONE);
        x.see(10);
        int[] tens = {1, 2, 3, 20, 21, 23};
        due("by 10", x.end(-1), 6);
        for (int i = 0; i < 6; i++) {
            due("end(" + i + ")", x.end(i), tens[i]);
        }
        due("end(6)", x.end(6), NONE);
        x.see(9);
        due("by 10, by 9", x.end(-1), 2);
        due("end(0)", x.end(0), 1);
        due("end(1)", x.end(1), 21);
        due("end(2)", x.end(2), NONE);
        for (int i = 2; i < 8; i++) {
            x.see(i % 2 == 0 ? 10 : 9);
        }
        due("eight CUTS", x.end(-1), 2);
        x.tear();
        for (int i = 0; i < 8; i++) {
            x.see(i < 7 ? 10 : 9);
        }
        due("the 8th is otherwise", x.end(-1), 0);
        x.tear();
        x.log(0, 1);
        x.wish(0, 3);
        x.see(3);
        due("FRESH: WISH is FORCE", x.end(-1), 0);
        x.tear();
        x.habit(3, 4);
        x.see(6);
        due("HABITS as now: 10 less 4", x.end(-1), 2);
        due("end(0)", x.end(0), 3);
        due("end(1)", x.end(1), 23);
    }

    private static void endThrough() {
        says("3 AN END", "(the same CUTS) pairs .. by which all CUTS are so: how many");
        Saw x = new Saw("l5;p20 0 0 5 0;p20 0 0 5 0;");
        for (int i = 0; i < 5; i++) {
            x.see(20);
            due("THROUGH by the fifth", x.end(-1), 2);
        }
        x.see(20);
        due("THROUGH ahead of the sixth", x.end(-1), 0);
        due("THROUGH ahead of the sixth", x.end(0), NONE);
        x.tear();
        for (int i = 0; i < 5; i++) {
            x.see(20);
        }
        x.see(0);
        due("no CUT is none of 0", x.end(-1), 0);
    }

    private static void end() {
        says("Promise 30", "i = NONE how many, else the i-th; NONE: there is none such (another i, too). NOT: no LAYERS");
        Saw x = new Saw();
        for (int i : new int[] {MIN, -2, -1, 0, 1, MAX}) {
            due("no LAYERS: end(" + i + ")", x.end(i), NOT);
        }
        x.read("l5;");
        due("nobody", x.end(-1), 0);
        due("nobody", x.end(0), NONE);
        x.read("l5;p1 0 0 5 0;");
        due("one PERSON", x.end(-1), 0);
        due("one PERSON", x.end(0), NONE);
        x.read("l5;p1 0 0 5 0;p2 0 0 5 0;");
        due("end(MIN)", x.end(MIN), NONE);
        due("end(-2)", x.end(-2), NONE);
        due("end(-1)", x.end(-1), 2);
        due("end(0)", x.end(0), 1);
        due("end(1)", x.end(1), 10);
        due("end(2)", x.end(2), NONE);
        due("end(MAX)", x.end(MAX), NONE);
        x.see(3);
        due("none: how many", x.end(-1), 0);
        due("none: the first", x.end(0), NONE);
    }

    // ---- the book

    private static void bookBounds() {
        says("Promise 31", "A CUT (0 .. 999) behind THE BOOK: how many. OUTSIDE");
        Saw x = new Saw();
        for (int cut : new int[] {MIN, -1, 1000, 1001, MAX}) {
            due("write(" + cut + ")", x.write(cut), OUTSIDE);
        }
        due("told(17)", x.told(17), 0);
        due("write(0)", x.write(0), 1);
        due("write(1)", x.write(1), 2);
        due("write(998)", x.write(998), 3);
        due("write(999)", x.write(999), 4);
        says("Promise 31", "FULL (20)");
        for (int i = 5; i <= 20; i++) {
            due("write " + i, x.write(7), i);
        }
        due("a 21st", x.write(7), FULL);
        due("told(17)", x.told(17), 20);
        due("torn", x.tear(), 20);
        due("write(7)", x.write(7), 1);
    }

    private static void wrongLine() {
        says("3 THE BOOK", "CUTS of STROKES from now: WRONG: the first that is otherwise");
        for (int wrong = 0; wrong <= 20; wrong++) {
            Saw x = Saw.of(EVEN + "p7 0 0 5 0;p6 0 0 5 0;", 0, 1);
            for (int i = 0; i < 20; i++) {
                x.write((i % 2 == 0 ? 7 : 6) + (i == wrong || i == wrong + 2 ? 1 : 0));
            }
            due("line " + wrong, x.judge(), wrong == 20 ? NONE : wrong);
            x.stroke(2);
            due("from two later on, line " + wrong, x.judge(), wrong == 20 ? NONE : wrong);
            x.stroke(1);
            due("from three later on: the other one's turn", x.judge(), 0);
        }
    }

    private static void behindThrough() {
        says("3 THE BOOK", "WRONG: the first that is otherwise (or behind THROUGH)");
        Saw x = Saw.of("l5;p20 0 0 5 0;p20 0 0 5 0;", 0, 1);
        for (int i = 0; i < 5; i++) {
            x.write(20);
            due("to THROUGH", x.judge(), NONE);
        }
        x.write(0);
        due("the sixth is behind THROUGH", x.judge(), 5);
        x.write(0);
        due("the first that is", x.judge(), 5);
        x.stroke(1);
        due("four to THROUGH", x.judge(), 4);
        x.stroke(4);
        due("THROUGH", x.judge(), 0);
        x.tear();
        due("THROUGH, no BOOK", x.judge(), NONE);
        // a last CUT told whole: 13 of which 9 are left
        x = Saw.of("l5;p13 0 0 5 0;p13 0 0 5 0;", 0, 1);
        x.stroke(7);
        x.write(13);
        due("the CUT is told whole", x.judge(), NONE);
        x.tear();
        x.write(9);
        due("9 are left", x.judge(), 0);
    }

    private static void judge() {
        says("Promise 32", "WRONG; NONE. NOT: no PAIR");
        Saw x = new Saw();
        due("no PAIR", x.judge(), NOT);
        x.write(5);
        due("no PAIR", x.judge(), NOT);
        x.read("l5;p20 0 0 5 0;p20 0 0 5 0;");
        due("no PAIR", x.judge(), NOT);
        x.log(0, 1);
        due("no BOOK", x.judge(), NONE);
        x.write(20);
        due("so", x.judge(), NONE);
        x.write(19);
        due("otherwise", x.judge(), 1);
        x.wish(1, 19);
        due("by WISHES of now", x.judge(), NONE);
    }

    private static void tear() {
        says("Promise 33", "Nothing SEEN, no BOOK: how much both had");
        Saw x = new Saw();
        due("nothing", x.tear(), 0);
        x.see(1);
        due("one SEEN", x.tear(), 1);
        x.write(1);
        due("one line", x.tear(), 1);
        for (int i = 0; i < 8; i++) {
            x.see(1);
        }
        for (int i = 0; i < 20; i++) {
            x.write(1);
        }
        due("both full", x.tear(), 28);
        due("told(16)", x.told(16), 0);
        due("told(17)", x.told(17), 0);
        due("nothing", x.tear(), 0);
    }

    // ---- draws

    private static int drawnFrom(int seed) {
        BigInteger next = BigInteger.valueOf(seed).multiply(BigInteger.valueOf(1103515245L)).add(BigInteger.valueOf(12345L));
        return next.mod(BigInteger.ONE.shiftLeft(31)).intValueExact();
    }

    private static void draws() {
        says("3 BY DRAWS", "THE SEED (0 at first: each DRAW it becomes it times 1103515245 and 12345, left over by 2 to the 31");
        due("0 at first", new Saw().seed(5), 0);
        Saw x = Saw.of(EVEN + LET, 0, 1);
        x.drift(1);
        due("0 and 12345", x.seed(0), 12345);
        int[] seeds = {0, 1, 2, 3, 12345, 65535, 65536, 1 << 30, (1 << 30) - 1, 2147483646, 2147483647};
        for (int seed : seeds) {
            x.seed(seed);
            x.drift(1);
            due("THE SEED behind " + seed, x.seed(0), drawnFrom(seed));
            x.seed(seed);
            x.drift(2);
            due("THE SEED two behind " + seed, x.seed(0), drawnFrom(drawnFrom(seed)));
        }
    }

    /** The least seed by which the next DRAW of 8 is that. */
    private static int seedFor(int draw) {
        int seed = 0;
        while (drawnFrom(seed) / 65536 % 8 != draw) {
            seed++;
        }
        return seed;
    }

    private static void drawOfEight() {
        says("3 BY DRAWS", "the DRAW of n is it / 65536, left over by n): n turns: a DRAW of 8: 0 a REST of 1, 1 OIL, else a STROKE");
        for (int draw = 0; draw < 8; draw++) {
            Saw x = Saw.of(EVEN + "p10 0 5 5 0;p10 0 5 5 0;s5 0 3;", 0, 1);
            x.stroke(2);
            x.seed(seedFor(draw));
            int depth = x.drift(1);
            due("DEPTH by a DRAW of " + draw, depth, draw > 1 ? 30 : 20);
            due("told(6) by " + draw, x.told(6), depth);
            due("STROKES by " + draw, x.told(7), draw == 1 ? 2 : 3);
            due("GUM by " + draw, x.told(9), draw == 0 ? 6 : draw == 1 ? 0 : 9);
            due("TIRED by " + draw, x.person(0, 6), draw == 0 ? 1 : draw == 1 ? 4 : 9);
            due("TIRED of the other one by " + draw, x.person(1, 6), draw == 0 ? 2 : draw == 1 ? 5 : 4);
            due("who pulls next by " + draw, x.told(5), draw > 1 ? 1 : 0);
        }
    }

    private static void drawnTillThrough() {
        says("3 BY DRAWS", "(till it is THROUGH)");
        Saw x = Saw.of("l5;p20 0 0 5 0;p20 0 0 5 0;", 0, 1);
        int seed = 0;
        int strokes = 0;
        int turns = 0;
        while (strokes < 5) {
            seed = drawnFrom(seed);
            strokes += seed / 65536 % 8 > 1 ? 1 : 0;
            turns++;
        }
        due("to THROUGH", x.drift(99), 100);
        due("no DRAW behind it", x.seed(0), seed);
        x.log(0, 1);
        due("all but the last turn", x.drift(turns - 1), 80);
        due("the last one", x.drift(1), 100);
        due("THE SEED", x.seed(0), seed);
        due("THROUGH", x.drift(1), NOT);
        due("no DRAW", x.seed(0), 0);
    }

    private static void seedBounds() {
        says("Promise 34", "THE SEED becomes v (0 .. 2147483647): what it was. OUTSIDE");
        Saw x = new Saw();
        due("seed(-1)", x.seed(-1), OUTSIDE);
        due("seed(MIN)", x.seed(MIN), OUTSIDE);
        due("seed(0)", x.seed(0), 0);
        due("seed(1)", x.seed(1), 0);
        due("seed(2147483646)", x.seed(2147483646), 1);
        due("seed(2147483647)", x.seed(2147483647), 2147483646);
        due("seed(-1)", x.seed(-1), OUTSIDE);
        due("seed(0)", x.seed(0), 2147483647);
        due("no deed", x.told(18), 0);
    }

    // ---- undone

    private static void deedsThatCount() {
        says("3 UNDONE", "each call of stroke(), rest(), sides(), wedge(), file(), drift(), whatever its n, also one by which nothing became other");
        Saw x = Saw.of(EVEN + "p9 5 5 5 0;p9 5 5 5 0;s5 2 3;", 0, 1);
        due("none yet", x.told(18), 0);
        x.stroke(1);
        due("stroke(1)", x.told(18), 1);
        x.stroke(9);
        due("stroke(9)", x.told(18), 2);
        x.rest(1);
        due("rest(1)", x.told(18), 3);
        x.rest(99);
        due("rest(99)", x.told(18), 4);
        x.sides();
        due("sides()", x.told(18), 5);
        x.wedge();
        due("wedge()", x.told(18), 6);
        x.file();
        due("file()", x.told(18), 7);
        x.drift(1);
        due("drift(1)", x.told(18), 8);
        x.drift(9);
        due("drift(9)", x.told(18), 9);
        x.oil();
        due("there was GUM: oil()", x.told(18), 10);
        // OIL where there is no GUM
        x.seed(seedFor(1));
        x.drift(1);
        due("a drift(1) by which nothing became other", x.told(18), 11);
        x.wish(0, 8);
        due("wish()", x.told(18), 12);
        x.habit(0, 6);
        due("habit()", x.told(18), 13);
        int strokes = x.told(7);
        due("undo(3): the WISH, the HABIT, the drift of nothing", x.undo(3), strokes);
        due("told(18)", x.told(18), 10);
        due("THE WISH", x.person(0, 5), 9);
        due("THE HABIT", x.person(0, 3), 5);
        due("no GUM yet", x.told(9), 0);
        due("undo(1)", x.undo(1), strokes);
        due("GUM again", x.told(9) > 0 ? 1 : 0, 1);
    }

    private static void deedsThatDoNot() {
        says("3 UNDONE", "of oil(), wish(), habit(), if it changed something");
        Saw x = Saw.of(EVEN + "p9 5 5 5 0;p9 5 5 5 0;s5 2 1;", 0, 1);
        due("no GUM", x.oil(), 0);
        due("the same WISH", x.wish(0, 9), 9);
        due("the same HABIT", x.habit(1, 5), 5);
        due("no deeds", x.told(18), 0);
        x.wish(0, 8);
        due("another WISH", x.told(18), 1);
        x.wish(0, 8);
        due("the same WISH", x.told(18), 1);
        x.wish(0, 9);
        due("back again", x.told(18), 2);
        x.habit(1, 4);
        due("another HABIT", x.told(18), 3);
        x.habit(1, 4);
        due("the same HABIT", x.told(18), 3);
        x.stroke(1);
        x.oil();
        due("GUM 1", x.told(18), 5);
        x.oil();
        due("GUM 0", x.told(18), 5);
        // all that is tried, seen, written, told is no deed
        x.toGo();
        x.see(1);
        x.write(1);
        x.tear();
        x.seed(3);
        x.feed(32);
        due("no deeds of others", x.told(18), 5);
        says("3 UNDONE", "(.. wish(), habit() ..) since the text");
        x = new Saw("l1;p9 0 0 5 0;");
        due("a WISH without a PAIR", x.wish(0, 3), 9);
        due("a HABIT without a PAIR", x.habit(0, 3), 5);
        due("told(18)", x.told(18), 2);
        due("undo(1): STROKES", x.undo(1), 0);
        due("THE HABIT", x.person(0, 3), 5);
        due("THE WISH", x.person(0, 5), 3);
        due("undo(1)", x.undo(1), 0);
        due("THE WISH", x.person(0, 5), 9);
    }

    private static void deedsRefused() {
        says("3 UNDONE", "none that was refused");
        Saw x = Saw.of("l1;p20 0 0 5 0;p20 0 0 5 0;s9 2 1;", 0, 1);
        x.stroke(0);
        x.stroke(100);
        x.rest(0);
        x.rest(100);
        x.drift(0);
        x.drift(100);
        x.file();
        x.wish(0, 0);
        x.wish(2, 3);
        x.habit(0, 10);
        x.habit(2, 3);
        due("no deeds", x.told(18), 0);
        x.wedge();
        x.wedge();
        due("a WEDGE once", x.told(18), 1);
        x.stroke(1);
        x.stroke(1);
        x.rest(1);
        x.drift(1);
        due("THROUGH", x.told(18), 2);
        x.undo(3);
        x.undo(0);
        x.undo(31);
        due("undo() refused", x.told(18), 2);
        x = new Saw("l1;p20 0 0 5 0;");
        x.sides();
        x.oil();
        x.wedge();
        x.file();
        x.stroke(1);
        x.rest(1);
        x.drift(1);
        due("no PAIR", x.told(18), 0);
    }

    private static void deedsSince() {
        says("3 UNDONE", "since the text, a new log or IMAGE");
        String text = "l9;" + LET;
        Saw x = Saw.of(text, 0, 1);
        x.stroke(1);
        x.stroke(1);
        x.read(text);
        due("a text: told(18)", x.told(18), 0);
        due("a text: undo(1)", x.undo(1), NOT);
        x.log(0, 1);
        x.stroke(1);
        x.log(0, 1);
        due("a new log: undo(1)", x.undo(1), NOT);
        x.stroke(1);
        due("behind it: undo(1)", x.undo(1), 0);
        x.stroke(1);
        x.log(0, 0);
        due("a refused one: told(18)", x.told(18), 1);
        x.keep(2);
        due("a refused one: told(18)", x.told(18), 1);
        x.goBack(0);
        due("a refused one: told(18)", x.told(18), 1);
        x.keep(0);
        due("an IMAGE kept: undo(1)", x.undo(1), NOT);
        x.stroke(1);
        x.stroke(1);
        due("behind it: undo(2)", x.undo(2), 1);
        due("no further: undo(1)", x.undo(1), NOT);
        x.stroke(1);
        x.goBack(0);
        due("an IMAGE gone back to: undo(1)", x.undo(1), NOT);
        due("STROKES", x.told(7), 1);
        x.stroke(1);
        x.read("l0;");
        due("a text with a FAULT is none: undo(1)", x.undo(1), 1);
    }

    private static void deedsAtMost() {
        says("3 UNDONE", "(30 at most are kept)");
        for (int deeds = 29; deeds <= 31; deeds++) {
            Saw x = Saw.of("l9;" + LET, 0, 1);
            for (int i = 0; i < deeds; i++) {
                x.rest(1);
            }
            due("told(18) of " + deeds, x.told(18), Math.min(30, deeds));
            due("undo(30) of " + deeds, x.undo(30), deeds < 30 ? NOT : deeds - 30);
            due("told(18) then", x.told(18), deeds < 30 ? deeds : 0);
            due("undo(1) then", x.undo(1), deeds < 30 ? deeds - 1 : NOT);
        }
        // many more than once around, undone by parts
        Saw x = Saw.of("l9;" + LET, 0, 1);
        for (int i = 0; i < 95; i++) {
            x.rest(1);
        }
        due("undo(7)", x.undo(7), 88);
        due("told(18)", x.told(18), 23);
        for (int i = 0; i < 10; i++) {
            x.rest(1);
        }
        due("told(18)", x.told(18), 30);
        due("undo(29)", x.undo(29), 69);
        due("undo(2)", x.undo(2), NOT);
        due("undo(1)", x.undo(1), 68);
        due("undo(1)", x.undo(1), NOT);
    }

    private static void seedStays() {
        says("3 UNDONE", "THE SEED stays");
        Saw x = Saw.of("l9;" + LET, 0, 1);
        x.drift(1);
        due("undo(1)", x.undo(1), 0);
        due("THE SEED", x.seed(7), 12345);
        x.stroke(1);
        x.seed(8);
        x.undo(1);
        due("THE SEED", x.seed(0), 8);
    }

    /** One call of each that can be undone, and a new log. */
    private static void deed(Saw x, int which) {
        switch (which) {
            case 0: x.stroke(5); break;
            case 1: x.rest(2); break;
            case 2: x.sides(); break;
            case 3: x.wedge(); break;
            case 4: x.file(); break;
            case 5: x.wish(0, 2); break;
            case 6: x.habit(1, 9); break;
            case 7: x.oil(); break;
            case 8: x.drift(9); break;
            default: x.log(2, 0); break;
        }
    }

    /** In the midst of things: all that there is to be told is other than at first. */
    private static Saw busy() {
        Saw x = Saw.of(EVEN + "p9 7 5 3 1;p8 1 4 1 2;p7 3 3 3 0;s5 2 3;c0;", 0, 1);
        x.stroke(5);
        x.rest(2);
        x.wish(2, 3);
        x.seed(42);
        return x;
    }

    private static void undoneWholly() {
        says("3 UNDONE", "the latest deeds (each call of ..)");
        for (int which = 0; which < 9; which++) {
            Saw x = busy();
            String stood = x.work();
            deed(x, which);
            due("deed " + which + " changes something", x.work().equals(stood) ? 1 : 0, 0);
            x.undo(1);
            same("deed " + which + " undone", x.work(), stood);
            deed(x, (which + 3) % 9);
            deed(x, which);
            deed(x, which);
            // a second WEDGE is refused, a second like WISH, HABIT, OIL is no deed
            boolean once = which == 3 || which >= 5 && which <= 7;
            x.undo(once ? 2 : 3);
            same("deeds with " + which + " undone", x.work(), stood);
        }
        Saw x = busy();
        String[] stood = new String[9];
        for (int which = 0; which < 9; which++) {
            stood[which] = x.work();
            deed(x, which);
        }
        x.undo(4);
        same("four undone", x.work(), stood[5]);
        x.undo(5);
        same("nine undone", x.work(), stood[0]);
    }

    private static void undo() {
        says("Promise 18", "The n latest deeds (1 .. 30) are undone: STROKES. OUTSIDE, NOT: not so many");
        Saw x = new Saw();
        for (int n : new int[] {MIN, -1, 0, 31, MAX}) {
            due("undo(" + n + ")", x.undo(n), OUTSIDE);
        }
        due("undo(1)", x.undo(1), NOT);
        due("undo(30)", x.undo(30), NOT);
        x.read("l9;" + LET);
        x.log(0, 1);
        x.rest(5);
        x.rest(6);
        x.rest(7);
        due("undo(4)", x.undo(4), NOT);
        due("STROKES", x.told(7), 18);
        due("undo(1)", x.undo(1), 11);
        due("undo(3)", x.undo(3), NOT);
        due("undo(2)", x.undo(2), 0);
        due("undo(1)", x.undo(1), NOT);
        x.rest(1);
        due("undo(31)", x.undo(31), OUTSIDE);
        due("undo(0)", x.undo(0), OUTSIDE);
        due("undo(1)", x.undo(1), 0);
    }

    // ---- images

    private static void imagesKeep() {
        says("3 IMAGES", "0, 1 keep all of section 2, THE SEED");
        for (int which = 0; which <= 9; which++) {
            Saw x = busy();
            int i = which % 2;
            due("keep(" + i + ")", x.keep(i), 1);
            String stood = x.work();
            deed(x, which);
            due("deed " + which + " changes something", x.work().equals(stood) ? 1 : 0, 0);
            x.seed(17);
            due("goBack(" + i + ") behind deed " + which, x.goBack(i), 1);
            same("behind deed " + which, x.work(), stood);
            due("THE SEED", x.seed(17), 42);
            deed(x, which);
            deed(x, 9 - which);
            x.goBack(i);
            same("goBack(" + i + ") again", x.work(), stood);
        }
        Saw x = Saw.of("l9;" + LET, 0, 1);
        x.rest(1);
        x.keep(0);
        x.rest(2);
        x.keep(1);
        x.rest(4);
        due("goBack(0)", x.goBack(0), 1);
        due("STROKES of 0", x.told(7), 1);
        due("goBack(1)", x.goBack(1), 1);
        due("STROKES of 1", x.told(7), 3);
        x.rest(8);
        x.keep(0);
        x.goBack(1);
        due("STROKES of 1", x.told(7), 3);
        x.goBack(0);
        due("STROKES of 0, kept anew", x.told(7), 11);
        x = new Saw("l9;" + LET);
        x.keep(1);
        x.log(0, 1);
        x.goBack(1);
        due("no PAIR, as it was", x.told(3), NONE);
        due("no PAIR", x.stroke(1), NOT);
    }

    private static void imagesNotOfSection2() {
        says("3 IMAGES", "keep all of section 2, THE SEED (what was SEEN, THE BOOK, THE TEXT are none of it)");
        Saw x = Saw.of("l9;" + LET, 0, 1);
        x.see(1);
        x.write(1);
        x.feed(32);
        x.keep(0);
        x.see(2);
        x.write(2);
        x.write(3);
        x.feed(32);
        x.goBack(0);
        due("SEEN", x.told(16), 2);
        due("THE BOOK", x.told(17), 3);
        due("THE TEXT", x.told(2), 2);
        x.tear();
        x.goBack(0);
        due("SEEN", x.told(16), 0);
        due("THE BOOK", x.told(17), 0);
    }

    private static void keep() {
        says("Promise 35", "IMAGE i becomes what is so (nothing can be undone then): 1. UNKNOWN");
        Saw x = new Saw();
        for (int i : new int[] {MIN, -1, 2, MAX}) {
            due("keep(" + i + ")", x.keep(i), UNKNOWN);
        }
        due("goBack(0)", x.goBack(0), NOT);
        due("goBack(1)", x.goBack(1), NOT);
        due("no LAYERS: keep(0)", x.keep(0), 1);
        due("no LAYERS: keep(1)", x.keep(1), 1);
        x.read("l9;" + LET);
        x.log(0, 1);
        x.stroke(1);
        due("keep(2)", x.keep(2), UNKNOWN);
        due("that is no IMAGE: told(18)", x.told(18), 1);
        due("keep(1)", x.keep(1), 1);
        due("told(18)", x.told(18), 0);
        due("undo(1)", x.undo(1), NOT);
        due("goBack(0) was not kept", x.goBack(0), NOT);
    }

    private static void goBack() {
        says("Promise 36", "What is so becomes IMAGE i (nothing can be undone then): 1. UNKNOWN, NOT: it was not kept");
        Saw x = Saw.of("l9;" + LET, 0, 1);
        for (int i : new int[] {MIN, -1, 2, MAX}) {
            due("goBack(" + i + ")", x.goBack(i), UNKNOWN);
        }
        due("goBack(0)", x.goBack(0), NOT);
        due("goBack(1)", x.goBack(1), NOT);
        x.keep(0);
        due("goBack(1)", x.goBack(1), NOT);
        x.stroke(2);
        due("told(18)", x.told(18), 1);
        due("goBack(2)", x.goBack(2), UNKNOWN);
        due("told(18)", x.told(18), 1);
        due("goBack(0)", x.goBack(0), 1);
        due("told(18)", x.told(18), 0);
        due("undo(1)", x.undo(1), NOT);
        due("goBack(0) again", x.goBack(0), 1);
        x.read("l9;" + LET);
        due("behind a text", x.goBack(0), NOT);
    }
}
