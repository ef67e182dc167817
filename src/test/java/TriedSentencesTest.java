/** The sentences that name a boundary: section 3, what is tried; promises 19 to 27. */
public final class TriedSentencesTest extends Dues {
    /** TEETH 5 by WOOD 5: a CUT is its PULL. */
    private static final String EVEN = "l5,5,5,5,5,5,5,5,5,5,5,5;";
    /** TEETH 1 by WOOD 9: 9 cut 1, 8 cut nothing. */
    private static final String SLOW = "p9 0 0 5 0;p9 0 0 5 0;s1 0 0;";

    public static void main(String[] args) {
        freshBegins();
        nothingChanges();
        toGoBounds();
        toGoBehindAStall();
        toGo();
        freshBounds();
        fresh();
        wishesBounds();
        wishesOfLikeOnes();
        wishesByTrying();
        wishes();
        quarrelBounds();
        quarrelThrough();
        quarrel();
        withWhomPeople();
        withWhomOfLikeOnes();
        withWhomLesserFirst();
        withWhom();
        changesBounds();
        changesEitherWay();
        changesLate();
        changesByTrying();
        changes();
        wedgeWithTheThree();
        wedgeLeast();
        wedgeAhead();
        wedgeNever();
        whenWedge();
        restsFewest();
        restsFirstRow();
        restsByTrying();
        whenRest();
        fileBounds();
        fileNever();
        worthFile();
        close();
    }

    private static String nines(int n) {
        return "l9" + ",9".repeat(n - 1) + ";";
    }

    // ---- fresh

    private static void freshBegins() {
        says("3 TRIED", "two told ones FRESH, who begin THE LOG: nobody TIRED");
        // 10 six times, 9 four times, 8: 104
        Saw x = Saw.of("l5;p10 0 5 5 0;p10 0 5 5 0;", 0, 1);
        due("FRESH", x.fresh(0, 1), 11);
        x.stroke(7);
        due("they are tired, the log is begun", x.fresh(0, 1), 11);
        due("LEFT is not the first one", x.fresh(1, 0), 11);
        says("3 TRIED", "FRESH .. WISH their FORCE");
        x.wish(0, 1);
        x.wish(1, 20);
        due("WISHES", x.fresh(0, 1), 11);
        says("3 TRIED", "FRESH .. ANSWER 0");
        x = Saw.of("l5;p10 0 0 5 1;p10 0 0 4 0;", 0, 1);
        x.stroke(5);
        due("ANSWER", x.person(0, 7), 3);
        x.habit(1, 0);
        due("ten by 10", x.fresh(0, 1), 10);
        says("3 TRIED", "FRESH .. GUM 0");
        // 10 twice (0, 9), 9 (18), 8 (27), 7, 6, 5, 4, 3, 2, 1, 1: 10 + 10 + 9 + .. + 1 = 65, never
        x = Saw.of("l5;p10 0 0 5 0;p10 0 0 5 0;s5 0 9;", 0, 1);
        due("never by so much GUM", x.fresh(0, 1), NONE);
        x = Saw.of("l5;p20 0 0 5 0;p20 0 0 5 0;s5 0 9;", 0, 1);
        // 20, 20, 19, 18, 17, 16: 110 behind 6
        due("FRESH", x.fresh(0, 1), 6);
        x.stroke(3);
        due("GUM", x.told(9), 27);
        due("with GUM", x.fresh(0, 1), 6);
        says("3 TRIED", "FRESH .. no WEDGE");
        x = Saw.of("l5;p10 0 0 5 0;p10 0 0 5 0;c0;", 0, 1);
        x.wedge();
        due("with a WEDGE", x.toGo(), 10);
        due("without one", x.fresh(0, 1), 20);
        says("3 TRIED", "FRESH .. TEETH, HABITS as now");
        x = Saw.of("l5;p10 0 0 5 0;p10 0 0 5 0;s4 2 0;", 0, 1);
        due("TEETH 4: thirteen by 8", x.fresh(0, 1), 13);
        x.file();
        due("TEETH 5: ten by 10", x.fresh(0, 1), 10);
        x.habit(0, 4);
        // 10 and 6 by turns: 96 behind 12
        due("one drags by 4", x.fresh(0, 1), 13);
        says("3 TRIED", "FRESH .. the first one is LEFT");
        x = new Saw("l1;p20 0 0 5 0;p1 0 0 5 0;");
        due("the first one pulls first: 100", x.fresh(0, 1), 1);
        due("the first one pulls first: 5, 100", x.fresh(1, 0), 2);
    }

    private static void nothingChanges() {
        says("3 TRIED", "nothing changes by it");
        Saw x = Saw.of("l5,2,9;p10 3 5 5 1;p9 0 4 1 2;p12 5 2 7 0;p8 4 1 3 1;s5 2 3;c1;", 0, 1);
        x.stroke(3);
        x.keep(0);
        x.stroke(4);
        x.see(10);
        x.write(5);
        x.seed(99);
        String was = x.all();
        x.toGo();
        x.fresh(2, 3);
        x.wishes(3, 2, 0);
        x.quarrel(1, 2);
        x.withWhom(0);
        same("the work", x.all(), was);
        x.changes(30, 10, 0);
        x.whenWedge(0);
        x.whenRest(10, 1);
        x.worthFile();
        x.habits(0, 2);
        x.end(-1);
        x.judge();
        same("the work", x.all(), was);
        due("the deed", x.undo(1), 3);
        x.stroke(1);
        due("the IMAGE", x.goBack(0), 1);
        due("the IMAGE", x.told(7), 3);
    }

    // ---- to go

    private static void toGoBounds() {
        says("3 TO GO", "how many STROKES till it is THROUGH (999 at most); NONE");
        Saw x = Saw.of(nines(10) + SLOW, 0, 1);
        due("1000", x.toGo(), NONE);
        x.stroke(1);
        due("999", x.toGo(), 999);
        x.stroke(1);
        due("998", x.toGo(), 998);
        x.strokes(997);
        due("1", x.toGo(), 1);
        x.stroke(1);
        due("THROUGH: 0", x.toGo(), 0);
        due("never", Saw.of("l9;p8 0 0 5 0;p8 0 0 5 0;s1 0 0;", 0, 1).toGo(), NONE);
        due("1 and 0 by turns: 500 pulls of the first", Saw.of(nines(5) + "p9 0 0 5 0;p8 0 0 5 0;s1 0 0;", 0, 1).toGo(), 999);
        due("0 and 1 by turns: 500 pulls of the other", Saw.of(nines(5) + "p9 0 0 5 0;p8 0 0 5 0;s1 0 0;", 1, 0).toGo(), NONE);
        // 90 and a last CUT by 11 each: what is told whole counts no more
        due("ten by 11", Saw.of("l5;p11 0 0 5 0;p11 0 0 5 0;", 0, 1).toGo(), 10);
        due("one too many", Saw.of("l1;p20 0 0 5 0;p20 0 0 5 0;s9 0 0;", 0, 1).toGo(), 1);
    }

    private static void toGoBehindAStall() {
        says("3 TO GO", "how many STROKES till it is THROUGH");
        // who pulls for nothing may do better by and by: less TIRED
        String tired = "l1;p3 0 0 9 0;p3 0 5 9 0;";
        for (int first = 0; first <= 1; first++) {
            Saw x = Saw.of(tired, first, 1 - first);
            x.stroke(30);
            x.habit(0, 5);
            x.habit(1, 5);
            due("TIRED", x.person(0, 6), 45);
            // 5 by TIRED 29 to 20, 10 by 19 to 15: from 45 on 31 turns, the other one cuts nothing
            due("less TIRED by and by", x.toGo(), first == 0 ? 61 : 60);
        }
        // it answers less soft: 0 by -9 to -5, then 1, 2, 3, 4, and 5 sixteen times
        for (int first = 0; first <= 1; first++) {
            Saw x = Saw.of("l5;p5 0 0 4 2;p1 0 0 1 0;", first, 1 - first);
            due("4, 3, 2, 1", x.stroke(18), 10);
            due("ANSWER", x.person(0, 7), -9);
            x.habit(1, 5);
            due("softer no more", x.toGo(), first == 0 ? 49 : 50);
        }
        // it answers harder: 1, and 1 more by each turn, less 4: 1, 1, 2, 2, then 3 thirty-two times
        Saw x = new Saw("l9;p1 0 0 5 1;p1 0 0 4 0;");
        due("harder by and by", x.fresh(0, 1), 81);
        due("harder by and by", x.fresh(1, 0), 82);
        // harder as can be: 1 and 9, less 4, times 1 / 9 is nothing
        due("never", Saw.of("l9;p1 0 0 4 1;p1 0 0 4 2;s1 0 0;", 1, 0).toGo(), NONE);
    }

    private static void toGo() {
        says("Promise 19", "TO GO; NONE. NOT: no PAIR");
        Saw x = new Saw();
        due("no LAYERS", x.toGo(), NOT);
        x.read("l5;p10 0 0 5 0;p10 0 0 5 0;");
        due("no PAIR", x.toGo(), NOT);
        x.log(0, 1);
        due("ten by 10", x.toGo(), 10);
        x.rest(9);
        due("a REST is no STROKE to come", x.toGo(), 10);
        x.wish(0, 5);
        // 5 and 10 by turns: 15 six times, 5, 10
        due("by WISHES", x.toGo(), 14);
    }

    private static void freshBounds() {
        says("3 FRESH of two", "likewise (999 at most); NONE");
        Saw x = new Saw(nines(5) + "p9 0 0 5 0;p8 0 0 5 0;p9 0 0 5 0;s1 0 0;");
        due("999", x.fresh(0, 1), 999);
        due("1000", x.fresh(1, 0), NONE);
        due("500", x.fresh(0, 2), 500);
        x = new Saw(nines(10) + SLOW);
        due("1000", x.fresh(0, 1), NONE);
    }

    private static void fresh() {
        says("Promise 20", "FRESH; NONE. UNKNOWN, NOT: no LAYERS");
        Saw x = new Saw();
        due("nobody", x.fresh(0, 1), UNKNOWN);
        x.read("l5;p10 0 0 5 0;p9 0 0 5 0;p8 0 0 5 0;");
        int[][] unknown = {{-1, 0}, {0, -1}, {3, 0}, {0, 3}, {0, 0}, {2, 2}, {MIN, 0}, {0, MAX}, {-1, -1}};
        for (int[] each : unknown) {
            due("fresh(" + each[0] + ", " + each[1] + ")", x.fresh(each[0], each[1]), UNKNOWN);
        }
        // 10 and 8: 90 behind ten, then 10
        due("fresh(0, 2), no PAIR", x.fresh(0, 2), 11);
        // 8 and 10: 90 behind ten, 98, 108
        due("fresh(2, 0), no PAIR", x.fresh(2, 0), 12);
    }

    // ---- wishes

    private static void wishesBounds() {
        says("3 WISHES", "(1 .. 20 both; in place of their FORCE) by which FRESH of two is fewest");
        Saw x = new Saw("l1;p20 0 0 5 0;p20 0 0 5 0;");
        due("one STROKE by 20 times 5", x.wishes(0, 1, 0), 1);
        due("19 are too few", x.wishes(0, 1, 1), 20);
        due("1 is enough of who never pulls", x.wishes(0, 1, 2), 1);
        x = new Saw("l1;p1 0 0 5 0;p20 0 0 4 0;");
        due("the other one's alone", x.wishes(0, 1, 0), 2);
        due("1 is enough of who cuts nothing", x.wishes(0, 1, 1), 1);
        due("19 are too few", x.wishes(0, 1, 2), 20);
        x = new Saw("l5;p1 0 0 5 0;p1 0 0 5 0;");
        due("FORCE 1: a WISH above it is like it", x.wishes(0, 1, 0), 100);
        due("1", x.wishes(0, 1, 1), 1);
        due("1", x.wishes(0, 1, 2), 1);
        says("3 WISHES", "NONE");
        x = new Saw(nines(10) + SLOW);
        for (int what = 0; what <= 2; what++) {
            due("1000 are too many", x.wishes(0, 1, what), NONE);
        }
        x = new Saw(nines(5) + "p9 0 0 5 0;p8 0 0 5 0;s1 0 0;");
        due("999 are not", x.wishes(0, 1, 0), 999);
        due("9", x.wishes(0, 1, 1), 9);
        due("1", x.wishes(0, 1, 2), 1);
        due("1000 are", x.wishes(1, 0, 0), NONE);
    }

    private static void wishesOfLikeOnes() {
        says("3 WISHES", "of like ones the first (the first one's lesser, then the other's)");
        // 100 by two: 20 PULL in all
        Saw x = new Saw("l1;p18 0 0 5 0;p9 0 0 5 0;");
        due("STROKES", x.wishes(0, 1, 0), 2);
        due("the first one's", x.wishes(0, 1, 1), 11);
        due("the other's", x.wishes(0, 1, 2), 9);
        due("the first one's", x.wishes(1, 0, 1), 2);
        due("the other's", x.wishes(1, 0, 2), 18);
        x = new Saw("l1;p19 0 0 5 0;p19 0 0 5 0;");
        due("STROKES", x.wishes(0, 1, 0), 2);
        due("the first one's lesser", x.wishes(0, 1, 1), 1);
        due("then the other's", x.wishes(0, 1, 2), 19);
        // three: the first one's twice; 20 in all with 1 and 18, 2 and 16, ..
        x = new Saw("l1;p9 0 0 5 0;p10 0 0 5 0;");
        due("STROKES", x.wishes(0, 1, 0), 3);
        due("the first one's", x.wishes(0, 1, 1), 5);
        due("the other's", x.wishes(0, 1, 2), 10);
    }

    private static void wishesByTrying() {
        says("3 WISHES", "by which FRESH of two is fewest; of like ones the first (the first one's lesser, then the other's)");
        byTryingWishes("l1,9;p12 0 0 5 0;p12 0 0 5 0;s9 0 0;");
        byTryingWishes("l3,9,2;p13 4 2 1 1;p17 0 1 2 2;s7 2 1;c2;");
        byTryingWishes("l4,1,8;p6 0 0 6 2;p20 0 3 3 0;s3 1 0;c0;");
    }

    /** By logs of their own: these forces are less than the wishes now and then, too. */
    private static void byTryingWishes(String text) {
        int fewest = NONE;
        int first = NONE;
        int other = NONE;
        for (int v = 1; v <= 20; v++) {
            for (int w = 1; w <= 20; w++) {
                Saw x = Saw.of(text, 0, 1);
                x.wish(0, v);
                x.wish(1, w);
                int strokes = x.toGo();
                if (strokes != NONE && (fewest == NONE || strokes < fewest)) {
                    fewest = strokes;
                    first = v;
                    other = w;
                }
            }
        }
        Saw x = new Saw(text);
        due("STROKES of '" + text + "'", x.wishes(0, 1, 0), fewest);
        due("the first one's of '" + text + "'", x.wishes(0, 1, 1), first);
        due("the other's of '" + text + "'", x.wishes(0, 1, 2), other);
    }

    private static void wishes() {
        says("Promise 21", "WISHES: what = 0 STROKES, 1 the first one's, 2 the other's; NONE. UNKNOWN, OUTSIDE, NOT: no LAYERS");
        Saw x = new Saw();
        due("nobody", x.wishes(0, 1, 0), UNKNOWN);
        due("nobody", x.wishes(0, 1, 3), UNKNOWN);
        x.read("l1;p20 0 0 5 0;p20 0 0 5 0;");
        for (int what : new int[] {MIN, -1, 3, MAX}) {
            due("wishes(0, 1, " + what + ")", x.wishes(0, 1, what), OUTSIDE);
            due("wishes(0, 2, " + what + ")", x.wishes(0, 2, what), UNKNOWN);
        }
        due("wishes(0, 0, 0)", x.wishes(0, 0, 0), UNKNOWN);
        due("wishes(-1, 0, 0)", x.wishes(-1, 0, 0), UNKNOWN);
        due("wishes(0, 2, 0)", x.wishes(0, 2, 0), UNKNOWN);
        due("wishes(1, 0, 0)", x.wishes(1, 0, 0), 1);
        due("wishes(1, 0, 1)", x.wishes(1, 0, 1), 20);
        due("wishes(1, 0, 2)", x.wishes(1, 0, 2), 1);
    }

    // ---- quarrel

    private static void quarrelBounds() {
        says("3 QUARREL", "the first STROKE of 99 (counted from 1) behind which an ANSWER is 9 or -9");
        // 9 by the 9th own pull: by turns that is the 17th STROKE, or the 18th; no other is possible
        Saw x = new Saw("l9,9;p9 0 0 1 1;p9 0 0 1 2;p9 0 0 5 0;p9 0 0 4 0;s1 0 0;");
        due("harder and softer", x.quarrel(0, 1), 17);
        due("softer and harder", x.quarrel(1, 0), 17);
        due("9, pulled first", x.quarrel(0, 3), 17);
        due("9, pulled second", x.quarrel(3, 0), 18);
        due("-9, pulled first", x.quarrel(1, 3), 17);
        due("-9, pulled second", x.quarrel(3, 1), 18);
        due("nobody drags who is bent", x.quarrel(0, 2), NONE);
        due("nobody is bent", x.quarrel(2, 3), NONE);
        x.log(0, 1);
        x.stroke(15);
        due("FRESH: ANSWER of now is of no account", x.quarrel(0, 1), 17);
        x.stroke(3);
        due("9 already", x.person(0, 7), 9);
        due("FRESH", x.quarrel(0, 1), 17);
        x.habit(0, 0);
        x.habit(1, 1);
        due("HABITS as now", x.quarrel(1, 0), 18);
    }

    private static void quarrelThrough() {
        says("3 QUARREL", "NONE (or THROUGH ahead of it)");
        // the harder one by 0 .. 7 (28 behind its 8th), the other one by 9: 100 behind the 16th
        due("THROUGH by the 16th", new Saw("l1;p1 0 0 1 1;p10 0 0 1 0;s1 0 0;").quarrel(0, 1), NONE);
        // by 0 .. 8 (36 behind its 9th), the other one by 8: 100 behind the 17th
        due("THROUGH by the 17th", new Saw("l1;p1 0 0 1 1;p9 0 0 1 0;s1 0 0;").quarrel(0, 1), 17);
        due("THROUGH by a later one", new Saw("l1;p1 0 0 1 1;p8 0 0 1 0;s1 0 0;").quarrel(0, 1), 17);
    }

    private static void quarrel() {
        says("Promise 22", "QUARREL; NONE. UNKNOWN, NOT: no LAYERS");
        Saw x = new Saw();
        due("nobody", x.quarrel(0, 1), UNKNOWN);
        x.read("l9;p9 0 0 1 1;p9 0 0 1 2;s1 0 0;");
        int[][] unknown = {{-1, 0}, {0, -1}, {2, 0}, {0, 2}, {0, 0}, {1, 1}, {MIN, 0}, {0, MAX}};
        for (int[] each : unknown) {
            due("quarrel(" + each[0] + ", " + each[1] + ")", x.quarrel(each[0], each[1]), UNKNOWN);
        }
        due("quarrel(1, 0)", x.quarrel(1, 0), 17);
    }

    // ---- with whom

    private static void withWhomPeople() {
        says("3 WITH WHOM", "NONE: not so many PEOPLE, or never");
        String log = "l1;";
        for (int people = 0; people <= 4; people++) {
            Saw x = new Saw(log + "p20 0 0 5 0;".repeat(people));
            due("STROKES of " + people, x.withWhom(0), people < 4 ? NONE : 1);
            due("with whom of " + people, x.withWhom(1), people < 4 ? NONE : 1);
        }
        // with 1: 0 and 1 never; with 2, 3: 999 at most
        Saw x = new Saw(nines(5) + "p9 0 0 5 0;p8 0 0 5 0;p8 0 0 5 0;p9 0 0 5 0;s1 0 0;");
        // 0 with 1 or 2: the other two by 0 and 1: 1000; 0 with 3: 500, 1 with 2 never
        due("STROKES", x.withWhom(0), NONE);
        due("with whom", x.withWhom(1), NONE);
        x = new Saw(nines(5) + "p9 0 0 5 0;p8 0 0 5 0;p9 0 0 5 0;p8 0 0 5 0;s1 0 0;");
        // 0 with 1: 999 and 999; 0 with 2: 500 and never; 0 with 3: 999 and 1000
        due("STROKES", x.withWhom(0), 999);
        due("with whom", x.withWhom(1), 1);
    }

    private static void withWhomOfLikeOnes() {
        says("3 WITH WHOM", "pairs by which the later one is THROUGH soonest");
        // 0 with 1: 5 and 2; 0 with 2: 4 and 2; 0 with 3: 2 and 5
        Saw x = new Saw("l1;p5 0 0 5 0;p4 0 0 5 0;p5 0 0 5 0;p19 0 0 5 0;");
        due("with whom", x.withWhom(1), 2);
        due("the later one's", x.withWhom(0), 4);
        says("3 WITH WHOM", "of like ones the sum");
        // 0 with 1: 2 and 2; 0 with 2: 1 and 2
        x = new Saw("l1;p20 0 0 0 0;p10 0 0 1 0;p11 0 0 5 0;p11 0 0 5 0;");
        due("with whom", x.withWhom(1), 2);
        due("the later one's", x.withWhom(0), 2);
        says("3 WITH WHOM", "of like ones the first (with whom 0 is: 1, 2, 3)");
        x = new Saw("l1;p5 0 0 5 0;p5 0 0 5 0;p5 0 0 5 0;p5 0 0 5 0;");
        due("all alike", x.withWhom(1), 1);
        due("all alike", x.withWhom(0), 4);
        // 0 with 1: 1 and 10; 0 with 2 or 3: 1 and 2
        x = new Saw("l1;p20 0 0 5 0;p18 0 0 5 0;p2 0 0 5 0;p2 0 0 5 0;");
        due("2 and 3 alike", x.withWhom(1), 2);
        due("2 and 3 alike", x.withWhom(0), 2);
        // 0 with 1: 10 and 2; 0 with 2: 6 and 2; 0 with 3: 2 and 5
        x = new Saw("l1;p1 0 0 5 0;p3 0 0 5 0;p6 0 0 5 0;p20 0 0 5 0;");
        due("the last of three", x.withWhom(1), 3);
        due("the last of three", x.withWhom(0), 5);
        // 0 with 1: 2, and never; 0 with 2 or 3: 3 and 3; and no more than three, though 0 alone were quick
        x = new Saw("l1;p20 0 0 4 0;p20 0 0 4 0;p1 0 0 4 0;p1 0 0 4 0;");
        due("2 and 3 alike", x.withWhom(1), 2);
        due("2 and 3 alike", x.withWhom(0), 3);
    }

    private static void withWhomLesserFirst() {
        says("3 WITH WHOM", "in a pair the lesser one pulls first");
        // 0 with 1: 1 and (25, 100) 2; 0 with 2: 1 and (25, 100) 2; 0 with 3: 1 and 4
        Saw x = new Saw("l1;p20 0 0 5 0;p5 0 0 5 0;p5 0 0 5 0;p20 0 0 5 0;");
        due("STROKES", x.withWhom(0), 2);
        due("with whom", x.withWhom(1), 1);
        // 0 with 1: 1 and 1; 0 with 2: 1 and (5, 5 ..) 20; 0 with 3: 1 and 2
        x = new Saw("l1;p20 0 0 5 0;p1 0 0 5 0;p20 0 0 5 0;p1 0 0 5 0;");
        due("STROKES", x.withWhom(0), 1);
        due("with whom", x.withWhom(1), 1);
        says("3 WITH WHOM", "each pair FRESH with its own log");
        x.log(1, 3);
        x.stroke(9);
        x.wish(0, 1);
        due("STROKES", x.withWhom(0), 1);
        due("with whom", x.withWhom(1), 1);
    }

    private static void withWhom() {
        says("Promise 23", "WITH WHOM: what = 0 STROKES, 1 with whom 0 is; NONE. OUTSIDE, NOT: no LAYERS");
        Saw x = new Saw();
        due("withWhom(0)", x.withWhom(0), NOT);
        due("withWhom(1)", x.withWhom(1), NOT);
        for (int what : new int[] {MIN, -1, 2, MAX}) {
            due("withWhom(" + what + "), no LAYERS", x.withWhom(what), OUTSIDE);
        }
        x.read("l1;");
        due("LAYERS, nobody", x.withWhom(0), NONE);
        for (int what : new int[] {MIN, -1, 2, MAX}) {
            due("withWhom(" + what + ")", x.withWhom(what), OUTSIDE);
        }
    }

    // ---- changes of sides

    private static void changesDue(Saw x, int n, int m, int many, int first) {
        due("changes(" + n + ", " + m + ", 0)", x.changes(n, m, 0), many);
        due("changes(" + n + ", " + m + ", 1)", x.changes(n, m, 1), first);
    }

    private static void changesBounds() {
        says("3 SIDES", "in n STROKES to come (1 .. 30 ..) the fewest changes so that ASKEW is never above m (0 .. 999)");
        Saw x = Saw.of(EVEN + "p9 7 0 5 0;p9 3 0 5 0;", 0, 1);
        changesDue(x, 1, 3, NONE, NONE);
        changesDue(x, 1, 4, 0, NONE);
        changesDue(x, 1, 5, 0, NONE);
        changesDue(x, 2, 7, 1, 1);
        changesDue(x, 2, 8, 0, NONE);
        changesDue(x, 2, 9, 0, NONE);
        changesDue(x, 2, 3, NONE, NONE);
        changesDue(x, 2, 0, NONE, NONE);
        changesDue(x, 30, 120, 0, NONE);
        changesDue(x, 30, 121, 0, NONE);
        changesDue(x, 30, 119, 1, 29);
        changesDue(x, 30, 116, 1, 29);
        changesDue(x, 30, 115, 1, 28);
        changesDue(x, 29, 116, 0, NONE);
        changesDue(x, 29, 115, 1, 28);
        changesDue(x, 30, 4, 15, 1);
        changesDue(x, 29, 4, 14, 1);
        changesDue(x, 28, 4, 14, 1);
        changesDue(x, 30, 3, NONE, NONE);
        changesDue(x, 30, 998, 0, NONE);
        changesDue(x, 30, 999, 0, NONE);
        x = Saw.of(EVEN + "p9 9 0 5 0;p9 0 0 5 0;", 0, 1);
        changesDue(x, 30, 8, NONE, NONE);
        changesDue(x, 30, 9, 15, 1);
        changesDue(x, 30, 270, 0, NONE);
        changesDue(x, 30, 269, 1, 29);
        x = Saw.of(EVEN + "p9 5 0 5 0;p9 5 0 5 0;", 0, 1);
        changesDue(x, 1, 0, 0, NONE);
        changesDue(x, 30, 0, 0, NONE);
        x = Saw.of(EVEN + "p9 7 0 5 0;p9 3 0 5 0;", 0, 1);
        x.stroke(1);
        due("ASKEW", x.told(8), 4);
        changesDue(x, 1, 0, 1, 0);
        changesDue(x, 1, 3, 1, 0);
        changesDue(x, 2, 3, NONE, NONE);
        changesDue(x, 2, 4, 1, 0);
        changesDue(x, 3, 4, 2, 0);
    }

    private static void changesEitherWay() {
        says("3 SIDES", "so that ASKEW is never above m either way behind a STROKE");
        Saw x = Saw.of(EVEN + "p9 3 0 5 0;p9 7 0 5 0;", 0, 1);
        changesDue(x, 1, 3, NONE, NONE);
        changesDue(x, 1, 4, 0, NONE);
        changesDue(x, 2, 7, 1, 1);
        changesDue(x, 30, 4, 15, 1);
        changesDue(x, 30, 119, 1, 29);
        // -12 now: behind each STROKE, not ahead of the first
        x.stroke(3);
        due("ASKEW", x.told(8), -12);
        changesDue(x, 1, 7, NONE, NONE);
        changesDue(x, 1, 8, 1, 0);
        changesDue(x, 1, 15, 1, 0);
        changesDue(x, 1, 16, 0, NONE);
        // -8, -4, 0, 4, 8, and not 12
        changesDue(x, 5, 8, 1, 0);
        changesDue(x, 6, 8, 2, 0);
        // -16, -12, -8, ..
        changesDue(x, 2, 16, 1, 1);
        x.sides();
        changesDue(x, 1, 8, 0, NONE);
        changesDue(x, 1, 7, NONE, NONE);
        changesDue(x, 6, 8, 1, 5);
        says("3 SIDES", "(.. as if each had a CUT)");
        x = Saw.of("l9;p1 7 0 5 0;p1 3 0 5 0;s1 0 0;", 0, 1);
        due("no CUT", x.stroke(9), 0);
        changesDue(x, 2, 7, 1, 1);
        x = Saw.of("l1;p20 7 0 5 0;p20 3 0 5 0;", 0, 1);
        x.stroke(1);
        due("THROUGH", x.told(15), 1);
        changesDue(x, 1, 7, 1, 0);
        changesDue(x, 1, 8, 0, NONE);
    }

    private static void changesLate() {
        says("3 SIDES", "the first STROKE (0 on) ahead of which they change, as late as can be");
        Saw x = Saw.of(EVEN + "p9 7 0 5 0;p9 3 0 5 0;", 0, 1);
        // 4, 8, 12 and down to -12 by 6: 9 STROKES at least ahead of the second change
        changesDue(x, 9, 12, 1, 3);
        changesDue(x, 10, 12, 2, 3);
        changesDue(x, 4, 12, 1, 3);
        changesDue(x, 3, 12, 0, NONE);
        x.stroke(3);
        // 12 now: ahead of the first
        changesDue(x, 1, 12, 1, 0);
        changesDue(x, 6, 12, 1, 0);
        changesDue(x, 7, 12, 2, 0);
        changesDue(x, 1, 16, 0, NONE);
        changesDue(x, 2, 16, 1, 1);
    }

    private static void changesByTrying() {
        says("3 SIDES", "the fewest changes .. the first STROKE (0 on) ahead of which they change, as late as can be; NONE");
        for (int strokes = 0; strokes <= 4; strokes += 2) {
            for (int height = 0; height <= 4; height++) {
                Saw x = Saw.of(EVEN + "p9 " + height + " 0 5 0;p9 2 0 5 0;", 0, 1);
                if (strokes > 0) {
                    x.stroke(strokes);
                }
                for (int n = 1; n <= 7; n += 2) {
                    for (int m = 0; m <= 9; m += 3) {
                        int[] wants = rowsOfChanges(strokes * (height - 2), height - 2, n, m);
                        changesDue(x, n, m, wants[0], wants[1]);
                    }
                }
            }
        }
    }

    private static int[] rowsOfChanges(int askew, int lean, int n, int m) {
        int fewest = NONE;
        int latest = NONE;
        for (int set = 0; set < 1 << n; set++) {
            int many = Integer.bitCount(set);
            int first = set == 0 ? NONE : Integer.numberOfTrailingZeros(set);
            int at = askew;
            int side = 1;
            boolean good = true;
            for (int i = 0; i < n; i++) {
                side = (set >> i & 1) == 1 ? -side : side;
                at += side * lean;
                good &= at <= m && at >= -m;
            }
            if (good && (fewest == NONE || many < fewest || many == fewest && first > latest)) {
                fewest = many;
                latest = first;
            }
        }
        return new int[] {fewest, latest};
    }

    private static void changes() {
        says("Promise 24", "SIDES: what = 0 how many, 1 the first STROKE; NONE (also: no change). OUTSIDE, NOT: no PAIR");
        Saw x = new Saw();
        due("no PAIR", x.changes(1, 0, 0), NOT);
        due("no PAIR, 31", x.changes(31, 0, 0), OUTSIDE);
        x.read(EVEN + "p9 7 0 5 0;p9 3 0 5 0;");
        due("no PAIR", x.changes(30, 999, 1), NOT);
        x.log(0, 1);
        for (int n : new int[] {MIN, -1, 0, 31, MAX}) {
            due("changes(" + n + ", 0, 0)", x.changes(n, 0, 0), OUTSIDE);
        }
        for (int m : new int[] {MIN, -1, 1000, MAX}) {
            due("changes(1, " + m + ", 0)", x.changes(1, m, 0), OUTSIDE);
        }
        for (int what : new int[] {MIN, -1, 2, MAX}) {
            due("changes(1, 0, " + what + ")", x.changes(1, 0, what), OUTSIDE);
        }
        changesDue(x, 1, 0, NONE, NONE);
        changesDue(x, 1, 999, 0, NONE);
        changesDue(x, 30, 999, 0, NONE);
    }

    // ---- when to wedge

    private static void wedgeDue(String what, Saw x, int ahead, int strokes) {
        due(what + ": whenWedge(0)", x.whenWedge(0), ahead);
        due(what + ": whenWedge(1)", x.whenWedge(1), strokes);
    }

    private static void wedgeWithTheThree() {
        says("3 WEDGE", "so that TO GO is fewest (with the 3 ..)");
        // 25 four times, then 12: 9 STROKES; by a WEDGE 4
        Saw x = Saw.of("l2,2;p10 0 0 5 0;p10 0 0 5 0;c1;", 0, 1);
        due("without it", x.toGo(), 13);
        wedgeDue("13, or 8 and 3", x, 0, 11);
        x.stroke(5);
        due("without it", x.toGo(), 8);
        wedgeDue("8, or 4 and 3", x, 0, 7);
        says("3 WEDGE", "NONE: without it is no more");
        x.stroke(1);
        due("without it", x.toGo(), 7);
        wedgeDue("7, or 4 and 3", x, NONE, NONE);
        x.stroke(1);
        due("without it", x.toGo(), 6);
        wedgeDue("6, or 3 and 3", x, NONE, NONE);
        x.stroke(98);
        wedgeDue("THROUGH", x, NONE, NONE);
        says("3 WEDGE", "NONE: .. (or there is one, or never)");
        x = Saw.of("l2,2;p10 0 0 5 0;p10 0 0 5 0;c1;", 0, 1);
        x.wedge();
        wedgeDue("there is one", x, NONE, NONE);
        due("undone", x.undo(1), 0);
        wedgeDue("there is none", x, 0, 11);
        wedgeDue("never closes", Saw.of("l2,2;p10 0 0 5 0;p10 0 0 5 0;c2;", 0, 1), NONE, NONE);
    }

    private static void wedgeLeast() {
        says("3 WEDGE", "of like ones the least");
        Saw x = Saw.of("l2,2;p10 0 0 5 0;p10 0 0 5 0;c1;", 0, 1);
        due("behind 0", strokesWithWedge(x, 0), 11);
        due("behind 4 as well", strokesWithWedge(Saw.of("l2,2;p10 0 0 5 0;p10 0 0 5 0;c1;", 0, 1), 4), 11);
        wedgeDue("ahead of 0, 1, 2, 3, 4 alike", Saw.of("l2,2;p10 0 0 5 0;p10 0 0 5 0;c1;", 0, 1), 0, 11);
        byTryingWedge("l2,2;p10 0 0 5 0;p10 0 0 5 0;c1;", 0);
        byTryingWedge("l2,2;p10 0 0 5 0;p10 0 0 5 0;c1;", 3);
        byTryingWedge("l9,1,9,1,9;p20 0 0 9 0;p16 0 0 7 1;s5 3 0;c2;", 19);
    }

    private static int strokesWithWedge(Saw x, int k) {
        x.strokes(k);
        x.wedge();
        return x.toGo() + x.told(7);
    }

    private static void wedgeAhead() {
        says("3 WEDGE", "ahead of which STROKE to come (0 .. 99; not THROUGH yet)");
        String first = "l8,1,9,9;p5 0 4 5 2;p4 0 0 3 1;s5 2 0;c1;";
        String second = "l5,9,2,8,9;p1 0 4 0 2;p5 0 0 8 2;s4 4 0;c2;";
        due("98", byTryingWedge(first, 4), 98);
        due("99", byTryingWedge(first, 3), 99);
        due("100 would be fewer, and is too many", byTryingWedge(first, 2), 0);
        due("98", byTryingWedge(second, 54), 98);
        due("99", byTryingWedge(second, 53), 99);
        due("100 would be fewer, and is too many", byTryingWedge(second, 52), 0);
        Saw x = Saw.of(first, 0, 1);
        x.strokes(102);
        x.wedge();
        due("by 100 it would be fewer", x.toGo() + 100 + 3, 303);
        x = Saw.of(first, 0, 1);
        x.strokes(2);
        wedgeDue("by 0", x, 0, 311);
        // 5 a STROKE by c0 alone: THROUGH behind 20, with a WEDGE behind 10
        x = Saw.of("l1;p2 0 0 5 0;p2 0 0 5 0;c0;", 0, 1);
        x.stroke(13);
        due("without it", x.toGo(), 7);
        wedgeDue("7, or 4 and 3", x, NONE, NONE);
    }

    /** By logs of their own: ahead of which, of 0 to 99. */
    private static int byTryingWedge(String text, int strokes) {
        Saw now = Saw.of(text, 0, 1);
        now.strokes(strokes);
        int without = now.toGo();
        int fewest = without == NONE ? MAX : without;
        int best = NONE;
        for (int k = 0; k <= 99; k++) {
            Saw x = Saw.of(text, 0, 1);
            x.strokes(strokes + k);
            if (x.told(15) == 1) {
                break;
            }
            x.wedge();
            int rest = x.toGo();
            if (rest != NONE && k + rest <= 999 && k + rest + 3 < fewest) {
                fewest = k + rest + 3;
                best = k;
            }
        }
        wedgeDue("'" + text + "' behind " + strokes, now, best, best == NONE ? NONE : fewest);
        return best;
    }

    private static void wedgeNever() {
        says("3 WEDGE", "never is more than any");
        // PULL 1 halved is 0; 5 a STROKE with a WEDGE
        Saw x = Saw.of("l1;p1 0 0 5 0;p1 0 0 5 0;c0;", 0, 1);
        due("without it never", x.toGo(), NONE);
        wedgeDue("20 and 3", x, 0, 23);
        x = Saw.of("l9;p1 0 0 5 0;p1 0 0 5 0;s1 0 0;c0;", 0, 1);
        wedgeDue("never, never", x, NONE, NONE);
        // 999 STROKES to come, and the 3; 1000 are never
        String text = nines(5) + "p9 0 0 5 0;p8 0 0 5 0;s1 0 0;c0;";
        wedgeDue("999 and 3", Saw.of(text, 0, 1), 0, 1002);
        wedgeDue("1000", Saw.of(text, 1, 0), NONE, NONE);
        // 1000 all the same when some of them are ahead of the WEDGE
        text = nines(5) + "p9 0 0 5 0;p8 0 0 5 0;s1 0 0;c4;";
        wedgeDue("999 and 3", Saw.of(text, 0, 1), 0, 1002);
        wedgeDue("1000, some ahead of it", Saw.of(text, 1, 0), NONE, NONE);
    }

    private static void whenWedge() {
        says("Promise 25", "WEDGE: what = 0 ahead of which, 1 STROKES then; NONE. OUTSIDE, NOT: no PAIR");
        Saw x = new Saw();
        due("no PAIR", x.whenWedge(0), NOT);
        x.read("l2,2;p10 0 0 5 0;p10 0 0 5 0;c1;");
        due("no PAIR", x.whenWedge(1), NOT);
        for (int what : new int[] {MIN, -1, 2, MAX}) {
            due("no PAIR: whenWedge(" + what + ")", x.whenWedge(what), OUTSIDE);
        }
        x.log(0, 1);
        for (int what : new int[] {MIN, -1, 2, MAX}) {
            due("whenWedge(" + what + ")", x.whenWedge(what), OUTSIDE);
        }
        wedgeDue("a PAIR", x, 0, 11);
    }

    // ---- when to rest

    private static void restsDue(String what, Saw x, int n, int depth, int set) {
        due(what + ": whenRest(" + n + ", 0)", x.whenRest(n, 0), depth);
        due(what + ": whenRest(" + n + ", 1)", x.whenRest(n, 1), set);
    }

    private static void restsFewest() {
        says("3 RESTS", "in n turns to come (1 .. 10): .. DEPTH as great as can be behind them; of like ones the fewest RESTS");
        // T 0, both BUCKLE: 3 more TIRED by two STROKES; then they let
        Saw x = Saw.of(EVEN + "p1 0 0 9 0;p1 0 0 9 0;", 0, 1);
        due("no CUT", x.stroke(8), 0);
        due("TIRED", x.person(0, 6), 12);
        due("TIRED", x.person(1, 6), 12);
        x.habit(0, 5);
        x.habit(1, 5);
        // 1 less 1; behind a REST 1 less 0
        restsDue("nothing by either", x, 1, 0, 0);
        restsDue("a REST, 1", x, 2, 1, 1);
        restsDue("a REST, 1, 1", x, 3, 2, 1);
        restsDue("a REST, 1 nine times", x, 10, 9, 1);
        x.rest(1);
        restsDue("TIRED 9: no REST", x, 1, 1, 0);
        restsDue("TIRED 9: no REST", x, 10, 10, 0);
        x = Saw.of(EVEN + "p1 0 0 9 0;p1 0 0 9 0;", 0, 1);
        x.stroke(98);
        x.habit(0, 5);
        x.habit(1, 5);
        due("TIRED", x.person(0, 6), 147);
        restsDue("nothing helps", x, 10, 0, 0);
        says("3 RESTS", "DEPTH as great as can be");
        x = Saw.of("l1;p20 0 0 5 0;p20 0 0 5 0;s4 0 0;", 0, 1);
        restsDue("80", x, 1, 80, 0);
        restsDue("THROUGH", x, 2, 100, 0);
        restsDue("THROUGH ahead of the last", x, 10, 100, 0);
        x.stroke(2);
        restsDue("THROUGH now", x, 1, 100, 0);
        restsDue("THROUGH now", x, 10, 100, 0);
    }

    private static void restsFirstRow() {
        says("3 RESTS", "then the first row (a STROKE ahead of a REST, turn by turn)");
        // TIRED 0, 4, 8, 12 ahead of each one's turns: 1 six times, then 0; by a REST two more
        Saw x = Saw.of(EVEN + "p1 0 5 5 0;p1 0 5 5 0;", 0, 1);
        restsDue("six by 1", x, 6, 6, 0);
        restsDue("six by 1, of like ones no REST", x, 7, 6, 0);
        restsDue("seven by 1: a REST at 1 to 6", x, 8, 7, 64);
        restsDue("eight by 1", x, 9, 8, 64);
        restsDue("eight by 1", x, 10, 8, 64);
        x.stroke(6);
        restsDue("at once", x, 2, 7, 1);
    }

    private static void restsByTrying() {
        says("3 RESTS", "a STROKE or a REST of 1 each .. turns of REST (a SET)");
        byTryingRests("l6,9,9,9,9,9,9,9;p4 0 5 7 1;p9 0 4 2 2;s2 5 0;c6;", 54, 6);
        byTryingRests("l1,1,1;p3 0 5 5 0;p1 0 5 5 0;s9 0 0;", 13, 6);
        byTryingRests("l2,3,1;p4 0 5 9 0;p6 0 5 9 0;s9 0 0;", 31, 5);
        byTryingRests("l9,9;p20 0 5 8 1;p20 0 5 3 2;s9 9 0;", 9, 7);
    }

    private static void byTryingRests(String text, int strokes, int n) {
        int best = NONE;
        int leastRests = 0;
        String first = "";
        int bestSet = 0;
        for (int set = 0; set < 1 << n; set++) {
            Saw x = Saw.of(text, 0, 1);
            x.strokes(strokes);
            StringBuilder row = new StringBuilder();
            for (int turn = 0; turn < n; turn++) {
                boolean rests = (set >> turn & 1) == 1;
                row.append(rests ? '1' : '0');
                if (rests) {
                    x.rest(1);
                } else {
                    x.stroke(1);
                }
            }
            int depth = x.told(6);
            int rests = Integer.bitCount(set);
            boolean like = depth == best && rests == leastRests;
            if (depth > best || depth == best && rests < leastRests || like && row.toString().compareTo(first) < 0) {
                best = depth;
                leastRests = rests;
                first = row.toString();
                bestSet = set;
            }
        }
        Saw x = Saw.of(text, 0, 1);
        x.strokes(strokes);
        restsDue("'" + text + "'", x, n, best, bestSet);
    }

    private static void whenRest() {
        says("Promise 26", "RESTS: what = 0 DEPTH, 1 the SET. OUTSIDE, NOT: no PAIR");
        Saw x = new Saw();
        due("no PAIR", x.whenRest(1, 0), NOT);
        due("no PAIR, 0", x.whenRest(0, 0), OUTSIDE);
        x.read(EVEN + "p1 0 5 5 0;p1 0 5 5 0;");
        due("no PAIR", x.whenRest(10, 1), NOT);
        x.log(0, 1);
        for (int n : new int[] {MIN, -1, 0, 11, MAX}) {
            due("whenRest(" + n + ", 0)", x.whenRest(n, 0), OUTSIDE);
        }
        for (int what : new int[] {MIN, -1, 2, MAX}) {
            due("whenRest(1, " + what + ")", x.whenRest(1, what), OUTSIDE);
        }
        restsDue("a PAIR", x, 1, 1, 0);
        restsDue("a PAIR", x, 2, 2, 0);
        restsDue("a PAIR", x, 9, 8, 64);
        restsDue("a PAIR", x, 10, 8, 64);
    }

    // ---- a file

    /** PULL 9 by WOOD 9: a CUT is TEETH. */
    private static Saw teeth(int layers, int teeth) {
        return Saw.of(nines(layers) + "p9 0 0 5 0;p9 0 0 5 0;s" + teeth + " 0 0;", 0, 1);
    }

    private static void fileBounds() {
        says("3 FILE", "by how much TO GO is less (with the 20), if they file now (.. below 0: it is more)");
        due("75, or 60 and 20", teeth(3, 4).worthFile(), -5);
        due("100, or 80 and 20", teeth(4, 4).worthFile(), 0);
        due("125, or 100 and 20", teeth(5, 4).worthFile(), 5);
        Saw x = teeth(1, 1);
        x.stroke(99);
        due("1, or 1 and 20", x.worthFile(), -20);
        x.stroke(1);
        due("THROUGH: 0, or 0 and 20", x.worthFile(), -20);
        says("3 FILE", "TEETH are 9 at most");
        due("7: 143, or 125 and 20", teeth(10, 7).worthFile(), -2);
        due("8: 125, or 112 and 20", teeth(10, 8).worthFile(), 125 - 112 - 20);
        due("9: 112, or 112 and 20", teeth(10, 9).worthFile(), -20);
        x = teeth(10, 8);
        x.file();
        due("filed to 9", x.worthFile(), -20);
    }

    private static void fileNever() {
        says("3 FILE", "(never THROUGH counts as 1000 ..)");
        Saw x = teeth(10, 1);
        due("1000: never, or 500 and 20", x.worthFile(), 1000 - 500 - 20);
        x.stroke(1);
        due("999, or 500 and 20", x.worthFile(), 999 - 500 - 20);
        x.stroke(1);
        due("998, or 499 and 20", x.worthFile(), 998 - 499 - 20);
        due("never, or never and 20", Saw.of("l9;p1 0 0 5 0;p1 0 0 5 0;s1 0 0;", 0, 1).worthFile(), -20);
        due("never, or 100 and 20", Saw.of("l9;p1 0 0 5 0;p1 0 0 5 0;s8 0 0;", 0, 1).worthFile(), 1000 - 100 - 20);
        // 1 and 0 by turns with TEETH 9: 500 pulls of the first one by the 999th STROKE
        String text = nines(5) + "p1 0 0 5 0;p1 0 0 4 0;s8 0 0;";
        due("never, or 999 and 20", Saw.of(text, 1, 0).worthFile(), 1000 - 999 - 20);
        due("never, or 1000 and 20", Saw.of(text, 0, 1).worthFile(), -20);
    }

    private static void worthFile() {
        says("Promise 27", "FILE. NOT: no PAIR");
        Saw x = new Saw();
        due("no PAIR", x.worthFile(), NOT);
        x.read("l1;p20 0 0 5 0;p20 0 0 5 0;");
        due("no PAIR", x.worthFile(), NOT);
        x.log(0, 1);
        due("1, or 1 and 20", x.worthFile(), -20);
        due("TEETH are as they were", x.told(11), 5);
        due("no STROKES counted", x.told(7), 0);
    }
}
