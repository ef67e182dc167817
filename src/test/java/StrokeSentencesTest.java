/** The sentences that name a boundary: section 2 (depth, the pair and a stroke), promises 8 to 17. */
public final class StrokeSentencesTest extends Dues {
    /** TEETH 5 by WOOD 5: a CUT is its PULL. */
    private static final String EVEN = "l5,5,5,5,5,5,5,5,5,5,5,5;";
    private static final String LETS_10 = "p10 0 0 5 0;";

    public static void main(String[] args) {
        layerThatIsCut();
        through();
        pairAtFirst();
        turns();
        lesserOfForceAndWish();
        tiredTenth();
        notBelowNothing();
        answerInThePull();
        drags();
        pushes();
        buckles();
        gumTenth();
        closesHalf();
        closesFrom();
        cut();
        resin();
        tiredBounds();
        tiredWhenItBuckles();
        feels();
        answerBounds();
        nearerToNothing();
        askew();
        restOf();
        sidesChanged();
        oiled();
        wedgeIn();
        filed();
        log();
        stroke();
        rest();
        sides();
        oil();
        wedge();
        file();
        wish();
        habit();
        drift();
        close();
    }

    // ---- section 2: depth, the pair

    private static void layerThatIsCut() {
        says("2 DEPTH", "the LAYER that is cut is DEPTH / 100");
        atDepth(99, 20);
        atDepth(100, 2);
        atDepth(101, 2);
    }

    /** 80 by four, then to the DEPTH by one or two; WOOD 1 above 9, TEETH 1, PULL 20. */
    private static void atDepth(int depth, int cut) {
        Saw x = Saw.of("l1,9;p20 0 0 5 0;p20 0 0 5 0;s1 0 0;", 0, 1);
        x.stroke(4);
        if (depth == 100) {
            x.stroke(1);
        } else {
            x.wish(0, 19);
            x.stroke(1);
        }
        if (depth == 101) {
            x.wish(1, 2);
            x.stroke(1);
            x.wish(0, 20);
        }
        due("DEPTH", x.told(6), depth);
        due("the CUT at " + depth, x.stroke(1), cut);
    }

    private static void through() {
        says("2 DEPTH", "THROUGH, when DEPTH is 100 for each LAYER (it is no more then)");
        throughAt("l1;", 99, 0);
        throughAt("l1;", 100, 1);
        throughAt("l1;", 101, 1);
        throughAt("l1,1;", 199, 0);
        throughAt("l1,1;", 200, 1);
        throughAt("l1,1;", 201, 1);
    }

    /** By PULLS of 20, TEETH 1, WOOD 1, and what is left by the last ones. */
    private static void throughAt(String log, int sum, int through) {
        Saw x = Saw.of(log + "p20 0 0 5 0;p20 0 0 5 0;s1 0 0;", 0, 1);
        int last = sum == 101 || sum == 201 ? 2 : sum % 20;
        int ahead = sum - last;
        int at = 0;
        while (ahead - at > 20) {
            at += x.stroke(1);
        }
        if (ahead > at) {
            x.wish(0, ahead - at);
            x.wish(1, ahead - at);
            x.stroke(1);
        }
        if (last > 0) {
            x.wish(0, last);
            x.wish(1, last);
            due("the last CUT is told whole", x.stroke(1), last);
        }
        int most = log.equals("l1;") ? 100 : 200;
        due("DEPTH by " + sum, x.told(6), Math.min(sum, most));
        due("THROUGH by " + sum, x.told(15), through);
        due("a STROKE behind " + sum, x.stroke(1), through == 1 ? NOT : last);
    }

    private static void pairAtFirst() {
        says("2 DEPTH", "THE PAIR: a LEFT one, a RIGHT one (none at first). Each has a WISH (its FORCE at first), TIRED, ANSWER (0 at first)");
        Saw x = new Saw("l1;p7 0 0 5 0;p20 0 0 5 1;p1 0 0 5 2;");
        due("LEFT", x.told(3), NONE);
        due("RIGHT", x.told(4), NONE);
        int[] forces = {7, 20, 1};
        for (int p = 0; p < 3; p++) {
            due("WISH of " + p, x.person(p, 5), forces[p]);
            due("TIRED of " + p, x.person(p, 6), 0);
            due("ANSWER of " + p, x.person(p, 7), 0);
        }
        says("2 DEPTH", "STROKES of this log are counted; GUM is 0 at first");
        due("STROKES", x.told(7), 0);
        due("GUM", x.told(9), 0);
        x.log(0, 1);
        x.stroke(2);
        due("STROKES", x.told(7), 2);
        x.log(1, 0);
        due("STROKES of a new log", x.told(7), 0);
    }

    private static void turns() {
        says("2 A STROKE", "the LEFT one pulls first, then they by turns");
        Saw x = Saw.of(EVEN + "p3 0 0 5 0;p4 0 0 5 0;p5 0 0 5 0;", 2, 1);
        cuts("5 and 4", x, 5, 4, 5, 4);
        x = Saw.of(EVEN + "p3 0 0 5 0;p4 0 0 5 0;", 1, 0);
        cuts("4 and 3", x, 4, 3, 4, 3);
        x = Saw.of(EVEN + "p3 0 0 5 0;p4 0 0 5 0;", 0, 1);
        due("three at once", x.stroke(3), 3 + 4 + 3);
        due("then the other one", x.stroke(1), 4);
        // also when nothing is cut
        x = Saw.of("l9;p1 0 0 5 0;p9 0 0 5 0;s1 0 0;", 0, 1);
        cuts("0 and 1", x, 0, 1, 0, 1);
    }

    // ---- section 2: the pull

    private static void lesserOfForceAndWish() {
        says("2 PULL", "the lesser of FORCE and WISH");
        int[] wishes = {1, 9, 10, 11, 20};
        int[] pulls = {1, 9, 10, 10, 10};
        for (int i = 0; i < wishes.length; i++) {
            Saw x = Saw.of(EVEN + LETS_10 + LETS_10, 0, 1);
            x.wish(0, wishes[i]);
            cuts("WISH " + wishes[i] + ", FORCE 10", x, pulls[i], 10);
        }
    }

    private static void tiredTenth() {
        says("2 PULL", "less TIRED / 10 (0 at least)");
        // T 2: own turn 2 more, the other's 1 less: TIRED is 0, 1, 2, .. ahead of each one's turns
        Saw x = Saw.of(EVEN + "p10 0 2 5 0;p10 0 2 5 0;", 0, 1);
        for (int turn = 0; turn <= 41; turn++) {
            int pull = turn < 10 ? 10 : turn < 20 ? 9 : turn < 30 ? 8 : turn < 40 ? 7 : 6;
            if (turn % 10 == 9 || turn % 10 == 0 || turn % 10 == 1) {
                due("TIRED", x.person(0, 6), turn);
            }
            cuts("TIRED " + turn, x, pull, pull);
        }
    }

    private static void notBelowNothing() {
        says("2 PULL", "less TIRED / 10 (0 at least)");
        Saw x = Saw.of(EVEN + "p1 0 2 5 0;p1 0 2 5 0;", 0, 1);
        due("TIRED 0 .. 9, both 1", x.stroke(20), 20);
        cuts("TIRED 10: 1 less 1", x, 0, 0);
        due("TIRED 11 .. 19", x.stroke(18), 0);
        due("TIRED", x.person(0, 6), 20);
        cuts("TIRED 20: 1 less 2", x, 0, 0);
        due("DEPTH", x.told(6), 20);
        // below nothing, and half of it more
        x.habit(0, 7);
        x.habit(1, 7);
        cuts("pushed", x, 0, 0);
        due("DEPTH", x.told(6), 20);
    }

    private static void answerInThePull() {
        says("2 PULL", "the lesser of FORCE and WISH, and ANSWER");
        Saw x = Saw.of(EVEN + "p5 0 0 1 1;p5 0 0 1 2;", 0, 1);
        cuts("5 and 0, less 1; 5 less 0, less 1", x, 4, 4);
        cuts("5 and 1, less 1; 5 less 1, less 1", x, 5, 3);
        cuts("5 and 2, less 1; 5 less 2, less 1", x, 6, 2);
        cuts("5 and 3, less 1; 5 less 3, less 1", x, 7, 1);
        cuts("5 and 4, less 1; 5 less 4, less 1", x, 8, 0);
        cuts("5 and 5, less 1; 5 less 5, less 1", x, 9, 0);
        cuts("5 and 6, less 1; 5 less 6", x, 10, 0);
        says("2 PULL", "the lesser of FORCE and WISH, and ANSWER, less TIRED / 10 (0 at least)");
        // TIRED 10: 1 and 1 less 1; the ANSWER comes ahead of the bound
        x = Saw.of(EVEN + "p1 0 2 5 1;p1 0 2 5 0;", 0, 1);
        x.stroke(20);
        x.habit(1, 1);
        cuts("1, less 1, less 1", x, 0, 0);
        due("ANSWER", x.person(0, 7), 1);
        x.habit(1, 5);
        cuts("1 and 1, less 1", x, 1, 0);
    }

    private static void drags() {
        says("2 PULL", "it drags: PULL is so much less");
        int[] pulls = {10, 9, 8, 7, 6, 10};
        for (int habit = 0; habit <= 5; habit++) {
            cuts("HABIT " + habit, Saw.of(EVEN + LETS_10 + "p10 0 0 " + habit + " 0;", 0, 1), pulls[habit], 10);
            cuts("HABIT " + habit, Saw.of(EVEN + "p10 0 0 " + habit + " 0;" + LETS_10, 0, 1), 10, pulls[habit]);
        }
        cuts("3 less 4: nothing", Saw.of(EVEN + "p3 0 0 5 0;p9 0 0 4 0;", 0, 1), 0, 9);
        cuts("4 less 4: nothing", Saw.of(EVEN + "p4 0 0 5 0;p9 0 0 4 0;", 0, 1), 0, 9);
        cuts("5 less 4", Saw.of(EVEN + "p5 0 0 5 0;p9 0 0 4 0;", 0, 1), 1, 9);
    }

    private static void pushes() {
        says("2 PULL", "it pushes: by no more than LIMIT: PULL is half of PULL more (cut); by more: it BUCKLES: PULL is 0");
        for (int limit = 0; limit <= 9; limit++) {
            for (int push = 1; push <= 4; push++) {
                Saw x = Saw.of(EVEN + LETS_10 + "p10 0 0 " + (push + 5) + " 0;s5 " + limit + " 0;", 0, 1);
                cuts("LIMIT " + limit + ", pushes by " + push, x, push <= limit ? 15 : 0, 10);
            }
        }
        int[] pulls = {1, 3, 4, 6, 7, 9, 10, 12};
        for (int force = 1; force <= 8; force++) {
            Saw x = Saw.of(EVEN + "p" + force + " 0 0 5 0;p1 0 0 6 0;", 0, 1);
            cuts("FORCE " + force + ", half more, cut", x, pulls[force - 1], 1);
        }
    }

    private static void buckles() {
        says("2 PULL", "by more: it BUCKLES: PULL is 0, both are 2 more TIRED");
        Saw x = Saw.of(EVEN + "p9 4 3 5 0;p9 0 1 8 0;s5 3 1;", 0, 1);
        due("by LIMIT", x.stroke(1), 13);
        due("who pulled: T", x.person(0, 6), 3);
        due("the other one", x.person(1, 6), 0);
        x = Saw.of(EVEN + "p9 4 3 5 0;p9 0 1 9 0;s5 3 1;", 0, 1);
        due("by one more", x.stroke(1), 0);
        due("who pulled: T and 2", x.person(0, 6), 5);
        due("the other one: 2, and 1 less", x.person(1, 6), 1);
        due("STROKES", x.told(7), 1);
        due("GUM", x.told(9), 1);
        due("ASKEW", x.told(8), 0);
        due("it goes on: the other one", x.stroke(1), 9);
        due("T, and none of the 2", x.person(1, 6), 2);
        due("1 less", x.person(0, 6), 4);
    }

    private static void gumTenth() {
        says("2 PULL", "Then PULL is less by GUM / 10");
        Saw x = Saw.of(EVEN + "p5 0 0 5 0;p5 0 0 5 0;s5 2 1;", 0, 1);
        for (int gum = 0; gum < 62; gum++) {
            int pull = gum < 10 ? 5 : gum < 20 ? 4 : gum < 30 ? 3 : gum < 40 ? 2 : gum < 50 ? 1 : 0;
            due("GUM " + gum, x.stroke(1), pull);
        }
        due("GUM", x.told(9), 62);
        says("2 PULL", "0 at least");
        due("DEPTH by 5, 4, 3, 2, 1 ten times each, and never back", x.told(6), 150);
        says("2 PULL", "PULL is half of PULL more (cut) .. Then PULL is less by GUM / 10");
        // 5 and 2, less 1: not 4 and 2
        x = Saw.of(EVEN + "p5 0 0 7 0;p5 0 0 7 0;s5 2 5;", 0, 1);
        cuts("GUM 0, 5, 10, 15, 20", x, 7, 7, 6, 6, 5);
        // half of what GUM leaves
        x = Saw.of(EVEN + "p6 0 0 5 0;p6 0 0 5 0;s5 2 5;c0;", 0, 1);
        cuts("6 less GUM / 10, half", x, 3, 3, 2, 2, 2, 2, 1);
    }

    private static void closesHalf() {
        says("2 PULL", "half (cut), if the LAYER CLOSES and there is no WEDGE; 0 at least");
        int[] halves = {0, 1, 1, 2, 2, 3, 3, 4, 4, 5};
        for (int force = 1; force <= 10; force++) {
            String text = EVEN + "p" + force + " 0 0 5 0;p1 0 0 5 0;c0;";
            due("half of " + force, Saw.of(text, 0, 1).stroke(1), halves[force - 1]);
            Saw x = Saw.of(text, 0, 1);
            x.wedge();
            due("with a WEDGE " + force, x.stroke(1), force);
        }
        Saw x = Saw.of(EVEN + "p1 0 0 5 0;p1 0 0 5 0;s5 2 9;c0;", 0, 1);
        due("half of less than nothing", x.stroke(30), 0);
        due("DEPTH", x.told(6), 0);
    }

    private static void closesFrom() {
        says("1 THE YARD", "THE LOG CLOSES from LAYER N on");
        String people = "p20 0 0 5 0;p20 0 0 5 0;";
        cuts("c0", Saw.of(EVEN + people + "c0;", 0, 1), 10, 10);
        cuts("c1", Saw.of(EVEN + people + "c1;", 0, 1), 20, 20, 20, 20, 20, 10, 10);
        Saw x = Saw.of(EVEN + people + "c1;", 0, 1);
        x.stroke(4);
        x.wish(0, 19);
        cuts("99 is above it", x, 19, 20);
        due("DEPTH", x.told(6), 119);
        x.wish(0, 20);
        cuts("119 is in it", x, 10);
        x = Saw.of(EVEN + people + "c2;", 0, 1);
        due("two LAYERS", x.stroke(10), 200);
        cuts("the third and those below", x, 10, 10, 10, 10, 10, 10, 10, 10, 10, 10, 10);
    }

    // ---- section 2: the cut, gum, tired

    private static void cut() {
        says("2 CUT", "PULL times TEETH / WOOD of the LAYER");
        for (int wood = 1; wood <= 9; wood++) {
            Saw x = Saw.of("l" + wood + ",1;p7 0 0 5 0;p1 0 0 5 0;s5 0 0;", 0, 1);
            cuts("7 times 5 / " + wood, x, 35 / wood, 5 / wood);
        }
        cuts("8 times 1 / 9", Saw.of("l9;p8 0 0 5 0;p8 0 0 5 0;s1 0 0;", 0, 1), 0, 0);
        cuts("9 times 1 / 9", Saw.of("l9;p9 0 0 5 0;p9 0 0 5 0;s1 0 0;", 0, 1), 1, 1);
        cuts("17 and 18 times 1 / 9", Saw.of("l9;p17 0 0 5 0;p18 0 0 5 0;s1 0 0;", 0, 1), 1, 2);
        cuts("4 times 9 / 5", Saw.of("l5;p4 0 0 5 0;p4 0 0 5 0;s9 0 0;", 0, 1), 7, 7);
        says("2 CUT", "DEPTH is so much more (to THROUGH at most; the CUT is told whole all the same)");
        Saw x = Saw.of("l1;p11 0 0 5 0;p1 0 0 5 0;s9 0 0;", 0, 1);
        due("99", x.stroke(1), 99);
        due("9, of which 1 is left", x.stroke(1), 9);
        due("DEPTH", x.told(6), 100);
        x = Saw.of("l1;p20 0 0 5 0;p20 0 0 7 0;s9 2 0;", 0, 1);
        due("30 times 9", x.stroke(1), 270);
        due("DEPTH", x.told(6), 100);
        x = Saw.of("l1,9;p20 0 0 5 0;p20 0 0 5 0;s9 2 0;", 0, 1);
        due("180: by the WOOD where it begins", x.stroke(1), 180);
        due("DEPTH", x.told(6), 180);
    }

    private static void resin() {
        says("2 CUT", "GUM is R more");
        Saw x = Saw.of(EVEN + "p1 0 0 5 0;p1 0 0 5 0;s1 0 9;", 0, 1);
        due("no CUT", x.stroke(1), 0);
        due("GUM all the same", x.told(9), 9);
        x.stroke(99);
        due("GUM", x.told(9), 900);
        x = Saw.of(EVEN + "p1 0 0 5 0;p1 0 0 5 0;s5 0 0;", 0, 1);
        due("R 0", x.stroke(50), 50);
        due("GUM", x.told(9), 0);
        x = Saw.of(EVEN + "p1 0 0 5 0;p1 0 0 5 0;s5 0 1;", 0, 1);
        x.stroke(1);
        due("R 1", x.told(9), 1);
        // the GUM of a STROKE slows the next one alone
        x = Saw.of(EVEN + "p5 0 0 5 0;p5 0 0 5 0;s5 0 9;", 0, 1);
        cuts("GUM 0, 9, 18, 27", x, 5, 5, 4, 3);
    }

    private static void tiredBounds() {
        says("2 TIRED", "Who pulled is T more TIRED (999 at most), the other one 1 less (0 at least)");
        String log = "l9;p1 0 ";
        Saw x = Saw.of(log + "1 5 0;p1 0 0 5 0;s1 0 0;", 0, 1);
        x.stroke(1);
        due("T 1", x.person(0, 6), 1);
        due("the other one: 0 at least", x.person(1, 6), 0);
        x.stroke(1);
        due("1 less", x.person(0, 6), 0);
        x = Saw.of(log + "0 5 0;p1 0 2 5 0;s1 0 0;", 0, 1);
        x.stroke(2);
        due("T 2", x.person(1, 6), 2);
        x.stroke(1);
        due("1 less", x.person(1, 6), 1);
        x.stroke(1);
        due("T 2", x.person(1, 6), 3);
        due("T 0", x.person(0, 6), 0);
        // T 3: behind the k-th turn 2 k and 1, behind the other's 2 k
        x = Saw.of(log + "3 5 0;p1 0 3 5 0;s1 0 0;", 0, 1);
        x.strokes(2 * 498 - 1);
        due("behind the 498th", x.person(0, 6), 997);
        x.stroke(1);
        due("1 less", x.person(0, 6), 996);
        due("the other one's 498th", x.person(1, 6), 997);
        x.stroke(1);
        due("999", x.person(0, 6), 999);
        x.stroke(1);
        due("998", x.person(0, 6), 998);
        due("the other one", x.person(1, 6), 999);
        x.stroke(1);
        due("1001, bounded", x.person(0, 6), 999);
        due("the other one, 1 less", x.person(1, 6), 998);
        x.stroke(1);
        due("1 less", x.person(0, 6), 998);
        // T 2: behind the k-th turn k and 1
        x = Saw.of(log + "2 5 0;p1 0 0 5 0;s1 0 0;", 0, 1);
        x.strokes(2 * 997 - 1);
        due("998", x.person(0, 6), 998);
        x.stroke(2);
        due("997 and 2", x.person(0, 6), 999);
        x.stroke(2);
        due("998 and 2, bounded", x.person(0, 6), 999);
        // T 5: 4 k and 1
        x = Saw.of(log + "5 5 0;p1 0 0 5 0;s1 0 0;", 0, 1);
        x.strokes(2 * 249 - 1);
        due("997", x.person(0, 6), 997);
        x.stroke(2);
        due("996 and 5, bounded", x.person(0, 6), 999);
    }

    private static void tiredWhenItBuckles() {
        says("2 TIRED", "both are 2 more TIRED. .. Who pulled is T more TIRED (999 at most)");
        // T 5, both BUCKLE: 7 by each own turn, 1 by the other's; 8 k behind both turns, less 1 ahead of the other's last
        Saw x = Saw.of("l9;p1 0 5 9 0;p1 0 5 9 0;s1 0 0;", 0, 1);
        x.stroke(2);
        due("behind a turn of each", x.person(0, 6), 8);
        due("behind a turn of each", x.person(1, 6), 8);
        x.strokes(2 * 123);
        due("behind 124 turns of each", x.person(0, 6), 992);
        due("behind 124 turns of each", x.person(1, 6), 992);
        x.stroke(1);
        due("992 and 7", x.person(0, 6), 999);
        due("992 and 2, less 1", x.person(1, 6), 993);
        x.stroke(1);
        due("993 and 7, bounded", x.person(1, 6), 999);
        due("999 at most, and 1 less", x.person(0, 6), 998);
        x.stroke(1);
        due("998 and 7, bounded", x.person(0, 6), 999);
        due("999 at most, and 1 less", x.person(1, 6), 998);
    }

    // ---- section 2: feels, askew

    private static void feels() {
        says("2 FEELS", "who pulled, by BENT: if the other one dragged (by 1 or more): harder: ANSWER 1 more, softer: 1 less");
        for (int habit = 0; habit <= 9; habit++) {
            boolean dragged = habit >= 1 && habit <= 4;
            for (int bent = 0; bent <= 2; bent++) {
                Saw x = Saw.of(EVEN + "p9 0 0 5 " + bent + ";p9 0 0 " + habit + " 1;", 0, 1);
                x.stroke(1);
                int want = !dragged || bent == 0 ? 0 : bent == 1 ? 1 : -1;
                due("ANSWER, BENT " + bent + ", HABIT " + habit, x.person(0, 7), want);
                due("who did not pull", x.person(1, 7), 0);
            }
        }
    }

    private static void answerBounds() {
        says("2 FEELS", "(9, -9 at most)");
        Saw x = Saw.of("l9,9;p9 0 0 1 1;p9 0 0 1 2;s1 0 0;", 0, 1);
        x.stroke(16);
        due("8", x.person(0, 7), 8);
        due("-8", x.person(1, 7), -8);
        x.stroke(2);
        due("9", x.person(0, 7), 9);
        due("-9", x.person(1, 7), -9);
        x.stroke(2);
        due("9 at most", x.person(0, 7), 9);
        due("-9 at most", x.person(1, 7), -9);
        x.stroke(20);
        due("9 at most", x.person(0, 7), 9);
        due("-9 at most", x.person(1, 7), -9);
        x.habit(0, 5);
        x.habit(1, 5);
        x.stroke(2);
        due("8: it was no more than 9", x.person(0, 7), 8);
        due("-8", x.person(1, 7), -8);
    }

    private static void nearerToNothing() {
        says("2 FEELS", "else ANSWER is 1 nearer to 0");
        // 2 and -2, then HABITS that drag by nothing, let, push, BUCKLE
        for (int habit : new int[] {0, 5, 6, 9}) {
            Saw x = Saw.of("l9,9;p9 0 0 1 1;p9 0 0 1 2;s1 2 0;", 0, 1);
            x.stroke(4);
            due("harder", x.person(0, 7), 2);
            due("softer", x.person(1, 7), -2);
            x.habit(0, habit);
            x.habit(1, habit);
            for (int want : new int[] {1, 0, 0, 0}) {
                x.stroke(1);
                due("HABIT " + habit + ", harder", x.person(0, 7), want);
                x.stroke(1);
                due("HABIT " + habit + ", softer", x.person(1, 7), -want);
            }
        }
    }

    private static void askew() {
        says("2 ASKEW", "HEIGHT of the LEFT one less that of the RIGHT one comes to it at each STROKE with a CUT above 0");
        int[][] heights = {{9, 0, 9}, {0, 9, -9}, {5, 5, 0}, {5, 4, 1}, {4, 5, -1}};
        for (int[] each : heights) {
            Saw x = Saw.of(EVEN + "p5 " + each[0] + " 0 5 0;p5 " + each[1] + " 0 5 0;", 0, 1);
            x.stroke(1);
            due("by the LEFT one's pull", x.told(8), each[2]);
            x.stroke(1);
            due("by the RIGHT one's too", x.told(8), 2 * each[2]);
            x.sides();
            x.stroke(1);
            due("sides changed", x.told(8), each[2]);
            x.stroke(3);
            due("to the other way", x.told(8), -2 * each[2]);
        }
        Saw x = Saw.of("l9;p9 5 0 5 0;p8 2 0 5 0;s1 0 0;", 0, 1);
        due("a CUT of 1", x.stroke(1), 1);
        due("ASKEW", x.told(8), 3);
        due("a CUT of 0", x.stroke(1), 0);
        due("ASKEW", x.told(8), 3);
        due("a CUT of 1", x.stroke(1), 1);
        due("ASKEW", x.told(8), 6);
        x = Saw.of("l1;p20 5 0 5 0;p20 2 0 5 0;", 0, 1);
        x.stroke(1);
        due("the CUT to THROUGH, too", x.told(8), 3);
    }

    // ---- section 2: rest, sides, oil, wedge, file

    private static void restOf() {
        says("2 REST of n", "both are 3 n less TIRED (0 at least), n STROKES are counted (who pulls next stays)");
        for (int t = 0; t <= 5; t++) {
            Saw x = Saw.of(EVEN + "p9 0 " + t + " 5 0;p9 0 0 5 0;", 0, 1);
            x.stroke(1);
            due("REST of 1: STROKES", x.rest(1), 2);
            due("TIRED " + t + ", 3 less", x.person(0, 6), t == 4 ? 1 : t == 5 ? 2 : 0);
            due("0 at least", x.person(1, 6), 0);
            due("who pulls next", x.told(5), 1);
        }
        // T 2: k and 1 behind the k-th turn
        int[] turns = {4, 5, 6};
        for (int k : turns) {
            Saw x = Saw.of(EVEN + "p9 0 2 5 0;p9 0 0 5 0;", 0, 1);
            x.stroke(2 * k - 1);
            due("REST of 2: STROKES", x.rest(2), 2 * k + 1);
            due("TIRED " + (k + 1) + ", 6 less", x.person(0, 6), k == 6 ? 1 : 0);
            x = Saw.of(EVEN + "p9 0 0 5 0;p9 0 2 5 0;", 1, 0);
            x.sides();
            x.stroke(2 * k - 1);
            due("LEFT now is RIGHT: STROKES", x.rest(2), 2 * k + 1);
            due("RIGHT, TIRED " + (k + 1) + ", 6 less", x.person(1, 6), k == 6 ? 1 : 0);
        }
        for (int k : new int[] {295, 296, 297}) {
            Saw x = Saw.of("l9;p1 0 2 5 0;p1 0 0 5 0;s1 0 0;", 0, 1);
            x.strokes(2 * k - 1);
            due("TIRED", x.person(0, 6), k + 1);
            due("REST of 99: STROKES", x.rest(99), 2 * k - 1 + 99);
            due("TIRED " + (k + 1) + ", 297 less", x.person(0, 6), k == 297 ? 1 : 0);
        }
        Saw x = Saw.of(EVEN + "p9 0 5 5 1;p9 0 4 1 0;p3 0 5 5 0;s5 2 3;", 0, 1);
        x.stroke(2);
        x.rest(1);
        due("both: LEFT, 4 less 3", x.person(0, 6), 1);
        due("both: RIGHT, 4 less 3", x.person(1, 6), 1);
        due("ANSWER stays", x.person(0, 7), 1);
        due("GUM stays", x.told(9), 6);
    }

    private static void sidesChanged() {
        says("2 SIDES changed", "LEFT is RIGHT (who pulls next stays the same one)");
        Saw x = Saw.of(EVEN + "p9 0 0 5 0;p8 0 0 5 0;", 0, 1);
        due("who is LEFT", x.sides(), 1);
        due("LEFT", x.told(3), 1);
        due("RIGHT", x.told(4), 0);
        due("next", x.told(5), 0);
        due("0 pulls", x.stroke(1), 9);
        due("who is LEFT", x.sides(), 0);
        due("next", x.told(5), 1);
        due("1 pulls", x.stroke(1), 8);
        due("STROKES: none counted", x.told(7), 2);
    }

    private static void oiled() {
        says("2 OIL", "GUM is 0");
        Saw x = Saw.of(EVEN + "p5 0 0 5 0;p5 0 0 5 0;s5 2 9;", 0, 1);
        x.stroke(12);
        due("5 less 10", x.stroke(1), 0);
        due("GUM that there was", x.oil(), 117);
        due("GUM", x.told(9), 0);
        due("STROKES: none counted", x.told(7), 13);
        cuts("GUM 0, 9, 18", x, 5, 5, 4);
    }

    private static void wedgeIn() {
        says("2 A WEDGE in", "3 STROKES are counted");
        Saw x = Saw.of(EVEN + "p9 0 5 5 0;p9 0 0 5 0;s5 2 2;c0;", 0, 1);
        x.stroke(1);
        due("STROKES", x.wedge(), 4);
        due("DEPTH stays", x.told(6), 4);
        due("TIRED stays", x.person(0, 6), 5);
        due("GUM stays", x.told(9), 2);
        due("who pulls next stays", x.told(5), 1);
        due("it stays in", x.stroke(2), 9 + 9);
    }

    private static void filed() {
        says("2 A FILE", "TEETH are 1 more (9 at most), 20 STROKES are counted");
        Saw x = Saw.of(EVEN + "p9 0 5 5 0;p9 0 0 5 0;s7 2 2;", 0, 1);
        due("9 times 7 / 5", x.stroke(1), 12);
        due("TEETH", x.file(), 8);
        due("STROKES", x.told(7), 21);
        due("9 times 8 / 5", x.stroke(1), 14);
        due("TEETH", x.file(), 9);
        due("STROKES", x.told(7), 42);
        due("9 at most", x.file(), NOT);
        due("TEETH", x.told(11), 9);
        due("STROKES", x.told(7), 42);
        due("GUM: of two STROKES", x.told(9), 4);
    }

    // ---- promises 8 to 17

    private static void log() {
        says("Promise 8", "A new log of the same kind, by two: .. UNKNOWN");
        Saw x = new Saw();
        due("no PEOPLE, no LAYERS: log(0, 1)", x.log(0, 1), UNKNOWN);
        x.read("l1;p1 0 0 5 0;");
        due("one PERSON: log(0, 1)", x.log(0, 1), UNKNOWN);
        due("one twice: log(0, 0)", x.log(0, 0), UNKNOWN);
        x.read(EVEN + "p9 3 2 5 1;p8 1 2 1 0;p7 0 0 5 0;s5 2 3;c0;");
        int[][] unknown = {{-1, 0}, {0, -1}, {3, 0}, {0, 3}, {0, 0}, {2, 2}, {MIN, 0}, {0, MAX}, {-1, -1}};
        for (int[] each : unknown) {
            due("log(" + each[0] + ", " + each[1] + ")", x.log(each[0], each[1]), UNKNOWN);
        }
        due("no PAIR yet", x.told(3), NONE);
        due("log(2, 1)", x.log(2, 1), 2);
        due("log(1, 2)", x.log(1, 2), 1);
        says("Promise 8", "all as at first, the first one LEFT, the other one RIGHT (WISHES, HABITS, TEETH stay): the first one");
        due("log(0, 1)", x.log(0, 1), 0);
        x.wish(0, 7);
        x.wish(2, 3);
        x.habit(2, 9);
        x.stroke(3);
        x.sides();
        x.wedge();
        x.file();
        x.see(1);
        x.write(1);
        x.seed(8);
        due("TIRED there was", x.person(0, 6), 3);
        due("ANSWER there was", x.person(0, 7), 2);
        due("log(0, 1)", x.log(0, 1), 0);
        int[] want = {12, 3, 0, 0, 1, 0, 0, 0, 0, 0, 0, 6, 2, 3, 0, 0, 1, 1, 0};
        for (int what = 0; what < want.length; what++) {
            due("told(" + what + ")", x.told(what), want[what]);
        }
        due("TIRED", x.person(0, 6), 0);
        due("ANSWER", x.person(0, 7), 0);
        due("WISHES stay", x.person(0, 5), 7);
        due("WISHES stay", x.person(2, 5), 3);
        due("HABITS stay", x.person(2, 3), 9);
        due("THE SEED is not of the log", x.seed(0), 8);
        x.stroke(1);
        due("log(2, 1)", x.log(2, 1), 2);
        due("who is not of THE PAIR now: TIRED", x.person(0, 6), 0);
        due("who is not of THE PAIR now: ANSWER", x.person(0, 7), 0);
        x.stroke(99);
        x.stroke(99);
        due("behind THROUGH, too", x.log(1, 0), 1);
        due("THROUGH", x.told(15), 0);
    }

    private static void stroke() {
        says("Promise 9", "n STROKES (1 .. 99; till it is THROUGH): CUTS of all. OUTSIDE");
        String text = "l9,9;p9 0 0 5 0;p9 0 0 5 0;s1 0 0;";
        Saw x = Saw.of(text, 0, 1);
        for (int n : new int[] {MIN, -1, 0, 100, 101, MAX}) {
            due("stroke(" + n + ")", x.stroke(n), OUTSIDE);
        }
        due("stroke(1)", x.stroke(1), 1);
        due("stroke(2)", x.stroke(2), 2);
        due("stroke(98)", x.stroke(98), 98);
        due("stroke(99), 99 to THROUGH", x.stroke(99), 99);
        due("STROKES", x.told(7), 200);
        due("THROUGH", x.told(15), 1);
        x = Saw.of(text, 0, 1);
        x.stroke(99);
        x.stroke(3);
        due("stroke(99), 98 to THROUGH", x.stroke(99), 98);
        due("STROKES", x.told(7), 200);
        x = Saw.of(text, 0, 1);
        x.stroke(99);
        x.stroke(1);
        due("stroke(99), 100 to THROUGH", x.stroke(99), 99);
        due("not THROUGH", x.told(15), 0);
        due("stroke(99), 1 to THROUGH", x.stroke(99), 1);
        says("Promise 9", "NOT: no PAIR, it is THROUGH");
        due("THROUGH: stroke(1)", x.stroke(1), NOT);
        due("THROUGH: stroke(99)", x.stroke(99), NOT);
        due("a new log", x.log(0, 1), 0);
        due("stroke(1)", x.stroke(1), 1);
        due("no PAIR: stroke(1)", new Saw(text).stroke(1), NOT);
        due("no LAYERS: stroke(99)", new Saw().stroke(99), NOT);
    }

    private static void rest() {
        says("Promise 10", "A REST (1 .. 99): STROKES. OUTSIDE, NOT: no PAIR, it is THROUGH");
        Saw x = Saw.of("l1;p20 0 0 5 0;p20 0 0 5 0;s4 0 0;", 0, 1);
        for (int n : new int[] {MIN, -1, 0, 100, 101, MAX}) {
            due("rest(" + n + ")", x.rest(n), OUTSIDE);
        }
        due("rest(1)", x.rest(1), 1);
        due("rest(98)", x.rest(98), 99);
        due("rest(99)", x.rest(99), 198);
        due("80", x.stroke(1), 80);
        due("rest(1)", x.rest(1), 200);
        due("THROUGH by 80 more", x.stroke(1), 80);
        due("THROUGH: rest(1)", x.rest(1), NOT);
        due("STROKES", x.told(7), 201);
        due("no PAIR: rest(1)", new Saw("l1;").rest(1), NOT);
        due("no LAYERS: rest(1)", new Saw().rest(1), NOT);
    }

    private static void sides() {
        says("Promise 11", "SIDES are changed: who is LEFT. NOT: no PAIR");
        Saw x = new Saw("l1;p20 0 0 5 0;p20 0 0 5 0;p20 0 0 5 0;");
        due("no PAIR", x.sides(), NOT);
        x.log(2, 1);
        due("sides()", x.sides(), 1);
        due("sides()", x.sides(), 2);
        x.stroke(1);
        due("THROUGH", x.told(15), 1);
        due("sides(), THROUGH", x.sides(), 1);
        due("no LAYERS", new Saw().sides(), NOT);
    }

    private static void oil() {
        says("Promise 12", "OIL: GUM that there was. NOT: no PAIR");
        Saw x = new Saw("l1;p9 0 0 5 0;p20 0 0 5 0;s5 0 1;");
        due("no PAIR", x.oil(), NOT);
        x.log(0, 1);
        due("GUM 0", x.oil(), 0);
        x.stroke(1);
        due("GUM 1", x.oil(), 1);
        due("GUM 0", x.oil(), 0);
        x.stroke(1);
        due("THROUGH", x.told(15), 1);
        due("GUM 1, THROUGH", x.oil(), 1);
        due("no LAYERS", new Saw().oil(), NOT);
    }

    private static void wedge() {
        says("Promise 13", "A WEDGE is put in: STROKES. NOT: no PAIR, there is one");
        Saw x = new Saw("l1;p20 0 0 5 0;p20 0 0 5 0;");
        due("no PAIR", x.wedge(), NOT);
        x.log(0, 1);
        due("wedge()", x.wedge(), 3);
        due("there is one", x.wedge(), NOT);
        due("STROKES", x.told(7), 3);
        x.log(1, 0);
        due("a new log: there is none", x.told(10), 0);
        x.stroke(1);
        due("THROUGH: wedge()", x.wedge(), 4);
        due("THROUGH: there is one", x.wedge(), NOT);
        due("no LAYERS", new Saw().wedge(), NOT);
    }

    private static void file() {
        says("Promise 14", "A FILE: TEETH. NOT: no PAIR, they are 9");
        Saw x = new Saw("l1;p20 0 0 5 0;p20 0 0 5 0;s7 0 0;");
        due("no PAIR", x.file(), NOT);
        x.log(0, 1);
        due("7", x.file(), 8);
        due("8", x.file(), 9);
        due("9", x.file(), NOT);
        due("told(11)", x.told(11), 9);
        x = Saw.of("l1;p20 0 0 5 0;p20 0 0 5 0;s1 0 0;", 0, 1);
        for (int teeth = 2; teeth <= 9; teeth++) {
            due("file()", x.file(), teeth);
        }
        due("file()", x.file(), NOT);
        due("STROKES", x.told(7), 160);
        x = Saw.of("l1;p20 0 0 5 0;p20 0 0 5 0;", 0, 1);
        x.stroke(1);
        due("THROUGH: file()", x.file(), 6);
        due("no LAYERS", new Saw().file(), NOT);
    }

    private static void wish() {
        says("Promise 15", "A WISH (1 .. 20): what it was. UNKNOWN, OUTSIDE");
        Saw x = new Saw("l1;p10 0 0 5 0;p8 0 0 5 0;");
        for (int v : new int[] {MIN, -1, 0, 21, MAX}) {
            due("wish(0, " + v + ")", x.wish(0, v), OUTSIDE);
            due("wish(2, " + v + ")", x.wish(2, v), UNKNOWN);
        }
        for (int p : new int[] {MIN, -1, 2, MAX}) {
            due("wish(" + p + ", 5)", x.wish(p, 5), UNKNOWN);
        }
        due("wish(0, 1)", x.wish(0, 1), 10);
        due("wish(0, 2)", x.wish(0, 2), 1);
        due("wish(0, 19)", x.wish(0, 19), 2);
        due("wish(0, 20)", x.wish(0, 20), 19);
        due("wish(0, 20)", x.wish(0, 20), 20);
        due("WISH", x.person(0, 5), 20);
        due("wish(1, 8)", x.wish(1, 8), 8);
        due("WISH of the other one", x.person(1, 5), 8);
        due("no PEOPLE", new Saw("l1;").wish(0, 5), UNKNOWN);
    }

    private static void habit() {
        says("Promise 16", "A HABIT (0 .. 9): what it was. UNKNOWN, OUTSIDE");
        Saw x = new Saw("l1;p10 0 0 5 0;p8 0 0 3 0;");
        for (int v : new int[] {MIN, -1, 10, MAX}) {
            due("habit(0, " + v + ")", x.habit(0, v), OUTSIDE);
            due("habit(2, " + v + ")", x.habit(2, v), UNKNOWN);
        }
        for (int p : new int[] {MIN, -1, 2, MAX}) {
            due("habit(" + p + ", 5)", x.habit(p, 5), UNKNOWN);
        }
        due("habit(0, 0)", x.habit(0, 0), 5);
        due("habit(0, 1)", x.habit(0, 1), 0);
        due("habit(0, 8)", x.habit(0, 8), 1);
        due("habit(0, 9)", x.habit(0, 9), 8);
        due("habit(0, 9)", x.habit(0, 9), 9);
        due("HABIT", x.person(0, 3), 9);
        due("habit(1, 3)", x.habit(1, 3), 3);
        due("no PEOPLE", new Saw("l1;").habit(0, 5), UNKNOWN);
    }

    private static void drift() {
        says("Promise 17", "n turns BY DRAWS (1 .. 99): DEPTH. OUTSIDE, NOT: no PAIR, it is THROUGH");
        String text = "l9,9;p9 0 0 5 0;p9 0 0 5 0;s1 0 0;";
        Saw x = Saw.of(text, 0, 1);
        for (int n : new int[] {MIN, -1, 0, 100, 101, MAX}) {
            due("drift(" + n + ")", x.drift(n), OUTSIDE);
        }
        due("nothing drawn", x.seed(0), 0);
        for (int n : new int[] {1, 2, 98, 99}) {
            x = Saw.of(text, 0, 1);
            int strokes = 0;
            int rests = 0;
            long seed = 0;
            for (int i = 0; i < n; i++) {
                seed = (seed * 1103515245L + 12345L) % 2147483648L;
                long draw = seed / 65536 % 8;
                strokes += draw > 1 ? 1 : 0;
                rests += draw == 0 ? 1 : 0;
            }
            due("drift(" + n + "): each STROKE cuts 1", x.drift(n), strokes);
            due("STROKES and RESTS", x.told(7), strokes + rests);
            due("THE SEED", x.seed(0), (int) seed);
        }
        x = Saw.of("l1;p20 0 0 5 0;p20 0 0 5 0;", 0, 1);
        x.stroke(1);
        due("THROUGH: drift(1)", x.drift(1), NOT);
        due("nothing drawn", x.seed(0), 0);
        due("no PAIR: drift(1)", new Saw(text).drift(1), NOT);
        due("no LAYERS: drift(1)", new Saw().drift(1), NOT);
    }
}
