/** The sentences on refusals: which comes first where several could, and that nothing changes by one. */
public final class RefusalSentencesTest extends Dues {
    private static final String TEXT = "l9,9;p9 7 5 3 1;p8 1 4 1 2;s5 2 3;c0;";
    private static final int[] BAD = {MIN, -1000000001, -2, -1, 2, 1000000, MAX};

    private interface Call {
        int ask(Saw x);
    }

    public static void main(String[] args) {
        unknownFirst();
        outsideAheadOfNot();
        outsideAheadOfFull();
        unknownAheadOfNot();
        oneTwice();
        nothingChanges();
        nothingChangesWhenThrough();
        nothingChangesWithoutAPair();
        nothingChangesWithoutLayers();
        nothingChangesWhenFull();
        close();
    }

    private static Saw busy() {
        Saw x = Saw.of(TEXT, 0, 1);
        x.seed(42);
        x.stroke(2);
        x.keep(0);
        x.wedge();
        x.stroke(1);
        x.see(3);
        x.write(4);
        return x;
    }

    private static Saw through() {
        Saw x = Saw.of("l1;p20 7 0 5 0;p20 1 0 5 0;s9 2 3;", 0, 1);
        x.stroke(1);
        return x;
    }

    // ---- of several the first

    private static void unknownFirst() {
        says("REFUSALS", "of several the first in this order: UNKNOWN .. OUTSIDE");
        for (Saw x : new Saw[] {new Saw(), new Saw(TEXT), busy()}) {
            due("person(2, 8)", x.person(2, 8), UNKNOWN);
            due("person(-1, -1)", x.person(-1, -1), UNKNOWN);
            due("wish(2, 0)", x.wish(2, 0), UNKNOWN);
            due("wish(-1, 21)", x.wish(-1, 21), UNKNOWN);
            due("habit(2, -1)", x.habit(2, -1), UNKNOWN);
            due("habit(-1, 10)", x.habit(-1, 10), UNKNOWN);
            due("wishes(0, 2, 3)", x.wishes(0, 2, 3), UNKNOWN);
            due("wishes(2, 0, 3)", x.wishes(2, 0, 3), UNKNOWN);
            due("wishes(0, 0, -1)", x.wishes(0, 0, -1), UNKNOWN);
        }
        Saw x = busy();
        due("person(1, 8)", x.person(1, 8), OUTSIDE);
        due("wish(1, 0)", x.wish(1, 0), OUTSIDE);
        due("habit(1, 10)", x.habit(1, 10), OUTSIDE);
        due("wishes(0, 1, 3)", x.wishes(0, 1, 3), OUTSIDE);
    }

    private static void outsideAheadOfNot() {
        says("REFUSALS", "of several the first in this order: .. OUTSIDE (another number out of its bounds), NOT (not now, as told)");
        for (Saw x : new Saw[] {new Saw(), new Saw(TEXT), through()}) {
            for (int n : new int[] {0, 100}) {
                due("stroke(" + n + ")", x.stroke(n), OUTSIDE);
                due("rest(" + n + ")", x.rest(n), OUTSIDE);
                due("drift(" + n + ")", x.drift(n), OUTSIDE);
            }
            due("stroke(1)", x.stroke(1), NOT);
            due("rest(99)", x.rest(99), NOT);
            due("drift(99)", x.drift(99), NOT);
            due("undo(0)", x.undo(0), OUTSIDE);
            due("undo(31)", x.undo(31), OUTSIDE);
            due("undo(30)", x.undo(30), NOT);
        }
        for (Saw x : new Saw[] {new Saw(), new Saw(TEXT)}) {
            due("changes(0, 0, 0)", x.changes(0, 0, 0), OUTSIDE);
            due("changes(31, 0, 0)", x.changes(31, 0, 0), OUTSIDE);
            due("changes(1, -1, 0)", x.changes(1, -1, 0), OUTSIDE);
            due("changes(1, 1000, 0)", x.changes(1, 1000, 0), OUTSIDE);
            due("changes(1, 0, 2)", x.changes(1, 0, 2), OUTSIDE);
            due("changes(1, 0, 1)", x.changes(1, 0, 1), NOT);
            due("changes(30, 999, 0)", x.changes(30, 999, 0), NOT);
            due("whenWedge(2)", x.whenWedge(2), OUTSIDE);
            due("whenWedge(1)", x.whenWedge(1), NOT);
            due("whenRest(0, 0)", x.whenRest(0, 0), OUTSIDE);
            due("whenRest(11, 0)", x.whenRest(11, 0), OUTSIDE);
            due("whenRest(1, 2)", x.whenRest(1, 2), OUTSIDE);
            due("whenRest(10, 1)", x.whenRest(10, 1), NOT);
        }
        Saw x = new Saw();
        due("no LAYERS: withWhom(2)", x.withWhom(2), OUTSIDE);
        due("no LAYERS: withWhom(-1)", x.withWhom(-1), OUTSIDE);
        due("no LAYERS: withWhom(1)", x.withWhom(1), NOT);
    }

    private static void outsideAheadOfFull() {
        says("REFUSALS", "of several the first in this order: .. OUTSIDE .. FULL");
        Saw x = new Saw();
        for (int i = 0; i < 250; i++) {
            x.feed(32);
        }
        due("feed(256)", x.feed(256), OUTSIDE);
        due("feed(-1)", x.feed(-1), OUTSIDE);
        due("feed(255)", x.feed(255), FULL);
        for (int i = 0; i < 8; i++) {
            x.see(1);
        }
        due("see(1000)", x.see(1000), OUTSIDE);
        due("see(-1)", x.see(-1), OUTSIDE);
        due("see(999)", x.see(999), FULL);
        for (int i = 0; i < 20; i++) {
            x.write(1);
        }
        due("write(1000)", x.write(1000), OUTSIDE);
        due("write(-1)", x.write(-1), OUTSIDE);
        due("write(999)", x.write(999), FULL);
    }

    private static void unknownAheadOfNot() {
        says("REFUSALS", "of several the first in this order: UNKNOWN (a PERSON, LAYER, IMAGE that there is not ..) .. NOT");
        Saw x = new Saw();
        due("no LAYERS: log(0, 1)", x.log(0, 1), UNKNOWN);
        due("no LAYERS: fresh(0, 1)", x.fresh(0, 1), UNKNOWN);
        due("no LAYERS: wishes(0, 1, 0)", x.wishes(0, 1, 0), UNKNOWN);
        due("no LAYERS: quarrel(0, 1)", x.quarrel(0, 1), UNKNOWN);
        due("no LAYERS: habits(0, 1)", x.habits(0, 1), UNKNOWN);
        due("no LAYERS: wood(0)", x.wood(0), UNKNOWN);
        due("not kept: goBack(2)", x.goBack(2), UNKNOWN);
        due("not kept: goBack(-1)", x.goBack(-1), UNKNOWN);
        due("not kept: goBack(1)", x.goBack(1), NOT);
        due("keep(2)", x.keep(2), UNKNOWN);
        due("keep(-1)", x.keep(-1), UNKNOWN);
    }

    private static void oneTwice() {
        says("REFUSALS", "UNKNOWN (.. one twice)");
        Saw x = busy();
        for (int p = -1; p <= 2; p++) {
            due("log of one twice", x.log(p, p), UNKNOWN);
            due("fresh of one twice", x.fresh(p, p), UNKNOWN);
            due("wishes of one twice", x.wishes(p, p, 0), UNKNOWN);
            due("quarrel of one twice", x.quarrel(p, p), UNKNOWN);
            due("habits of one twice", x.habits(p, p), UNKNOWN);
        }
        due("log of two", x.log(1, 0), 1);
    }

    // ---- nothing changes

    /** Two objects alike, of which one is asked what is refused: they are alike behind it, in all that can be gone back to. */
    private static void alikeBehind(String what, Saw asked, Saw unasked, int refusal, Call call) {
        due(what, call.ask(asked), refusal);
        same(what, asked.all(), unasked.all());
        due(what + ": end(-1)", asked.end(-1), unasked.end(-1));
        due(what + ": judge()", asked.judge(), unasked.judge());
        due(what + ": drift(5)", asked.drift(5), unasked.drift(5));
        due(what + ": undo(2)", asked.undo(2), unasked.undo(2));
        same(what, asked.work(), unasked.work());
        for (int i = 0; i <= 1; i++) {
            due(what + ": goBack(" + i + ")", asked.goBack(i), unasked.goBack(i));
            same(what + ", IMAGE " + i, asked.work(), unasked.work());
        }
        due(what + ": yard()", asked.yard(), unasked.yard());
        due(what + ": fault()", asked.fault(), unasked.fault());
    }

    private static void refusedWhenBusy(String what, int refusal, Call call) {
        alikeBehind(what, busy(), busy(), refusal, call);
    }

    private static void nothingChanges() {
        says("REFUSALS", "What is refused changes nothing");
        for (int bad : BAD) {
            refusedWhenBusy("log(0, " + bad + ")", UNKNOWN, x -> x.log(0, bad));
            refusedWhenBusy("log(" + bad + ", 1)", UNKNOWN, x -> x.log(bad, 1));
            refusedWhenBusy("person(" + bad + ", 0)", UNKNOWN, x -> x.person(bad, 0));
            refusedWhenBusy("wood(" + bad + ")", UNKNOWN, x -> x.wood(bad));
            refusedWhenBusy("wish(" + bad + ", 3)", UNKNOWN, x -> x.wish(bad, 3));
            refusedWhenBusy("habit(" + bad + ", 3)", UNKNOWN, x -> x.habit(bad, 3));
            refusedWhenBusy("keep(" + bad + ")", UNKNOWN, x -> x.keep(bad));
            refusedWhenBusy("goBack(" + bad + ")", UNKNOWN, x -> x.goBack(bad));
            refusedWhenBusy("fresh(0, " + bad + ")", UNKNOWN, x -> x.fresh(0, bad));
            refusedWhenBusy("habits(0, " + bad + ")", UNKNOWN, x -> x.habits(0, bad));
            refusedWhenBusy("whenWedge(" + bad + ")", OUTSIDE, x -> x.whenWedge(bad));
            refusedWhenBusy("whenRest(1, " + bad + ")", OUTSIDE, x -> x.whenRest(1, bad));
            int number = bad == 2 ? 0 : bad;
            refusedWhenBusy("stroke(" + number + ")", OUTSIDE, x -> x.stroke(number));
            refusedWhenBusy("rest(" + number + ")", OUTSIDE, x -> x.rest(number));
            refusedWhenBusy("drift(" + number + ")", OUTSIDE, x -> x.drift(number));
            refusedWhenBusy("undo(" + number + ")", OUTSIDE, x -> x.undo(number));
            refusedWhenBusy("wish(0, " + number + ")", OUTSIDE, x -> x.wish(0, number));
            int other = bad == 2 ? 1000 : bad;
            refusedWhenBusy("habit(0, " + other + ")", OUTSIDE, x -> x.habit(0, other));
            refusedWhenBusy("feed(" + other + ")", OUTSIDE, x -> x.feed(other));
            refusedWhenBusy("see(" + other + ")", OUTSIDE, x -> x.see(other));
            refusedWhenBusy("write(" + other + ")", OUTSIDE, x -> x.write(other));
            refusedWhenBusy("told(" + other + ")", OUTSIDE, x -> x.told(other));
            if (bad < 0) {
                refusedWhenBusy("seed(" + bad + ")", OUTSIDE, x -> x.seed(bad));
            }
        }
        refusedWhenBusy("stroke(100)", OUTSIDE, x -> x.stroke(100));
        refusedWhenBusy("rest(100)", OUTSIDE, x -> x.rest(100));
        refusedWhenBusy("drift(100)", OUTSIDE, x -> x.drift(100));
        refusedWhenBusy("undo(31)", OUTSIDE, x -> x.undo(31));
        refusedWhenBusy("undo(3)", NOT, x -> x.undo(3));
        refusedWhenBusy("wish(0, 21)", OUTSIDE, x -> x.wish(0, 21));
        refusedWhenBusy("habit(0, 10)", OUTSIDE, x -> x.habit(0, 10));
        refusedWhenBusy("log(0, 0)", UNKNOWN, x -> x.log(0, 0));
        refusedWhenBusy("a second wedge()", NOT, x -> x.wedge());
        refusedWhenBusy("goBack(1), not kept", NOT, x -> x.goBack(1));
        refusedWhenBusy("feed(256)", OUTSIDE, x -> x.feed(256));
        Saw sharp = busy();
        Saw alike = busy();
        for (int teeth = 6; teeth <= 9; teeth++) {
            sharp.file();
            alike.file();
        }
        alikeBehind("file() with TEETH 9", sharp, alike, NOT, x -> x.file());
    }

    private static void nothingChangesWhenThrough() {
        says("REFUSALS", "What is refused changes nothing (it is THROUGH)");
        alikeBehind("stroke(1)", through(), through(), NOT, x -> x.stroke(1));
        alikeBehind("rest(1)", through(), through(), NOT, x -> x.rest(1));
        alikeBehind("drift(1)", through(), through(), NOT, x -> x.drift(1));
    }

    private static void nothingChangesWithoutAPair() {
        says("REFUSALS", "What is refused changes nothing (no PAIR)");
        alikeBehind("stroke(1)", new Saw(TEXT), new Saw(TEXT), NOT, x -> x.stroke(1));
        alikeBehind("rest(1)", new Saw(TEXT), new Saw(TEXT), NOT, x -> x.rest(1));
        alikeBehind("drift(1)", new Saw(TEXT), new Saw(TEXT), NOT, x -> x.drift(1));
        alikeBehind("sides()", new Saw(TEXT), new Saw(TEXT), NOT, x -> x.sides());
        alikeBehind("oil()", new Saw(TEXT), new Saw(TEXT), NOT, x -> x.oil());
        alikeBehind("wedge()", new Saw(TEXT), new Saw(TEXT), NOT, x -> x.wedge());
        alikeBehind("file()", new Saw(TEXT), new Saw(TEXT), NOT, x -> x.file());
        alikeBehind("toGo()", new Saw(TEXT), new Saw(TEXT), NOT, x -> x.toGo());
        alikeBehind("worthFile()", new Saw(TEXT), new Saw(TEXT), NOT, x -> x.worthFile());
        alikeBehind("judge()", new Saw(TEXT), new Saw(TEXT), NOT, x -> x.judge());
        alikeBehind("log(0, 0)", new Saw(TEXT), new Saw(TEXT), UNKNOWN, x -> x.log(0, 0));
    }

    private static void nothingChangesWithoutLayers() {
        says("REFUSALS", "What is refused changes nothing (no LAYERS)");
        alikeBehind("log(0, 1)", new Saw(), new Saw(), UNKNOWN, x -> x.log(0, 1));
        alikeBehind("withWhom(0)", new Saw(), new Saw(), NOT, x -> x.withWhom(0));
        alikeBehind("end(0)", new Saw(), new Saw(), NOT, x -> x.end(0));
        alikeBehind("wish(0, 1)", new Saw(), new Saw(), UNKNOWN, x -> x.wish(0, 1));
        alikeBehind("goBack(0)", new Saw(), new Saw(), NOT, x -> x.goBack(0));
    }

    private static Saw full() {
        Saw x = Saw.of("l9;p9 0 0 5 0;p9 0 0 5 0;s1 0 0;", 0, 1);
        for (int i = 0; i < 8; i++) {
            x.see(1);
        }
        for (int i = 0; i < 20; i++) {
            x.write(1);
        }
        x.feedAll("l7;" + " ".repeat(247));
        return x;
    }

    private static void nothingChangesWhenFull() {
        says("REFUSALS", "What is refused changes nothing (FULL)");
        for (int which = 0; which < 3; which++) {
            Saw x = full();
            due("pairs", x.end(-1), 2);
            due("the book", x.judge(), NONE);
            due("FULL", which == 0 ? x.see(2) : which == 1 ? x.write(2) : x.feed('x'), FULL);
            due("pairs as they were", x.end(-1), 2);
            due("the book as it was", x.judge(), NONE);
            due("SEEN", x.told(16), 8);
            due("THE BOOK", x.told(17), 20);
            due("THE TEXT", x.told(2), 250);
            due("yard()", x.yard(), 1);
            due("wood(0)", x.wood(0), 7);
        }
    }
}
