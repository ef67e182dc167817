/** The sentences that name a boundary: what it is, refusals, section 1 (the yard), promises 1 to 7. */
public final class YardSentencesTest extends Dues {
    private static final String ONE = "l1;";
    private static final String PERSON = "p1 0 0 0 0;";

    public static void main(String[] args) {
        calls();
        constants();
        numbering();
        textLength();
        layersOfTheLog();
        woodBounds();
        logFirst();
        logOnce();
        people();
        peopleBounds();
        sawBounds();
        sawUntold();
        sawOnce();
        closesBounds();
        closesUntold();
        closesOnce();
        figures();
        words();
        blanks();
        sideBySide();
        firstLetterWithAFault();
        theEnd();
        theLeast();
        cannotStand();
        thirteenth();
        badNumbers();
        again();
        emptyText();
        newObject();
        feed();
        yardForgets();
        yardFaulty();
        fault();
        told();
        wood();
        person();
        close();
    }

    // ---- helpers

    private static String times(String part, int n) {
        return part.repeat(n);
    }

    private static String layers(int n) {
        return "l1" + times(",1", n - 1) + ";";
    }

    private static void yardDue(String text, int layers) {
        Saw x = new Saw();
        due("yard() of '" + text + "'", x.read(text), layers);
        due("told(0) of '" + text + "'", x.told(0), layers);
        due("fault() of '" + text + "'", x.fault(), NONE);
    }

    private static void faultDue(String text, int number, int place) {
        Saw x = new Saw();
        due("yard() of '" + text + "'", x.read(text), -10 - number);
        due("fault() of '" + text + "'", x.fault(), place);
        due("told(0) of '" + text + "'", x.told(0), 0);
    }

    // ---- what it is

    private static void calls() {
        says("What it is", "An object is used for at most 512 calls after it has been made");
        PullSaw x = new PullSaw();
        for (char letter : "l9;p1 0 0 5 0;p1 0 0 5 0;s1 0 0;".toCharArray()) {
            x.feed(letter);
        }
        int calls = 32;
        due("yard()", x.yard(), 1);
        due("log(0, 1)", x.log(0, 1), 0);
        for (calls += 2; calls < 510; calls++) {
            x.rest(99);
        }
        due("the 511th call: each rest(99) counts 99 more", x.rest(99), (510 - 34 + 1) * 99);
        due("the 512th call", x.told(7), (510 - 34 + 1) * 99);
    }

    // ---- refusals, numbers

    private static void constants() {
        says("REFUSALS", "They are far below all that is counted: -1000000001 and on");
        due("NONE", PullSaw.NONE, -1);
        due("UNKNOWN", PullSaw.UNKNOWN, -1000000001);
        due("OUTSIDE", PullSaw.OUTSIDE, -1000000002);
        due("NOT", PullSaw.NOT, -1000000003);
        due("FULL", PullSaw.FULL, -1000000004);
    }

    private static void numbering() {
        says("Terms", "What has a number has it from 0 on, as it comes");
        Saw x = new Saw("l3,4,5;p7 0 0 0 0;p8 0 0 0 0;");
        due("wood(-1)", x.wood(-1), UNKNOWN);
        due("wood(0)", x.wood(0), 3);
        due("wood(1)", x.wood(1), 4);
        due("wood(2)", x.wood(2), 5);
        due("wood(3)", x.wood(3), UNKNOWN);
        due("person(-1, 0)", x.person(-1, 0), UNKNOWN);
        due("person(0, 0)", x.person(0, 0), 7);
        due("person(1, 0)", x.person(1, 0), 8);
        due("person(2, 0)", x.person(2, 0), UNKNOWN);
    }

    // ---- section 1: the text

    private static void textLength() {
        says("1 THE YARD", "told in a text (250 letters at most)");
        yardDue("l1" + times(" ", 246) + ";", 1);
        yardDue("l1" + times(" ", 247) + ";", 1);
        Saw x = new Saw();
        x.feedAll("l1" + times(" ", 248));
        due("the ';' as 251st letter", x.feed(';'), FULL);
        due("letters", x.told(2), 250);
        due("yard() without it", x.yard(), -11);
        due("fault() at the text's length", x.fault(), 250);
    }

    private static void layersOfTheLog() {
        says("1 THE YARD", "THE LOG: 1 to 12 LAYERS, from above");
        faultDue("l;", 1, 1);
        yardDue(layers(1), 1);
        yardDue(layers(2), 2);
        yardDue(layers(11), 11);
        yardDue(layers(12), 12);
        faultDue(layers(13), 1, 24);
        Saw x = new Saw("l1,2,3,4,5,6,7,8,9,8,7,6;");
        int[] woods = {1, 2, 3, 4, 5, 6, 7, 8, 9, 8, 7, 6};
        for (int layer = 0; layer < 12; layer++) {
            due("wood(" + layer + ")", x.wood(layer), woods[layer]);
        }
    }

    private static void woodBounds() {
        says("1 THE YARD", "LAYERS, from above, WOOD 1 .. 9");
        faultDue("l0;", 2, 1);
        yardDue("l1;", 1);
        yardDue("l2;", 1);
        yardDue("l8;", 1);
        yardDue("l9;", 1);
        faultDue("l10;", 2, 1);
        faultDue("l5,0;", 2, 3);
        yardDue("l5,1;", 2);
        yardDue("l5,9;", 2);
        faultDue("l5,10;", 2, 3);
        faultDue("l1,1,1,1,1,1,1,1,1,1,1,0;", 2, 23);
        faultDue("l1,1,1,1,1,1,1,1,1,1,1,10;", 2, 23);
    }

    private static void logFirst() {
        says("1 THE YARD", "(THE LOG: .. first, once)");
        faultDue(PERSON + ONE, 1, 0);
        faultDue("s5 2 0;" + ONE, 1, 0);
        faultDue("c1;" + ONE, 1, 0);
        yardDue(ONE + PERSON, 1);
        yardDue(ONE + "s5 2 0;", 1);
        yardDue(ONE + "c1;", 1);
    }

    private static void logOnce() {
        says("1 THE YARD", "(THE LOG: .. first, once)");
        faultDue(ONE + ONE, 3, 3);
        faultDue(ONE + PERSON + ONE, 3, 14);
        faultDue(ONE + "s5 2 0;" + ONE, 3, 10);
    }

    private static void people() {
        says("1 THE YARD", "(4 PEOPLE at most");
        for (int people = 0; people <= 4; people++) {
            Saw x = new Saw(ONE + times(PERSON, people));
            due("told(1) of " + people, x.told(1), people);
        }
        faultDue(ONE + times(PERSON, 5), 3, 3 + 4 * 11);
        faultDue(ONE + times(PERSON, 4) + "p", 3, 3 + 4 * 11);
        Saw x = new Saw(ONE + times(PERSON, 3) + "s5 2 0;" + PERSON + "c1;");
        due("told(1), other clauses between", x.told(1), 4);
        faultDue(ONE + times(PERSON, 4) + "s5 2 0;c1;" + PERSON, 3, 3 + 44 + 7 + 3);
    }

    /** A clause of five numbers, one of them told, the others 1. */
    private static String personWith(int field, String number) {
        StringBuilder s = new StringBuilder("p");
        for (int i = 0; i < 5; i++) {
            s.append(i > 0 ? " " : "").append(i == field ? number : "1");
        }
        return s.append(';').toString();
    }

    private static void peopleBounds() {
        String[] names = {"FORCE F 1 .. 20", "HEIGHT H 0 .. 9", "TIRES by T, 0 .. 5",
            "HABIT D: 0 .. 4 drags by so much, 5 lets, 6 .. 9 pushes by D less 5", "BENT B 0 none, 1 harder, 2 softer"};
        int[] least = {1, 0, 0, 0, 0};
        int[] most = {20, 9, 5, 9, 2};
        for (int field = 0; field < 5; field++) {
            says("1 THE YARD", names[field]);
            int place = 4 + 2 * field;
            if (least[field] == 0) {
                faultDue(ONE + personWith(field, "-1"), 1, place);
            } else {
                faultDue(ONE + personWith(field, "0"), 2, place);
            }
            faultDue(ONE + personWith(field, "" + (most[field] + 1)), 2, place);
            faultDue(ONE + personWith(field, "999"), 2, place);
            for (int v = least[field]; v <= most[field]; v++) {
                Saw x = new Saw(ONE + personWith(field, "" + v));
                due("person(0, " + field + ") of '" + personWith(field, "" + v) + "'", x.person(0, field), v);
            }
        }
    }

    private static void sawBounds() {
        says("1 THE YARD", "TEETH K 1 .. 9, LIMIT L 0 .. 9, RESIN R 0 .. 9");
        for (int v = 0; v <= 9; v++) {
            if (v > 0) {
                due("TEETH " + v, new Saw(ONE + "s" + v + " 1 1;").told(11), v);
            }
            due("LIMIT " + v, new Saw(ONE + "s1 " + v + " 1;").told(12), v);
            due("RESIN " + v, new Saw(ONE + "s1 1 " + v + ";").told(13), v);
        }
        faultDue(ONE + "s0 1 1;", 2, 4);
        faultDue(ONE + "s10 1 1;", 2, 4);
        faultDue(ONE + "s1 -1 1;", 1, 6);
        faultDue(ONE + "s1 10 1;", 2, 6);
        faultDue(ONE + "s1 1 -1;", 1, 8);
        faultDue(ONE + "s1 1 10;", 2, 8);
    }

    private static void sawUntold() {
        says("1 THE YARD", "5 2 0 untold");
        Saw x = new Saw(ONE);
        due("TEETH", x.told(11), 5);
        due("LIMIT", x.told(12), 2);
        due("RESIN", x.told(13), 0);
        due("yard() of another", x.read(ONE + "s9 8 7;"), 1);
        due("TEETH", x.told(11), 9);
        due("LIMIT", x.told(12), 8);
        due("RESIN", x.told(13), 7);
        due("yard() of one untold again", x.read(ONE), 1);
        due("TEETH", x.told(11), 5);
        due("LIMIT", x.told(12), 2);
        due("RESIN", x.told(13), 0);
    }

    private static void sawOnce() {
        says("1 THE YARD", "'s' K L R ';' (THE SAW .. once)");
        yardDue(ONE + "s1 1 1;", 1);
        faultDue(ONE + "s1 1 1;s1 1 1;", 3, 10);
        faultDue(ONE + "s1 1 1;" + PERSON + "s", 3, 21);
    }

    private static void closesBounds() {
        says("1 THE YARD", "'c' N ';' (THE LOG CLOSES from LAYER N on, 0 .. 12");
        faultDue(ONE + "c-1;", 1, 4);
        for (int n = 0; n <= 12; n++) {
            due("told(14) of c" + n, new Saw(ONE + "c" + n + ";").told(14), n);
        }
        faultDue(ONE + "c13;", 2, 4);
        faultDue(ONE + "c;", 1, 4);
    }

    private static void closesUntold() {
        says("1 THE YARD", "12 untold: never");
        Saw x = new Saw(ONE);
        due("told(14)", x.told(14), 12);
        due("yard() of another", x.read(ONE + "c0;"), 1);
        due("told(14)", x.told(14), 0);
        due("yard() of one untold again", x.read(ONE), 1);
        due("told(14)", x.told(14), 12);
        String log = layers(12) + "p20 0 0 5 0;p20 0 0 5 0;s9 0 0;";
        twelfthLayer(log + "c11;", 90);
        twelfthLayer(log + "c12;", 180);
        twelfthLayer(log, 180);
    }

    /** 180 six times, 27 by a WISH of 3: 1107, in the last of 12 LAYERS. */
    private static void twelfthLayer(String text, int cut) {
        Saw x = Saw.of(text, 0, 1);
        due("six STROKES", x.stroke(6), 6 * 180);
        x.wish(0, 3);
        due("the seventh", x.stroke(1), 27);
        due("DEPTH", x.told(6), 1107);
        due("in the last LAYER of '" + text + "'", x.stroke(1), cut);
    }

    private static void closesOnce() {
        says("1 THE YARD", "'c' N ';' (.. once)");
        yardDue(ONE + "c12;", 1);
        faultDue(ONE + "c12;c12;", 3, 7);
        faultDue(ONE + "c0;s1 1 1;c", 3, 13);
    }

    // ---- section 1: numbers, words, blanks

    private static void figures() {
        says("1 THE YARD", "NUMBERS have one to three figures");
        faultDue("l;", 1, 1);
        yardDue("l7;", 1);
        yardDue("l07;", 1);
        yardDue("l007;", 1);
        faultDue("l0007;", 2, 1);
        due("wood(0) of 'l07;'", new Saw("l07;").wood(0), 7);
        due("wood(0) of 'l007;'", new Saw("l007;").wood(0), 7);
        due("FORCE 020", new Saw(ONE + "p020 000 005 009 002;").person(0, 0), 20);
        due("HABIT 009", new Saw(ONE + "p020 000 005 009 002;").person(0, 3), 9);
        due("CLOSES 012", new Saw(ONE + "c012;").told(14), 12);
        faultDue(ONE + "p0020 0 0 0 0;", 2, 4);
        faultDue(ONE + "p1 0000 0 0 0;", 2, 6);
        faultDue(ONE + "p1 0 0000 0 0;", 2, 8);
        faultDue(ONE + "p1 0 0 0000 0;", 2, 10);
        faultDue(ONE + "p1 0 0 0 0000;", 2, 12);
        faultDue(ONE + "s0001 0 0;", 2, 4);
        faultDue(ONE + "s1 0000 0;", 2, 6);
        faultDue(ONE + "s1 0 0000;", 2, 8);
        faultDue(ONE + "c0012;", 2, 4);
    }

    private static void words() {
        says("1 THE YARD", "a word is one letter");
        faultDue("ll1;", 1, 1);
        faultDue("lo1;", 1, 1);
        faultDue(ONE + "pp1 0 0 0 0;", 1, 4);
        faultDue(ONE + "sa5 2 0;", 1, 4);
        faultDue(ONE + "cc1;", 1, 4);
    }

    private static void blanks() {
        says("1 THE YARD", "blanks (32) may stand anywhere but within NUMBERS");
        String text = "l1,2;p12 3 4 5 1;s5 2 1;c10;";
        for (int place = 0; place <= text.length(); place++) {
            String with = text.substring(0, place) + " " + text.substring(place);
            if (place == 7) {
                // 1 2 3 4 5 1: the fifth is 5, no BENT
                faultDue(with, 2, 14);
            } else if (place == 26) {
                faultDue(with, 1, 27);
            } else {
                yardDue(with, 2);
            }
        }
        Saw x = new Saw("   l  1  ,  2  ;  p  12   3  4  5  1  ;   s  5  2  1  ;  c  10  ;   ");
        due("FORCE", x.person(0, 0), 12);
        due("BENT", x.person(0, 4), 1);
        due("RESIN", x.told(13), 1);
        due("CLOSES", x.told(14), 10);
        faultDue("l1 2;", 1, 3);
        for (int letter : new int[] {0, 9, 10, 13, 31, 33, 160, 255}) {
            char other = (char) letter;
            faultDue(other + "l1;", 1, 0);
            faultDue("l" + other + "1;", 1, 1);
            faultDue("l1" + other + ";", 1, 2);
            faultDue("l1;" + other, 1, 3);
            faultDue(ONE + "p1" + other + "1 1 1 1;", 1, 5);
        }
    }

    private static void sideBySide() {
        says("1 THE YARD", "two NUMBERS side by side need one");
        due("H behind one blank", new Saw(ONE + "p1 2 3 4 1;").person(0, 1), 2);
        due("H behind two", new Saw(ONE + "p1  2 3 4 1;").person(0, 1), 2);
        // 12 3 4 1, and no fifth
        faultDue(ONE + "p12 3 4 1;", 1, 12);
        faultDue(ONE + "s52 0;", 2, 4);
        faultDue(ONE + "s5 20;", 2, 6);
        // a ',' is no blank
        faultDue(ONE + "p1,2 3 4 1;", 1, 5);
    }

    // ---- section 1: faults

    private static void firstLetterWithAFault() {
        says("1 THE YARD", "FAULTS, at the first letter that has one");
        faultDue("l0;x", 2, 1);
        faultDue("l0,0;", 2, 1);
        faultDue("l10x", 2, 1);
        faultDue(ONE + "lx", 3, 3);
        faultDue(ONE + "l0;", 3, 3);
        faultDue(ONE + "x l0;", 1, 3);
        faultDue(ONE + "p21 10 6 10 3", 2, 4);
        faultDue(ONE + "p20 10 6 10 3", 2, 7);
        faultDue(ONE + "p20 9 6 10 3", 2, 9);
        faultDue(ONE + "p20 9 5 10 3", 2, 11);
        faultDue(ONE + "p20 9 5 9 3", 2, 13);
        faultDue(ONE + "p20 9 5 9 2", 1, 14);
        faultDue(ONE + times(PERSON, 4) + "p0 0 0 0 0;", 3, 47);
        faultDue("xx", 1, 0);
    }

    private static void theEnd() {
        says("1 THE YARD", "(the end at the text's length)");
        String text = "l1,2;p1 2 3 4 1;s5 2 1;c2;";
        for (int length = 0; length <= text.length(); length++) {
            String part = text.substring(0, length);
            if (part.isEmpty()) {
                yardDue(part, 0);
            } else if (part.endsWith(";")) {
                yardDue(part, 2);
            } else {
                faultDue(part, 1, length);
                faultDue(part + " ", 1, length + 1);
                faultDue(part + "  ", 1, length + 2);
            }
        }
        // also where a longer text stood
        for (int length = 1; length < 5; length++) {
            Saw x = new Saw("l1,2;");
            due("yard() of a part behind the whole", x.read("l1,2;".substring(0, length)), -11);
            due("fault() of a part behind the whole", x.fault(), length);
        }
    }

    private static void theLeast() {
        says("1 THE YARD", "of these the least");
        // a NUMBER of four figures where none can stand: 1 and 2
        faultDue("l1 0001;", 1, 3);
        faultDue("0001", 1, 0);
        faultDue(ONE + "p1 1 1 1 1 9999;", 1, 14);
        faultDue(ONE + "9999", 1, 3);
        // a word again where none can stand: 1 and 3
        faultDue("ll", 1, 1);
        faultDue("l1l", 1, 2);
        faultDue("l1,l", 1, 3);
        faultDue(ONE + "s5 2 0;s", 3, 10);
        faultDue(ONE + "s5 2 s", 1, 8);
        faultDue(ONE + "c1 c", 1, 6);
        faultDue(ONE + times(PERSON, 3) + "p1 0 0 0 0 p", 1, 3 + 33 + 11);
    }

    private static void cannotStand() {
        says("1 THE YARD", "1 it cannot stand there (a letter that is no word, another word first than 'l')");
        for (int letter = 0; letter < 256; letter++) {
            if (letter == ' ') {
                continue;
            }
            String sign = "" + (char) letter;
            boolean figure = letter >= '0' && letter <= '9';
            if (letter != 'l') {
                faultDue(sign, 1, 0);
                faultDue(" " + sign, 1, 1);
            }
            if (!figure) {
                faultDue("l" + sign, 1, 1);
                faultDue(ONE + "p" + sign, 1, 4);
                faultDue(ONE + "p1 " + sign, 1, 6);
                faultDue(ONE + "c" + sign, 1, 4);
            }
            if (!figure && letter != ',' && letter != ';') {
                faultDue("l1" + sign, 1, 2);
            }
            if (letter != ',' && letter != ';') {
                faultDue("l1 " + sign, 1, 3);
            }
            if (letter != ';') {
                faultDue(ONE + "p1 1 1 1 1 " + sign, 1, 14);
                faultDue(ONE + "c1 " + sign, 1, 6);
                faultDue(ONE + "s1 1 1 " + sign, 1, 10);
            }
            if (letter != 'l' && letter != 'p' && letter != 's' && letter != 'c') {
                faultDue(ONE + sign, 1, 3);
                faultDue(ONE + " " + sign, 1, 4);
            }
        }
        faultDue("l,1;", 1, 1);
        faultDue("l1,;", 1, 3);
        faultDue("l1,,1;", 1, 3);
        faultDue("l1;;", 1, 3);
    }

    private static void thirteenth() {
        says("1 THE YARD", "a thirteenth W: at its ','");
        String twelve = "l1,1,1,1,1,1,1,1,1,1,1,1";
        yardDue(twelve + ";", 12);
        faultDue(twelve + ",1;", 1, 24);
        faultDue(twelve + ",", 1, 24);
        faultDue(twelve + " ,1;", 1, 25);
        faultDue(twelve + ",0;", 1, 24);
        yardDue(twelve.substring(0, 22) + ",1;", 12);
        faultDue(twelve.substring(0, 22) + ",0;", 2, 23);
        faultDue(twelve.substring(0, 22) + ",0,1;", 2, 23);
    }

    private static void badNumbers() {
        says("1 THE YARD", "2 a NUMBER of four figures or more, or out of its bounds (at its first)");
        faultDue("l001,0001;", 2, 5);
        faultDue("l  0001;", 2, 3);
        faultDue("l00001;", 2, 1);
        faultDue("l" + times("0", 200) + "1;", 2, 1);
        faultDue("l4294967297;", 2, 1);
        faultDue("l1" + times("0", 32) + ";", 2, 1);
        faultDue("l  10;", 2, 3);
        faultDue("l000;", 2, 1);
        faultDue("l010;", 2, 1);
        faultDue("l999;", 2, 1);
        faultDue(ONE + "p001 0 0 0 0;p021 0 0 0 0;", 2, 17);
        faultDue(ONE + "p256 0 0 0 0;", 2, 4);
        faultDue(ONE + "c  13;", 2, 6);
        faultDue(ONE + "c999;", 2, 4);
    }

    private static void again() {
        says("1 THE YARD", "3 'l', 's', 'c' again, a fifth 'p' (at it)");
        faultDue(ONE + "  l", 3, 5);
        faultDue(ONE + "s1 1 1; s", 3, 11);
        faultDue(ONE + "c1; c", 3, 7);
        yardDue(ONE + "c1;s1 1 1;" + times(PERSON, 4), 1);
        faultDue(ONE + times(PERSON, 4) + " p", 3, 3 + 44 + 1);
        // told once each again behind a fault, and behind a text that was good
        Saw x = new Saw(ONE + "s1 1 1;c1;");
        due("yard() of the same again", x.read(ONE + "s1 1 1;c1;"), 1);
        due("yard() with a FAULT", x.read(ONE + "s1 1 1;c1;x"), -11);
        due("yard() of the same again", x.read(ONE + "s1 1 1;c1;"), 1);
    }

    private static void emptyText() {
        says("1 THE YARD", "An empty text (or of blanks alone): no LAYERS");
        yardDue("", 0);
        yardDue(" ", 0);
        yardDue("  ", 0);
        yardDue(times(" ", 250), 0);
        faultDue(";", 1, 0);
        faultDue(" l", 1, 2);
        Saw x = Saw.of("l1;p1 0 0 0 0;p1 0 0 0 0;s9 9 9;c3;", 0, 1);
        due("yard()", x.yard(), 0);
        due("LAYERS", x.told(0), 0);
        due("PEOPLE", x.told(1), 0);
        due("TEETH", x.told(11), 5);
        due("CLOSES", x.told(14), 12);
        due("wood(0)", x.wood(0), UNKNOWN);
        due("person(0, 0)", x.person(0, 0), UNKNOWN);
    }

    // ---- promises 1 to 7

    private static void newObject() {
        says("Promise 1", "No LAYERS");
        Saw x = new Saw();
        int[] want = {0, 0, 0, NONE, NONE, NONE, 0, 0, 0, 0, 0, 5, 2, 0, 12, 0, 0, 0, 0};
        for (int what = 0; what < want.length; what++) {
            due("told(" + what + ")", x.told(what), want[what]);
        }
        due("wood(0)", x.wood(0), UNKNOWN);
        due("withWhom(0)", x.withWhom(0), NOT);
        due("end(-1)", x.end(-1), NOT);
        due("fault()", x.fault(), NONE);
        due("THE SEED", x.seed(1), 0);
        due("yard() of an empty text", x.yard(), 0);
    }

    private static void feed() {
        says("Promise 2", "A letter (0 .. 255) comes behind THE TEXT: how many it has. OUTSIDE");
        Saw x = new Saw();
        due("feed(-1)", x.feed(-1), OUTSIDE);
        due("feed(0)", x.feed(0), 1);
        due("feed(1)", x.feed(1), 2);
        due("feed(254)", x.feed(254), 3);
        due("feed(255)", x.feed(255), 4);
        due("feed(256)", x.feed(256), OUTSIDE);
        due("feed(MIN)", x.feed(MIN), OUTSIDE);
        due("feed(MAX)", x.feed(MAX), OUTSIDE);
        due("letters", x.told(2), 4);
        says("Promise 2", "FULL (250)");
        for (int i = 5; i <= 249; i++) {
            due("feed(32)", x.feed(32), i);
        }
        due("feed(32)", x.feed(32), 250);
        due("feed(32)", x.feed(32), FULL);
        due("feed(32)", x.feed(32), FULL);
        due("letters", x.told(2), 250);
        due("yard()", x.yard(), -11);
        due("feed(32) behind it", x.feed(32), 1);
    }

    private static void yardForgets() {
        says("Promise 3", "THE TEXT becomes THE YARD (no PAIR, DEPTH 0; nothing SEEN, no BOOK; IMAGES, deeds to be undone are gone; THE SEED stays)");
        Saw x = Saw.of("l9,9;p9 9 5 1 1;p9 0 5 1 1;s5 2 3;c0;", 0, 1);
        x.stroke(3);
        x.wedge();
        x.file();
        x.wish(0, 3);
        x.habit(0, 9);
        x.see(1);
        x.write(1);
        x.write(1);
        x.keep(0);
        x.keep(1);
        x.stroke(1);
        x.seed(2147483647);
        due("yard() of the same", x.read("l9,9;p9 9 5 1 1;p9 0 5 1 1;s5 2 3;c0;"), 2);
        int[] want = {2, 2, 0, NONE, NONE, NONE, 0, 0, 0, 0, 0, 5, 2, 3, 0, 0, 0, 0, 0};
        for (int what = 0; what < want.length; what++) {
            due("told(" + what + ")", x.told(what), want[what]);
        }
        int[] person = {9, 9, 5, 1, 1, 9, 0, 0};
        for (int what = 0; what < person.length; what++) {
            due("person(0, " + what + ")", x.person(0, what), person[what]);
        }
        due("TIRED of the other one", x.person(1, 6), 0);
        due("ANSWER of the other one", x.person(1, 7), 0);
        due("stroke(1)", x.stroke(1), NOT);
        due("goBack(0)", x.goBack(0), NOT);
        due("goBack(1)", x.goBack(1), NOT);
        due("undo(1)", x.undo(1), NOT);
        due("THE SEED", x.seed(0), 2147483647);
        due("SEEN: all pairs do", x.end(-1), 2);
        due("a text is empty then", x.yard(), 0);
    }

    private static void yardFaulty() {
        says("Promise 3", "(it is empty then, with a FAULT, too) .. -10 less the number of its FAULT (all else is as it was)");
        for (String text : new String[] {"x", "l0;", "l1;l"}) {
            Saw x = Saw.of("l9,9;p9 9 5 1 1;p9 0 5 1 1;s5 2 3;c0;", 0, 1);
            x.keep(1);
            x.stroke(3);
            x.keep(0);
            x.stroke(1);
            x.wedge();
            x.wish(0, 3);
            x.see(1);
            x.write(1);
            x.write(2);
            x.seed(77);
            String was = x.all();
            int number = text.length() == 1 ? 1 : text.length() == 3 ? 2 : 3;
            int place = number == 1 ? 0 : number == 2 ? 1 : 3;
            due("yard() of '" + text + "'", x.read(text), -10 - number);
            same("but for the fault", x.all(), was.replace("fault -1", "fault " + place));
            due("the deeds are there", x.undo(3), 3);
            due("IMAGE 0 is there", x.goBack(0), 1);
            due("STROKES", x.told(7), 3);
            due("IMAGE 1 is there", x.goBack(1), 1);
            due("STROKES", x.told(7), 0);
            due("the book is there", x.tear(), 3);
        }
        faultDue("x", 1, 0);
        faultDue("l0;", 2, 1);
        faultDue("l1;l", 3, 3);
    }

    private static void fault() {
        says("Promise 4", "The place (from 0 on) of the letter that has the FAULT of the latest yard(); NONE");
        Saw x = new Saw();
        due("ahead of any", x.fault(), NONE);
        x.feed('x');
        due("ahead of yard()", x.fault(), NONE);
        due("yard()", x.yard(), -11);
        due("the first letter", x.fault(), 0);
        due("asked again", x.fault(), 0);
        due("yard()", x.read(" x"), -11);
        due("the second", x.fault(), 1);
        x.feed('l');
        due("not yet the next yard()", x.fault(), 1);
        due("yard()", x.yard(), -11);
        due("the end", x.fault(), 1);
        due("yard()", x.read("l1;"), 1);
        due("a good one", x.fault(), NONE);
        due("yard()", x.read(times(" ", 249) + "x"), -11);
        due("the last letter of 250", x.fault(), 249);
        due("yard()", x.yard(), 0);
        due("an empty one", x.fault(), NONE);
    }

    private static void told() {
        says("Promise 5", "0 LAYERS .. 18 deeds that can be undone. OUTSIDE");
        Saw x = new Saw("l1;");
        due("told(MIN)", x.told(MIN), OUTSIDE);
        due("told(-2)", x.told(-2), OUTSIDE);
        due("told(-1)", x.told(-1), OUTSIDE);
        due("told(0)", x.told(0), 1);
        due("told(18)", x.told(18), 0);
        due("told(19)", x.told(19), OUTSIDE);
        due("told(MAX)", x.told(MAX), OUTSIDE);
        says("Promise 5", "3 the LEFT one (NONE), 4 the RIGHT one (NONE), 5 who pulls next (NONE without a PAIR)");
        x = new Saw("l1;p1 0 0 5 0;p2 0 0 5 0;p3 0 0 5 0;");
        due("told(3)", x.told(3), NONE);
        due("told(4)", x.told(4), NONE);
        due("told(5)", x.told(5), NONE);
        x.log(2, 0);
        due("told(3)", x.told(3), 2);
        due("told(4)", x.told(4), 0);
        due("told(5)", x.told(5), 2);
        x.stroke(1);
        due("told(5)", x.told(5), 0);
        x.stroke(99);
        due("told(5), THROUGH", x.told(5) == NONE ? 0 : 1, 1);
        says("Promise 5", "15 whether it is THROUGH (1, 0; 0 without LAYERS)");
        due("no LAYERS", new Saw().told(15), 0);
        due("LAYERS, no PAIR", new Saw("l1;").told(15), 0);
        x = Saw.of("l1;p20 0 0 5 0;p19 0 0 5 0;s4 0 0;", 0, 1);
        due("DEPTH 0", x.told(15), 0);
        x.stroke(1);
        due("DEPTH 80", x.told(15), 0);
        x.stroke(1);
        due("DEPTH 100", x.told(15), 1);
        says("Promise 5", "10 whether there is a WEDGE (1, 0), 16 how many were SEEN, 17 lines of THE BOOK");
        x = Saw.of("l1;p20 0 0 5 0;p19 0 0 5 0;s4 0 0;", 0, 1);
        due("told(10)", x.told(10), 0);
        x.wedge();
        due("told(10)", x.told(10), 1);
        x.see(0);
        x.see(0);
        x.write(0);
        due("told(16)", x.told(16), 2);
        due("told(17)", x.told(17), 1);
        due("told(18)", x.told(18), 1);
    }

    private static void wood() {
        says("Promise 6", "WOOD of a LAYER. UNKNOWN");
        Saw x = new Saw();
        due("no LAYERS: wood(0)", x.wood(0), UNKNOWN);
        x.read(layers(11).replace(";", ",7;"));
        due("wood(MIN)", x.wood(MIN), UNKNOWN);
        due("wood(-1)", x.wood(-1), UNKNOWN);
        due("wood(0)", x.wood(0), 1);
        due("wood(10)", x.wood(10), 1);
        due("wood(11)", x.wood(11), 7);
        due("wood(12)", x.wood(12), UNKNOWN);
        due("wood(MAX)", x.wood(MAX), UNKNOWN);
        x.read("l3;");
        due("of a shorter log: wood(0)", x.wood(0), 3);
        due("of a shorter log: wood(1)", x.wood(1), UNKNOWN);
    }

    private static void person() {
        says("Promise 7", "Of a PERSON: what = 0 FORCE .. 7 ANSWER. UNKNOWN, OUTSIDE");
        Saw x = new Saw();
        due("no PEOPLE: person(0, 0)", x.person(0, 0), UNKNOWN);
        x.read("l1;p12 6 3 2 1;p1 0 0 0 0;p1 0 0 0 0;p9 8 5 7 2;");
        due("person(MIN, 0)", x.person(MIN, 0), UNKNOWN);
        due("person(-1, 0)", x.person(-1, 0), UNKNOWN);
        due("person(4, 0)", x.person(4, 0), UNKNOWN);
        due("person(MAX, 0)", x.person(MAX, 0), UNKNOWN);
        int[] first = {12, 6, 3, 2, 1, 12, 0, 0};
        int[] last = {9, 8, 5, 7, 2, 9, 0, 0};
        for (int what = 0; what < 8; what++) {
            due("person(0, " + what + ")", x.person(0, what), first[what]);
            due("person(3, " + what + ")", x.person(3, what), last[what]);
        }
        for (int what : new int[] {MIN, -1, 8, MAX}) {
            due("person(0, " + what + ")", x.person(0, what), OUTSIDE);
            due("person(4, " + what + ")", x.person(4, what), UNKNOWN);
        }
        due("of fewer PEOPLE", x.read("l1;p5 0 0 0 0;"), 1);
        due("person(0, 0)", x.person(0, 0), 5);
        due("person(1, 0)", x.person(1, 0), UNKNOWN);
    }
}
