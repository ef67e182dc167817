/** A PullSaw whose calls are counted: the document promises nothing behind the 512th call of one object. */
final class Saw {
    private static final int CALLS_MOST = 512;

    private final PullSaw asked = new PullSaw();
    private int calls;

    Saw() {
    }

    Saw(String text) {
        int answer = read(text);
        if (answer < 0) {
            throw new IllegalArgumentException("'" + text + "' has a fault: " + answer);
        }
    }

    /** Who read the text and begin a log. */
    static Saw of(String text, int a, int b) {
        Saw saw = new Saw(text);
        if (saw.log(a, b) != a) {
            throw new IllegalArgumentException("no log by " + a + " and " + b + " with '" + text + "'");
        }
        return saw;
    }

    private PullSaw ask() {
        calls++;
        if (calls > CALLS_MOST) {
            throw new IllegalStateException("a test asks one object more than 512 times");
        }
        return asked;
    }

    /** How many calls are left. */
    int left() {
        return CALLS_MOST - calls;
    }

    void feedAll(String text) {
        for (int i = 0; i < text.length(); i++) {
            feed(text.charAt(i));
        }
    }

    int read(String text) {
        feedAll(text);
        return yard();
    }

    /** So many strokes, however many calls they need. */
    void strokes(int n) {
        for (int left = n; left > 0; left -= 99) {
            stroke(Math.min(99, left));
        }
    }

    /** Stands as now, but nobody is told more than 99 of one call: what is due for a long trial. */
    int strokesThrough(int most) {
        int strokes = 0;
        while (strokes < most && told(15) == 0) {
            stroke(1);
            strokes++;
        }
        return told(15) == 1 ? strokes : PullSaw.NONE;
    }

    /** All of section 2 that calls tell, in words that can be compared. */
    String work() {
        StringBuilder s = new StringBuilder();
        for (int what = 3; what <= 11; what++) {
            s.append(what).append(':').append(told(what)).append(' ');
        }
        int people = told(1);
        for (int p = 0; p < people; p++) {
            s.append('p').append(p);
            for (int what : new int[] {3, 5, 6, 7}) {
                s.append(' ').append(person(p, what));
            }
            s.append("; ");
        }
        return s.toString();
    }

    /** All that calls tell without changing it, the work with it. */
    String all() {
        StringBuilder s = new StringBuilder(work());
        for (int what : new int[] {0, 1, 2, 12, 13, 14, 15, 16, 17, 18}) {
            s.append(what).append(':').append(told(what)).append(' ');
        }
        s.append("woods");
        int layers = told(0);
        for (int layer = 0; layer < layers; layer++) {
            s.append(' ').append(wood(layer));
        }
        int people = told(1);
        for (int p = 0; p < people; p++) {
            s.append("; p").append(p);
            for (int what : new int[] {0, 1, 2, 4}) {
                s.append(' ').append(person(p, what));
            }
        }
        int seed = seed(0);
        seed(seed);
        return s.append("; fault ").append(fault()).append("; seed ").append(seed).toString();
    }

    int feed(int letter) {
        return ask().feed(letter);
    }

    int yard() {
        return ask().yard();
    }

    int fault() {
        return ask().fault();
    }

    int told(int what) {
        return ask().told(what);
    }

    int wood(int layer) {
        return ask().wood(layer);
    }

    int person(int p, int what) {
        return ask().person(p, what);
    }

    int log(int a, int b) {
        return ask().log(a, b);
    }

    int stroke(int n) {
        return ask().stroke(n);
    }

    int rest(int n) {
        return ask().rest(n);
    }

    int sides() {
        return ask().sides();
    }

    int oil() {
        return ask().oil();
    }

    int wedge() {
        return ask().wedge();
    }

    int file() {
        return ask().file();
    }

    int wish(int p, int v) {
        return ask().wish(p, v);
    }

    int habit(int p, int v) {
        return ask().habit(p, v);
    }

    int drift(int n) {
        return ask().drift(n);
    }

    int undo(int n) {
        return ask().undo(n);
    }

    int toGo() {
        return ask().toGo();
    }

    int fresh(int a, int b) {
        return ask().fresh(a, b);
    }

    int wishes(int a, int b, int what) {
        return ask().wishes(a, b, what);
    }

    int quarrel(int a, int b) {
        return ask().quarrel(a, b);
    }

    int withWhom(int what) {
        return ask().withWhom(what);
    }

    int changes(int n, int m, int what) {
        return ask().changes(n, m, what);
    }

    int whenWedge(int what) {
        return ask().whenWedge(what);
    }

    int whenRest(int n, int what) {
        return ask().whenRest(n, what);
    }

    int worthFile() {
        return ask().worthFile();
    }

    int see(int cut) {
        return ask().see(cut);
    }

    int habits(int a, int b) {
        return ask().habits(a, b);
    }

    int end(int i) {
        return ask().end(i);
    }

    int write(int cut) {
        return ask().write(cut);
    }

    int judge() {
        return ask().judge();
    }

    int tear() {
        return ask().tear();
    }

    int seed(int v) {
        return ask().seed(v);
    }

    int keep(int i) {
        return ask().keep(i);
    }

    int goBack(int i) {
        return ask().goBack(i);
    }
}
