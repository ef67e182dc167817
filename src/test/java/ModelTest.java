import java.util.ArrayList;
import java.util.HashMap;
import java.util.List;
import java.util.Map;
import java.util.Random;
import java.util.TreeMap;

/** Runs of calls drawn at random, each answer against a second, plain telling of the document. */
public final class ModelTest {
    private static final int NONE = -1, UNKNOWN = -1000000001, OUTSIDE = -1000000002, NOT = -1000000003, FULL = -1000000004;
    private static final int RUNS = 3000, CALLS = 150, TO_COMPARE = 60;

    private static final String[] NAMES = {
        "yard", "fault", "told", "wood", "person", "log", "stroke", "rest", "sides", "oil", "wedge", "file", "wish",
        "habit", "drift", "undo", "toGo", "fresh", "wishes", "quarrel", "withWhom", "changes", "whenWedge", "whenRest",
        "worthFile", "see", "habits", "end", "write", "judge", "tear", "seed", "keep", "goBack", "text"};
    /** How often each comes, in the order of the names. */
    private static final int[] SHARES = {
        1, 1, 4, 2, 6, 5, 20, 6, 4, 4, 4, 3, 4,
        4, 8, 6, 3, 3, 1, 3, 2, 6, 2, 2,
        2, 8, 4, 6, 8, 6, 1, 2, 3, 3, 2};

    public static void main(String[] args) {
        int wrong = 0;
        for (int run = 0; run < RUNS && wrong < 5; run++) {
            wrong += wrongsOf(run) ? 1 : 0;
        }
        if (wrong > 0) {
            System.exit(1);
        }
    }

    private static boolean wrongsOf(int run) {
        Random random = new Random(run);
        Saw saw = new Saw();
        Model model = new Model();
        List<String> calls = new ArrayList<>();
        if (run % 10 > 0) {
            String text = run % 4 == 0 ? Texts.closely(random) : Texts.whole(random);
            feedAll(saw, model, text);
            calls.add("text '" + text + "'");
        }
        // an object is asked 512 times at most: what it is compared by is kept back
        for (int i = 0; i < CALLS && saw.left() > TO_COMPARE; i++) {
            String name = i == 0 ? "yard" : i == 1 ? "log" : drawName(random);
            if (name.equals("text")) {
                String text = random.nextInt(3) == 0 ? Texts.broken(random) : Texts.closely(random);
                if (saw.left() > TO_COMPARE + text.length()) {
                    feedAll(saw, model, text);
                    calls.add("text '" + text + "'");
                }
                name = "yard";
            }
            int a = argument(random, name, 0, saw, model);
            int b = argument(random, name, 1, saw, model);
            int c = argument(random, name, 2, saw, model);
            int got = ask(saw, name, a, b, c);
            int want = model.ask(name, a, b, c);
            calls.add(name + "(" + a + ", " + b + ", " + c + ") " + want);
            if (got != want) {
                return tell(run, name + " answered " + got + ", due is " + want, calls);
            }
            boolean compared = i % 50 == 49 && saw.left() > 2 * TO_COMPARE;
            String difference = compared ? differenceOf(saw, model) : null;
            if (difference != null) {
                return tell(run, difference, calls);
            }
        }
        String difference = differenceOf(saw, model);
        return difference != null && tell(run, difference, calls);
    }

    private static boolean tell(int run, String what, List<String> calls) {
        System.out.println("run " + run + ": " + what);
        calls.forEach(each -> System.out.println("  " + each));
        return true;
    }

    private static void feedAll(Saw saw, Model model, String text) {
        for (char each : text.toCharArray()) {
            int got = saw.feed(each);
            int want = model.feed(each);
            if (got != want) {
                System.out.println("feed answered " + got + ", due is " + want);
                System.exit(1);
            }
        }
    }

    private static String drawName(Random random) {
        int all = 0;
        for (int share : SHARES) {
            all += share;
        }
        int draw = random.nextInt(all);
        for (int i = 0; i < SHARES.length; i++) {
            draw -= SHARES[i];
            if (draw < 0) {
                return NAMES[i];
            }
        }
        throw new IllegalStateException();
    }

    private static String differenceOf(Saw saw, Model model) {
        for (int i = 0; i <= 18; i++) {
            if (saw.told(i) != model.told(i)) {
                return "told(" + i + ") " + saw.told(i) + ", due is " + model.told(i);
            }
        }
        for (int p = 0; p <= 4; p++) {
            for (int i = 0; i < 8; i++) {
                if (saw.person(p, i) != model.person(p, i)) {
                    return "person(" + p + ", " + i + ") " + saw.person(p, i) + ", due is " + model.person(p, i);
                }
            }
        }
        return null;
    }

    /** Mostly what the call can use, at times an edge, at times anything. */
    private static int argument(Random random, String name, int place, Saw saw, Model model) {
        int kind = random.nextInt(40);
        if (kind == 0) {
            int[] odd = {Integer.MIN_VALUE, Integer.MAX_VALUE, -1, -2, 0, 1, 100, 1000, 31, 32, 4, 9, 10, 20, 21, -1000000001};
            return odd[random.nextInt(odd.length)];
        }
        if (kind == 1) {
            return random.nextInt();
        }
        switch (name) {
            case "told": return random.nextInt(21) - 1;
            case "wood": return random.nextInt(14) - 1;
            case "person": return random.nextInt(place == 0 ? 5 : 9);
            case "stroke": return random.nextInt(4) == 0 ? random.nextInt(101) : random.nextInt(6);
            case "rest": return random.nextInt(3) == 0 ? random.nextInt(101) : 1 + random.nextInt(4);
            case "drift": return random.nextInt(4) == 0 ? random.nextInt(101) : 1 + random.nextInt(12);
            case "undo": return random.nextInt(5) == 0 ? random.nextInt(33) : 1 + random.nextInt(3);
            case "wish": return place == 0 ? random.nextInt(4) : random.nextInt(22);
            case "habit": return place == 0 ? random.nextInt(4) : random.nextInt(11);
            case "wishes": return place < 2 ? random.nextInt(4) : random.nextInt(3);
            case "withWhom": case "whenWedge": return random.nextInt(2);
            case "changes": return place == 0 ? random.nextInt(32) : place == 1 ? random.nextInt(random.nextInt(4) == 0 ? 1001 : 60) : random.nextInt(2);
            case "whenRest": return place == 0 ? random.nextInt(random.nextInt(6) == 0 ? 11 : 6) : random.nextInt(2);
            case "see": return likelyCut(random, random.nextInt(4), random.nextInt(4), model.seen.size(), model, false);
            case "write": return likelyCut(random, 0, 0, model.book.size(), model, true);
            case "end": return random.nextInt(14) - 1;
            case "seed": return random.nextInt() & Integer.MAX_VALUE;
            case "keep": case "goBack": return random.nextInt(2);
            default: return random.nextInt(4);
        }
    }

    /** A cut that is right for some pair, for most of the time. */
    private static int likelyCut(Random random, int a, int b, int place, Model model, boolean fromNow) {
        if (random.nextInt(8) == 0 || model.now == null || model.layers == 0) {
            return random.nextInt(1002) - 1;
        }
        State state = fromNow ? model.now.copy() : model.freshPair(a, b);
        if (state == null || state.left < 0) {
            return random.nextInt(100);
        }
        int cut = 0;
        for (int i = 0; i <= place && !model.isThrough(state); i++) {
            cut = model.strokeOf(state);
        }
        return cut;
    }

    private static int ask(Saw x, String name, int a, int b, int c) {
        switch (name) {
            case "yard": return x.yard();
            case "fault": return x.fault();
            case "told": return x.told(a);
            case "wood": return x.wood(a);
            case "person": return x.person(a, b);
            case "log": return x.log(a, b);
            case "stroke": return x.stroke(a);
            case "rest": return x.rest(a);
            case "sides": return x.sides();
            case "oil": return x.oil();
            case "wedge": return x.wedge();
            case "file": return x.file();
            case "wish": return x.wish(a, b);
            case "habit": return x.habit(a, b);
            case "drift": return x.drift(a);
            case "undo": return x.undo(a);
            case "toGo": return x.toGo();
            case "fresh": return x.fresh(a, b);
            case "wishes": return x.wishes(a, b, c);
            case "quarrel": return x.quarrel(a, b);
            case "withWhom": return x.withWhom(a);
            case "changes": return x.changes(a, b, c);
            case "whenWedge": return x.whenWedge(a);
            case "whenRest": return x.whenRest(a, b);
            case "worthFile": return x.worthFile();
            case "see": return x.see(a);
            case "habits": return x.habits(a, b);
            case "end": return x.end(a);
            case "write": return x.write(a);
            case "judge": return x.judge();
            case "tear": return x.tear();
            case "seed": return x.seed(a);
            case "keep": return x.keep(a);
            case "goBack": return x.goBack(a);
            default: throw new IllegalStateException(name);
        }
    }

    // ---- texts

    private static final class Texts {
        static String whole(Random r) {
            StringBuilder s = new StringBuilder("l");
            int layers = 1 + r.nextInt(r.nextInt(3) == 0 ? 12 : 4);
            int hardest = 1 + r.nextInt(9);
            for (int i = 0; i < layers; i++) {
                s.append(i == 0 ? "" : ",").append(1 + r.nextInt(hardest));
            }
            s.append(';');
            boolean calm = r.nextBoolean();
            boolean slow = r.nextInt(3) == 0;
            int people = r.nextInt(6) == 0 ? r.nextInt(4) : 4;
            String saw = r.nextInt(3) == 0 ? "" : "s" + (1 + r.nextInt(9)) + " " + r.nextInt(6) + " " + (slow ? 0 : r.nextInt(4)) + ";";
            String close = r.nextInt(2) == 0 ? "" : "c" + r.nextInt(layers + 1) + ";";
            boolean early = r.nextBoolean();
            s.append(early ? saw : "");
            for (int p = 0; p < people; p++) {
                int habit = calm ? r.nextInt(8) : r.nextInt(10);
                s.append("p").append(1 + r.nextInt(20)).append(' ').append(r.nextInt(10)).append(' ');
                s.append(slow ? 0 : r.nextInt(6)).append(' ').append(habit).append(' ').append(r.nextInt(3)).append(';');
            }
            return s.append(early ? "" : saw).append(close).toString();
        }

        /** Whole, with blanks and noughts here and there, at times with one letter otherwise. */
        static String closely(Random r) {
            StringBuilder s = new StringBuilder();
            String whole = whole(r);
            for (int i = 0; i < whole.length(); i++) {
                boolean figure = Character.isDigit(whole.charAt(i));
                boolean starts = figure && !Character.isDigit(whole.charAt(i - 1));
                if (r.nextInt(15) == 0 && (!figure || starts)) {
                    s.append("  ", 0, 1 + r.nextInt(2));
                }
                if (r.nextInt(30) == 0 && starts) {
                    s.append('0');
                }
                s.append(whole.charAt(i));
            }
            return r.nextInt(3) == 0 ? otherwise(r, s).toString() : s.toString();
        }

        static String broken(Random r) {
            StringBuilder s = new StringBuilder(whole(r));
            int times = 1 + r.nextInt(3);
            for (int i = 0; i < times; i++) {
                otherwise(r, s);
            }
            return s.toString();
        }

        private static StringBuilder otherwise(Random r, StringBuilder s) {
            String signs = "lpsc,; 0123456789x";
            String sign = r.nextInt(10) == 0 ? "" + (char) r.nextInt(256) : "" + signs.charAt(r.nextInt(signs.length()));
            int at = r.nextInt(s.length() + 1);
            switch (r.nextInt(4)) {
                case 0: s.insert(at, sign); break;
                case 1: s.delete(at, Math.min(s.length(), at + 1)); break;
                case 2: s.replace(at, Math.min(s.length(), at + 1), sign); break;
                default: s.setLength(Math.max(1, at)); break;
            }
            return s;
        }
    }

    // ---- the second telling

    private static final class State {
        int left = NONE, right = NONE, turn = NONE, depth, strokes, askew, gum, teeth = 5;
        boolean wedge;
        int[] wish = new int[4], habit = new int[4], tired = new int[4], answer = new int[4];

        State copy() {
            State s = new State();
            s.left = left;
            s.right = right;
            s.turn = turn;
            s.depth = depth;
            s.strokes = strokes;
            s.askew = askew;
            s.gum = gum;
            s.teeth = teeth;
            s.wedge = wedge;
            s.wish = wish.clone();
            s.habit = habit.clone();
            s.tired = tired.clone();
            s.answer = answer.clone();
            return s;
        }
    }

    private static final class Model {
        String text = "";
        int faultAt = NONE;
        int layers, limit = 2, resin, closes = 12;
        List<Integer> wood = new ArrayList<>();
        List<int[]> people = new ArrayList<>();
        State now = new State();
        List<State> deeds = new ArrayList<>();
        List<Integer> seen = new ArrayList<>();
        List<Integer> book = new ArrayList<>();
        Map<Integer, State> images = new HashMap<>();
        Map<Integer, Long> imageSeeds = new HashMap<>();
        long seed;

        int feed(int letter) {
            if (letter < 0 || letter > 255) {
                return OUTSIDE;
            }
            if (text.length() >= 250) {
                return FULL;
            }
            text += (char) letter;
            return text.length();
        }

        // the text, as a walk over places that each await one kind of thing
        int[] walk(List<Integer> numbersOut, List<String> clausesOut) {
            String awaited = "word";
            char word = 0;
            int number = 0;
            Map<Character, Integer> had = new HashMap<>();
            int[][] p = {{1, 20}, {0, 9}, {0, 5}, {0, 9}, {0, 2}};
            int[][] s = {{1, 9}, {0, 9}, {0, 9}};
            StringBuilder clause = new StringBuilder();
            for (int i = 0; i < text.length(); i++) {
                char c = text.charAt(i);
                if (c == ' ') {
                    continue;
                }
                if (c >= '0' && c <= '9') {
                    int j = i;
                    while (j < text.length() && text.charAt(j) >= '0' && text.charAt(j) <= '9') {
                        j++;
                    }
                    if (!awaited.equals("number")) {
                        return new int[] {1, i};
                    }
                    int[] bounds = word == 'l' ? new int[] {1, 9} : word == 'c' ? new int[] {0, 12} : word == 'p' ? p[number] : s[number];
                    if (j - i > 3 || Integer.parseInt(text.substring(i, j)) < bounds[0] || Integer.parseInt(text.substring(i, j)) > bounds[1]) {
                        return new int[] {2, i};
                    }
                    clause.append(' ').append(Integer.parseInt(text.substring(i, j)));
                    number++;
                    int due = word == 'p' ? 5 : word == 's' ? 3 : word == 'c' ? 1 : number;
                    awaited = number < due ? "number" : "behind";
                    i = j - 1;
                    continue;
                }
                if (awaited.equals("word") && "lpsc".indexOf(c) >= 0) {
                    if (c != 'l' && !had.containsKey('l')) {
                        return new int[] {1, i};
                    }
                    int times = had.merge(c, 1, Integer::sum);
                    if (times > (c == 'p' ? 4 : 1)) {
                        return new int[] {3, i};
                    }
                    word = c;
                    number = 0;
                    awaited = "number";
                    clause = new StringBuilder().append(c);
                } else if (awaited.equals("behind") && c == ';') {
                    clausesOut.add(clause.toString());
                    awaited = "word";
                } else if (awaited.equals("behind") && c == ',' && word == 'l' && number < 12) {
                    awaited = "number";
                } else {
                    return new int[] {1, i};
                }
            }
            return awaited.equals("word") ? null : new int[] {1, text.length()};
        }

        int yard() {
            List<String> clauses = new ArrayList<>();
            int[] fault = walk(new ArrayList<>(), clauses);
            text = "";
            faultAt = fault == null ? NONE : fault[1];
            if (fault != null) {
                return -10 - fault[0];
            }
            wood.clear();
            people.clear();
            deeds.clear();
            seen.clear();
            book.clear();
            images.clear();
            limit = 2;
            resin = 0;
            closes = 12;
            now = new State();
            for (String clause : clauses) {
                String[] words = clause.split(" ");
                int[] v = new int[words.length - 1];
                for (int i = 1; i < words.length; i++) {
                    v[i - 1] = Integer.parseInt(words[i]);
                }
                switch (words[0]) {
                    case "l":
                        for (int w : v) {
                            wood.add(w);
                        }
                        break;
                    case "p":
                        now.wish[people.size()] = v[0];
                        now.habit[people.size()] = v[3];
                        people.add(v);
                        break;
                    case "s":
                        now.teeth = v[0];
                        limit = v[1];
                        resin = v[2];
                        break;
                    default:
                        closes = v[0];
                        break;
                }
            }
            layers = wood.size();
            return layers;
        }

        boolean isThrough(State s) {
            return layers > 0 && s.depth == 100 * layers;
        }

        int strokeOf(State s) {
            int who = s.turn;
            int mate = s.turn == s.left ? s.right : s.left;
            int[] person = people.get(who);
            int layer = s.depth / 100;
            int habit = s.habit[mate];
            int drag = habit < 5 ? habit : 0;
            int push = habit > 5 ? habit - 5 : 0;
            int pull = Math.min(person[0], s.wish[who]) + s.answer[who] - s.tired[who] / 10;
            if (pull < 0) {
                pull = 0;
            }
            pull -= drag;
            if (push > limit) {
                pull = 0;
                s.tired[who] = Math.min(999, s.tired[who] + 2);
                s.tired[mate] = Math.min(999, s.tired[mate] + 2);
            } else if (push > 0) {
                pull += pull / 2;
            }
            pull -= s.gum / 10;
            if (layer >= closes && !s.wedge) {
                pull = pull / 2;
            }
            if (pull < 0) {
                pull = 0;
            }
            int cut = pull * s.teeth / wood.get(layer);
            s.depth = Math.min(100 * layers, s.depth + cut);
            s.gum += resin;
            s.tired[who] = Math.min(999, s.tired[who] + person[2]);
            s.tired[mate] = Math.max(0, s.tired[mate] - 1);
            if (drag > 0) {
                int step = person[4] == 1 ? 1 : person[4] == 2 ? -1 : 0;
                s.answer[who] = Math.max(-9, Math.min(9, s.answer[who] + step));
            } else {
                s.answer[who] -= Integer.signum(s.answer[who]);
            }
            if (cut > 0) {
                s.askew += people.get(s.left)[1] - people.get(s.right)[1];
            }
            s.strokes++;
            s.turn = mate;
            return cut;
        }

        void restOf(State s, int n) {
            s.tired[s.left] = Math.max(0, s.tired[s.left] - 3 * n);
            s.tired[s.right] = Math.max(0, s.tired[s.right] - 3 * n);
            s.strokes += n;
        }

        int toGoOf(State from) {
            State s = from.copy();
            for (int i = 0; i <= 999; i++) {
                if (isThrough(s)) {
                    return i;
                }
                if (i < 999) {
                    strokeOf(s);
                }
            }
            return NONE;
        }

        State freshPair(int a, int b) {
            if (a < 0 || b < 0 || a >= people.size() || b >= people.size() || a == b) {
                return null;
            }
            State s = new State();
            s.left = a;
            s.right = b;
            s.turn = a;
            s.teeth = now.teeth;
            s.habit = now.habit.clone();
            for (int p = 0; p < people.size(); p++) {
                s.wish[p] = people.get(p)[0];
            }
            return s;
        }

        boolean has(int p) {
            return p >= 0 && p < people.size();
        }

        void deed() {
            deeds.add(now.copy());
            if (deeds.size() > 30) {
                deeds.remove(0);
            }
        }

        int told(int what) {
            int[] all = {layers, people.size(), text.length(), now.left, now.right, now.turn, now.depth, now.strokes, now.askew,
                now.gum, now.wedge ? 1 : 0, now.teeth, limit, resin, closes, isThrough(now) ? 1 : 0, seen.size(), book.size(), deeds.size()};
            return what < 0 || what >= all.length ? OUTSIDE : all[what];
        }

        int person(int p, int what) {
            if (!has(p)) {
                return UNKNOWN;
            }
            int[] v = people.get(p);
            int[] all = {v[0], v[1], v[2], now.habit[p], v[4], now.wish[p], now.tired[p], now.answer[p]};
            return what < 0 || what >= all.length ? OUTSIDE : all[what];
        }

        int ask(String name, int a, int b, int c) {
            switch (name) {
                case "log": case "fresh": case "quarrel": case "habits": case "wishes":
                    return has(a) && has(b) && a != b ? ofTwo(name, a, b, c) : UNKNOWN;
                case "stroke": case "rest": case "drift":
                    return a < 1 || a > 99 ? OUTSIDE : now.left < 0 || isThrough(now) ? NOT : sawing(name, a);
                case "sides": case "oil": case "wedge": case "file": case "toGo": case "worthFile": case "judge":
                    return now.left < 0 ? NOT : ofPair(name);
                case "wish": case "habit":
                    return !has(a) ? UNKNOWN : changing(name.equals("wish"), a, b);
                case "changes": case "whenWedge": case "whenRest": case "withWhom":
                    return searching(name, a, b, c);
                case "see": case "write": case "end": case "tear":
                    return ofCuts(name, a);
                default:
                    return plain(name, a, b);
            }
        }

        int plain(String name, int a, int b) {
            switch (name) {
                case "yard": return yard();
                case "fault": return faultAt;
                case "told": return told(a);
                case "wood": return a < 0 || a >= layers ? UNKNOWN : wood.get(a);
                case "person": return person(a, b);
                case "seed":
                    int was = (int) seed;
                    seed = a < 0 ? seed : a;
                    return a < 0 ? OUTSIDE : was;
                case "undo":
                    if (a < 1 || a > 30) {
                        return OUTSIDE;
                    }
                    if (a > deeds.size()) {
                        return NOT;
                    }
                    for (int i = 0; i < a; i++) {
                        now = deeds.remove(deeds.size() - 1);
                    }
                    return now.strokes;
                case "keep":
                    if (a != 0 && a != 1) {
                        return UNKNOWN;
                    }
                    images.put(a, now.copy());
                    imageSeeds.put(a, seed);
                    deeds.clear();
                    return 1;
                case "goBack":
                    if (a != 0 && a != 1) {
                        return UNKNOWN;
                    }
                    if (!images.containsKey(a)) {
                        return NOT;
                    }
                    now = images.get(a).copy();
                    seed = imageSeeds.get(a);
                    deeds.clear();
                    return 1;
                default: throw new IllegalStateException(name);
            }
        }

        int changing(boolean isWish, int p, int v) {
            if (v < (isWish ? 1 : 0) || v > (isWish ? 20 : 9)) {
                return OUTSIDE;
            }
            int was = isWish ? now.wish[p] : now.habit[p];
            if (was != v) {
                deed();
                (isWish ? now.wish : now.habit)[p] = v;
            }
            return was;
        }

        int sawing(String name, int n) {
            deed();
            if (name.equals("rest")) {
                restOf(now, n);
                return now.strokes;
            }
            int cuts = 0;
            for (int i = 0; i < n && !isThrough(now); i++) {
                int draw = 7;
                if (name.equals("drift")) {
                    seed = (seed * 1103515245L + 12345L) % (1L << 31);
                    draw = (int) (seed / 65536 % 8);
                }
                if (draw == 0) {
                    restOf(now, 1);
                } else if (draw == 1) {
                    now.gum = 0;
                } else {
                    cuts += strokeOf(now);
                }
            }
            return name.equals("drift") ? now.depth : cuts;
        }

        int ofPair(String name) {
            switch (name) {
                case "sides":
                    deed();
                    int left = now.left;
                    now.left = now.right;
                    now.right = left;
                    return now.left;
                case "oil":
                    int gum = now.gum;
                    if (gum > 0) {
                        deed();
                    }
                    now.gum = 0;
                    return gum;
                case "wedge":
                    if (now.wedge) {
                        return NOT;
                    }
                    deed();
                    now.wedge = true;
                    return now.strokes += 3;
                case "file":
                    if (now.teeth == 9) {
                        return NOT;
                    }
                    deed();
                    now.strokes += 20;
                    return ++now.teeth;
                case "toGo":
                    return toGoOf(now);
                case "worthFile":
                    State filed = now.copy();
                    filed.teeth = Math.min(9, filed.teeth + 1);
                    int without = toGoOf(now);
                    int with = toGoOf(filed);
                    return (without == NONE ? 1000 : without) - ((with == NONE ? 1000 : with) + 20);
                default:
                    return cutsOf(now, book.size()).equals(book) ? NONE : firstOther(cutsOf(now, book.size()));
            }
        }

        /** The cuts to come, so many at most, fewer if it is through ahead of them. */
        List<Integer> cutsOf(State from, int most) {
            State s = from.copy();
            List<Integer> cuts = new ArrayList<>();
            while (cuts.size() < most && !isThrough(s)) {
                cuts.add(strokeOf(s));
            }
            return cuts;
        }

        int firstOther(List<Integer> cuts) {
            int i = 0;
            while (i < cuts.size() && cuts.get(i).equals(book.get(i))) {
                i++;
            }
            return i;
        }

        int ofTwo(String name, int a, int b, int c) {
            switch (name) {
                case "log":
                    State s = freshPair(a, b);
                    s.wish = now.wish;
                    now = s;
                    deeds.clear();
                    return a;
                case "fresh":
                    return toGoOf(freshPair(a, b));
                case "quarrel":
                    State q = freshPair(a, b);
                    for (int i = 1; i <= 99; i++) {
                        if (isThrough(q)) {
                            return NONE;
                        }
                        strokeOf(q);
                        for (int answer : q.answer) {
                            if (answer == 9 || answer == -9) {
                                return i;
                            }
                        }
                    }
                    return NONE;
                case "habits":
                    int set = 0;
                    for (int habit = 0; habit < 10; habit++) {
                        State h = freshPair(a, b);
                        h.habit[b] = habit;
                        set += cutsOf(h, seen.size()).equals(seen) ? 1 << habit : 0;
                    }
                    return set;
                default:
                    return c < 0 || c > 2 ? OUTSIDE : wishesOf(a, b)[c];
            }
        }

        int[] wishesOf(int a, int b) {
            int[] best = {NONE, NONE, NONE};
            for (int v = 1; v <= 20; v++) {
                for (int w = 1; w <= 20; w++) {
                    State s = freshPair(a, b);
                    s.wish[a] = v;
                    s.wish[b] = w;
                    int strokes = toGoOf(s);
                    if (strokes != NONE && (best[0] == NONE || strokes < best[0])) {
                        best = new int[] {strokes, v, w};
                    }
                }
            }
            return best;
        }

        int ofCuts(String name, int a) {
            switch (name) {
                case "see": case "write":
                    List<Integer> list = name.equals("see") ? seen : book;
                    if (a < 0 || a > 999) {
                        return OUTSIDE;
                    }
                    if (list.size() == (name.equals("see") ? 8 : 20)) {
                        return FULL;
                    }
                    list.add(a);
                    return list.size();
                case "tear":
                    int both = seen.size() + book.size();
                    seen.clear();
                    book.clear();
                    return both;
                default:
                    if (layers == 0) {
                        return NOT;
                    }
                    List<Integer> pairs = new ArrayList<>();
                    for (int pair = 0; pair < 44; pair++) {
                        State s = freshPair(pair / 10, pair % 10);
                        if (s != null && cutsOf(s, seen.size()).equals(seen)) {
                            pairs.add(pair);
                        }
                    }
                    return a == NONE ? pairs.size() : a >= 0 && a < pairs.size() ? pairs.get(a) : NONE;
            }
        }

        int searching(String name, int a, int b, int c) {
            switch (name) {
                case "withWhom":
                    return a < 0 || a > 1 ? OUTSIDE : layers == 0 ? NOT : withWhom()[a];
                case "whenWedge":
                    return a < 0 || a > 1 ? OUTSIDE : now.left < 0 ? NOT : whenWedge()[a];
                case "whenRest":
                    boolean outside = a < 1 || a > 10 || b < 0 || b > 1;
                    if (outside || now.left < 0) {
                        return outside ? OUTSIDE : NOT;
                    }
                    bestRow = null;
                    tryRows(now, a, "");
                    return b == 0 ? bestDepth : Integer.parseInt(new StringBuilder(bestRow).reverse().toString(), 2);
                default:
                    boolean out = a < 1 || a > 30 || b < 0 || b > 999 || c < 0 || c > 1;
                    return out ? OUTSIDE : now.left < 0 ? NOT : changes(a, b)[c];
            }
        }

        int[] withWhom() {
            int[] best = {NONE, NONE};
            if (people.size() < 4) {
                return best;
            }
            TreeMap<Integer, int[]> ranked = new TreeMap<>();
            int[][] rows = {{1, 2, 3}, {2, 1, 3}, {3, 1, 2}};
            for (int[] row : rows) {
                int here = toGoOf(freshPair(0, row[0]));
                int there = toGoOf(freshPair(row[1], row[2]));
                if (here != NONE && there != NONE) {
                    int later = Math.max(here, there);
                    ranked.put(later * 100000 + (here + there) * 10 + row[0], new int[] {later, row[0]});
                }
            }
            return ranked.isEmpty() ? best : ranked.firstEntry().getValue();
        }

        int[] whenWedge() {
            int[] best = {NONE, NONE};
            int fewest = toGoOf(now) == NONE ? Integer.MAX_VALUE : toGoOf(now);
            for (int k = 0; k < 100 && !now.wedge; k++) {
                State s = now.copy();
                int pulls = 0;
                while (pulls < 999 && !isThrough(s)) {
                    s.wedge |= pulls == k;
                    strokeOf(s);
                    pulls++;
                }
                if (s.wedge && isThrough(s) && pulls + 3 < fewest) {
                    fewest = pulls + 3;
                    best = new int[] {k, fewest};
                }
            }
            return best;
        }

        String bestRow;
        int bestDepth;

        void tryRows(State s, int turns, String row) {
            if (turns == 0) {
                int rests = row.replace("0", "").length();
                int bestRests = bestRow == null ? 0 : bestRow.replace("0", "").length();
                if (bestRow == null || s.depth > bestDepth || s.depth == bestDepth
                        && (rests < bestRests || rests == bestRests && row.compareTo(bestRow) < 0)) {
                    bestRow = row;
                    bestDepth = s.depth;
                }
                return;
            }
            State rest = s.copy();
            restOf(rest, 1);
            tryRows(rest, turns - 1, row + "1");
            State stroke = s.copy();
            if (!isThrough(stroke)) {
                strokeOf(stroke);
            }
            tryRows(stroke, turns - 1, row + "0");
        }

        /** Forward, stroke by stroke: for each askew and side, the fewest changes and their latest first one. */
        int[] changes(int n, int m) {
            int lean = people.get(now.left)[1] - people.get(now.right)[1];
            Map<String, int[]> reached = new HashMap<>();
            reached.put(now.askew + " 1", new int[] {0, NONE});
            for (int stroke = 0; stroke < n; stroke++) {
                Map<String, int[]> then = new HashMap<>();
                for (Map.Entry<String, int[]> each : reached.entrySet()) {
                    String[] key = each.getKey().split(" ");
                    int side = Integer.parseInt(key[1]);
                    int[] was = each.getValue();
                    for (int turn = 1; turn >= -1; turn -= 2) {
                        int askew = Integer.parseInt(key[0]) + side * turn * lean;
                        if (Math.abs(askew) <= m) {
                            int[] is = turn == 1 ? was : new int[] {was[0] + 1, was[0] == 0 ? stroke : was[1]};
                            then.merge(askew + " " + side * turn, is, (x, y) -> x[0] < y[0] || x[0] == y[0] && x[1] > y[1] ? x : y);
                        }
                    }
                }
                reached = then;
            }
            int[] best = {NONE, NONE};
            for (int[] each : reached.values()) {
                if (best[0] == NONE || each[0] < best[0] || each[0] == best[0] && each[1] > best[1]) {
                    best = each;
                }
            }
            return best;
        }
    }
}
