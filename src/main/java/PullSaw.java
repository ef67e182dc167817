/** A two-man saw and a log, told in a text, sawn by strokes, tried, seen, undone and kept in images. */
public final class PullSaw {
    public static final int NONE = -1, UNKNOWN = -1000000001, OUTSIDE = -1000000002, NOT = -1000000003, FULL = -1000000004;

    private static final int TEXT_MOST = 250, LAYERS_MOST = 12, PEOPLE_MOST = 4;
    private static final int SEEN_MOST = 8, BOOK_MOST = 20, DEEDS_MOST = 30, CALL_MOST = 99, CUT_MOST = 999;
    private static final int FORCE_MOST = 20, HABIT_MOST = 9, TEETH_MOST = 9, LETS = 5, HARDER = 1, SOFTER = 2;
    private static final int TEETH_UNTOLD = 5, LIMIT_UNTOLD = 2, RESIN_UNTOLD = 0;
    private static final int LAYER_DEPTH = 100, TIRED_MOST = 999, ANSWER_MOST = 9;
    private static final int REST_EASES = 3, WEDGE_STROKES = 3, FILE_STROKES = 20;
    private static final int TO_GO_MOST = 999, NEVER = 1000;
    private static final int QUARREL_MOST = 99, WEDGE_AHEAD_MOST = 99, ROW_MOST = 10, CHANGES_MOST = 30, ASKEW_MOST = 999;

    private final Yard yard = new Yard();
    private final Reader reader = new Reader();
    private final Work now = new Work();
    private final Past past = new Past();
    private final Trial trial = new Trial();
    private final Balance balance = new Balance();
    private final Sheet seen = new Sheet(SEEN_MOST);
    private final Sheet book = new Sheet(BOOK_MOST);
    private final Image first = new Image();
    private final Image second = new Image();
    private int seed;

    public PullSaw() {
    }

    // ---- the yard

    public int feed(int letter) {
        if (letter < 0 || letter > 255) {
            return OUTSIDE;
        }
        return reader.text.add(letter) ? reader.text.count : FULL;
    }

    public int yard() {
        reader.readText();
        if (reader.faultKind != 0) {
            return -10 - reader.faultKind;
        }
        yard.become(reader.draft);
        now.startYard(yard);
        seen.clear();
        book.clear();
        past.clear();
        first.kept = false;
        second.kept = false;
        return yard.layers;
    }

    public int fault() {
        return reader.faultPlace;
    }

    public int told(int what) {
        switch (what) {
            case 0: return yard.layers;
            case 1: return yard.people;
            case 2: return reader.text.count;
            case 3: return now.left;
            case 4: return now.right;
            case 5: return now.next;
            case 6: return now.depth;
            case 7: return now.strokes;
            case 8: return now.askew;
            case 9: return now.gum;
            case 10: return now.wedged ? 1 : 0;
            case 11: return now.teeth;
            case 12: return yard.limit;
            case 13: return yard.resin;
            case 14: return yard.closes;
            case 15: return now.isThrough(yard) ? 1 : 0;
            case 16: return seen.count;
            case 17: return book.count;
            case 18: return past.count;
            default: return OUTSIDE;
        }
    }

    public int wood(int layer) {
        return layer < 0 || layer >= yard.layers ? UNKNOWN : Row.at(yard.woods, layer);
    }

    public int person(int p, int what) {
        if (!yard.hasPerson(p)) {
            return UNKNOWN;
        }
        switch (what) {
            case 0: return Row.at(yard.forces, p);
            case 1: return Row.at(yard.heights, p);
            case 2: return Row.at(yard.tires, p);
            case 3: return Row.at(now.habits, p);
            case 4: return Row.at(yard.bents, p);
            case 5: return Row.at(now.wishes, p);
            case 6: return Row.at(now.tired, p);
            case 7: return Row.at(now.answers, p);
            default: return OUTSIDE;
        }
    }

    // ---- deeds

    public int log(int a, int b) {
        int refusal = refusalOfTwo(a, b);
        if (refusal != 0) {
            return refusal;
        }
        now.startLog(a, b);
        past.clear();
        return a;
    }

    public int stroke(int n) {
        int refusal = refusalOfSawing(n);
        if (refusal != 0) {
            return refusal;
        }
        past.remember(now);
        int cuts = 0;
        for (int i = 0; i < n && !now.isThrough(yard); i++) {
            cuts += now.pullOnce(yard);
        }
        return cuts;
    }

    public int rest(int n) {
        int refusal = refusalOfSawing(n);
        if (refusal != 0) {
            return refusal;
        }
        past.remember(now);
        now.restFor(n);
        return now.strokes;
    }

    public int sides() {
        if (!now.hasPair()) {
            return NOT;
        }
        past.remember(now);
        now.changeSides();
        return now.left;
    }

    public int oil() {
        if (!now.hasPair()) {
            return NOT;
        }
        int was = now.gum;
        if (was != 0) {
            past.remember(now);
            now.gum = 0;
        }
        return was;
    }

    public int wedge() {
        if (!now.hasPair() || now.wedged) {
            return NOT;
        }
        past.remember(now);
        now.wedged = true;
        now.strokes += WEDGE_STROKES;
        return now.strokes;
    }

    public int file() {
        if (!now.hasPair() || now.teeth >= TEETH_MOST) {
            return NOT;
        }
        past.remember(now);
        now.teeth++;
        now.strokes += FILE_STROKES;
        return now.teeth;
    }

    public int wish(int p, int v) {
        if (!yard.hasPerson(p)) {
            return UNKNOWN;
        }
        return isWithin(v, 1, FORCE_MOST) ? changeRow(now.wishes, p, v) : OUTSIDE;
    }

    public int habit(int p, int v) {
        if (!yard.hasPerson(p)) {
            return UNKNOWN;
        }
        return isWithin(v, 0, HABIT_MOST) ? changeRow(now.habits, p, v) : OUTSIDE;
    }

    public int drift(int n) {
        int refusal = refusalOfSawing(n);
        if (refusal != 0) {
            return refusal;
        }
        past.remember(now);
        for (int i = 0; i < n && !now.isThrough(yard); i++) {
            driftOnce();
        }
        return now.depth;
    }

    public int undo(int n) {
        if (!isWithin(n, 1, DEEDS_MOST)) {
            return OUTSIDE;
        }
        if (n > past.count) {
            return NOT;
        }
        past.bringBack(n, now);
        return now.strokes;
    }

    // ---- tried

    public int toGo() {
        return now.hasPair() ? noneIfNever(trial.strokesFrom(yard, now)) : NOT;
    }

    public int fresh(int a, int b) {
        int refusal = refusalOfTwo(a, b);
        return refusal != 0 ? refusal : noneIfNever(trial.strokesFresh(yard, now, a, b));
    }

    public int wishes(int a, int b, int what) {
        if (!yard.hasTwo(a, b)) {
            return UNKNOWN;
        }
        if (!isWithin(what, 0, 2)) {
            return OUTSIDE;
        }
        if (yard.layers == 0) {
            return NOT;
        }
        trial.findWishes(yard, now, a, b);
        if (trial.fewest == NEVER) {
            return NONE;
        }
        return what == 0 ? trial.fewest : what == 1 ? trial.firstWish : trial.otherWish;
    }

    public int quarrel(int a, int b) {
        int refusal = refusalOfTwo(a, b);
        return refusal != 0 ? refusal : trial.quarrelStroke(yard, now, a, b);
    }

    public int withWhom(int what) {
        if (!isWithin(what, 0, 1)) {
            return OUTSIDE;
        }
        if (yard.layers == 0) {
            return NOT;
        }
        int whom = trial.findMate(yard, now);
        return whom == NONE || what == 1 ? whom : trial.fewest;
    }

    public int changes(int n, int m, int what) {
        if (!isWithin(n, 1, CHANGES_MOST) || !isWithin(m, 0, ASKEW_MOST) || !isWithin(what, 0, 1)) {
            return OUTSIDE;
        }
        if (!now.hasPair()) {
            return NOT;
        }
        balance.weigh(now.askew, now.lean(yard), n, m);
        return what == 0 ? balance.fewest : balance.latestFirst;
    }

    public int whenWedge(int what) {
        if (!isWithin(what, 0, 1)) {
            return OUTSIDE;
        }
        if (!now.hasPair()) {
            return NOT;
        }
        int ahead = trial.findWedge(yard, now);
        return ahead == NONE || what == 0 ? ahead : trial.fewest;
    }

    public int whenRest(int n, int what) {
        if (!isWithin(n, 1, ROW_MOST) || !isWithin(what, 0, 1)) {
            return OUTSIDE;
        }
        if (!now.hasPair()) {
            return NOT;
        }
        int turns = trial.findRests(yard, now, n);
        return what == 0 ? trial.deepest : turns;
    }

    public int worthFile() {
        return now.hasPair() ? trial.gainByFile(yard, now) : NOT;
    }

    // ---- what was seen

    public int see(int cut) {
        return addCut(seen, cut);
    }

    public int habits(int a, int b) {
        int refusal = refusalOfTwo(a, b);
        return refusal != 0 ? refusal : trial.habitsThatFit(yard, now, a, b, seen);
    }

    public int end(int i) {
        return yard.layers == 0 ? NOT : trial.pairThatFits(yard, now, seen, i);
    }

    public int write(int cut) {
        return addCut(book, cut);
    }

    public int judge() {
        return now.hasPair() ? trial.wrongLine(yard, now, book) : NOT;
    }

    public int tear() {
        int both = seen.count + book.count;
        seen.clear();
        book.clear();
        return both;
    }

    // ---- images

    public int seed(int v) {
        if (v < 0) {
            return OUTSIDE;
        }
        int was = seed;
        seed = v;
        return was;
    }

    public int keep(int i) {
        if (!isWithin(i, 0, 1)) {
            return UNKNOWN;
        }
        Image image = i == 0 ? first : second;
        image.work.become(now);
        image.seed = seed;
        image.kept = true;
        past.clear();
        return 1;
    }

    public int goBack(int i) {
        if (!isWithin(i, 0, 1)) {
            return UNKNOWN;
        }
        Image image = i == 0 ? first : second;
        if (!image.kept) {
            return NOT;
        }
        now.become(image.work);
        seed = image.seed;
        past.clear();
        return 1;
    }

    // ---- what several calls share

    private static boolean isWithin(int v, int least, int most) {
        return v >= least && v <= most;
    }

    private static int noneIfNever(int strokes) {
        return strokes == NEVER ? NONE : strokes;
    }

    private int refusalOfTwo(int a, int b) {
        return !yard.hasTwo(a, b) ? UNKNOWN : yard.layers == 0 ? NOT : 0;
    }

    private int refusalOfSawing(int n) {
        return !isWithin(n, 1, CALL_MOST) ? OUTSIDE : !now.hasPair() || now.isThrough(yard) ? NOT : 0;
    }

    private int changeRow(int[] row, int p, int v) {
        int was = Row.at(row, p);
        if (was != v) {
            past.remember(now);
            Row.put(row, p, v);
        }
        return was;
    }

    private static int addCut(Sheet sheet, int cut) {
        if (!isWithin(cut, 0, CUT_MOST)) {
            return OUTSIDE;
        }
        return sheet.add(cut) ? sheet.count : FULL;
    }

    private void driftOnce() {
        switch (drawEighth()) {
            case 0:
                now.restFor(1);
                break;
            case 1:
                now.gum = 0;
                break;
            default:
                now.pullOnce(yard);
                break;
        }
    }

    private int drawEighth() {
        // the wrap-around keeps the lowest 31 bits right
        seed = (seed * 1103515245 + 12345) & 0x7fffffff;
        return seed / 65536 % 8;
    }

    /** Rows of numbers: every index is looked at here, so that nothing else has to. */
    private static final class Row {
        static int at(int[] row, int i) {
            return i >= 0 && i < row.length ? row[i] : 0;
        }

        static void put(int[] row, int i, int v) {
            if (i >= 0 && i < row.length) {
                row[i] = v;
            }
        }

        static void copy(int[] from, int[] to) {
            for (int i = 0; i < from.length && i < to.length; i++) {
                to[i] = from[i];
            }
        }

        static void fill(int[] row, int v) {
            for (int i = 0; i < row.length; i++) {
                row[i] = v;
            }
        }
    }

    /** A list of numbers that grows to a bound. */
    private static final class Sheet {
        private final int[] marks;
        int count;

        Sheet(int most) {
            marks = new int[Math.max(0, most)];
        }

        boolean add(int v) {
            if (count >= marks.length) {
                return false;
            }
            Row.put(marks, count, v);
            count++;
            return true;
        }

        /** NONE behind the last one: no letter and no cut is that. */
        int mark(int i) {
            return i >= 0 && i < count && i < marks.length ? marks[i] : NONE;
        }

        void clear() {
            count = 0;
        }
    }

    /** What the text tells; deeds change none of it. */
    private static final class Yard {
        int layers;
        int people;
        int teeth = TEETH_UNTOLD;
        int limit = LIMIT_UNTOLD;
        int resin = RESIN_UNTOLD;
        int closes = LAYERS_MOST;
        final int[] woods = new int[LAYERS_MOST];
        final int[] forces = new int[PEOPLE_MOST];
        final int[] heights = new int[PEOPLE_MOST];
        final int[] tires = new int[PEOPLE_MOST];
        final int[] firstHabits = new int[PEOPLE_MOST];
        final int[] bents = new int[PEOPLE_MOST];

        void clear() {
            layers = 0;
            people = 0;
            teeth = TEETH_UNTOLD;
            limit = LIMIT_UNTOLD;
            resin = RESIN_UNTOLD;
            closes = LAYERS_MOST;
        }

        void become(Yard other) {
            layers = other.layers;
            people = other.people;
            teeth = other.teeth;
            limit = other.limit;
            resin = other.resin;
            closes = other.closes;
            Row.copy(other.woods, woods);
            Row.copy(other.forces, forces);
            Row.copy(other.heights, heights);
            Row.copy(other.tires, tires);
            Row.copy(other.firstHabits, firstHabits);
            Row.copy(other.bents, bents);
        }

        boolean hasPerson(int p) {
            return p >= 0 && p < people;
        }

        boolean hasTwo(int a, int b) {
            return hasPerson(a) && hasPerson(b) && a != b;
        }

        int bottom() {
            return layers * LAYER_DEPTH;
        }
    }

    /** Reads the text into a draft of a yard, up to its first fault. */
    private static final class Reader {
        private static final int CANNOT_STAND = 1, BAD_NUMBER = 2, AGAIN = 3, BLANK = 32, FIGURES_MOST = 3;

        final Sheet text = new Sheet(TEXT_MOST);
        final Yard draft = new Yard();
        int faultKind;
        int faultPlace = NONE;
        private int place;
        private boolean sawTold;
        private boolean closeTold;

        void readText() {
            draft.clear();
            faultKind = 0;
            faultPlace = NONE;
            place = 0;
            sawTold = false;
            closeTold = false;
            for (int clauses = 0; clauses <= TEXT_MOST && faultKind == 0; clauses++) {
                skipBlanks();
                if (place >= text.count) {
                    break;
                }
                readClause();
            }
            text.clear();
        }

        private void readClause() {
            int word = text.mark(place);
            int wrong = faultOfWord(word);
            if (wrong != 0) {
                markFault(wrong, place);
                return;
            }
            place++;
            switch (word) {
                case 'l':
                    readLayers();
                    break;
                case 'p':
                    readPerson();
                    break;
                case 's':
                    readSaw();
                    break;
                default:
                    draft.closes = readNumber(0, LAYERS_MOST);
                    closeTold = true;
                    readEnd();
                    break;
            }
        }

        private int faultOfWord(int word) {
            boolean stands = word == 'l' || draft.layers > 0 && (word == 'p' || word == 's' || word == 'c');
            if (!stands) {
                return CANNOT_STAND;
            }
            boolean again = word == 'l' && draft.layers > 0
                || word == 'p' && draft.people >= PEOPLE_MOST
                || word == 's' && sawTold
                || word == 'c' && closeTold;
            return again ? AGAIN : 0;
        }

        private void readLayers() {
            for (int i = 0; i < LAYERS_MOST; i++) {
                Row.put(draft.woods, i, readNumber(1, 9));
                draft.layers = i + 1;
                skipBlanks();
                // behind the last layer that there may be, no ',' can stand
                if (i + 1 == LAYERS_MOST || text.mark(place) != ',') {
                    break;
                }
                place++;
            }
            readEnd();
        }

        private void readPerson() {
            int p = draft.people;
            Row.put(draft.forces, p, readNumber(1, FORCE_MOST));
            Row.put(draft.heights, p, readNumber(0, 9));
            Row.put(draft.tires, p, readNumber(0, 5));
            Row.put(draft.firstHabits, p, readNumber(0, HABIT_MOST));
            Row.put(draft.bents, p, readNumber(0, SOFTER));
            draft.people = p + 1;
            readEnd();
        }

        private void readSaw() {
            draft.teeth = readNumber(1, TEETH_MOST);
            draft.limit = readNumber(0, 9);
            draft.resin = readNumber(0, 9);
            sawTold = true;
            readEnd();
        }

        private void readEnd() {
            skipBlanks();
            if (text.mark(place) == ';') {
                place++;
            } else {
                markFault(CANNOT_STAND, place);
            }
        }

        private int readNumber(int least, int most) {
            skipBlanks();
            int start = place;
            int value = 0;
            for (int i = 0; i < TEXT_MOST && isFigure(text.mark(place)); i++) {
                // longer ones are a fault: what they are worth is not asked
                value = i < FIGURES_MOST ? value * 10 + text.mark(place) - '0' : value;
                place++;
            }
            if (place == start) {
                markFault(CANNOT_STAND, start);
            } else if (place - start > FIGURES_MOST || value < least || value > most) {
                markFault(BAD_NUMBER, start);
            }
            return value;
        }

        private void skipBlanks() {
            for (int i = 0; i < TEXT_MOST && text.mark(place) == BLANK; i++) {
                place++;
            }
        }

        private static boolean isFigure(int sign) {
            return sign >= '0' && sign <= '9';
        }

        private void markFault(int kind, int where) {
            // what is read behind a fault is of no account
            if (faultKind == 0) {
                faultKind = kind;
                faultPlace = where;
            }
        }
    }

    /** How the work on the log stands: all that deeds change, but for the seed. */
    private static final class Work {
        int left = NONE;
        int right = NONE;
        int next = NONE;
        int depth;
        int strokes;
        int askew;
        int gum;
        int teeth = TEETH_UNTOLD;
        boolean wedged;
        final int[] wishes = new int[PEOPLE_MOST];
        final int[] habits = new int[PEOPLE_MOST];
        final int[] tired = new int[PEOPLE_MOST];
        final int[] answers = new int[PEOPLE_MOST];

        void become(Work other) {
            left = other.left;
            right = other.right;
            next = other.next;
            depth = other.depth;
            strokes = other.strokes;
            askew = other.askew;
            gum = other.gum;
            teeth = other.teeth;
            wedged = other.wedged;
            Row.copy(other.wishes, wishes);
            Row.copy(other.habits, habits);
            Row.copy(other.tired, tired);
            Row.copy(other.answers, answers);
        }

        void startYard(Yard yard) {
            startLog(NONE, NONE);
            teeth = yard.teeth;
            Row.copy(yard.forces, wishes);
            Row.copy(yard.firstHabits, habits);
        }

        void startLog(int a, int b) {
            left = a;
            right = b;
            next = a;
            depth = 0;
            strokes = 0;
            askew = 0;
            gum = 0;
            wedged = false;
            Row.fill(tired, 0);
            Row.fill(answers, 0);
        }

        boolean hasPair() {
            return left != NONE;
        }

        boolean isThrough(Yard yard) {
            return yard.layers > 0 && depth >= yard.bottom();
        }

        int lean(Yard yard) {
            return Row.at(yard.heights, left) - Row.at(yard.heights, right);
        }

        void changeSides() {
            int was = left;
            left = right;
            right = was;
        }

        void restFor(int n) {
            tire(left, -REST_EASES * n);
            tire(right, -REST_EASES * n);
            strokes += n;
        }

        /** One stroke by whose turn it is: its cut. */
        int pullOnce(Yard yard) {
            int who = next;
            int mate = who == left ? right : left;
            int habit = Row.at(habits, mate);
            int cut = cutBy(yard, pullOf(yard, who, habit));
            depth = Math.min(depth + cut, yard.bottom());
            gum += yard.resin;
            if (buckles(yard, habit)) {
                tire(who, 2);
                tire(mate, 2);
            }
            tire(who, Row.at(yard.tires, who));
            tire(mate, -1);
            feel(who, Row.at(yard.bents, who), habit);
            if (cut > 0) {
                askew += lean(yard);
            }
            strokes++;
            next = mate;
            return cut;
        }

        private int pullOf(Yard yard, int who, int habit) {
            int force = Math.min(Row.at(yard.forces, who), Row.at(wishes, who));
            int pull = Math.max(0, force + Row.at(answers, who) - Row.at(tired, who) / 10);
            if (buckles(yard, habit)) {
                pull = 0;
            } else if (habit > LETS) {
                pull += pull / 2;
            } else if (habit < LETS) {
                pull -= habit;
            }
            pull -= gum / 10;
            if (!wedged && depth / LAYER_DEPTH >= yard.closes) {
                pull /= 2;
            }
            return Math.max(0, pull);
        }

        private static boolean buckles(Yard yard, int habit) {
            return habit > LETS && habit - LETS > yard.limit;
        }

        private int cutBy(Yard yard, int pull) {
            int wood = Row.at(yard.woods, depth / LAYER_DEPTH);
            return wood > 0 ? pull * teeth / wood : 0;
        }

        private void tire(int p, int by) {
            Row.put(tired, p, Math.min(TIRED_MOST, Math.max(0, Row.at(tired, p) + by)));
        }

        private void feel(int who, int bent, int habit) {
            int answer = Row.at(answers, who);
            if (habit >= 1 && habit < LETS) {
                answer += bent == HARDER ? 1 : bent == SOFTER ? -1 : 0;
            } else if (answer != 0) {
                answer += answer > 0 ? -1 : 1;
            }
            Row.put(answers, who, Math.min(ANSWER_MOST, Math.max(-ANSWER_MOST, answer)));
        }

        boolean hasQuarrel() {
            return Math.abs(Row.at(answers, left)) >= ANSWER_MOST || Math.abs(Row.at(answers, right)) >= ANSWER_MOST;
        }
    }

    /** A work that is kept, with its seed. */
    private static final class Image {
        final Work work = new Work();
        int seed;
        boolean kept;
    }

    /** How the work stood ahead of each of the latest deeds, in a ring. */
    private static final class Past {
        int count;
        private int top;
        private final Work[] ring = new Work[DEEDS_MOST];

        Past() {
            for (int i = 0; i < ring.length; i++) {
                ring[i] = new Work();
            }
        }

        void clear() {
            count = 0;
        }

        void remember(Work work) {
            Work place = placeAt(top);
            if (place != null) {
                place.become(work);
                top = (top + 1) % DEEDS_MOST;
                count = Math.min(DEEDS_MOST, count + 1);
            }
        }

        void bringBack(int n, Work work) {
            int back = (top - n + DEEDS_MOST) % DEEDS_MOST;
            Work place = placeAt(back);
            if (place != null) {
                work.become(place);
                top = back;
                count -= n;
            }
        }

        private Work placeAt(int i) {
            return i >= 0 && i < ring.length ? ring[i] : null;
        }
    }

    /** What is tried on copies of the work; the work itself is only looked at. */
    private static final class Trial {
        int fewest;
        int firstWish;
        int otherWish;
        int deepest;
        private int leftTired;
        private int rightTired;
        private int leftAnswer;
        private int rightAnswer;
        private final Work tried = new Work();
        private final Work further = new Work();

        int strokesFrom(Yard yard, Work now) {
            tried.become(now);
            return strokesThrough(yard, tried, TO_GO_MOST);
        }

        int strokesFresh(Yard yard, Work now, int a, int b) {
            begin(yard, now, a, b);
            return strokesThrough(yard, tried, TO_GO_MOST);
        }

        private void begin(Yard yard, Work now, int a, int b) {
            tried.become(now);
            tried.startLog(a, b);
            Row.copy(yard.forces, tried.wishes);
        }

        private int strokesThrough(Yard yard, Work work, int most) {
            int strokes = 0;
            int idle = 0;
            while (strokes < most && !work.isThrough(yard)) {
                idle = work.pullOnce(yard) > 0 ? 0 : idle + 1;
                strokes++;
                if (idle == 3) {
                    if (isNoFresher(work)) {
                        return NEVER;
                    }
                    idle = 1;
                }
                if (idle == 1) {
                    rememberPair(work);
                }
            }
            return work.isThrough(yard) ? strokes : NEVER;
        }

        private void rememberPair(Work work) {
            leftTired = Row.at(work.tired, work.left);
            rightTired = Row.at(work.tired, work.right);
            leftAnswer = Row.at(work.answers, work.left);
            rightAnswer = Row.at(work.answers, work.right);
        }

        /**
         * Each has pulled once since the pair was remembered, both cut nothing, and gum never gets less: if neither is
         * less tired now nor answers otherwise, it goes on so with every turn, and nothing is ever cut again.
         */
        private boolean isNoFresher(Work work) {
            return Row.at(work.tired, work.left) >= leftTired
                && Row.at(work.tired, work.right) >= rightTired
                && Row.at(work.answers, work.left) == leftAnswer
                && Row.at(work.answers, work.right) == rightAnswer;
        }

        void findWishes(Yard yard, Work now, int a, int b) {
            fewest = NEVER;
            firstWish = NONE;
            otherWish = NONE;
            // a wish above the force pulls like the force: it is never the first of like ones
            int firstMost = Math.min(FORCE_MOST, Row.at(yard.forces, a));
            int otherMost = Math.min(FORCE_MOST, Row.at(yard.forces, b));
            for (int v = 1; v <= firstMost; v++) {
                for (int w = 1; w <= otherMost; w++) {
                    begin(yard, now, a, b);
                    Row.put(tried.wishes, a, v);
                    Row.put(tried.wishes, b, w);
                    int strokes = strokesThrough(yard, tried, fewest - 1);
                    if (strokes < fewest) {
                        fewest = strokes;
                        firstWish = v;
                        otherWish = w;
                    }
                }
            }
        }

        int quarrelStroke(Yard yard, Work now, int a, int b) {
            begin(yard, now, a, b);
            for (int i = 1; i <= QUARREL_MOST && !tried.isThrough(yard); i++) {
                tried.pullOnce(yard);
                if (tried.hasQuarrel()) {
                    return i;
                }
            }
            return NONE;
        }

        int findMate(Yard yard, Work now) {
            int whom = NONE;
            if (yard.people < PEOPLE_MOST) {
                return whom;
            }
            fewest = NEVER;
            int leastSum = 0;
            for (int mate = 1; mate < PEOPLE_MOST; mate++) {
                int third = mate == 1 ? 2 : 1;
                int fourth = mate == 3 ? 2 : 3;
                int here = strokesFresh(yard, now, 0, mate);
                int there = strokesFresh(yard, now, third, fourth);
                int later = Math.max(here, there);
                boolean soonerInSum = later == fewest && later < NEVER && here + there < leastSum;
                if (later < fewest || soonerInSum) {
                    whom = mate;
                    fewest = later;
                    leastSum = here + there;
                }
            }
            return whom;
        }

        int findWedge(Yard yard, Work now) {
            fewest = strokesFrom(yard, now);
            int ahead = NONE;
            if (now.wedged) {
                return ahead;
            }
            // never is more than any, the wedge's own strokes with it
            fewest = fewest == NEVER ? NEVER + WEDGE_STROKES : fewest;
            tried.become(now);
            for (int k = 0; k <= WEDGE_AHEAD_MOST && !tried.isThrough(yard); k++) {
                further.become(tried);
                further.wedged = true;
                int strokes = k + strokesThrough(yard, further, TO_GO_MOST - k) + WEDGE_STROKES;
                if (strokes < fewest) {
                    fewest = strokes;
                    ahead = k;
                }
                tried.pullOnce(yard);
            }
            return ahead;
        }

        int findRests(Yard yard, Work now, int n) {
            deepest = NONE;
            int leastRests = 0;
            int bestTurns = 0;
            // the first turn is the highest figure: so the rows come in their order
            for (int row = 0; row < 1 << n; row++) {
                int rests = Integer.bitCount(row);
                int depth = depthBehind(yard, now, row, n);
                if (depth > deepest || depth == deepest && rests < leastRests) {
                    deepest = depth;
                    leastRests = rests;
                    bestTurns = row;
                }
            }
            return turnedRound(bestTurns, n);
        }

        private int depthBehind(Yard yard, Work now, int row, int n) {
            tried.become(now);
            for (int turn = n - 1; turn >= 0 && !tried.isThrough(yard); turn--) {
                if ((row >> turn & 1) == 1) {
                    tried.restFor(1);
                } else {
                    tried.pullOnce(yard);
                }
            }
            return tried.depth;
        }

        private static int turnedRound(int row, int n) {
            int set = 0;
            for (int turn = 0; turn < n; turn++) {
                set |= (row >> n - 1 - turn & 1) << turn;
            }
            return set;
        }

        int gainByFile(Yard yard, Work now) {
            int unfiled = strokesFrom(yard, now);
            tried.become(now);
            tried.teeth = Math.min(TEETH_MOST, now.teeth + 1);
            return unfiled - strokesThrough(yard, tried, TO_GO_MOST) - FILE_STROKES;
        }

        int habitsThatFit(Yard yard, Work now, int a, int b, Sheet cuts) {
            int set = 0;
            for (int habit = 0; habit <= HABIT_MOST; habit++) {
                begin(yard, now, a, b);
                Row.put(tried.habits, b, habit);
                if (firstWrong(yard, cuts) == NONE) {
                    set |= 1 << habit;
                }
            }
            return set;
        }

        int pairThatFits(Yard yard, Work now, Sheet cuts, int i) {
            int count = 0;
            for (int a = 0; a < yard.people; a++) {
                for (int b = 0; b < yard.people; b++) {
                    if (a != b && fits(yard, now, a, b, cuts)) {
                        if (count == i) {
                            return 10 * a + b;
                        }
                        count++;
                    }
                }
            }
            return i == NONE ? count : NONE;
        }

        private boolean fits(Yard yard, Work now, int a, int b, Sheet cuts) {
            begin(yard, now, a, b);
            return firstWrong(yard, cuts) == NONE;
        }

        int wrongLine(Yard yard, Work now, Sheet cuts) {
            tried.become(now);
            return firstWrong(yard, cuts);
        }

        private int firstWrong(Yard yard, Sheet cuts) {
            for (int i = 0; i < cuts.count; i++) {
                if (tried.isThrough(yard) || tried.pullOnce(yard) != cuts.mark(i)) {
                    return i;
                }
            }
            return NONE;
        }
    }

    /** The fewest changes of sides, weighed from the last stroke to the first. */
    private static final class Balance {
        private static final int WIDTH = 2 * CHANGES_MOST + 1, IMPOSSIBLE = 1000;

        int fewest;
        int latestFirst;
        private int askew;
        private int lean;
        private int most;
        private int[] costs = new int[2 * WIDTH];
        private int[] laterCosts = new int[2 * WIDTH];

        void weigh(int askewNow, int leanNow, int n, int m) {
            askew = askewNow;
            lean = leanNow;
            most = m;
            latestFirst = NONE;
            Row.fill(costs, 0);
            for (int stroke = Math.min(n, CHANGES_MOST) - 1; stroke >= 0; stroke--) {
                stepBack();
                for (int steps = -stroke; steps <= stroke; steps++) {
                    weighAhead(steps, 1);
                    weighAhead(steps, -1);
                }
                // ahead of the first change every stroke has gone one way: no other state is looked at
                if (costOfChange(stroke, 1) < costOfStay(stroke, 1)) {
                    latestFirst = stroke;
                }
            }
            fewest = Row.at(costs, place(0, 1));
            if (fewest >= IMPOSSIBLE) {
                fewest = NONE;
                latestFirst = NONE;
            }
        }

        private void stepBack() {
            int[] row = laterCosts;
            laterCosts = costs;
            costs = row;
        }

        /** With so many steps of lean gone, and the sides as now (1) or changed (-1). */
        private void weighAhead(int steps, int side) {
            int cost = Math.min(costOfStay(steps, side), costOfChange(steps, side));
            Row.put(costs, place(steps, side), Math.min(IMPOSSIBLE, cost));
        }

        private int costOfStay(int steps, int side) {
            return costBehind(steps + side, side);
        }

        private int costOfChange(int steps, int side) {
            return costBehind(steps - side, -side) + 1;
        }

        private int costBehind(int steps, int side) {
            return Math.abs(askew + steps * lean) > most ? IMPOSSIBLE : Row.at(laterCosts, place(steps, side));
        }

        private static int place(int steps, int side) {
            return CHANGES_MOST + steps + (side < 0 ? WIDTH : 0);
        }
    }
}
