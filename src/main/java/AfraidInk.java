/**
 * A chancery in which each bottle of ink shrinks from some words.
 * ../shared/DOC.md says, promise by promise, what each call answers.
 */
public final class AfraidInk {
    public static final int NONE = -1;

    private static final int WORDS = 16;
    private static final int ALL_WORDS = 65535;
    private static final int BOTTLES = 8;
    private static final int MOST_FEAR = 99;
    private static final int MOST_SALT = 99;
    private static final int NO_SALT_HELPS = 100;
    private static final int MOST_INK = 999;
    private static final int MOST_COUNT = 9999;
    private static final int MOST_DAYS = 60;
    private static final int TRIES_TO_BE_USED = 9;

    private static final int NOT_FOUND = -2;
    private static final int WRONG_BYTES = -3;
    private static final int CANNOT_BE = -4;

    private static final int FAULT_SIGN = 1;
    private static final int FAULT_DIGIT = 2;
    private static final int FAULT_TOO_MANY = 4;
    private static final int FAULT_TOO_DEEP = 5;
    private static final int FAULT_TOO_LONG = 6;

    private final Tape tape;
    private final Rhymes rhymes;
    private final Shelf shelf;
    private final Shelf kept;
    private final Shelf trial;
    private final Letter letter;
    private final Grief grief;
    private final Law law;
    private final LawReader lawReader;
    private final Scribe scribe;
    private final Row row;
    private final Trainer trainer;
    private final Riddles riddles;
    private boolean anyKept;

    public AfraidInk() {
        tape = new Tape();
        rhymes = new Rhymes();
        shelf = new Shelf(rhymes);
        kept = new Shelf(rhymes);
        trial = new Shelf(rhymes);
        letter = new Letter(tape);
        grief = new Grief(tape);
        law = new Law();
        lawReader = new LawReader(tape);
        scribe = new Scribe(letter);
        row = new Row(letter);
        trainer = new Trainer(trial);
        riddles = new Riddles(tape);
        anyKept = false;
    }

    public boolean bottle(int b, int kind) {
        if (!within(b, 0, BOTTLES - 1) || !within(kind, Shelf.WIDOW, Shelf.MIXED)) {
            return false;
        }
        shelf.putNew(b, kind);
        return true;
    }

    public boolean ink(int b, int words) {
        if (!shelf.isTold(b) || !within(words, 0, MOST_INK)) {
            return false;
        }
        shelf.setInk(b, words);
        return true;
    }

    public boolean nerve(int v) {
        if (!within(v, 0, MOST_FEAR)) {
            return false;
        }
        shelf.nerve = v;
        return true;
    }

    public int pressed(int b, int seed) {
        if (!shelf.isTold(b) || !within(seed, 0, Shelf.MOST_X)) {
            return NONE;
        }
        shelf.press(b, seed);
        return shelf.dreadOfAll(b);
    }

    public int feed(int a, int b, int c, int d, int e) {
        if (!tape.hasRoomFor(20)) {
            return NONE;
        }
        tape.addFour(a);
        tape.addFour(b);
        tape.addFour(c);
        tape.addFour(d);
        tape.addFour(e);
        return tape.size;
    }

    public int law(int n) {
        if (!within(n, 1, Law.MOST_BYTES) || !tape.has(n)) {
            return NONE;
        }
        int answer = lawReader.read(n);
        tape.empty();
        if (answer > 0) {
            law.copyFrom(lawReader.draft);
        }
        return answer;
    }

    public int grief(int b, int n) {
        if (!shelf.isTold(b) || !within(n, 1, Grief.MOST_BYTES) || !tape.has(n)) {
            return NONE;
        }
        int answer = grief.read(n);
        tape.empty();
        if (answer > 0) {
            grief.befall(shelf, b, rhymes);
        }
        return answer;
    }

    public int letter(int n) {
        if (!within(n, 1, Letter.MOST_BYTES) || !tape.has(n)) {
            return NONE;
        }
        int answer = letter.read(n);
        tape.empty();
        return answer;
    }

    public int days(int n) {
        if (!within(n, 1, MOST_DAYS)) {
            return NONE;
        }
        scribe.writeDays(shelf, law, n);
        return scribe.written;
    }

    public int tried(int n, int what) {
        int b = what >= 200 ? what - 200 : what - 100;
        boolean fits = within(what, 0, 2) || (what >= 100 && shelf.isTold(b));
        if (!fits || !within(n, 1, MOST_DAYS)) {
            return NONE;
        }
        trial.copyFrom(shelf);
        scribe.writeDays(trial, law, n);
        switch (what) {
            case 0:
                return scribe.written;
            case 1:
                return scribe.pictures;
            case 2:
                return scribe.madeUsed;
            default:
                return what >= 200 ? trial.dreadOfAll(b) : trial.inkOf(b);
        }
    }

    public int bottleIs(int b, int what) {
        if (!shelf.isTold(b)) {
            return NONE;
        }
        switch (what) {
            case 0:
                return shelf.kindOf(b);
            case 1:
                return shelf.saltOf(b);
            case 2:
                return shelf.inkOf(b);
            case 3:
                return shelf.wordsBorneBy(b);
            case 4:
                return shelf.dreadOfAll(b);
            default:
                return NONE;
        }
    }

    public int fear(int b, int w, int what) {
        if (!shelf.isTold(b) || !within(w, 0, WORDS - 1)) {
            return NONE;
        }
        switch (what) {
            case 0:
                return shelf.dreadOf(b, w);
            case 1:
                return shelf.triesOf(b, w);
            case 2:
                return shelf.shrinking(b, w);
            default:
                return NONE;
        }
    }

    public int rhyme(int w) {
        return within(w, 0, WORDS - 1) ? rhymes.of(w) : NONE;
    }

    public int used(int b, int w, int n) {
        if (!shelf.isTold(b) || !within(w, 0, WORDS - 1) || !within(n, 1, MOST_DAYS)) {
            return NONE;
        }
        trial.copyFrom(shelf);
        for (int behind = 0; behind <= n; behind++) {
            if (behind > 0) {
                scribe.writeDays(trial, law, 1);
            }
            if (trial.bears(b, w)) {
                return behind;
            }
        }
        return NOT_FOUND;
    }

    public int changes(int what) {
        if (!within(what, 0, Letter.MOST_WORDS - 1) && !within(what, 100, 101)) {
            return NONE;
        }
        if (what < 100 && what >= letter.size) {
            return CANNOT_BE;
        }
        row.plan(shelf);
        if (what == 100) {
            return row.changes;
        }
        return what == 101 ? row.pictures : row.bottleAt(what);
    }

    public int leastSalt(int b) {
        if (!shelf.isTold(b)) {
            return NONE;
        }
        int salt = shelf.saltOf(b);
        int words = letter.bits();
        for (int more = 0; salt + more <= MOST_SALT; more++) {
            if (shelf.bearsWithSalt(b, words, salt + more)) {
                return more;
            }
        }
        return NO_SALT_HELPS;
    }

    public int mixture(int a, int b, int what) {
        if (!shelf.isTold(a) || !shelf.isTold(b) || a == b || !within(what, 0, 1)) {
            return NONE;
        }
        int words = letter.bits();
        int least = NOT_FOUND;
        int howMany = 0;
        for (int parts = 8; parts >= 0; parts--) {
            if (shelf.mixtureBears(a, b, parts, words)) {
                least = parts;
                howMany++;
            }
        }
        return what == 0 ? least : howMany;
    }

    public int whose(int n) {
        if (!within(n, 1, 12) || !tape.has(2 * n)) {
            return NONE;
        }
        int answer = writersBy(n);
        tape.empty();
        return answer;
    }

    public int next(int bottles, int what) {
        if (bottles == 0 || (bottles & ~shelf.told) != 0 || !within(what, 0, 1)) {
            return NONE;
        }
        int asked = Integer.bitCount(bottles);
        int best = 0;
        int least = BOTTLES + 1;
        for (int w = 0; w < WORDS; w++) {
            int bearing = Integer.bitCount(shelf.bottlesBearing(w) & bottles);
            int greater = Math.max(bearing, asked - bearing);
            if (greater < least) {
                least = greater;
                best = w;
            }
        }
        return what == 0 ? best : least;
    }

    public int guard(int what) {
        if (!within(what, 0, 1)) {
            return NONE;
        }
        int words = riddles.fewestGuards(shelf);
        return what == 0 && words >= 0 ? Integer.bitCount(words) : words;
    }

    public int training(int b, int n, int what) {
        if (!shelf.isTold(b) || !within(n, 1, 6) || !within(what, 0, 1) || !tape.has(n)) {
            return NONE;
        }
        int words = unlikeWords(n);
        tape.empty();
        if (words < 0) {
            return words;
        }
        trial.copyFrom(shelf);
        if (!trainer.canTrain(b, words)) {
            return CANNOT_BE;
        }
        return what == 0 ? trainer.fewest : trainer.first;
    }

    public int borne(int what) {
        switch (what) {
            case 0:
                return shelf.wordsBorneByAll();
            case 1:
                return shelf.wordsBorneByNone();
            case 2:
                return rhymes.twos();
            default:
                return NONE;
        }
    }

    public int treaty(int n, int m, int what) {
        if (!within(n, 1, 6) || !within(m, 1, 6) || !within(what, 0, 2) || !tape.has(2 * n * m)) {
            return NONE;
        }
        int answer = NONE;
        if (what == 2) {
            answer = riddles.bargains(n * m);
        } else {
            answer = what == 0 ? riddles.rests(n, m) : riddles.firstRest(n, m);
        }
        tape.empty();
        return answer;
    }

    public int forgery(int n, int what) {
        if (!within(n, 1, 9) || !within(what, 0, 3) || !tape.has(n)) {
            return NONE;
        }
        int answer = riddles.odds(n, what);
        tape.empty();
        return answer;
    }

    public int rings(int n, int what) {
        if (!within(n, 1, 12) || !within(what, 0, 1) || !tape.has(n)) {
            return NONE;
        }
        int answer = tape.isOrderOf(n) ? riddles.ringsIn(n, what) : WRONG_BYTES;
        tape.empty();
        return answer;
    }

    public boolean seed(int x) {
        if (!within(x, 0, Shelf.MOST_X)) {
            return false;
        }
        shelf.x = x;
        return true;
    }

    public int keep() {
        kept.copyFrom(shelf);
        anyKept = true;
        return shelf.day;
    }

    public boolean undo() {
        if (!anyKept) {
            return false;
        }
        shelf.copyFrom(kept);
        return true;
    }

    public int check(int n) {
        if (!within(n, 0, BOTTLES) || !tape.has(n)) {
            return NOT_FOUND;
        }
        int wrong = NONE;
        for (int b = n - 1; b >= 0; b--) {
            int due = shelf.isTold(b) ? shelf.saltOf(b) : 255;
            if (tape.at(b) != due) {
                wrong = b;
            }
        }
        tape.empty();
        return wrong;
    }

    public int count(int what) {
        switch (what) {
            case 0:
                return shelf.day;
            case 1:
                return shelf.told;
            case 2:
                return shelf.nerve;
            case 3:
                return shelf.pictures;
            case 4:
                return shelf.written;
            case 5:
                return law.rules;
            case 6:
                return tape.size;
            case 7:
                return shelf.x;
            case 8:
                return letter.size;
            default:
                return NONE;
        }
    }

    private static boolean within(int value, int least, int most) {
        return value >= least && value <= most;
    }

    private static int bounded(int value, int most) {
        return Math.max(0, Math.min(value, most));
    }

    private static boolean isWordSign(int sign) {
        return sign >= 'a' && sign <= 'p';
    }

    private static boolean isDigit(int sign) {
        return sign >= '0' && sign <= '9';
    }

    private int writersBy(int n) {
        int writers = shelf.told;
        for (int k = 0; k < n; k++) {
            int w = tape.at(2 * k);
            int down = tape.at(2 * k + 1);
            if (w >= WORDS || down > 1) {
                return WRONG_BYTES;
            }
            int bearing = shelf.bottlesBearing(w);
            writers &= down == 1 ? bearing : ~bearing;
        }
        return writers;
    }

    private int unlikeWords(int n) {
        int bits = 0;
        for (int k = 0; k < n; k++) {
            int w = tape.at(k);
            if (w >= WORDS || (bits >> w & 1) != 0) {
                return WRONG_BYTES;
            }
            bits |= 1 << w;
        }
        return bits;
    }

    /** The bytes that were fed, and a reader's place in the text that their first ones are. */
    private static final class Tape {
        private static final int MOST = 260;
        private static final int END = -1;

        private final int[] bytes = new int[MOST];
        private int size;
        private int end;
        private int place;
        private int fault;

        boolean hasRoomFor(int more) {
            return size + more <= MOST;
        }

        boolean has(int n) {
            return n <= size;
        }

        void addFour(int bits) {
            for (int shift = 24; shift >= 0 && size < MOST; shift -= 8) {
                bytes[size] = bits >> shift & 255;
                size++;
            }
        }

        void empty() {
            size = 0;
        }

        int at(int i) {
            return i >= 0 && i < size ? bytes[i] : 0;
        }

        boolean isOrderOf(int n) {
            int seen = 0;
            for (int i = 0; i < n; i++) {
                int value = at(i);
                if (value >= n || (seen >> value & 1) != 0) {
                    return false;
                }
                seen |= 1 << value;
            }
            return true;
        }

        void begin(int n) {
            end = Math.min(n, size);
            place = 0;
            fault = 0;
        }

        /** Behind a fault there is nothing more, so that every reader comes to its end. */
        int sign() {
            return fault == 0 && place < end ? at(place) : END;
        }

        boolean isAtEnd() {
            return place >= end;
        }

        boolean hasFailed() {
            return fault != 0;
        }

        void step() {
            if (place < end) {
                place++;
            }
        }

        void fail(int number) {
            failAt(number, place);
        }

        void failAt(int number, int where) {
            if (fault == 0) {
                fault = -1000 * number - where;
            }
        }

        void take(int due) {
            if (sign() == due) {
                step();
            } else {
                fail(FAULT_SIGN);
            }
        }

        int readNumber(int mostDigits) {
            int value = 0;
            int digits = 0;
            while (digits <= mostDigits && isDigit(sign())) {
                if (digits == mostDigits) {
                    fail(FAULT_DIGIT);
                } else {
                    value = 10 * value + sign() - '0';
                    step();
                }
                digits++;
            }
            if (digits == 0) {
                fail(FAULT_SIGN);
            }
            return value;
        }
    }

    /** Which WORD rhymes with which; all shelves share it, for it is not KEPT. */
    private static final class Rhymes {
        private final int[] other = new int[WORDS];

        Rhymes() {
            for (int w = 0; w < WORDS; w++) {
                other[w] = w;
            }
        }

        int of(int w) {
            return other[w & 15];
        }

        void pair(int a, int b) {
            part(a);
            part(b);
            other[a & 15] = b & 15;
            other[b & 15] = a & 15;
        }

        int twos() {
            int paired = 0;
            for (int w = 0; w < WORDS; w++) {
                paired += other[w] == w ? 0 : 1;
            }
            return paired / 2;
        }

        private void part(int w) {
            int before = of(w);
            other[before & 15] = before & 15;
            other[w & 15] = w & 15;
        }
    }

    /** All that is KEPT. Indices are masked, so that none can lie outside its row. */
    private static final class Shelf {
        static final int WIDOW = 0;
        static final int DESERTER = 1;
        static final int BOLD = 2;
        static final int OLD = 3;
        static final int MIXED = 4;
        static final int MOST_X = 65535;

        private final Rhymes rhymes;
        private final int[] kind = new int[BOTTLES];
        private final int[] salt = new int[BOTTLES];
        private final int[] ink = new int[BOTTLES];
        private final int[] dread = new int[BOTTLES * WORDS];
        private final int[] tries = new int[BOTTLES * WORDS];
        private int told;
        private int nerve;
        private int pictures;
        private int written;
        private int day;
        private int x;

        Shelf(Rhymes rhymes) {
            this.rhymes = rhymes;
            nerve = 20;
            x = 1;
        }

        void copyFrom(Shelf from) {
            System.arraycopy(from.kind, 0, kind, 0, BOTTLES);
            System.arraycopy(from.salt, 0, salt, 0, BOTTLES);
            System.arraycopy(from.ink, 0, ink, 0, BOTTLES);
            System.arraycopy(from.dread, 0, dread, 0, BOTTLES * WORDS);
            System.arraycopy(from.tries, 0, tries, 0, BOTTLES * WORDS);
            told = from.told;
            nerve = from.nerve;
            pictures = from.pictures;
            written = from.written;
            day = from.day;
            x = from.x;
        }

        boolean isTold(int b) {
            return b >= 0 && b < BOTTLES && (told >> b & 1) != 0;
        }

        int kindOf(int b) {
            return kind[b & 7];
        }

        int saltOf(int b) {
            return salt[b & 7];
        }

        int inkOf(int b) {
            return ink[b & 7];
        }

        int dreadOf(int b, int w) {
            return dread[(b & 7) * WORDS + (w & 15)];
        }

        int triesOf(int b, int w) {
            return tries[(b & 7) * WORDS + (w & 15)];
        }

        void setKind(int b, int to) {
            kind[b & 7] = to;
        }

        void setSalt(int b, int to) {
            salt[b & 7] = to;
        }

        void setInk(int b, int to) {
            ink[b & 7] = to;
        }

        void setDread(int b, int w, int to) {
            dread[(b & 7) * WORDS + (w & 15)] = bounded(to, MOST_FEAR);
        }

        void setTries(int b, int w, int to) {
            tries[(b & 7) * WORDS + (w & 15)] = to;
        }

        void putNew(int b, int newKind) {
            told |= 1 << (b & 7);
            setKind(b, newKind);
            cleanse(b);
            for (int w = 0; w < WORDS; w++) {
                setDread(b, w, 0);
            }
        }

        void press(int b, int seed) {
            cleanse(b);
            int own = seed;
            for (int w = 0; w < WORDS; w++) {
                own = followerOf(own);
                int tens = own % 10;
                own = followerOf(own);
                setDread(b, w, 10 * tens + own % 10);
            }
        }

        int draw() {
            x = followerOf(x);
            return x % 10;
        }

        int dreadOfAll(int b) {
            int sum = 0;
            for (int w = 0; w < WORDS; w++) {
                sum += dreadOf(b, w);
            }
            return sum;
        }

        int shrinking(int b, int w) {
            return bounded(unsalted(b, w) - saltOf(b), MOST_FEAR);
        }

        boolean bears(int b, int w) {
            return shrinking(b, w) <= nerve;
        }

        int wordsBorneBy(int b) {
            int bits = 0;
            for (int w = 0; w < WORDS; w++) {
                bits |= bears(b, w) ? 1 << w : 0;
            }
            return bits;
        }

        int bottlesBearing(int w) {
            int bits = 0;
            for (int b = 0; b < BOTTLES; b++) {
                bits |= isTold(b) && bears(b, w) ? 1 << b : 0;
            }
            return bits;
        }

        int wordsBorneByAll() {
            int bits = ALL_WORDS;
            for (int b = 0; b < BOTTLES; b++) {
                bits &= isTold(b) ? wordsBorneBy(b) : ALL_WORDS;
            }
            return bits;
        }

        int wordsBorneByNone() {
            int bits = ALL_WORDS;
            for (int b = 0; b < BOTTLES; b++) {
                bits &= isTold(b) ? ~wordsBorneBy(b) : ALL_WORDS;
            }
            return bits;
        }

        boolean bearsWithSalt(int b, int words, int withSalt) {
            for (int w = 0; w < WORDS; w++) {
                int shrinking = bounded(unsalted(b, w) - withSalt, MOST_FEAR);
                if ((words >> w & 1) != 0 && shrinking > nerve) {
                    return false;
                }
            }
            return true;
        }

        boolean mixtureBears(int a, int b, int parts, int words) {
            for (int w = 0; w < WORDS; w++) {
                int mixed = (parts * shrinking(a, w) + (8 - parts) * shrinking(b, w)) / 8;
                if ((words >> w & 1) != 0 && mixed > nerve) {
                    return false;
                }
            }
            return true;
        }

        void countWord(boolean wentDown) {
            if (wentDown) {
                written = Math.min(written + 1, MOST_COUNT);
            } else {
                pictures = Math.min(pictures + 1, MOST_COUNT);
            }
        }

        /** Answers whether the BOTTLE is USED to the WORD by this try. */
        boolean tryWord(int b, int w) {
            setInk(b, Math.max(0, inkOf(b) - 1));
            setTries(b, w, triesOf(b, w) + 1);
            if (triesOf(b, w) < TRIES_TO_BE_USED) {
                return false;
            }
            makeUsed(b, w);
            return true;
        }

        void makeUsed(int b, int w) {
            setDread(b, w, 0);
            setTries(b, w, 0);
            int rhyme = rhymes.of(w);
            if (rhyme != w) {
                setDread(b, rhyme, dreadOf(b, rhyme) + 9);
            }
        }

        private void cleanse(int b) {
            setSalt(b, 0);
            setInk(b, MOST_INK);
            for (int w = 0; w < WORDS; w++) {
                setTries(b, w, 0);
            }
        }

        private int unsalted(int b, int w) {
            switch (kindOf(b)) {
                case WIDOW:
                    return dreadOf(b, w);
                case DESERTER:
                    return 2 * dreadOf(b, w);
                case BOLD:
                    return dreadOf(b, w) / 2;
                case OLD:
                    return 0;
                default:
                    return (dreadOf(b, w) + dreadOf(b, rhymes.of(w)) + 1) / 2;
            }
        }

        private static int followerOf(int before) {
            return 25173 * before + 13849 & MOST_X;
        }
    }

    /** Reads all LINES before any of them befalls, for nothing is done by GRIEF with a FAULT. */
    private static final class Grief {
        static final int MOST_BYTES = 120;
        private static final int MOST_LINES = 20;

        private final Tape text;
        private final int[] signs = new int[MOST_LINES];
        private final int[] words = new int[MOST_LINES];
        private final int[] values = new int[MOST_LINES];
        private int lines;

        Grief(Tape text) {
            this.text = text;
        }

        int read(int n) {
            lines = 0;
            text.begin(n);
            for (int k = 0; k <= MOST_LINES && !text.hasFailed(); k++) {
                readLine();
                if (!text.hasFailed() && text.isAtEnd()) {
                    return lines;
                }
                text.take(';');
            }
            return text.fault;
        }

        void befall(Shelf shelf, int b, Rhymes rhymes) {
            for (int k = 0; k < lines && k < MOST_LINES; k++) {
                int w = words[k];
                int value = values[k];
                switch (signs[k]) {
                    case '=':
                        shelf.setDread(b, w, value);
                        break;
                    case '+':
                        shelf.setDread(b, w, shelf.dreadOf(b, w) + value);
                        break;
                    case '-':
                        shelf.setDread(b, w, shelf.dreadOf(b, w) - value);
                        break;
                    case '~':
                        rhymes.pair(w, value);
                        break;
                    case '!':
                        shelf.setSalt(b, value);
                        break;
                    default:
                        shelf.setKind(b, value);
                        break;
                }
            }
        }

        private void readLine() {
            int first = text.sign();
            if (!isWordSign(first) && first != '!' && first != '#') {
                text.fail(FAULT_SIGN);
            } else if (lines >= MOST_LINES) {
                text.fail(FAULT_TOO_MANY);
            } else {
                text.step();
                words[lines] = isWordSign(first) ? first - 'a' : 0;
                signs[lines] = isWordSign(first) ? readDeed() : first;
                values[lines] = readValue(signs[lines]);
                lines++;
            }
        }

        private int readDeed() {
            int sign = text.sign();
            if (sign == '=' || sign == '+' || sign == '-' || sign == '~') {
                text.step();
            } else {
                text.fail(FAULT_SIGN);
            }
            return sign;
        }

        private int readValue(int sign) {
            if (sign == '~') {
                return readOneOf('a', 'p');
            }
            return sign == '#' ? readOneOf('0', '0' + Shelf.MIXED) : text.readNumber(2);
        }

        private int readOneOf(int least, int most) {
            int sign = text.sign();
            if (!within(sign, least, most)) {
                text.fail(FAULT_SIGN);
                return 0;
            }
            text.step();
            return sign - least;
        }
    }

    /** The WORDS of the LETTER; a new one is drafted aside, for a FAULT leaves the one before. */
    private static final class Letter {
        static final int MOST_BYTES = 60;
        static final int MOST_WORDS = 48;
        private static final int MOST_OPEN = 2;

        private final Tape text;
        private final int[] words = new int[MOST_WORDS];
        // One place more than a LETTER has: a single WORD is put down before it is asked whether it is too many.
        private final int[] draft = new int[MOST_WORDS + 1];
        private int size;
        private int drafted;

        Letter(Tape text) {
            this.text = text;
        }

        int wordAt(int place) {
            return place >= 0 && place < MOST_WORDS ? words[place] : 0;
        }

        int bits() {
            int bits = 0;
            for (int i = 0; i < size; i++) {
                bits |= 1 << wordAt(i);
            }
            return bits;
        }

        int read(int n) {
            drafted = 0;
            text.begin(n);
            readWords(0);
            if (!text.isAtEnd()) {
                text.fail(FAULT_SIGN);
            }
            if (text.hasFailed()) {
                return text.fault;
            }
            size = Math.min(drafted, MOST_WORDS);
            System.arraycopy(draft, 0, words, 0, size);
            return size;
        }

        private void readWords(int open) {
            for (int k = 0; k < MOST_BYTES; k++) {
                readItem(open);
                if (text.isAtEnd() || text.hasFailed() || text.sign() == ')') {
                    return;
                }
            }
        }

        private void readItem(int open) {
            int start = text.place;
            int from = drafted;
            int times = 1;
            if (within(text.sign(), '2', '9')) {
                times = text.sign() - '0';
                text.step();
            }
            int sign = text.sign();
            if (isWordSign(sign)) {
                put(sign - 'a');
                text.step();
            } else if (sign != '(') {
                text.fail(FAULT_SIGN);
            } else if (open >= MOST_OPEN) {
                text.fail(FAULT_TOO_DEEP);
            } else {
                text.step();
                readWords(open + 1);
                text.take(')');
            }
            if (!text.hasFailed()) {
                repeat(from, times, start);
            }
        }

        private void repeat(int from, int times, int start) {
            int length = drafted - from;
            if (from + length * times > MOST_WORDS) {
                text.failAt(FAULT_TOO_LONG, start);
                return;
            }
            int more = length * (times - 1);
            for (int k = 0; k < more; k++) {
                put(draftedAt(drafted - length));
            }
        }

        private void put(int word) {
            if (drafted >= 0 && drafted <= MOST_WORDS) {
                draft[drafted] = word;
                drafted++;
            }
        }

        private int draftedAt(int place) {
            return place >= 0 && place <= MOST_WORDS ? draft[place] : 0;
        }
    }

    /**
     * THE LAW as code for a machine with a stack: it is reckoned without calls in one another,
     * and an | or & can leap over what does not matter.
     */
    private static final class Law {
        static final int MOST_BYTES = 240;
        static final int MOST_RULES = 16;
        static final int MOST_STACK = 32;
        static final String FACTS = "bkwvnsqidu";

        static final int NUMBER = 0;
        static final int FACT = 1;
        static final int NOT = 2;
        static final int OR = 3;
        static final int AND = 4;
        static final int PLUS = 5;
        static final int MINUS = 6;
        static final int TIMES = 7;
        static final int OVER = 8;
        static final int REST = 9;
        static final int LESS = 10;
        static final int MORE = 11;
        static final int SAME = 12;

        // Every instruction stands for a byte of the text at least: no LAW has more of them.
        private final int[] code = new int[MOST_BYTES];
        private final int[] letters = new int[MOST_RULES];
        private final int[] valueFrom = new int[MOST_RULES];
        private final int[] testFrom = new int[MOST_RULES];
        private final int[] testEnd = new int[MOST_RULES];
        private final int[] facts = new int[10];
        private final int[] stack = new int[MOST_STACK];
        private int size;
        private int rules;
        private int height;
        private boolean refused;

        void clear() {
            size = 0;
            rules = 0;
        }

        void copyFrom(Law from) {
            System.arraycopy(from.code, 0, code, 0, MOST_BYTES);
            System.arraycopy(from.letters, 0, letters, 0, MOST_RULES);
            System.arraycopy(from.valueFrom, 0, valueFrom, 0, MOST_RULES);
            System.arraycopy(from.testFrom, 0, testFrom, 0, MOST_RULES);
            System.arraycopy(from.testEnd, 0, testEnd, 0, MOST_RULES);
            size = from.size;
            rules = from.rules;
        }

        int emit(int operation, int operand) {
            int at = size;
            if (at < MOST_BYTES) {
                code[at] = operand << 4 | operation;
                size++;
            }
            return at;
        }

        void leapTo(int at, int target) {
            if (at >= 0 && at < MOST_BYTES) {
                code[at] = target << 4 | code[at] & 15;
            }
        }

        void addRule(int letter, int value, int test) {
            if (rules < MOST_RULES) {
                letters[rules] = letter;
                valueFrom[rules] = value;
                testFrom[rules] = test;
                testEnd[rules] = size;
                rules++;
            }
        }

        void lookAtPlace(int place, int day, int draw) {
            facts[7] = place;
            facts[8] = day % 100;
            facts[9] = draw;
        }

        void lookAtBottle(Shelf shelf, int b, int w, int shrinking) {
            facts[0] = b;
            facts[1] = shelf.kindOf(b);
            facts[2] = w;
            facts[3] = shelf.dreadOf(b, w);
            facts[4] = shelf.triesOf(b, w);
            facts[5] = shelf.saltOf(b);
            facts[6] = shrinking;
        }

        boolean opens() {
            for (int r = 0; r < rules && r < MOST_RULES; r++) {
                if (letters[r] == 'x' && run(testFrom[r], testEnd[r]) != 0) {
                    return false;
                }
            }
            return true;
        }

        int valueBy(int letter, int most, int without) {
            for (int r = 0; r < rules && r < MOST_RULES; r++) {
                if (letters[r] == letter && run(testFrom[r], testEnd[r]) != 0) {
                    return bounded(run(valueFrom[r], testFrom[r]), most);
                }
            }
            return without;
        }

        /** What is REFUSED answers 0: a C does not hold then, an E is 0. */
        private int run(int from, int end) {
            height = 0;
            refused = false;
            int at = from;
            for (int k = 0; k < MOST_BYTES && at < end && !refused; k++) {
                at = stepAt(at);
            }
            return refused ? 0 : pop();
        }

        private int stepAt(int at) {
            int instruction = at >= 0 && at < MOST_BYTES ? code[at] : 0;
            int operand = instruction >> 4;
            int operation = instruction & 15;
            if (operation == NUMBER) {
                push(operand);
            } else if (operation == FACT) {
                push(operand >= 0 && operand < facts.length ? facts[operand] : 0);
            } else if (operation == NOT) {
                push(pop() == 0 ? 1 : 0);
            } else if (operation == OR || operation == AND) {
                int held = pop();
                if (held != 0 == (operation == OR)) {
                    push(held);
                    return Math.max(operand, at + 1);
                }
            } else {
                int right = pop();
                int left = pop();
                push(reckon(operation, left, right));
            }
            return at + 1;
        }

        private int reckon(int operation, int left, int right) {
            switch (operation) {
                case PLUS:
                    return left + right;
                case MINUS:
                    return left - right;
                case TIMES:
                    return left * right;
                case LESS:
                    return left < right ? 1 : 0;
                case MORE:
                    return left > right ? 1 : 0;
                case SAME:
                    return left == right ? 1 : 0;
                default:
                    refused = refused || right == 0;
                    if (right == 0) {
                        return 0;
                    }
                    return operation == OVER ? left / right : left % right;
            }
        }

        private void push(int value) {
            if (height >= 0 && height < MOST_STACK) {
                stack[height] = value;
                height++;
            }
        }

        private int pop() {
            if (height <= 0 || height > MOST_STACK) {
                return 0;
            }
            height--;
            return stack[height];
        }
    }

    /**
     * Reads a text as a draft of a LAW, for a FAULT leaves the one before.
     * "open" is how many of ( [ ! are open, which bounds the calls in one another.
     */
    private static final class LawReader {
        private static final int MOST_OPEN = 6;
        private static final int MOST_DIGITS = 5;

        private final Tape text;
        private final Law draft;

        LawReader(Tape text) {
            this.text = text;
            draft = new Law();
        }

        int read(int n) {
            draft.clear();
            text.begin(n);
            for (int k = 0; k <= Law.MOST_RULES && !text.hasFailed(); k++) {
                readRule();
                if (!text.hasFailed() && text.isAtEnd()) {
                    return draft.rules;
                }
                text.take(';');
            }
            return text.fault;
        }

        private void readRule() {
            int letter = text.sign();
            if (letter != 'f' && letter != 'e' && letter != 'x') {
                text.fail(FAULT_SIGN);
                return;
            }
            if (draft.rules >= Law.MOST_RULES) {
                text.fail(FAULT_TOO_MANY);
                return;
            }
            text.step();
            int value = draft.size;
            if (letter != 'x') {
                readSum(0);
            }
            int test = draft.size;
            text.take('(');
            readAny(1);
            text.take(')');
            draft.addRule(letter, value, test);
        }

        /** Each | leaps to the next one if what is ahead holds, the last one behind all: no list of them is needed. */
        private void readAny(int open) {
            int leap = NONE;
            readAll(open);
            for (int k = 0; k < Law.MOST_BYTES && text.sign() == '|'; k++) {
                text.step();
                draft.leapTo(leap, draft.size);
                leap = draft.emit(Law.OR, 0);
                readAll(open);
            }
            draft.leapTo(leap, draft.size);
        }

        private void readAll(int open) {
            int leap = NONE;
            readTest(open);
            for (int k = 0; k < Law.MOST_BYTES && text.sign() == '&'; k++) {
                text.step();
                draft.leapTo(leap, draft.size);
                leap = draft.emit(Law.AND, 0);
                readTest(open);
            }
            draft.leapTo(leap, draft.size);
        }

        private void readTest(int open) {
            int sign = text.sign();
            if (sign == '!') {
                if (canOpen(open)) {
                    readTest(open + 1);
                    draft.emit(Law.NOT, 0);
                }
            } else if (sign == '(') {
                if (canOpen(open)) {
                    readAny(open + 1);
                    text.take(')');
                }
            } else {
                readSum(open);
                int comparison = readComparison();
                readSum(open);
                draft.emit(comparison, 0);
            }
        }

        private int readComparison() {
            int sign = text.sign();
            if (sign != '<' && sign != '>' && sign != '=') {
                text.fail(FAULT_SIGN);
                return Law.SAME;
            }
            text.step();
            if (sign == '=') {
                return Law.SAME;
            }
            return sign == '<' ? Law.LESS : Law.MORE;
        }

        private void readSum(int open) {
            readTerm(open);
            for (int k = 0; k < Law.MOST_BYTES; k++) {
                int sign = text.sign();
                if (sign != '+' && sign != '-') {
                    return;
                }
                text.step();
                readTerm(open);
                draft.emit(sign == '+' ? Law.PLUS : Law.MINUS, 0);
            }
        }

        private void readTerm(int open) {
            readFactor(open);
            for (int k = 0; k < Law.MOST_BYTES; k++) {
                int sign = text.sign();
                if (sign != '*' && sign != '/' && sign != '%') {
                    return;
                }
                text.step();
                readFactor(open);
                if (sign == '*') {
                    draft.emit(Law.TIMES, 0);
                } else {
                    draft.emit(sign == '/' ? Law.OVER : Law.REST, 0);
                }
            }
        }

        private void readFactor(int open) {
            int sign = text.sign();
            int fact = sign < 0 ? NONE : Law.FACTS.indexOf((char) sign);
            if (sign == '[') {
                if (canOpen(open)) {
                    readSum(open + 1);
                    text.take(']');
                }
            } else if (isDigit(sign)) {
                draft.emit(Law.NUMBER, text.readNumber(MOST_DIGITS));
            } else if (fact >= 0) {
                text.step();
                draft.emit(Law.FACT, fact);
            } else {
                text.fail(FAULT_SIGN);
            }
        }

        private boolean canOpen(int open) {
            if (open >= MOST_OPEN) {
                text.fail(FAULT_TOO_DEEP);
                return false;
            }
            text.step();
            return true;
        }
    }

    /** Writes the LETTER on DAYS, and tells what came of the last ones it wrote. */
    private static final class Scribe {
        private final Letter letter;
        private int written;
        private int pictures;
        private int madeUsed;
        private int chosenFear;

        Scribe(Letter letter) {
            this.letter = letter;
        }

        void writeDays(Shelf shelf, Law law, int n) {
            written = 0;
            pictures = 0;
            madeUsed = 0;
            for (int k = 0; k < n && shelf.day < MOST_COUNT; k++) {
                for (int place = 0; place < letter.size; place++) {
                    law.lookAtPlace(place, shelf.day, shelf.draw());
                    writeWord(shelf, law, letter.wordAt(place));
                }
                shelf.day++;
            }
        }

        private void writeWord(Shelf shelf, Law law, int w) {
            int b = choose(shelf, law, w);
            boolean wentDown = b != NONE && chosenFear <= shelf.nerve;
            shelf.countWord(wentDown);
            if (wentDown) {
                written++;
            } else {
                pictures++;
            }
            if (b != NONE && shelf.tryWord(b, w)) {
                madeUsed++;
            }
        }

        private int choose(Shelf shelf, Law law, int w) {
            int chosen = NONE;
            int mostLiked = 0;
            for (int b = 0; b < BOTTLES; b++) {
                if (!shelf.isTold(b) || shelf.inkOf(b) == 0) {
                    continue;
                }
                int shrinking = shelf.shrinking(b, w);
                law.lookAtBottle(shelf, b, w, shrinking);
                if (!law.opens()) {
                    continue;
                }
                int liked = law.valueBy('e', MOST_COUNT, 1);
                if (liked == 0 || liked < mostLiked) {
                    continue;
                }
                int fear = Math.min(shrinking + law.valueBy('f', MOST_FEAR, 0), MOST_FEAR);
                if (liked > mostLiked || fear < chosenFear) {
                    chosen = b;
                    mostLiked = liked;
                    chosenFear = fear;
                }
            }
            return chosen;
        }
    }

    /** The row of BOTTLES for the LETTER with the fewest changes, and of such rows the least. */
    private static final class Row {
        private static final int FAR = 1000;

        private final Letter letter;
        private final int[] bearing = new int[WORDS];
        private final int[] toCome = new int[Letter.MOST_WORDS * BOTTLES];
        private final int[] bottles = new int[Letter.MOST_WORDS];
        private int changes;
        private int pictures;

        Row(Letter letter) {
            this.letter = letter;
        }

        int bottleAt(int place) {
            return place >= 0 && place < Letter.MOST_WORDS ? bottles[place] : NOT_FOUND;
        }

        void plan(Shelf shelf) {
            for (int w = 0; w < WORDS; w++) {
                bearing[w] = shelf.bottlesBearing(w);
            }
            reckonChanges();
            chooseBottles();
        }

        private void reckonChanges() {
            pictures = 0;
            changes = 0;
            int behind = NONE;
            for (int place = letter.size - 1; place >= 0; place--) {
                if (bearersAt(place) == 0) {
                    pictures++;
                    continue;
                }
                int least = FAR;
                for (int b = 0; b < BOTTLES; b++) {
                    int cost = costAt(place, b, behind);
                    toCome[cell(place, b)] = cost;
                    least = Math.min(least, cost);
                }
                changes = least;
                behind = place;
            }
        }

        /** "changes" is still the least of the place behind. */
        private int costAt(int place, int b, int behind) {
            if ((bearersAt(place) >> b & 1) == 0) {
                return FAR;
            }
            return behind == NONE ? 0 : Math.min(toCome[cell(behind, b)], changes + 1);
        }

        private void chooseBottles() {
            int left = changes;
            int before = NONE;
            for (int place = 0; place < letter.size && place < Letter.MOST_WORDS; place++) {
                bottles[place] = NOT_FOUND;
                if (bearersAt(place) == 0) {
                    continue;
                }
                for (int b = BOTTLES - 1; b >= 0; b--) {
                    int change = before == NONE || before == b ? 0 : 1;
                    if (change + toCome[cell(place, b)] == left) {
                        bottles[place] = b;
                    }
                }
                before = bottles[place];
                left = toCome[cell(place, before)];
            }
        }

        private int bearersAt(int place) {
            return bearing[letter.wordAt(place) & 15];
        }

        private static int cell(int place, int b) {
            return bounded(place, Letter.MOST_WORDS - 1) * BOTTLES + (b & 7);
        }
    }

    /** Tries all rows of WORDS to be made USED to, the least rows first. */
    private static final class Trainer {
        private static final int NO_END = 1000;

        private final Shelf trial;
        private int bottle;
        private int wanted;
        private int fewest;
        private int first;

        Trainer(Shelf trial) {
            this.trial = trial;
        }

        boolean canTrain(int b, int words) {
            bottle = b;
            wanted = words;
            fewest = NO_END;
            first = NOT_FOUND;
            search(words, 0, NOT_FOUND);
            return fewest < NO_END;
        }

        /** "open" are the WORDS it may still be made USED to: one less in each call of this one. */
        private void search(int open, int spent, int firstOfRow) {
            if (spent >= fewest) {
                return;
            }
            if ((wanted & ~trial.wordsBorneBy(bottle)) == 0) {
                fewest = spent;
                first = firstOfRow;
                return;
            }
            for (int w = 0; w < WORDS; w++) {
                if ((open >> w & 1) != 0) {
                    int begun = firstOfRow == NOT_FOUND ? w : firstOfRow;
                    goOnWith(w, open & ~(1 << w), spent, begun);
                }
            }
        }

        private void goOnWith(int w, int open, int spent, int firstOfRow) {
            int rhyme = trial.rhymes.of(w);
            int tries = trial.triesOf(bottle, w);
            int dread = trial.dreadOf(bottle, w);
            int dreadOfRhyme = trial.dreadOf(bottle, rhyme);
            trial.makeUsed(bottle, w);
            search(open, spent + TRIES_TO_BE_USED - tries, firstOfRow);
            trial.setTries(bottle, w, tries);
            trial.setDread(bottle, rhyme, dreadOfRhyme);
            trial.setDread(bottle, w, dread);
        }
    }

    /** Questions that are answered by trying all: of guards, and of treaties, odds and rings on the tape. */
    private static final class Riddles {
        private final Tape tape;
        private final int[] borne = new int[BOTTLES];
        private int bottles;

        Riddles(Tape tape) {
            this.tape = tape;
        }

        int fewestGuards(Shelf shelf) {
            bottles = 0;
            for (int b = 0; b < BOTTLES; b++) {
                if (shelf.isTold(b)) {
                    borne[bottles & 7] = shelf.wordsBorneBy(b);
                    bottles++;
                }
            }
            if (!tellApart(ALL_WORDS)) {
                return NOT_FOUND;
            }
            // Unlike BOTTLES can always be told apart by fewer WORDS than there are BOTTLES.
            for (int size = 0; size < BOTTLES; size++) {
                int words = firstGuards(size);
                if (words != NOT_FOUND) {
                    return words;
                }
            }
            return NOT_FOUND;
        }

        private int firstGuards(int size) {
            int words = (1 << size) - 1;
            for (int k = 0; k <= ALL_WORDS && words <= ALL_WORDS; k++) {
                if (tellApart(words)) {
                    return words;
                }
                int lowest = words & -words;
                if (lowest == 0) {
                    return NOT_FOUND;
                }
                // The next greater number with as many bits.
                int carried = words + lowest;
                words = (carried ^ words) / lowest >> 2 | carried;
            }
            return NOT_FOUND;
        }

        private boolean tellApart(int words) {
            for (int a = 0; a < bottles && a < BOTTLES; a++) {
                for (int b = 0; b < a; b++) {
                    if (((borne[a] ^ borne[b]) & words) == 0) {
                        return false;
                    }
                }
            }
            return true;
        }

        int rests(int n, int m) {
            int howMany = 0;
            for (int r = 0; r < n; r++) {
                for (int c = 0; c < m; c++) {
                    howMany += isRest(n, m, r, c) ? 1 : 0;
                }
            }
            return howMany;
        }

        int firstRest(int n, int m) {
            for (int r = 0; r < n; r++) {
                for (int c = 0; c < m; c++) {
                    if (isRest(n, m, r, c)) {
                        return 6 * r + c;
                    }
                }
            }
            return NOT_FOUND;
        }

        private boolean isRest(int n, int m, int r, int c) {
            int here = r * m + c;
            for (int other = 0; other < n; other++) {
                if (forOne(other * m + c) > forOne(here)) {
                    return false;
                }
            }
            for (int other = 0; other < m; other++) {
                if (forOther(r * m + other) > forOther(here)) {
                    return false;
                }
            }
            return true;
        }

        int bargains(int twos) {
            int howMany = 0;
            for (int here = 0; here < twos; here++) {
                boolean left = false;
                for (int there = 0; there < twos; there++) {
                    left = left || isLeftFor(here, there);
                }
                howMany += left ? 0 : 1;
            }
            return howMany;
        }

        private boolean isLeftFor(int here, int there) {
            int moreForOne = forOne(there) - forOne(here);
            int moreForOther = forOther(there) - forOther(here);
            return moreForOne >= 0 && moreForOther >= 0 && moreForOne + moreForOther > 0;
        }

        private int forOne(int two) {
            return tape.at(2 * two);
        }

        private int forOther(int two) {
            return tape.at(2 * two + 1);
        }

        /** Nine tenths at most are multiplied, so that all fits an int. */
        int odds(int n, int what) {
            int whole = 1;
            int all = 1;
            int none = 1;
            for (int k = 0; k < n; k++) {
                int tenths = tape.at(k);
                if (tenths > 10) {
                    return WRONG_BYTES;
                }
                whole *= 10;
                all *= tenths;
                none *= 10 - tenths;
            }
            int above = what < 2 ? all : whole - none;
            int divisor = commonDivisor(above, whole);
            int answered = what % 2 == 0 ? above : whole;
            return divisor > 0 ? answered / divisor : NONE;
        }

        int ringsIn(int n, int what) {
            int howMany = 0;
            int steps = 1;
            int seen = 0;
            for (int start = 0; start < n; start++) {
                int length = 0;
                int at = start;
                for (int k = 0; k < n && (seen >> at & 1) == 0; k++) {
                    seen |= 1 << at;
                    at = tape.at(at);
                    length++;
                }
                if (length > 0) {
                    howMany++;
                    int divisor = commonDivisor(steps, length);
                    steps = divisor > 0 ? steps / divisor * length : steps;
                }
            }
            return what == 0 ? howMany : steps;
        }

        private static int commonDivisor(int a, int b) {
            int great = a;
            int small = b;
            // Euclid needs fewer than 50 steps for any two ints.
            for (int k = 0; k < 100 && small != 0; k++) {
                int rest = great % small;
                great = small;
                small = rest;
            }
            return great;
        }
    }
}
