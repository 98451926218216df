import java.util.Arrays;
import java.util.NoSuchElementException;

/** A dry land whose wells are dimples: see README.md, and the document's promises by number. */
public final class DimpleWells {
    public static final int NONE = -1;

    private static final int MOST_BYTES = 600;
    private static final int LAW_BYTES = 150;
    private static final int WORK_BYTES = 150;
    private static final int BOOK_BYTES = 60;
    private static final int MOST_CLAUSES = 60;
    private static final int MOST_PERSONS = 7;
    private static final int MOST_JOKES = 6;
    private static final int MOST_STREETS = 12;
    private static final int MOST_OPEN = 6;
    private static final int MOST_STEPS = 200;
    private static final int MOST_WORKS = 16;
    private static final int MOST_IMAGES = 3;
    private static final int MOST_LAUGH = 40;
    private static final int MOST_WATER = 999;
    private static final int MOST_THIRST = 99;
    private static final int MOST_TIMES = 99;
    private static final int LAST_DAY = 400;
    private static final int TOO_MANY_WORKS = -20;

    private static final int CANNOT_STAND = 1;
    private static final int NO_SUCH_NUMBER = 2;
    private static final int ONE_TOO_MANY = 3;

    private final Tape tape = new Tape();
    private final Scene scene = new Scene();
    private final Steps steps = new Steps();
    private final Days now = new Days();
    private final Days trial = new Days();
    private final History history = new History();
    private final Plan plan = new Plan();
    private final Guess guess = new Guess();
    private final Years years = new Years();
    // A text is read into the spare one, so that a FAULT leaves the other as it was.
    private Land spareLand = new Land();
    private Law spareLaw = new Law();
    private Book book = new Book();
    private Book spareBook = new Book();
    private int refusedSteps;
    private int noSuchCalls;
    private int wrongCalls;

    public DimpleWells() {
        now.begin(scene.land.jug);
    }

    public int feed(int a, int b, int c, int d, int e) {
        if (!tape.hasRoom(20)) {
            return NONE;
        }
        tape.put(a);
        tape.put(b);
        tape.put(c);
        tape.put(d);
        tape.put(e);
        return tape.size;
    }

    public int land(int n) throws IllegalArgumentException {
        needRange(n, 0, tape.size);
        tape.open(n);
        if (!spareLand.read(tape)) {
            return tape.fault - 10;
        }
        Land old = scene.land;
        scene.land = spareLand;
        spareLand = old;
        scene.law.makeStandard();
        book.clear();
        history.clear();
        now.begin(scene.land.jug);
        refusedSteps = 0;
        return scene.land.persons;
    }

    public int law(int n) throws IllegalArgumentException {
        needRange(n, 0, Math.min(tape.size, LAW_BYTES));
        tape.open(n);
        if (!spareLaw.read(tape)) {
            return tape.fault - 10;
        }
        Law old = scene.law;
        scene.law = spareLaw;
        spareLaw = old;
        return 1;
    }

    public int work(int n) throws IllegalArgumentException {
        needRange(n, 0, Math.min(tape.size, WORK_BYTES));
        if (history.isFull()) {
            tape.drop();
            return TOO_MANY_WORKS;
        }
        tape.open(n);
        if (!steps.read(tape, scene.land)) {
            return tape.fault - 10;
        }
        history.push(now);
        steps.run(scene, now);
        refusedSteps = steps.refused;
        return steps.done;
    }

    public int book(int n) throws IllegalArgumentException {
        needRange(n, 0, Math.min(tape.size, BOOK_BYTES));
        tape.open(n);
        if (!spareBook.read(tape, scene.land.jokes)) {
            return tape.fault - 10;
        }
        Book old = book;
        book = spareBook;
        spareBook = old;
        return book.lines;
    }

    public int fault() {
        return tape.place;
    }

    public int undo() {
        if (!history.pop(now)) {
            return NONE;
        }
        refusedSteps = 0;
        return history.works;
    }

    public int told(int what) throws IllegalArgumentException {
        needRange(what, 0, 11);
        switch (what) {
            case 0: return scene.land.persons;
            case 1: return scene.land.jokes;
            case 2: return scene.land.streets;
            case 3: return now.dayNumber();
            case 4: return now.jugWater();
            case 5: return scene.land.drink;
            case 6: return now.grieving();
            case 7: return now.thirsty();
            case 8: return now.toldBits();
            case 9: return book.lines;
            case 10: return refusedSteps;
            default: return now.allThirst();
        }
    }

    public int person(int person, int what) throws NoSuchElementException, IllegalArgumentException {
        needPerson(person);
        needRange(what, 0, 7);
        switch (what) {
            case 0: return scene.land.dimples[person];
            case 1: return scene.land.tastes[person];
            case 2: return now.griefOf(person);
            case 3: return now.thirstOf(person);
            case 4: return now.wasTold(person) ? 1 : 0;
            case 5: return now.timesOf(person);
            case 6: return now.laughedOf(person);
            default: return scene.land.near[person];
        }
    }

    public int joke(int joke, int what) throws NoSuchElementException, IllegalArgumentException {
        needJoke(joke);
        needRange(what, 0, 2);
        switch (what) {
            case 0: return scene.land.kinds[joke];
            case 1: return scene.land.strengths[joke];
            default: return now.toldOf(joke);
        }
    }

    public int street(int street, int what) throws NoSuchElementException, IllegalArgumentException {
        if (street < 0 || street >= scene.land.streets) {
            noSuchCalls++;
            throw new NoSuchElementException("no such street");
        }
        needRange(what, 0, 1);
        return what == 0 ? scene.land.firstEnds[street] : scene.land.otherEnds[street];
    }

    public int worn(int joke, int person) throws NoSuchElementException {
        needJokeAndPerson(joke, person);
        return now.wornOf(joke, person);
    }

    public int laugh(int joke, int person) throws NoSuchElementException {
        needJokeAndPerson(joke, person);
        return scene.laughOf(now, joke, person);
    }

    public int water(int joke, int person) throws NoSuchElementException {
        needJokeAndPerson(joke, person);
        return scene.waterOf(now, joke, person);
    }

    public int would(int strong, int apart, int worn, int told, int dimples, int grief, int near, int thirst, int day, int person) throws IllegalArgumentException {
        scene.given[Law.STRONG] = needRange(strong, 1, 20);
        scene.given[Law.APART] = needRange(apart, 0, 9);
        scene.given[Law.WORN] = needRange(worn, 0, 999);
        scene.given[Law.TOLD] = needRange(told, 0, 999);
        scene.given[Law.DIMPLES] = needRange(dimples, 0, 3);
        scene.given[Law.GRIEF] = needRange(grief, 0, 9);
        scene.given[Law.NEAR] = needRange(near, 0, 6);
        scene.given[Law.THIRST] = needRange(thirst, 0, MOST_THIRST);
        scene.given[Law.DAY] = needRange(day, 0, LAST_DAY);
        scene.given[Law.PERSON] = needRange(person, 0, MOST_PERSONS - 1);
        return scene.laughAsGiven();
    }

    public int ahead(int n, int what) throws IllegalArgumentException {
        needRange(n, 0, 99);
        needRange(what, 0, 2);
        trial.copy(now);
        for (int day = 0; day < n; day++) {
            trial.passDay(scene.land);
        }
        switch (what) {
            case 0: return trial.jugWater();
            case 1: return trial.thirsty();
            default: return trial.allThirst();
        }
    }

    public int best() {
        return plan.giveBest(scene, now);
    }

    public int given(int joke) throws NoSuchElementException {
        needJoke(joke);
        plan.giveBest(scene, now);
        return plan.chosen[joke];
    }

    public int enough(int n) throws IllegalArgumentException {
        needRange(n, 0, MOST_WATER);
        return plan.fewestFor(scene, now, n);
    }

    public int lasts(int joke, int person) throws NoSuchElementException {
        needJokeAndPerson(joke, person);
        return scene.laughTillDry(now, joke, person, false);
    }

    public int well(int joke, int person) throws NoSuchElementException {
        needJokeAndPerson(joke, person);
        return scene.laughTillDry(now, joke, person, true) * scene.land.dimples[person];
    }

    public int fits(int person, int what) throws NoSuchElementException, IllegalArgumentException {
        needPerson(person);
        needRange(what, 0, 1);
        guess.findPairs(scene, now, book, person);
        return what == 0 ? guess.pairs : guess.first;
    }

    public int look(int person, int what) throws NoSuchElementException, IllegalArgumentException {
        needPerson(person);
        needRange(what, 0, 1);
        guess.findPairs(scene, now, book, person);
        guess.findJoke(scene, now, book, person);
        return what == 0 ? guess.joke : guess.worst;
    }

    public int comfort() {
        return scene.land.fewestBy(now.grieving());
    }

    public int way(int person, int other) throws NoSuchElementException {
        needPerson(person);
        needPerson(other);
        return scene.land.streetsBetween(person, other);
    }

    public int dry() {
        trial.copy(now);
        for (int day = 0; day <= 99; day++) {
            if (trial.thirsty() != 0) {
                return day;
            }
            trial.passDay(scene.land);
        }
        return NONE;
    }

    public int comedians(int v, int w, int n, int what) throws IllegalArgumentException {
        needRange(v, 0, 99);
        needRange(w, 0, 20);
        needRange(n, 1, 6);
        needRange(what, 0, 2);
        int rests = 0;
        int first = NONE;
        int together = 0;
        for (int pair = 0; pair < n * n; pair++) {
            int one = pair / n;
            int other = pair % n;
            if (staysAt(v, w, n, one, other) && staysAt(v, w, n, other, one)) {
                if (rests == 0) {
                    first = 10 * one + other;
                    together = shareOfFame(v, w, one, other) + shareOfFame(v, w, other, one);
                }
                rests++;
            }
        }
        return what == 0 ? rests : what == 1 ? first : together;
    }

    public long some(int n, int k, int q, int part) throws IllegalArgumentException {
        needRange(n, 0, 12);
        needRange(k, 0, 13);
        needRange(q, 0, 16);
        needRange(part, 0, 1);
        long above = 0;
        long ways = 1;
        for (int laughing = 0; laughing <= n; laughing++) {
            if (laughing >= k) {
                above += ways * power(q, laughing) * power(16 - q, n - laughing);
            }
            ways = ways * (n - laughing) / (laughing + 1);
        }
        long below = power(16, n);
        // What is below is a power of 2, so nothing but 2 can be cut from both.
        for (int halves = 0; halves < 48 && below > 1 && above % 2 == 0; halves++) {
            above /= 2;
            below /= 2;
        }
        return part == 0 ? above : below;
    }

    public int share(int person, int persons, int n) throws NoSuchElementException, IllegalArgumentException {
        needPerson(person);
        if ((persons & ~scene.land.allPersons()) != 0) {
            wrongCalls++;
            throw new IllegalArgumentException("bits of no persons");
        }
        needRange(n, 0, MOST_WATER);
        if ((persons >> person & 1) == 0) {
            return 0;
        }
        int bound = 0;
        for (int next = 1; next <= MOST_THIRST && now.thirstUpTo(persons, next) <= n; next++) {
            bound = next;
        }
        return Math.min(now.thirstOf(person), bound);
    }

    public int likes(int person, int what) throws NoSuchElementException, IllegalArgumentException {
        needPerson(person);
        needRange(what, 0, 1);
        int liked = NONE;
        int most = NONE;
        for (int joke = 0; joke < scene.land.jokes; joke++) {
            int laugh = scene.laughOf(now, joke, person);
            if (laugh > most) {
                most = laugh;
                liked = joke;
            }
        }
        return what == 0 ? liked : most;
    }

    public int solemn(int joke) throws NoSuchElementException {
        needJoke(joke);
        int bits = 0;
        for (int person = 0; person < scene.land.persons; person++) {
            if (scene.laughOf(now, joke, person) == 0) {
                bits |= 1 << person;
            }
        }
        return bits;
    }

    public int driest(int what) throws IllegalArgumentException {
        needRange(what, 0, 1);
        int driest = NONE;
        int most = 0;
        for (int person = 0; person < scene.land.persons; person++) {
            if (now.thirstOf(person) > most) {
                most = now.thirstOf(person);
                driest = person;
            }
        }
        return what == 0 || driest == NONE ? driest : most;
    }

    public int parts() {
        int left = scene.land.allPersons();
        int sets = 0;
        for (int person = 0; person < scene.land.persons; person++) {
            if ((left >> person & 1) != 0) {
                left &= ~scene.land.reachedFrom(person);
                sets++;
            }
        }
        return sets;
    }

    public int alike(int what) throws IllegalArgumentException {
        needRange(what, 0, 1);
        int pairs = 0;
        int first = NONE;
        for (int lesser = 0; lesser < scene.land.persons; lesser++) {
            for (int other = lesser + 1; other < scene.land.persons; other++) {
                if (scene.land.tastes[lesser] == scene.land.tastes[other]) {
                    first = pairs == 0 ? 10 * lesser + other : first;
                    pairs++;
                }
            }
        }
        return what == 0 ? pairs : first;
    }

    public int year(int seed, int days, int q, int what) throws IllegalArgumentException {
        needRange(days, 1, 96);
        needRange(q, 0, 16);
        needRange(what, 0, 3);
        trial.copy(now);
        years.run(scene, trial, seed, days, q);
        switch (what) {
            case 0: return trial.jugWater();
            case 1: return years.laughed;
            case 2: return trial.allThirst();
            default: return trial.grieving();
        }
    }

    public int span(int seed, int many, int days, int q, int what, int person) throws IllegalArgumentException {
        needRange(many, 1, 20);
        needRange(days, 1, 96);
        needRange(q, 0, 16);
        needRange(what, 0, 2);
        needRange(person, 0, scene.land.persons - 1);
        int least = MOST_WATER;
        int most = 0;
        int thirsty = 0;
        for (int i = 0; i < many; i++) {
            trial.copy(now);
            years.run(scene, trial, seed + i, days, q);
            least = Math.min(least, trial.jugWater());
            most = Math.max(most, trial.jugWater());
            thirsty += trial.thirstOf(person) > 0 ? 1 : 0;
        }
        return what == 0 ? least : what == 1 ? most : thirsty;
    }

    public int image() {
        return history.keep(now) ? history.images : NONE;
    }

    public int restore() {
        if (!history.bring(now)) {
            return NONE;
        }
        refusedSteps = 0;
        return history.images;
    }

    public int status(int what) {
        return what == 0 ? noSuchCalls : what == 1 ? wrongCalls : NONE;
    }

    public int count(int what) {
        switch (what) {
            case 0: return history.images;
            case 1: return tape.size;
            case 2: return history.works;
            default: return NONE;
        }
    }

    private int needRange(int value, int least, int most) {
        if (value < least || value > most) {
            wrongCalls++;
            throw new IllegalArgumentException("out of its range");
        }
        return value;
    }

    private void needPerson(int person) {
        if (person < 0 || person >= scene.land.persons) {
            noSuchCalls++;
            throw new NoSuchElementException("no such person");
        }
    }

    private void needJoke(int joke) {
        if (joke < 0 || joke >= scene.land.jokes) {
            noSuchCalls++;
            throw new NoSuchElementException("no such joke");
        }
    }

    private void needJokeAndPerson(int joke, int person) {
        needJoke(joke);
        needPerson(person);
    }

    private static boolean staysAt(int v, int w, int n, int own, int other) {
        int has = shareOfFame(v, w, own, other);
        for (int another = 0; another < n; another++) {
            if (shareOfFame(v, w, another, other) > has) {
                return false;
            }
        }
        return true;
    }

    private static int shareOfFame(int v, int w, int own, int other) {
        int won = own > other ? v : own == other ? v / 2 : 0;
        return won - w * own;
    }

    private static long power(int base, int times) {
        long product = 1;
        for (int i = 0; i < times; i++) {
            product *= base;
        }
        return product;
    }

    /** The TAPE, and the text that is read from it, sign by sign. */
    private static final class Tape {
        private static final int END = 0;
        private static final int NUMBER = 1;
        private static final int WORD = 2;
        private static final int SIGN = 3;
        // Far above every number that a text may hold; larger ones are as wrong as this one.
        private static final int LARGE = 100000;

        private final byte[] bytes = new byte[MOST_BYTES];
        private int size;
        private int length;
        private int behind;
        private int kind;
        private int start;
        private int value;
        private int numberStart;
        private int fault;
        private int place = NONE;

        private boolean hasRoom(int more) {
            return size + more <= MOST_BYTES;
        }

        private void put(int number) {
            for (int shift = 24; shift >= 0 && size < MOST_BYTES; shift -= 8) {
                bytes[size] = (byte) (number >> shift);
                size++;
            }
        }

        private void drop() {
            size = 0;
            fault = 0;
            place = NONE;
        }

        private void open(int n) {
            drop();
            length = Math.min(n, MOST_BYTES);
            behind = 0;
            next();
        }

        /** Goes on to the next number, word or sign. */
        private void next() {
            start = behind;
            while (start < length && bytes[start] == ' ') {
                start++;
            }
            behind = start;
            value = 0;
            while (behind < length && bytes[behind] >= '0' && bytes[behind] <= '9') {
                value = value < LARGE ? value * 10 + bytes[behind] - '0' : LARGE;
                behind++;
            }
            if (behind > start) {
                kind = NUMBER;
                return;
            }
            while (behind < length && bytes[behind] >= 'a' && bytes[behind] <= 'z') {
                behind++;
            }
            if (behind > start) {
                kind = WORD;
                return;
            }
            kind = END;
            if (start < length) {
                kind = SIGN;
                value = bytes[start];
                behind++;
            }
        }

        private boolean isSign(char sign) {
            return kind == SIGN && value == sign;
        }

        private boolean atEnd() {
            return kind == END || fail(CANNOT_STAND, start);
        }

        private boolean take(char sign) {
            if (!isSign(sign)) {
                return fail(CANNOT_STAND, start);
            }
            next();
            return true;
        }

        /** The number that stands here; NONE, with a FAULT, if it is none such. */
        private int takeNumber(int least, int most) {
            if (kind != NUMBER) {
                fail(CANNOT_STAND, start);
                return NONE;
            }
            if (value < least || value > most) {
                fail(NO_SUCH_NUMBER, start);
                return NONE;
            }
            int number = value;
            numberStart = start;
            next();
            return number;
        }

        /** Which of these words, with a blank between them, stands here; NONE. */
        private int wordOf(String words) {
            if (kind != WORD) {
                return NONE;
            }
            int which = 0;
            int same = 0;
            for (int i = 0; i <= words.length(); i++) {
                if (i == words.length() || words.charAt(i) == ' ') {
                    if (same == behind - start) {
                        return which;
                    }
                    which++;
                    same = 0;
                } else if (same >= 0 && start + same < behind && bytes[start + same] == words.charAt(i)) {
                    same++;
                } else {
                    same = NONE;
                }
            }
            return NONE;
        }

        private boolean fail(int what, int where) {
            fault = what;
            place = where;
            return false;
        }
    }

    private static final class Land {
        private static final String CLAUSES = "person joke street jug drink";
        private static final int PERSON = 0;
        private static final int JOKE = 1;
        private static final int STREET = 2;
        private static final int JUG = 3;

        private final int[] dimples = new int[MOST_PERSONS];
        private final int[] tastes = new int[MOST_PERSONS];
        private final int[] near = new int[MOST_PERSONS];
        private final int[] kinds = new int[MOST_JOKES];
        private final int[] strengths = new int[MOST_JOKES];
        private final int[] firstEnds = new int[MOST_STREETS];
        private final int[] otherEnds = new int[MOST_STREETS];
        private int persons;
        private int jokes;
        private int streets;
        private int jug = 20;
        private int drink = 2;

        private boolean read(Tape tape) {
            persons = 0;
            jokes = 0;
            streets = 0;
            jug = 20;
            drink = 2;
            Arrays.fill(near, 0);
            for (int clauses = 0; clauses <= MOST_CLAUSES && tape.kind != Tape.END; clauses++) {
                if (!readClause(tape, clauses)) {
                    return false;
                }
            }
            return true;
        }

        private boolean readClause(Tape tape, int clauses) {
            int word = tape.wordOf(CLAUSES);
            if (word == NONE) {
                return tape.fail(CANNOT_STAND, tape.start);
            }
            if (clauses >= MOST_CLAUSES || isFull(word)) {
                return tape.fail(ONE_TOO_MANY, tape.start);
            }
            tape.next();
            return readNumbers(tape, word) && tape.take(';');
        }

        private boolean isFull(int word) {
            switch (word) {
                case PERSON: return persons >= MOST_PERSONS;
                case JOKE: return jokes >= MOST_JOKES;
                case STREET: return streets >= MOST_STREETS;
                default: return false;
            }
        }

        private boolean readNumbers(Tape tape, int word) {
            switch (word) {
                case PERSON: return readPerson(tape);
                case JOKE: return readJoke(tape);
                case STREET: return readStreet(tape);
                case JUG:
                    jug = tape.takeNumber(0, 200);
                    return jug != NONE;
                default:
                    drink = tape.takeNumber(0, 9);
                    return drink != NONE;
            }
        }

        private boolean readPerson(Tape tape) {
            int d = tape.takeNumber(0, 3);
            int t = d == NONE ? NONE : tape.takeNumber(0, 9);
            if (t == NONE || persons >= MOST_PERSONS) {
                return false;
            }
            dimples[persons] = d;
            tastes[persons] = t;
            persons++;
            return true;
        }

        private boolean readJoke(Tape tape) {
            int k = tape.takeNumber(0, 9);
            int s = k == NONE ? NONE : tape.takeNumber(1, 20);
            if (s == NONE || jokes >= MOST_JOKES) {
                return false;
            }
            kinds[jokes] = k;
            strengths[jokes] = s;
            jokes++;
            return true;
        }

        private boolean readStreet(Tape tape) {
            int a = tape.takeNumber(0, persons - 1);
            int b = a == NONE ? NONE : tape.takeNumber(0, persons - 1);
            if (b == NONE || streets >= MOST_STREETS) {
                return false;
            }
            if (a == b || (near[a] >> b & 1) != 0) {
                return tape.fail(NO_SUCH_NUMBER, tape.numberStart);
            }
            near[a] |= 1 << b;
            near[b] |= 1 << a;
            firstEnds[streets] = a;
            otherEnds[streets] = b;
            streets++;
            return true;
        }

        private int allPersons() {
            return (1 << persons) - 1;
        }

        /** These PERSONS, and those to whom a STREET leads from them. */
        private int withNear(int bits) {
            int all = bits;
            for (int person = 0; person < persons; person++) {
                if ((bits >> person & 1) != 0) {
                    all |= near[person];
                }
            }
            return all;
        }

        private int reachedFrom(int person) {
            int bits = 1 << person;
            for (int i = 1; i < persons; i++) {
                bits = withNear(bits);
            }
            return bits;
        }

        private int streetsBetween(int person, int other) {
            int bits = 1 << person;
            for (int steps = 0; steps < persons; steps++) {
                if ((bits >> other & 1) != 0) {
                    return steps;
                }
                bits = withNear(bits);
            }
            return NONE;
        }

        /** The fewest PERSONS of whom each of these is one, or has one near; of as few the least bits. */
        private int fewestBy(int bits) {
            int fewest = allPersons();
            // Downwards, so that of as few ones the least bits are the last that are taken.
            for (int some = allPersons(); some >= 0; some--) {
                boolean fewer = Integer.bitCount(some) <= Integer.bitCount(fewest);
                if (fewer && (bits & ~withNear(some)) == 0) {
                    fewest = some;
                }
            }
            return fewest;
        }
    }

    /** A LAW as a row of codes: numbers and names put a value on a pile, the others join the upper two. */
    private static final class Law {
        private static final String NAMES = "strong apart worn told dimples grief near thirst day person";
        private static final int STRONG = 0;
        private static final int APART = 1;
        private static final int WORN = 2;
        private static final int TOLD = 3;
        private static final int DIMPLES = 4;
        private static final int GRIEF = 5;
        private static final int NEAR = 6;
        private static final int THIRST = 7;
        private static final int DAY = 8;
        private static final int PERSON = 9;
        private static final int GIVEN = 10;
        private static final String PAIRS = "least most";
        private static final int MOST_NUMBER = 999;
        private static final int NAME = 1000;
        private static final int PLUS = 1010;
        private static final int LESS = 1011;
        private static final int TIMES = 1012;
        private static final int BY = 1013;
        private static final int LEFT = 1014;
        private static final int LEAST = 1015;
        private static final int[] STANDARD = {
            NAME + STRONG, NAME + APART, 2, TIMES, LESS, NAME + WORN, 3, TIMES, LESS, NAME + GRIEF, LESS};

        private final int[] codes = new int[LAW_BYTES];
        private final int[] pile = new int[LAW_BYTES];
        private int length;

        private Law() {
            makeStandard();
        }

        private void makeStandard() {
            System.arraycopy(STANDARD, 0, codes, 0, STANDARD.length);
            length = STANDARD.length;
        }

        private boolean read(Tape tape) {
            length = 0;
            return readSum(tape, 0) && tape.atEnd();
        }

        private boolean readSum(Tape tape, int open) {
            boolean good = readProduct(tape, open);
            for (int i = 0; i < LAW_BYTES && good && (tape.isSign('+') || tape.isSign('-')); i++) {
                int code = tape.isSign('+') ? PLUS : LESS;
                tape.next();
                good = readProduct(tape, open) && add(code);
            }
            return good;
        }

        private boolean readProduct(Tape tape, int open) {
            boolean good = readUnit(tape, open);
            for (int i = 0; i < LAW_BYTES && good && productCode(tape) != NONE; i++) {
                int code = productCode(tape);
                tape.next();
                good = readUnit(tape, open) && add(code);
            }
            return good;
        }

        private static int productCode(Tape tape) {
            return tape.isSign('*') ? TIMES : tape.isSign('/') ? BY : tape.isSign('%') ? LEFT : NONE;
        }

        private boolean readUnit(Tape tape, int open) {
            if (tape.kind == Tape.NUMBER) {
                int number = tape.takeNumber(0, MOST_NUMBER);
                return number != NONE && add(number);
            }
            int name = tape.wordOf(NAMES);
            if (name != NONE) {
                tape.next();
                return add(NAME + name);
            }
            int pair = tape.wordOf(PAIRS);
            if (pair == NONE && !tape.isSign('(')) {
                return tape.fail(CANNOT_STAND, tape.start);
            }
            if (open >= MOST_OPEN) {
                return tape.fail(ONE_TOO_MANY, tape.start);
            }
            tape.next();
            if (pair == NONE) {
                return readSum(tape, open + 1) && tape.take(')');
            }
            return tape.take('[') && readSum(tape, open + 1) && tape.take(',')
                && readSum(tape, open + 1) && tape.take(']') && add(LEAST + pair);
        }

        private boolean add(int code) {
            if (length >= LAW_BYTES) {
                return false;
            }
            codes[length] = code;
            length++;
            return true;
        }

        private int valueBy(int[] given) {
            int high = 0;
            for (int i = 0; i < length; i++) {
                int code = codes[i];
                if (code >= PLUS) {
                    if (high >= 2) {
                        pile[high - 2] = joined(code, pile[high - 2], pile[high - 1]);
                        high--;
                    }
                } else if (high < LAW_BYTES) {
                    pile[high] = code < NAME ? code : given[code - NAME];
                    high++;
                }
            }
            return pile[0];
        }

        private static int joined(int code, int a, int b) {
            switch (code) {
                case PLUS: return a + b;
                case LESS: return a - b;
                case TIMES: return a * b;
                case BY: return b == 0 ? 0 : a / b;
                case LEFT: return b == 0 ? 0 : a % b;
                case LEAST: return a < b ? a : b;
                default: return a > b ? a : b;
            }
        }
    }

    /** All that WORK changes, in one row, so that it is kept and brought back as one. */
    private static final class Days {
        private static final int DAY = 0;
        private static final int JUG = 1;
        private static final int TOLD_BITS = 2;
        private static final int GRIEF = 3;
        private static final int THIRST = GRIEF + MOST_PERSONS;
        private static final int TIMES = THIRST + MOST_PERSONS;
        private static final int LAUGHED = TIMES + MOST_PERSONS;
        private static final int TOLD = LAUGHED + MOST_PERSONS;
        private static final int WORN = TOLD + MOST_JOKES;
        private static final int CELLS = WORN + MOST_JOKES * MOST_PERSONS;

        private final int[] cells = new int[CELLS];

        private void begin(int jug) {
            Arrays.fill(cells, 0);
            cells[JUG] = jug;
        }

        private void copy(Days other) {
            System.arraycopy(other.cells, 0, cells, 0, CELLS);
        }

        private int dayNumber() {
            return cells[DAY];
        }

        private int jugWater() {
            return cells[JUG];
        }

        private int toldBits() {
            return cells[TOLD_BITS];
        }

        private boolean wasTold(int person) {
            return (cells[TOLD_BITS] >> person & 1) != 0;
        }

        private int griefOf(int person) {
            return cells[GRIEF + person];
        }

        private int thirstOf(int person) {
            return cells[THIRST + person];
        }

        private int timesOf(int person) {
            return cells[TIMES + person];
        }

        private int laughedOf(int person) {
            return cells[LAUGHED + person];
        }

        private int toldOf(int joke) {
            return cells[TOLD + joke];
        }

        private int wornOf(int joke, int person) {
            return cells[WORN + joke * MOST_PERSONS + person];
        }

        private int grieving() {
            return personsWith(GRIEF);
        }

        private int thirsty() {
            return personsWith(THIRST);
        }

        private int personsWith(int cell) {
            int bits = 0;
            for (int person = 0; person < MOST_PERSONS; person++) {
                bits |= cells[cell + person] > 0 ? 1 << person : 0;
            }
            return bits;
        }

        private int allThirst() {
            return thirstUpTo((1 << MOST_PERSONS) - 1, MOST_THIRST);
        }

        private int thirstUpTo(int persons, int bound) {
            int sum = 0;
            for (int person = 0; person < MOST_PERSONS; person++) {
                if ((persons >> person & 1) != 0) {
                    sum += Math.min(cells[THIRST + person], bound);
                }
            }
            return sum;
        }

        private void hear(int joke, int person, int laugh, int water) {
            cells[TOLD_BITS] |= 1 << person;
            cells[TIMES + person]++;
            cells[LAUGHED + person] += laugh;
            cells[TOLD + joke]++;
            cells[WORN + joke * MOST_PERSONS + person]++;
            cells[JUG] = Math.min(cells[JUG] + water, MOST_WATER);
        }

        private boolean grieve(int person, int grief) {
            if (cells[GRIEF + person] >= grief) {
                return false;
            }
            cells[GRIEF + person] = grief;
            return true;
        }

        private boolean cheer(int person) {
            if (cells[GRIEF + person] == 0) {
                return false;
            }
            cells[GRIEF + person] = 0;
            return true;
        }

        private boolean pour(int water) {
            if (cells[JUG] < water) {
                return false;
            }
            cells[JUG] -= water;
            return true;
        }

        private void passDay(Land land) {
            for (int person = 0; person < land.persons; person++) {
                int had = Math.min(cells[JUG], land.drink);
                cells[JUG] -= had;
                int thirst = cells[THIRST + person] + land.drink - had;
                cells[THIRST + person] = had == land.drink ? 0 : Math.min(thirst, MOST_THIRST);
                cells[GRIEF + person] = Math.max(cells[GRIEF + person] - 1, 0);
            }
            cells[TOLD_BITS] = 0;
            cells[DAY]++;
        }
    }

    /** The LAND and its LAW: who laughs how much. */
    private static final class Scene {
        private final int[] given = new int[Law.GIVEN];
        private Land land = new Land();
        private Law law = new Law();

        private int laughAsGiven() {
            return Math.max(0, Math.min(law.valueBy(given), MOST_LAUGH));
        }

        private void giveAll(Days days, int joke, int person) {
            given[Law.STRONG] = land.strengths[joke];
            given[Law.APART] = Math.abs(land.tastes[person] - land.kinds[joke]);
            given[Law.WORN] = days.wornOf(joke, person);
            given[Law.TOLD] = days.toldOf(joke);
            given[Law.DIMPLES] = land.dimples[person];
            given[Law.GRIEF] = days.griefOf(person);
            given[Law.NEAR] = Integer.bitCount(land.near[person] & days.grieving());
            given[Law.THIRST] = days.thirstOf(person);
            given[Law.DAY] = days.dayNumber();
            given[Law.PERSON] = person;
        }

        private int laughOf(Days days, int joke, int person) {
            giveAll(days, joke, person);
            return laughAsGiven();
        }

        private int waterOf(Days days, int joke, int person) {
            return laughOf(days, joke, person) * land.dimples[person];
        }

        /** The LAUGH of a PERSON who is told a JOKE; NONE, if it was told one this DAY. */
        private int tell(Days days, int joke, int person) {
            if (days.wasTold(person)) {
                return NONE;
            }
            giveAll(days, joke, person);
            int laugh = laughAsGiven();
            days.hear(joke, person, laugh, laugh * land.dimples[person]);
            return laugh;
        }

        /** Told again and again: how much one laughs together, or how often. */
        private int laughTillDry(Days days, int joke, int person, boolean together) {
            giveAll(days, joke, person);
            int sum = 0;
            for (int times = 0; times < MOST_TIMES; times++) {
                int laugh = laughAsGiven();
                if (laugh == 0) {
                    return together ? sum : times;
                }
                sum += laugh;
                given[Law.WORN]++;
                given[Law.TOLD]++;
            }
            return together ? sum : MOST_TIMES;
        }
    }

    /** WORK as rows of STEPS; what an again does stands in the rows behind it. */
    private static final class Steps {
        private static final String WORDS = "tell grieve cheer pour day again";
        private static final int TELL = 0;
        private static final int GRIEVE = 1;
        private static final int CHEER = 2;
        private static final int POUR = 3;
        private static final int DAY = 4;
        private static final int AGAIN = 5;
        // No STEP is shorter than "day;", so no text has more.
        private static final int ROWS = WORK_BYTES / 4 + 1;

        private final int[] words = new int[ROWS];
        private final int[] firsts = new int[ROWS];
        private final int[] seconds = new int[ROWS];
        private final int[] behinds = new int[ROWS];
        private int rows;
        private int begun;
        private int done;
        private int refused;

        private boolean read(Tape tape, Land land) {
            rows = 0;
            return readBlock(tape, land, 0) && tape.atEnd();
        }

        private boolean readBlock(Tape tape, Land land, int open) {
            for (int i = 0; i < WORK_BYTES && tape.kind == Tape.WORD; i++) {
                if (!readStep(tape, land, open) || !tape.take(';')) {
                    return false;
                }
            }
            return true;
        }

        private boolean readStep(Tape tape, Land land, int open) {
            int word = tape.wordOf(WORDS);
            if (word == NONE) {
                return tape.fail(CANNOT_STAND, tape.start);
            }
            if (word == AGAIN && open >= MOST_OPEN) {
                return tape.fail(ONE_TOO_MANY, tape.start);
            }
            if (rows >= ROWS) {
                return tape.fail(CANNOT_STAND, tape.start);
            }
            int row = rows;
            rows++;
            words[row] = word;
            tape.next();
            boolean good = readNumbers(tape, land, row);
            if (good && word == AGAIN) {
                good = tape.take('[') && readBlock(tape, land, open + 1) && tape.take(']');
            }
            behinds[row] = rows;
            return good;
        }

        private boolean readNumbers(Tape tape, Land land, int row) {
            switch (words[row]) {
                case TELL: return readFirst(tape, row, 0, land.jokes - 1) && readSecond(tape, row, 0, land.persons - 1);
                case GRIEVE: return readFirst(tape, row, 0, land.persons - 1) && readSecond(tape, row, 1, 9);
                case CHEER: return readFirst(tape, row, 0, land.persons - 1);
                case POUR: return readFirst(tape, row, 1, 99);
                case AGAIN: return readFirst(tape, row, 0, 60);
                default: return true;
            }
        }

        private boolean readFirst(Tape tape, int row, int least, int most) {
            firsts[row] = tape.takeNumber(least, most);
            return firsts[row] != NONE;
        }

        private boolean readSecond(Tape tape, int row, int least, int most) {
            seconds[row] = tape.takeNumber(least, most);
            return seconds[row] != NONE;
        }

        private void run(Scene scene, Days days) {
            begun = 0;
            done = 0;
            refused = 0;
            runRows(scene, days, 0, rows, 0);
        }

        private void runRows(Scene scene, Days days, int from, int to, int open) {
            int row = from;
            for (int i = from; i < to && row < to && begun < MOST_STEPS; i++) {
                begun++;
                if (words[row] == AGAIN) {
                    for (int time = 0; time < firsts[row] && open < MOST_OPEN && begun < MOST_STEPS; time++) {
                        runRows(scene, days, row + 1, behinds[row], open + 1);
                    }
                } else if (isDone(scene, days, row)) {
                    done++;
                } else {
                    refused++;
                }
                row = behinds[row];
            }
        }

        /** Does a STEP, but no again; false, if it is REFUSED. */
        private boolean isDone(Scene scene, Days days, int row) {
            switch (words[row]) {
                case TELL: return scene.tell(days, firsts[row], seconds[row]) != NONE;
                case GRIEVE: return days.grieve(firsts[row], seconds[row]);
                case CHEER: return days.cheer(firsts[row]);
                case POUR: return days.pour(firsts[row]);
                default:
                    if (days.dayNumber() >= LAST_DAY) {
                        return false;
                    }
                    days.passDay(scene.land);
                    return true;
            }
        }
    }

    /** What one laughed at JOKES, by JOKE; NONE where no line tells it. */
    private static final class Book {
        private final int[] laughs = new int[MOST_JOKES];
        private int lines;

        private Book() {
            clear();
        }

        private void clear() {
            Arrays.fill(laughs, NONE);
            lines = 0;
        }

        private boolean read(Tape tape, int jokes) {
            clear();
            for (int i = 0; i < BOOK_BYTES && tape.kind != Tape.END; i++) {
                if (!readLine(tape, jokes)) {
                    return false;
                }
            }
            return true;
        }

        private boolean readLine(Tape tape, int jokes) {
            int joke = tape.takeNumber(0, Math.min(jokes, MOST_JOKES) - 1);
            if (joke == NONE) {
                return false;
            }
            if (laughs[joke] != NONE) {
                return tape.fail(NO_SUCH_NUMBER, tape.numberStart);
            }
            laughs[joke] = tape.takeNumber(0, MOST_LAUGH);
            lines++;
            return laughs[joke] != NONE && tape.take(';');
        }
    }

    /** WORKS that can be undone, and IMAGES, each with its own of them. */
    private static final class History {
        private static final int WORK_CELLS = MOST_WORKS * Days.CELLS;
        private static final int IMAGE_CELLS = WORK_CELLS + Days.CELLS;

        private final int[] past = new int[WORK_CELLS];
        private final int[] kept = new int[MOST_IMAGES * IMAGE_CELLS];
        private final int[] keptWorks = new int[MOST_IMAGES];
        private int works;
        private int images;

        private void clear() {
            works = 0;
            images = 0;
        }

        private boolean isFull() {
            return works >= MOST_WORKS;
        }

        private void push(Days now) {
            if (!isFull()) {
                System.arraycopy(now.cells, 0, past, works * Days.CELLS, Days.CELLS);
                works++;
            }
        }

        private boolean pop(Days now) {
            if (works <= 0) {
                return false;
            }
            works--;
            System.arraycopy(past, works * Days.CELLS, now.cells, 0, Days.CELLS);
            return true;
        }

        private boolean keep(Days now) {
            if (images >= MOST_IMAGES) {
                return false;
            }
            int from = images * IMAGE_CELLS;
            System.arraycopy(past, 0, kept, from, works * Days.CELLS);
            System.arraycopy(now.cells, 0, kept, from + WORK_CELLS, Days.CELLS);
            keptWorks[images] = works;
            images++;
            return true;
        }

        private boolean bring(Days now) {
            if (images <= 0) {
                return false;
            }
            images--;
            int from = images * IMAGE_CELLS;
            works = keptWorks[images];
            System.arraycopy(kept, from, past, 0, works * Days.CELLS);
            System.arraycopy(kept, from + WORK_CELLS, now.cells, 0, Days.CELLS);
            return true;
        }
    }

    /** BEST and ENOUGH. */
    private static final class Plan {
        private static final int SETS = 1 << MOST_PERSONS;

        private final int[] waters = new int[MOST_PERSONS];
        // By JOKE and by PERSONS who have one: the most that this JOKE and those behind it bring.
        private final int[] mosts = new int[(MOST_JOKES + 1) * SETS];
        private final int[] gains = new int[MOST_JOKES * MOST_PERSONS];
        private final int[] chosen = new int[MOST_JOKES];

        private int giveBest(Scene scene, Days days) {
            Arrays.fill(chosen, NONE);
            Land land = scene.land;
            for (int taken = 0; taken < SETS; taken++) {
                mosts[land.jokes * SETS + taken] = 0;
            }
            for (int joke = land.jokes - 1; joke >= 0; joke--) {
                for (int person = 0; person < land.persons; person++) {
                    gains[joke * MOST_PERSONS + person] = scene.waterOf(days, joke, person);
                }
                for (int taken = 0; taken <= land.allPersons(); taken++) {
                    mosts[joke * SETS + taken] = mostBy(joke, taken, land.persons);
                }
            }
            choose(land, days.toldBits());
            return mosts[days.toldBits()];
        }

        private int mostBy(int joke, int taken, int persons) {
            int most = mosts[(joke + 1) * SETS + taken];
            for (int person = 0; person < persons; person++) {
                if ((taken >> person & 1) == 0) {
                    most = Math.max(most, withGiven(joke, taken, person));
                }
            }
            return most;
        }

        private int withGiven(int joke, int taken, int person) {
            return gains[joke * MOST_PERSONS + person] + mosts[(joke + 1) * SETS + (taken | 1 << person)];
        }

        private void choose(Land land, int told) {
            int taken = told;
            for (int joke = 0; joke < land.jokes; joke++) {
                for (int person = 0; person < land.persons && chosen[joke] == NONE; person++) {
                    boolean free = (taken >> person & 1) == 0;
                    if (free && withGiven(joke, taken, person) == mosts[joke * SETS + taken]) {
                        chosen[joke] = person;
                    }
                }
                if (chosen[joke] != NONE) {
                    taken |= 1 << chosen[joke];
                }
            }
        }

        private int fewestFor(Scene scene, Days days, int n) {
            Land land = scene.land;
            for (int person = 0; person < land.persons; person++) {
                waters[person] = 0;
                for (int joke = 0; joke < land.jokes; joke++) {
                    waters[person] = Math.max(waters[person], scene.waterOf(days, joke, person));
                }
            }
            int fewest = NONE;
            int least = MOST_PERSONS + 1;
            for (int some = 0; some <= land.allPersons(); some++) {
                boolean fewer = (some & days.toldBits()) == 0 && Integer.bitCount(some) < least;
                if (fewer && days.jugWater() + waterOfAll(some, land.persons) >= n) {
                    fewest = some;
                    least = Integer.bitCount(some);
                }
            }
            return fewest;
        }

        private int waterOfAll(int some, int persons) {
            int sum = 0;
            for (int person = 0; person < persons; person++) {
                sum += (some >> person & 1) != 0 ? waters[person] : 0;
            }
            return sum;
        }
    }

    /** FITS and LOOK: pairs of TASTE and grief, each as 10 times the one, and the other. */
    private static final class Guess {
        private static final int ALL_PAIRS = 100;

        private final boolean[] fitting = new boolean[ALL_PAIRS];
        private final int[] tally = new int[MOST_LAUGH + 1];
        private int pairs;
        private int first;
        private int joke;
        private int worst;

        private void findPairs(Scene scene, Days days, Book book, int person) {
            for (int pair = 0; pair < ALL_PAIRS; pair++) {
                fitting[pair] = true;
            }
            for (int asked = 0; asked < scene.land.jokes; asked++) {
                if (book.laughs[asked] != NONE) {
                    keepPairs(scene, days, asked, person, book.laughs[asked]);
                }
            }
            pairs = 0;
            first = NONE;
            for (int pair = ALL_PAIRS - 1; pair >= 0; pair--) {
                if (fitting[pair]) {
                    pairs++;
                    first = pair;
                }
            }
        }

        private void keepPairs(Scene scene, Days days, int asked, int person, int laugh) {
            scene.giveAll(days, asked, person);
            for (int pair = 0; pair < ALL_PAIRS; pair++) {
                fitting[pair] = fitting[pair] && laughBy(scene, asked, pair) == laugh;
            }
        }

        /** The LAUGH, all else as given, of one of this TASTE and grief. */
        private static int laughBy(Scene scene, int asked, int pair) {
            scene.given[Law.APART] = Math.abs(pair / 10 - scene.land.kinds[asked]);
            scene.given[Law.GRIEF] = pair % 10;
            return scene.laughAsGiven();
        }

        private void findJoke(Scene scene, Days days, Book book, int person) {
            joke = NONE;
            worst = NONE;
            for (int asked = 0; asked < scene.land.jokes; asked++) {
                if (book.laughs[asked] == NONE) {
                    scene.giveAll(days, asked, person);
                    int left = leftAtWorst(scene, asked);
                    if (joke == NONE || left < worst) {
                        joke = asked;
                        worst = left;
                    }
                }
            }
        }

        private int leftAtWorst(Scene scene, int asked) {
            Arrays.fill(tally, 0);
            int most = 0;
            for (int pair = 0; pair < ALL_PAIRS; pair++) {
                if (fitting[pair]) {
                    int laugh = laughBy(scene, asked, pair);
                    tally[laugh]++;
                    most = Math.max(most, tally[laugh]);
                }
            }
            return most;
        }
    }

    /** A YEAR by a SEED. */
    private static final class Years {
        private static final int GRIEF = 3;

        private int seed;
        private int laughed;

        private void run(Scene scene, Days days, int firstSeed, int many, int q) {
            seed = firstSeed;
            laughed = 0;
            boolean drawing = scene.land.jokes > 0 && scene.land.persons > 0;
            for (int day = 0; day < many; day++) {
                if (drawing) {
                    tellByLot(scene, days, q);
                }
                days.passDay(scene.land);
            }
        }

        private void tellByLot(Scene scene, Days days, int q) {
            int joke = draw(scene.land.jokes);
            int person = draw(scene.land.persons);
            laughed += Math.max(0, scene.tell(days, joke, person));
            if (draw(16) < q) {
                days.grieve(person, GRIEF);
            }
        }

        private int draw(int by) {
            seed = seed * 1103515245 + 12345;
            return by > 0 ? (seed >>> 16 & 0x7FFF) % by : 0;
        }
    }
}
