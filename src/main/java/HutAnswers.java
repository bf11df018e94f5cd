import java.util.Arrays;

/** An old woman in a hut who answers whatever she is asked and ages by each answer. */
public final class HutAnswers {
    /** There is none. */
    public static final int NONE = -1;

    private static final int BAD_NUMBER = -1;
    private static final int NO_SUCH = -2;
    private static final int CANT_BE = -3;
    private static final int NO_ROOM = -5;
    private static final int BAD_TEXT = -6;
    /** The refusals in the order in which count() tells them, without their sign. */
    private static final int[] REFUSALS = {1, 2, 3, 5, 6};

    private static final int THINGS = 8;
    private static final int QUESTIONS = 8;
    private static final int VISITORS = 6;
    private static final int LAWS = 6;
    private static final int IMAGES = 2;
    private static final int TAPE = 400;

    private static final int DAY = 0;
    private static final int MOOD = 1;
    private static final int AGE = 2;
    private static final int TERMS = 3;
    private static final int[] MOST_OF_TERM = {999, 9, 9999};

    private static final int MOST_WEIGHT = 99;
    private static final int MOST_YEARS = 99;
    private static final int MOST_ANSWERS = 65535;
    private static final int MOST_ASKED = 999;
    private static final int MOST_TEA = 99;
    private static final int MOST_CUPS = 9;
    private static final int MOST_WANT = 255;
    private static final int MOST_IN_ORDER = 7;
    private static final int MOST_GUESSED = 3;
    private static final int MOST_SEED = 1000000;
    private static final int MOST_VISITS = 40;
    private static final int ASKS_OF_A_VISIT = 8;
    private static final int NOT_NEEDED = 100;

    /** What undo() answers, and the openings of the clauses of ORDERS. */
    private static final int ASK = 0;
    private static final int POUR = 1;
    private static final int PASS = 2;
    private static final int HIDE = 3;

    /** The openings of the clauses of LAWS. */
    private static final int AGES = 0;
    private static final int TURNS = 1;
    private static final int BARS = 2;

    private final Tape tape = new Tape();
    private final Reader reader = new Reader();
    private final Judge judge = new Judge();
    private final Paper paper = new Paper();
    private final Draws draws = new Draws();
    private final Hut now = new Hut();
    private final Past past = new Past();
    /** What stood ahead of ORDERS, to return to if one can't be. */
    private final Hut ahead = new Hut();
    private final Past pastAhead = new Past();
    private final Hut latestHuts = new Hut();
    private boolean hutsKept = false;
    private final Hut[] images = {new Hut(), new Hut()};
    private final boolean[] imageKept = new boolean[IMAGES];
    private final int[] refusals = new int[7];
    private int latestRefusal = 0;
    private int latestFault = NONE;
    private int latestStop = NONE;
    private int latestHens = 0;

    public HutAnswers() {
    }

    public int thing(int weight) {
        if (weight < 1 || weight > MOST_WEIGHT) {
            return refused(BAD_NUMBER);
        }
        if (now.things >= THINGS) {
            return refused(NO_ROOM);
        }
        past.forget();
        return granted(now.addThing(weight));
    }

    public int question(int years, int sort, int answers) {
        if (!Hut.canBeQuestion(years, sort, answers)) {
            return refused(BAD_NUMBER);
        }
        if (now.questions >= QUESTIONS) {
            return refused(NO_ROOM);
        }
        past.forget();
        return granted(now.addQuestion(years, sort, answers));
    }

    public int of(int question, int what) {
        if (!now.hasQuestion(question)) {
            return NONE;
        }
        judge.lookAt(now, question);
        switch (what) {
            case 0: return now.years[question];
            case 1: return now.sort[question];
            case 2: return now.asked[question];
            case 3: return judge.yearsBy(now.lawInForce());
            case 4: return judge.holds(now.lawInForce(), TURNS) ? 1 : 0;
            case 5: return judge.holds(now.lawInForce(), BARS) ? 1 : 0;
            default: return now.hasThing(what - 6) ? now.answerOf(question, what - 6) : NONE;
        }
    }

    public int visitor(int want) {
        if (want < 0 || want > MOST_WANT) {
            return refused(BAD_NUMBER);
        }
        if (now.visitors >= VISITORS) {
            return refused(NO_ROOM);
        }
        now.want[now.visitors] = want;
        now.visitors++;
        return granted(now.visitors - 1);
    }

    public int terms(int what, int value) {
        if (what < 0 || what >= TERMS || value < 0 || value > MOST_OF_TERM[what]) {
            return refused(BAD_NUMBER);
        }
        int before = now.term[what];
        now.term[what] = value;
        past.forget();
        return granted(before);
    }

    public int feed(int a, int b, int c, int d, int e) {
        if (tape.length + 20 > TAPE) {
            return NONE;
        }
        tape.addFour(a);
        tape.addFour(b);
        tape.addFour(c);
        tape.addFour(d);
        tape.addFour(e);
        return tape.length;
    }

    public int end(int n) {
        if (n < 0 || n > tape.length) {
            return NONE;
        }
        tape.length = n;
        return n;
    }

    public int row() {
        if (tape.length == 0) {
            return refused(BAD_TEXT);
        }
        int before = now.questions;
        int hens = 0;
        for (int at = 0; at < tape.length; at += 4) {
            if (!questionCame(at)) {
                hens++;
            }
        }
        tape.length = 0;
        latestHens = hens;
        past.forget();
        return granted(now.questions - before);
    }

    public int hens() {
        return latestHens;
    }

    public int law() {
        if (now.laws >= LAWS) {
            tape.length = 0;
            return refused(NO_ROOM);
        }
        latestFault = reader.read(tape, false);
        tape.length = 0;
        if (latestFault != NONE) {
            return refused(BAD_TEXT);
        }
        now.law[now.laws] = reader.text.copy();
        now.laws++;
        return granted(now.laws - 1);
    }

    public int orders() {
        latestStop = NONE;
        latestFault = reader.read(tape, true);
        tape.length = 0;
        if (latestFault != NONE) {
            return refused(BAD_TEXT);
        }
        ahead.copyFrom(now);
        pastAhead.copyFrom(past);
        int run = runOrders(reader.text);
        if (latestStop == NONE) {
            return granted(run);
        }
        now.copyFrom(ahead);
        past.copyFrom(pastAhead);
        return refused(CANT_BE);
    }

    public int fault() {
        return latestFault;
    }

    public int stopped() {
        return latestStop;
    }

    public int force(int law) {
        if (law != NONE && !now.hasLaw(law)) {
            return refused(NO_SUCH);
        }
        int before = now.force;
        now.force = law;
        return granted(before);
    }

    public int ask(int question) {
        return recorded(actNow(ASK, question));
    }

    public int pour(int cups) {
        return recorded(actNow(POUR, cups));
    }

    public int pass() {
        return recorded(actNow(PASS, 0));
    }

    public int hide(int thing) {
        return recorded(actNow(HIDE, thing));
    }

    public int undo() {
        return recorded(past.takeBack(now));
    }

    public int known(int what) {
        switch (what) {
            case 0: return now.known;
            case 1: return now.weightOf(now.known);
            case 2: return now.knownAlone();
            default: return NONE;
        }
    }

    public int odds(int question, int answer) {
        if (!now.hasQuestion(question) || answer < 0 || answer > 3) {
            return NONE;
        }
        judge.lookAt(now, question);
        int turn = judge.holds(now.lawInForce(), TURNS) ? 1 : 0;
        int plain = answer - turn & 3;
        return now.weightOf(now.known & now.thingsAnswering(question, plain));
    }

    public int worst(int goal, int sort, int what) {
        return planned(goal, sort, what, false);
    }

    public int mean(int goal, int sort, int what) {
        return planned(goal, sort, what, true);
    }

    public int heap(int what) {
        if (what < 0 || what > 1 || !paper.findHeap(now)) {
            return NONE;
        }
        return what == 0 ? paper.least : paper.bits;
    }

    public int apart(int one, int other) {
        if (!now.hasThing(one) || !now.hasThing(other)) {
            return NONE;
        }
        int best = NONE;
        int least = 0;
        for (int q = 0; q < now.questions; q++) {
            if (now.answerOf(q, one) == now.answerOf(q, other)) {
                continue;
            }
            int years = yearsNow(q);
            if (best == NONE || years < least) {
                best = q;
                least = years;
            }
        }
        return best;
    }

    public int order(int questions, int i) {
        if (questions < 0 || questions >> now.questions != 0 || i < NONE) {
            return NONE;
        }
        int told = Integer.bitCount(questions);
        if (told > MOST_IN_ORDER || i >= told || !paper.findOrder(now, questions)) {
            return NONE;
        }
        return i == NONE ? paper.least : paper.bestRow[i];
    }

    public int guess(int age, int k, int i, int place) {
        if (age < 0 || age > MOST_OF_TERM[AGE] || k < 0 || k > MOST_GUESSED || i < NONE) {
            return NONE;
        }
        if (i != NONE && (place < 0 || place >= k)) {
            return NONE;
        }
        int rows = paper.findGuesses(now, age, k, i);
        if (i == NONE) {
            return rows;
        }
        return i < rows ? paper.bestRow[place] : NONE;
    }

    public int share(int visitor) {
        if (visitor < 0 || visitor >= now.visitors) {
            return NONE;
        }
        int share = 0;
        for (int q = 0; q < now.questions; q++) {
            int wanting = now.visitorsWanting(q);
            if ((now.want[visitor] >> q & 1) != 0 && wanting > 0) {
                share += 60 * yearsNow(q) / wanting;
            }
        }
        return share;
    }

    public int compare(int law) {
        if (law != NONE && !now.hasLaw(law)) {
            return NONE;
        }
        Text other = law == NONE ? null : now.law[law];
        return paper.findPlan(now, other, NONE, 0, false) ? paper.least : NONE;
    }

    public int huts(int seed, int n) {
        if (seed < 0 || seed > MOST_SEED || n < 1 || n > MOST_VISITS) {
            return refused(BAD_NUMBER);
        }
        if (now.things == 0 || now.questions == 0) {
            return refused(CANT_BE);
        }
        latestHuts.copyFrom(now);
        hutsKept = true;
        draws.seed = seed;
        int alone = 0;
        for (int i = 0; i < n && latestHuts.term[DAY] < MOST_OF_TERM[DAY]; i++) {
            if (visitDrawn(latestHuts) == 1) {
                alone++;
            }
        }
        return granted(alone);
    }

    public int drawn(int what) {
        if (!hutsKept) {
            return NONE;
        }
        switch (what) {
            case 0: return latestHuts.term[AGE];
            case 1: return latestHuts.term[DAY];
            case 2: return latestHuts.tea;
            case 3: return latestHuts.known;
            default: return latestHuts.hasQuestion(what - 4) ? latestHuts.asked[what - 4] : NONE;
        }
    }

    public int image(int k) {
        if (k < 0 || k >= IMAGES) {
            return refused(BAD_NUMBER);
        }
        images[k].copyFrom(now);
        imageKept[k] = true;
        return granted(0);
    }

    public int back(int k) {
        if (k < 0 || k >= IMAGES) {
            return refused(BAD_NUMBER);
        }
        if (!imageKept[k]) {
            return refused(NO_SUCH);
        }
        now.copyFrom(images[k]);
        past.forget();
        return granted(0);
    }

    public int count(int what) {
        if (what >= 8 && what <= 12) {
            return refusals[REFUSALS[what - 8]];
        }
        if (what >= 14 && what <= 16) {
            return now.term[what - 14];
        }
        switch (what) {
            case 0: return now.things;
            case 1: return now.questions;
            case 2: return now.visitors;
            case 3: return now.hidden;
            case 4: return now.tea;
            case 5: return now.laws;
            case 6: return past.kept;
            case 7: return tape.length;
            case 13: return now.force;
            default: return NONE;
        }
    }

    public int status() {
        return latestRefusal;
    }

    private int refused(int why) {
        latestRefusal = why;
        refusals[-why]++;
        return why;
    }

    private int granted(int answer) {
        latestRefusal = 0;
        return answer;
    }

    /** For calls that are never below 0 unless they are refused. */
    private int recorded(int answer) {
        return answer < 0 ? refused(answer) : granted(answer);
    }

    private boolean questionCame(int at) {
        if (at + 4 > tape.length || now.questions >= QUESTIONS) {
            return false;
        }
        int answers = 256 * tape.bytes[at + 2] + tape.bytes[at + 3];
        if (!Hut.canBeQuestion(tape.bytes[at], tape.bytes[at + 1], answers)) {
            return false;
        }
        now.addQuestion(tape.bytes[at], tape.bytes[at + 1], answers);
        return true;
    }

    /** How many were run; latestStop tells the CLAUSE that could not be. */
    private int runOrders(Text text) {
        int done = 0;
        int answer = NONE;
        for (int clause = 0; clause < text.clauses; clause++) {
            for (int time = 0; time < text.times[clause]; time++) {
                judge.lookAtOrders(now, done, answer);
                if (!judge.isSo(text, clause)) {
                    continue;
                }
                int sum = judge.sumOf(text, clause);
                int came = sum == Judge.BROKEN ? CANT_BE : actNow(text.kind[clause], sum);
                if (came < 0) {
                    latestStop = clause;
                    return done;
                }
                done++;
                if (text.kind[clause] == ASK) {
                    answer = came;
                }
            }
        }
        return done;
    }

    private int actNow(int kind, int value) {
        past.draft(now);
        int came = now.act(judge, kind, value);
        if (came >= 0) {
            past.keep(kind);
        }
        return came;
    }

    private int planned(int goal, int sort, int what, boolean byMean) {
        if (goal < NONE || goal > now.allThings() || sort < 0 || sort > 1 || what < 0 || what > 1) {
            return NONE;
        }
        if (!paper.findPlan(now, now.lawInForce(), goal, sort, byMean)) {
            return NONE;
        }
        return what == 0 ? paper.least : paper.first;
    }

    private int yearsNow(int question) {
        judge.lookAt(now, question);
        return judge.yearsBy(now.lawInForce());
    }

    /** How many are KNOWN at the end of the visit. */
    private int visitDrawn(Hut hut) {
        hut.act(judge, HIDE, draws.draw(hut.things));
        for (int i = 0; i < ASKS_OF_A_VISIT && hut.left() > 1; i++) {
            hut.act(judge, ASK, draws.draw(hut.questions));
        }
        int left = hut.left();
        hut.act(judge, PASS, 0);
        return left;
    }

    private static final class Draws {
        int seed;

        int draw(int m) {
            seed = (seed * 1103 + 12345) % 1000003;
            return m > 0 ? seed % m : 0;
        }
    }

    private static final class Tape {
        final int[] bytes = new int[TAPE];
        int length;

        void addFour(int number) {
            if (length + 4 > TAPE) {
                return;
            }
            for (int shift = 24; shift >= 0; shift -= 8) {
                bytes[length] = number >> shift & 255;
                length++;
            }
        }
    }

    /** All that an IMAGE keeps. */
    private static final class Hut {
        int things;
        final int[] weight = new int[THINGS];
        int questions;
        final int[] years = new int[QUESTIONS];
        final int[] sort = new int[QUESTIONS];
        final int[] answers = new int[QUESTIONS];
        final int[] asked = new int[QUESTIONS];
        int hidden = NONE;
        int known;
        int tea;
        int visitors;
        final int[] want = new int[VISITORS];
        final int[] term = new int[TERMS];
        int laws;
        /** Laws are never changed once read, so huts may share them. */
        final Text[] law = new Text[LAWS];
        int force = NONE;

        void copyFrom(Hut other) {
            things = other.things;
            System.arraycopy(other.weight, 0, weight, 0, THINGS);
            questions = other.questions;
            System.arraycopy(other.years, 0, years, 0, QUESTIONS);
            System.arraycopy(other.sort, 0, sort, 0, QUESTIONS);
            System.arraycopy(other.answers, 0, answers, 0, QUESTIONS);
            System.arraycopy(other.asked, 0, asked, 0, QUESTIONS);
            hidden = other.hidden;
            known = other.known;
            tea = other.tea;
            visitors = other.visitors;
            System.arraycopy(other.want, 0, want, 0, VISITORS);
            System.arraycopy(other.term, 0, term, 0, TERMS);
            laws = other.laws;
            for (int i = 0; i < LAWS; i++) {
                law[i] = other.law[i];
            }
            force = other.force;
        }

        static boolean canBeQuestion(int years, int sort, int answers) {
            return years >= 0 && years <= MOST_YEARS && sort >= 0 && sort <= 1
                    && answers >= 0 && answers <= MOST_ANSWERS;
        }

        int addThing(int itsWeight) {
            weight[things] = itsWeight;
            things++;
            known = allThings();
            return things - 1;
        }

        int addQuestion(int itsYears, int itsSort, int itsAnswers) {
            years[questions] = itsYears;
            sort[questions] = itsSort;
            answers[questions] = itsAnswers;
            asked[questions] = 0;
            questions++;
            return questions - 1;
        }

        boolean hasThing(int t) {
            return t >= 0 && t < things;
        }

        boolean hasQuestion(int q) {
            return q >= 0 && q < questions;
        }

        boolean hasLaw(int number) {
            return number >= 0 && number < laws;
        }

        Text lawInForce() {
            return hasLaw(force) ? law[force] : null;
        }

        int allThings() {
            return (1 << things) - 1;
        }

        int left() {
            return Integer.bitCount(known);
        }

        int knownAlone() {
            for (int t = 0; t < things; t++) {
                if (known == 1 << t) {
                    return t;
                }
            }
            return NONE;
        }

        int answerOf(int q, int t) {
            return answers[q] >> 2 * t & 3;
        }

        int thingsAnswering(int q, int answer) {
            int set = 0;
            for (int t = 0; t < things; t++) {
                if (answerOf(q, t) == answer) {
                    set |= 1 << t;
                }
            }
            return set;
        }

        int weightOf(int set) {
            int sum = 0;
            for (int t = 0; t < things; t++) {
                if ((set >> t & 1) != 0) {
                    sum += weight[t];
                }
            }
            return sum;
        }

        int visitorsWanting(int q) {
            int wanting = 0;
            for (int v = 0; v < visitors; v++) {
                wanting += want[v] >> q & 1;
            }
            return wanting;
        }

        /** What the call of that kind answers; nothing is changed if that is below 0. */
        int act(Judge judge, int kind, int value) {
            switch (kind) {
                case ASK: return answerTo(judge, value);
                case POUR: return pourCups(value);
                case PASS: return passDay();
                default: return hideAway(value);
            }
        }

        private int answerTo(Judge judge, int q) {
            if (!hasQuestion(q)) {
                return NO_SUCH;
            }
            Text inForce = lawInForce();
            judge.lookAt(this, q);
            int older = term[AGE] + judge.yearsBy(inForce);
            if (!hasThing(hidden) || judge.holds(inForce, BARS) || older > MOST_OF_TERM[AGE]) {
                return CANT_BE;
            }
            int plain = answerOf(q, hidden);
            int turn = judge.holds(inForce, TURNS) ? 1 : 0;
            known &= thingsAnswering(q, plain);
            term[AGE] = older;
            asked[q] = Math.min(asked[q] + 1, MOST_ASKED);
            return plain + turn & 3;
        }

        private int pourCups(int cups) {
            if (cups < 1 || cups > MOST_CUPS) {
                return BAD_NUMBER;
            }
            tea = Math.min(tea + cups, MOST_TEA);
            return tea;
        }

        private int passDay() {
            if (term[DAY] >= MOST_OF_TERM[DAY]) {
                return CANT_BE;
            }
            term[DAY]++;
            tea = Math.max(tea - 1, 0);
            return term[DAY];
        }

        private int hideAway(int t) {
            if (t != NONE && !hasThing(t)) {
                return NO_SUCH;
            }
            hidden = t;
            known = allThings();
            Arrays.fill(asked, 0);
            return left();
        }
    }

    /** What can be undone: how the hut stood ahead of each act. */
    private static final class Past {
        private static final int MOST = 16;
        /** One more than is kept, so that a draft that comes to nothing spoils none. */
        private static final int SLOTS = 17;
        private static final int SIZE = 6 + QUESTIONS;

        private final int[] rows = new int[SLOTS * SIZE];
        private int next;
        int kept;

        void copyFrom(Past other) {
            System.arraycopy(other.rows, 0, rows, 0, SLOTS * SIZE);
            next = other.next;
            kept = other.kept;
        }

        void forget() {
            kept = 0;
        }

        void draft(Hut hut) {
            int at = next * SIZE;
            rows[at + 1] = hut.hidden;
            rows[at + 2] = hut.known;
            rows[at + 3] = hut.tea;
            rows[at + 4] = hut.term[DAY];
            rows[at + 5] = hut.term[AGE];
            System.arraycopy(hut.asked, 0, rows, at + 6, QUESTIONS);
        }

        void keep(int kind) {
            rows[next * SIZE] = kind;
            next = (next + 1) % SLOTS;
            kept = Math.min(kept + 1, MOST);
        }

        int takeBack(Hut hut) {
            if (kept == 0) {
                return CANT_BE;
            }
            kept--;
            next = (next + SLOTS - 1) % SLOTS;
            int at = next * SIZE;
            hut.hidden = rows[at + 1];
            hut.known = rows[at + 2];
            hut.tea = rows[at + 3];
            hut.term[DAY] = rows[at + 4];
            hut.term[AGE] = rows[at + 5];
            System.arraycopy(rows, at + 6, hut.asked, 0, QUESTIONS);
            return rows[at];
        }
    }

    /** A TEXT that was read: its clauses, and their sums and tests as code for a stack. */
    private static final class Text {
        static final int CLAUSES = 12;

        int clauses;
        final int[] kind;
        final int[] times;
        /** Of each clause the code of its SUM goes from..middle, that of its TEST middle..to. */
        final int[] from;
        final int[] middle;
        final int[] to;
        int codes;
        final int[] op;
        final int[] arg;

        Text(int clauseRoom, int codeRoom) {
            kind = new int[clauseRoom];
            times = new int[clauseRoom];
            from = new int[clauseRoom];
            middle = new int[clauseRoom];
            to = new int[clauseRoom];
            op = new int[codeRoom];
            arg = new int[codeRoom];
        }

        /** With no more room than it needs, since laws stay. */
        Text copy() {
            Text same = new Text(clauses, codes);
            same.clauses = clauses;
            System.arraycopy(kind, 0, same.kind, 0, clauses);
            System.arraycopy(times, 0, same.times, 0, clauses);
            System.arraycopy(from, 0, same.from, 0, clauses);
            System.arraycopy(middle, 0, same.middle, 0, clauses);
            System.arraycopy(to, 0, same.to, 0, clauses);
            same.codes = codes;
            System.arraycopy(op, 0, same.op, 0, codes);
            System.arraycopy(arg, 0, same.arg, 0, codes);
            return same;
        }

        /** The code's place; each TOKEN emits one code at most, so there is always room. */
        int emit(int itsOp, int itsArg) {
            if (codes < op.length) {
                op[codes] = itsOp;
                arg[codes] = itsArg;
                codes++;
            }
            return codes - 1;
        }

        void landHere(int jump) {
            if (jump >= 0 && jump < codes) {
                arg[jump] = codes;
            }
        }

        void addClause(int itsKind, int itsTimes, int itsFrom, int itsMiddle) {
            if (clauses < kind.length) {
                kind[clauses] = itsKind;
                times[clauses] = itsTimes;
                from[clauses] = itsFrom;
                middle[clauses] = itsMiddle;
                to[clauses] = codes;
                clauses++;
            }
        }
    }

    /** Reads a TEXT of either language; a method that answers false stands at the FAULT. */
    private static final class Reader {
        private static final int PARTS = 50;
        private static final int BRACKETS = 8;
        private static final int MOST_NUMBER = 1000;
        private static final int MOST_TIMES = 20;

        private static final String LAWS_OPEN = "ages turns bars";
        private static final String LAWS_WORDS = "question years sort asked mood age tea day left";
        private static final String ORDERS_OPEN = "ask pour pass hide";
        /** Its first four are words of laws, too. */
        private static final String ORDERS_WORDS = "age tea day left done answer asked";

        final Text text = new Text(Text.CLAUSES, TAPE);
        private int[] bytes = new int[0];
        private int length;
        private boolean ofOrders;
        private int start;
        private int stop;
        private int parts;

        /** The FAULT. */
        int read(Tape tape, boolean isOrders) {
            bytes = tape.bytes;
            length = tape.length;
            ofOrders = isOrders;
            stop = 0;
            parts = 0;
            text.clauses = 0;
            text.codes = 0;
            step();
            for (int n = 0; n < Text.CLAUSES; n++) {
                if (!clause()) {
                    return start;
                }
                if (start >= length) {
                    return NONE;
                }
                if (!take(';')) {
                    return start;
                }
            }
            return start;
        }

        private boolean clause() {
            int kind = placeIn(ofOrders ? ORDERS_OPEN : LAWS_OPEN);
            if (kind == NONE) {
                return false;
            }
            step();
            int from = text.codes;
            boolean hasSum = ofOrders ? kind != PASS : kind == AGES;
            if (hasSum && !sum(0)) {
                return false;
            }
            int times = 1;
            if (ofOrders && takeWord("times")) {
                times = number();
                if (times < 1 || times > MOST_TIMES) {
                    return false;
                }
                step();
            }
            int middle = text.codes;
            if (takeWord("if") && !test(0)) {
                return false;
            }
            text.addClause(kind, times, from, middle);
            return true;
        }

        /**
         * A jump over one "and" or "or" lands on the next one behind it, which jumps on by the
         * same value: so none needs to know where the whole row ends.
         */
        private boolean test(int depth) {
            int and = NONE;
            int or = NONE;
            for (int n = 0; n < TAPE; n++) {
                if (!plain(depth)) {
                    return false;
                }
                text.landHere(and);
                and = NONE;
                if (takeWord("and")) {
                    and = text.emit(Judge.AND, 0);
                    continue;
                }
                text.landHere(or);
                if (!takeWord("or")) {
                    return true;
                }
                or = text.emit(Judge.OR, 0);
            }
            return false;
        }

        private boolean plain(int depth) {
            boolean not = false;
            for (int n = 0; n < TAPE && takeWord("not"); n++) {
                not = !not;
            }
            boolean fits = isSign('(') ? testInBrackets(depth) : comparison(depth);
            if (fits && not) {
                text.emit(Judge.NOT, 0);
            }
            return fits;
        }

        private boolean testInBrackets(int depth) {
            if (depth >= BRACKETS) {
                return false;
            }
            step();
            return test(depth + 1) && take(')');
        }

        private boolean comparison(int depth) {
            if (!sum(depth)) {
                return false;
            }
            int op = isSign('<') ? Judge.LESS : isSign('>') ? Judge.MORE : isSign('=') ? Judge.SAME : NONE;
            if (op == NONE) {
                return false;
            }
            step();
            if (!sum(depth)) {
                return false;
            }
            text.emit(op, 0);
            return true;
        }

        private boolean sum(int depth) {
            int add = NONE;
            int multiply = NONE;
            for (int n = 0; n < TAPE; n++) {
                if (!part(depth)) {
                    return false;
                }
                if (multiply != NONE) {
                    text.emit(multiply, 0);
                }
                multiply = isSign('*') ? Judge.TIMES : isSign('/') ? Judge.PER : isSign('%') ? Judge.REST : NONE;
                if (multiply == NONE) {
                    if (add != NONE) {
                        text.emit(add, 0);
                    }
                    add = isSign('+') ? Judge.PLUS : isSign('-') ? Judge.MINUS : NONE;
                    if (add == NONE) {
                        return true;
                    }
                }
                step();
            }
            return false;
        }

        private boolean part(int depth) {
            if (isSign('[')) {
                if (depth >= BRACKETS) {
                    return false;
                }
                step();
                return sum(depth + 1) && take(']');
            }
            int number = number();
            int word = ofOrders ? placeIn(ORDERS_WORDS) : placeIn(LAWS_WORDS);
            if (parts >= PARTS || number > MOST_NUMBER || number == NONE && word == NONE) {
                return false;
            }
            parts++;
            step();
            if (number != NONE) {
                text.emit(Judge.NUMBER, number);
                return true;
            }
            if (!ofOrders) {
                text.emit(Judge.WORD, word);
                return true;
            }
            return wordOfOrders(Judge.HER_AGE + word);
        }

        private boolean wordOfOrders(int word) {
            if (word != Judge.ASKED_OF) {
                text.emit(Judge.WORD, word);
                return true;
            }
            int q = number();
            if (q < 0 || q >= QUESTIONS) {
                return false;
            }
            step();
            text.emit(Judge.WORD, Judge.ASKED_OF + q);
            return true;
        }

        /** The TOKEN's number, cut a little above all that any place takes; NONE. */
        private int number() {
            if (start >= length || bytes[start] < '0' || bytes[start] > '9') {
                return NONE;
            }
            int number = 0;
            for (int at = start; at < stop; at++) {
                number = 10 * number + bytes[at] - '0';
                if (number > MOST_NUMBER) {
                    return MOST_NUMBER + 1;
                }
            }
            return number;
        }

        private boolean isSign(char sign) {
            return start < length && bytes[start] == sign;
        }

        private boolean take(char sign) {
            if (start >= length || bytes[start] != sign) {
                return false;
            }
            step();
            return true;
        }

        private boolean takeWord(String word) {
            if (placeIn(word) == NONE) {
                return false;
            }
            step();
            return true;
        }

        /** Which of the words, told with single blanks between them, the TOKEN is; NONE. */
        private int placeIn(String words) {
            int place = 0;
            int alike = 0;
            for (int i = 0; i < words.length(); i++) {
                char letter = words.charAt(i);
                if (letter == ' ') {
                    if (alike == stop - start) {
                        return place;
                    }
                    place++;
                    alike = 0;
                } else if (alike != NONE && start + alike < stop && bytes[start + alike] == letter) {
                    alike++;
                } else {
                    alike = NONE;
                }
            }
            return alike == stop - start ? place : NONE;
        }

        /** On to the next TOKEN; at the end it is empty. */
        private void step() {
            start = stop;
            while (start < length && bytes[start] == ' ') {
                start++;
            }
            stop = start;
            if (start >= length) {
                return;
            }
            int low = bytes[start] <= '9' ? '0' : 'a';
            int high = bytes[start] <= '9' ? '9' : 'z';
            while (stop < length && bytes[stop] >= low && bytes[stop] <= high) {
                stop++;
            }
            if (stop == start) {
                stop++;
            }
        }
    }

    /** Reckons sums and tests by the words as they were last looked at. */
    private static final class Judge {
        /** Beyond all sums. */
        static final int BROKEN = -2000000000;
        private static final int LIMIT = 1000000000;
        private static final int DEEPEST = 64;

        static final int NUMBER = 0;
        static final int WORD = 1;
        static final int NOT = 2;
        static final int AND = 3;
        static final int OR = 4;
        static final int PLUS = 5;
        static final int MINUS = 6;
        static final int TIMES = 7;
        static final int PER = 8;
        static final int REST = 9;
        static final int LESS = 10;
        static final int MORE = 11;
        static final int SAME = 12;

        /** In the order of Reader's rows of words. */
        static final int ITS_NUMBER = 0;
        static final int ITS_YEARS = 1;
        static final int ITS_SORT = 2;
        static final int ITS_ASKED = 3;
        static final int HER_MOOD = 4;
        static final int HER_AGE = 5;
        static final int HER_TEA = 6;
        static final int HER_DAY = 7;
        static final int LEFT = 8;
        static final int DONE = 9;
        static final int ANSWER = 10;
        /** The first of one word for each QUESTION there could be. */
        static final int ASKED_OF = 11;
        private static final int WORDS = 19;

        final int[] word = new int[WORDS];
        private final int[] stack = new int[DEEPEST];

        void lookAt(Hut hut, int question) {
            lookAround(hut);
            word[ITS_NUMBER] = question;
            word[ITS_YEARS] = hut.years[question];
            word[ITS_SORT] = hut.sort[question];
            word[ITS_ASKED] = hut.asked[question];
            word[HER_MOOD] = hut.term[MOOD];
        }

        void lookAtOrders(Hut hut, int done, int answer) {
            lookAround(hut);
            word[DONE] = done;
            word[ANSWER] = answer;
            for (int q = 0; q < QUESTIONS; q++) {
                word[ASKED_OF + q] = hut.hasQuestion(q) ? hut.asked[q] : NONE;
            }
        }

        private void lookAround(Hut hut) {
            word[HER_AGE] = hut.term[AGE];
            word[HER_TEA] = hut.tea;
            word[HER_DAY] = hut.term[DAY];
            word[LEFT] = Integer.bitCount(hut.known);
        }

        /** By how much she AGES by the QUESTION looked at. */
        int yearsBy(Text law) {
            int clauses = law == null ? 0 : law.clauses;
            for (int clause = clauses - 1; clause >= 0; clause--) {
                if (law.kind[clause] == AGES && value(law, law.middle[clause], law.to[clause]) == 1) {
                    int sum = value(law, law.from[clause], law.middle[clause]);
                    if (sum != BROKEN) {
                        return sum < 0 ? 0 : sum > MOST_YEARS ? MOST_YEARS : sum;
                    }
                }
            }
            return word[ITS_YEARS];
        }

        /** Whether a clause without a SUM HOLDS for the QUESTION looked at. */
        boolean holds(Text law, int kind) {
            int clauses = law == null ? 0 : law.clauses;
            for (int clause = 0; clause < clauses; clause++) {
                if (law.kind[clause] == kind && value(law, law.middle[clause], law.to[clause]) == 1) {
                    return true;
                }
            }
            return false;
        }

        boolean isSo(Text orders, int clause) {
            return value(orders, orders.middle[clause], orders.to[clause]) == 1;
        }

        int sumOf(Text orders, int clause) {
            return value(orders, orders.from[clause], orders.middle[clause]);
        }

        /** BROKEN, or the sum, or 1 or 0 for a test; 1 where there is no code, as if it were so. */
        private int value(Text text, int from, int to) {
            int top = 0;
            for (int at = from; at < to; at++) {
                int op = text.op[at];
                int arg = text.arg[at];
                if (op <= WORD) {
                    if (top >= DEEPEST || op == WORD && arg >= WORDS) {
                        return BROKEN;
                    }
                    stack[top] = op == WORD ? word[arg] : arg;
                    top++;
                } else if (top < 1) {
                    return BROKEN;
                } else if (op == NOT) {
                    stack[top - 1] = 1 - stack[top - 1];
                } else if (op == AND || op == OR) {
                    int settled = op == OR ? 1 : 0;
                    if (stack[top - 1] == settled) {
                        at = arg > at ? arg - 1 : at;
                    } else {
                        top--;
                    }
                } else {
                    top--;
                    int joined = top < 1 ? BROKEN : joined(op, stack[top - 1], stack[top]);
                    if (joined == BROKEN) {
                        return BROKEN;
                    }
                    stack[top - 1] = joined;
                }
            }
            return top < 1 ? 1 : stack[0];
        }

        private static int joined(int op, long a, long b) {
            long sum = 0;
            switch (op) {
                case PLUS: sum = a + b; break;
                case MINUS: sum = a - b; break;
                case TIMES: sum = a * b; break;
                case LESS: sum = a < b ? 1 : 0; break;
                case MORE: sum = a > b ? 1 : 0; break;
                case SAME: sum = a == b ? 1 : 0; break;
                default:
                    if (b == 0) {
                        return BROKEN;
                    }
                    sum = op == PER ? a / b : a % b;
                    break;
            }
            return sum > LIMIT || sum < -LIMIT ? BROKEN : (int) sum;
        }
    }

    /** What is reckoned on paper; each search leaves what it found in the fields. */
    private static final class Paper {
        private static final int SETS = 1 << THINGS;
        private static final int LEFTS = THINGS + 1;
        private static final int MOST_TOTAL = MOST_IN_ORDER * MOST_YEARS + 1;
        private static final int UNRECKONED = -2;
        private static final int SEEN = ((1 << MOST_IN_ORDER) * MOST_TOTAL + 63) / 64;

        private final Judge judge = new Judge();
        private Hut hut = new Hut();
        private Text law;
        int least;
        int first;
        int bits;
        final int[] bestRow = new int[MOST_IN_ORDER];

        /** The least for each set of THINGS that can be left; NONE: it can't be. */
        private final int[] leastOf = new int[SETS];
        /** By QUESTION and how many are left; NONE: BARRED. */
        private final int[] yearsOf = new int[QUESTIONS * LEFTS];
        /** By QUESTION and ANSWER. */
        private final int[] thingsOf = new int[QUESTIONS * 4];

        private final int[] told = new int[QUESTIONS];
        private int tellings;
        private final int[] row = new int[MOST_IN_ORDER];
        /** Bits for which QUESTIONS were asked and years that went. */
        private final long[] seen = new long[SEEN];
        /** By told QUESTION and years that went; NONE: BARRED. */
        private final byte[] yearsAt = new byte[MOST_IN_ORDER * MOST_TOTAL];
        private final int[] more = new int[QUESTIONS];
        private int wanted;
        private int found;

        private void lay(Hut itsHut, Text itsLaw) {
            hut = itsHut;
            law = itsLaw;
        }

        /** The years of a QUESTION as it is looked at; NONE: BARRED. */
        private int yearsUnlessBarred() {
            return judge.holds(law, BARS) ? NONE : judge.yearsBy(law);
        }

        /** WORST or MEAN: in least and first; false: it can't be. */
        boolean findPlan(Hut itsHut, Text itsLaw, int goal, int sort, boolean byMean) {
            lay(itsHut, itsLaw);
            least = 0;
            first = NOT_NEEDED;
            if (isTold(hut.known, goal)) {
                return true;
            }
            reckonQuestions(sort);
            for (int set = 0; set <= hut.known && set < SETS; set++) {
                if ((set & ~hut.known) == 0) {
                    leastOf[set] = isTold(set, goal) ? 0 : leastFor(set, byMean);
                }
            }
            least = leastOf[hut.known];
            return least != NONE;
        }

        private static boolean isTold(int set, int goal) {
            if (goal == NONE) {
                return Integer.bitCount(set) <= 1;
            }
            return (set & goal) == 0 || (set & ~goal) == 0;
        }

        private void reckonQuestions(int sort) {
            for (int q = 0; q < hut.questions; q++) {
                judge.lookAt(hut, q);
                for (int left = 2; left <= hut.left(); left++) {
                    judge.word[Judge.LEFT] = left;
                    boolean asked = sort == 0 || hut.sort[q] == 1;
                    yearsOf[q * LEFTS + left] = asked ? yearsUnlessBarred() : NONE;
                }
                for (int answer = 0; answer < 4; answer++) {
                    thingsOf[q * 4 + answer] = hut.thingsAnswering(q, answer);
                }
            }
        }

        private int leastFor(int set, boolean byMean) {
            int left = Integer.bitCount(set);
            int weight = byMean ? hut.weightOf(set) : 1;
            int best = NONE;
            for (int q = 0; q < hut.questions; q++) {
                int years = yearsOf[q * LEFTS + left];
                int behind = years == NONE ? NONE : leastBehind(set, q, byMean);
                if (behind != NONE && (best == NONE || years * weight + behind < best)) {
                    best = years * weight + behind;
                    first = q;
                }
            }
            return best;
        }

        /** What all answers together, or the dearest of them, still take; NONE: it can't be. */
        private int leastBehind(int set, int q, boolean byMean) {
            int sum = 0;
            int most = 0;
            for (int answer = 0; answer < 4; answer++) {
                int rest = set & thingsOf[q * 4 + answer];
                if (rest == set || leastOf[rest] == NONE) {
                    return NONE;
                }
                sum += leastOf[rest];
                most = Math.max(most, leastOf[rest]);
            }
            return byMean ? sum : most;
        }

        /** A HEAP: in least and bits; false: none. */
        boolean findHeap(Hut itsHut) {
            lay(itsHut, itsHut.lawInForce());
            for (int q = 0; q < hut.questions; q++) {
                judge.lookAt(hut, q);
                yearsOf[q] = yearsUnlessBarred();
                told[q] = pairsApart(q);
            }
            int needed = 0;
            for (int t = 0; t < THINGS; t++) {
                needed |= pairsBelow(t, hut.known);
            }
            least = NONE;
            for (int set = 0; set < 1 << hut.questions; set++) {
                int years = yearsOfHeap(set, needed);
                if (years != NONE && (least == NONE || years < least)) {
                    least = years;
                    bits = set;
                }
            }
            return least != NONE;
        }

        /** NONE: it does not tell all apart, or one of it is BARRED. */
        private int yearsOfHeap(int set, int needed) {
            int years = 0;
            int pairs = 0;
            for (int q = 0; q < hut.questions; q++) {
                if ((set >> q & 1) == 0) {
                    continue;
                }
                if (yearsOf[q] == NONE) {
                    return NONE;
                }
                years += yearsOf[q];
                pairs |= told[q];
            }
            return (needed & ~pairs) == 0 ? years : NONE;
        }

        /** The pairs of THING t and each one of the set below it, a bit for each. */
        private int pairsBelow(int t, int set) {
            int below = set & (1 << t) - 1;
            return (set >> t & 1) == 0 ? 0 : below << t * (t - 1) / 2;
        }

        private int pairsApart(int q) {
            int pairs = 0;
            for (int t = 0; t < hut.things; t++) {
                int unlike = hut.allThings() & ~hut.thingsAnswering(q, hut.answerOf(q, t));
                pairs |= pairsBelow(t, unlike | 1 << t);
            }
            return pairs;
        }

        /** In ORDER: in least and bestRow; false: it can't be. */
        boolean findOrder(Hut itsHut, int questions) {
            lay(itsHut, itsHut.lawInForce());
            tellings = 0;
            for (int q = 0; q < hut.questions; q++) {
                if ((questions >> q & 1) != 0) {
                    told[tellings] = q;
                    tellings++;
                }
            }
            least = NONE;
            Arrays.fill(seen, 0L);
            Arrays.fill(yearsAt, (byte) UNRECKONED);
            tryOrders(0, 0, 0);
            return least != NONE;
        }

        /**
         * Rows are tried as rows of numbers go. The years to come hang on what was asked and
         * on her AGE alone, so of rows that meet in both the first is as good as any.
         */
        private void tryOrders(int place, int used, int total) {
            if (least != NONE && total >= least || wasSeen(used, total)) {
                return;
            }
            if (place >= tellings || place >= MOST_IN_ORDER) {
                least = total;
                System.arraycopy(row, 0, bestRow, 0, MOST_IN_ORDER);
                return;
            }
            for (int i = 0; i < tellings; i++) {
                int years = (used >> i & 1) == 0 ? yearsBehind(i, total) : NONE;
                if (years != NONE && hut.term[AGE] + total + years <= MOST_OF_TERM[AGE]) {
                    row[place] = told[i];
                    tryOrders(place + 1, used | 1 << i, total + years);
                }
            }
        }

        /** Of a told QUESTION as its turn comes, kept since many rows ask for the same. */
        private int yearsBehind(int i, int total) {
            int at = i * MOST_TOTAL + total;
            if (at < 0 || at >= yearsAt.length) {
                return NONE;
            }
            if (yearsAt[at] == UNRECKONED) {
                judge.lookAt(hut, told[i]);
                judge.word[Judge.HER_AGE] = hut.term[AGE] + total;
                yearsAt[at] = (byte) yearsUnlessBarred();
            }
            return yearsAt[at];
        }

        private boolean wasSeen(int used, int total) {
            int number = used * MOST_TOTAL + total;
            int at = number >> 6;
            if (total >= MOST_TOTAL || at < 0 || at >= SEEN) {
                return false;
            }
            long bit = 1L << (number & 63);
            boolean was = (seen[at] & bit) != 0;
            seen[at] |= bit;
            return was;
        }

        /** How many rows are GUESSED; the one wanted is in bestRow. */
        int findGuesses(Hut itsHut, int age, int k, int itsWanted) {
            lay(itsHut, itsHut.lawInForce());
            wanted = itsWanted;
            found = 0;
            Arrays.fill(more, 0);
            tryGuesses(0, k, age);
            return found;
        }

        private void tryGuesses(int place, int k, int age) {
            if (age > hut.term[AGE]) {
                return;
            }
            if (place >= k || place >= MOST_GUESSED) {
                if (age == hut.term[AGE]) {
                    if (found == wanted) {
                        System.arraycopy(row, 0, bestRow, 0, MOST_GUESSED);
                    }
                    found++;
                }
                return;
            }
            for (int q = 0; q < hut.questions; q++) {
                judge.lookAt(hut, q);
                judge.word[Judge.HER_AGE] = age;
                judge.word[Judge.ITS_ASKED] = Math.min(hut.asked[q] + more[q], MOST_ASKED);
                row[place] = q;
                more[q]++;
                tryGuesses(place + 1, k, age + judge.yearsBy(law));
                more[q]--;
            }
        }
    }
}
