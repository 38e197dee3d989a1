/** A house whose only truth is the row of what has happened. The promises stand in DOC.md. */
public final class ToldHouse {
    public static final int NONE = -1;

    private static final int STREAMS = 20;
    private static final int KEYS = 10;
    private static final int SENDERS = 4;
    private static final int LAST_DAY = 999;
    private static final int MONTH = 30;
    private static final int GREATEST_AMOUNT = 1000000;
    private static final int REMEMBERED = 32;

    private static final int MOST_HAPPENINGS = 400;
    private static final int MOST_VIEWS = 4;
    private static final int MOST_DOINGS = 10;
    private static final int MOST_LEGS = 4;

    private static final int MADE = 0;
    private static final int CHANGED = 1;
    private static final int ENDED = 2;
    private static final int MENDED = 3;
    private static final int TAKEN = 4;

    private static final int WHOLE_COINS = 0;
    private static final int HUNDREDTHS = 1;

    private static final int BY_HAND = 0;
    private static final int BY_DOING = 1;
    private static final int BY_SENDER = 100;

    private static final int WHETHER_VOID = 10;
    private static final int READ_AMOUNT = 11;
    private static final int FIRST_ALTERABLE = 2;
    private static final int LAST_ALTERABLE = 8;

    private static final int RIGHT = 0;
    private static final int NOT_AS_TOLD = -2;
    private static final int OLD = -3;
    private static final int FULL = -4;
    private static final int NO_REF = -5;
    private static final int WRONG_BY_A = -6;
    private static final int WRONG_BY_B = -7;
    private static final int WRONG_BY_C = -8;
    private static final int HAS_COUNTED = -9;
    private static final int OLD_LETTER = -10;

    private static final int VIEW_BY_STREAMS = 0;
    private static final int VIEW_BY_KEYS = 1;
    private static final int VIEW_BY_MONTHS = 2;
    private static final int VIEW_SUMS = 0;
    private static final int VIEW_COUNTS = 1;

    private static final int DOING_TOLD = 0;
    private static final int DOING_GOING = 1;
    private static final int DOING_UNDOING = 2;
    private static final int DOING_DONE = 3;
    private static final int DOING_UNDONE = 4;
    private static final int DOING_KEY = 9;
    private static final int FIRST_LEG = 10;

    private final Row all = new Row();
    private final Row[] streams = new Row[STREAMS];
    private final Row trial = new Row();
    private final Judge judge = new Judge();
    private final View[] views = new View[MOST_VIEWS];
    private final Doing[] doings = new Doing[MOST_DOINGS];
    private final Sender[] senders = new Sender[SENDERS];
    private int today = 0;
    private int viewCount = 0;
    private int doingCount = 0;

    public ToldHouse() {
        for (int s = 0; s < STREAMS; s++) {
            streams[s] = new Row();
        }
        for (int s = 0; s < SENDERS; s++) {
            senders[s] = new Sender();
        }
    }

    public boolean day(int d) {
        if (d <= today || d > LAST_DAY) {
            return false;
        }
        today = d;
        return true;
    }

    public int tell(int stream, int kind, int form, int amount, int key, int so, int seen) {
        if (!isWithin(kind, MADE, ENDED)) {
            return NOT_AS_TOLD;
        }
        Happening next = new Happening(stream, kind, so, today, BY_HAND);
        if (kind != ENDED) {
            next.say(form, amount, key);
        }
        return bring(next, seen);
    }

    public int mend(int stream, int ref, int form, int amount, int key, int so, int seen) {
        Happening next = new Happening(stream, MENDED, so, today, BY_HAND);
        next.say(form, amount, key);
        next.ref = ref;
        return bring(next, seen);
    }

    public int take(int stream, int ref, int seen) {
        return bring(taking(stream, ref, BY_HAND), seen);
    }

    public int happening(int h, int what) {
        Happening told = all.nth(h);
        if (told == null) {
            return NONE;
        }
        if (what == WHETHER_VOID) {
            return isVoidByAll(told) ? 1 : 0;
        }
        return what == READ_AMOUNT ? told.inHundredths() : told.field(what);
    }

    public int number(int stream, int n) {
        Row row = rowOf(stream);
        Happening told = row == null ? null : row.nth(n);
        return told == null ? NONE : told.index;
    }

    public int count(int what) {
        switch (what) {
            case 0: return all.size;
            case 1: return viewCount;
            case 2: return doingCount;
            case 3: return today;
            default: return NONE;
        }
    }

    public int seen(int stream) {
        Row row = rowOf(stream);
        return row == null ? NONE : row.size;
    }

    public long sum(int stream, int t, int k, int key) {
        Row row = rowOf(stream);
        if (row == null || !areDays(t, k) || !isWithin(key, 0, KEYS)) {
            return 0L;
        }
        int known = row.knownBy(k);
        judge.settle(row, known);
        long sum = 0L;
        for (int i = 0; i < known; i++) {
            Happening h = row.nth(i);
            if (h != null && h.isValid() && h.soAsMended() <= t && (key == KEYS || h.keyAsMended() == key)) {
                sum += h.amountAsMended();
            }
        }
        return sum;
    }

    public int state(int stream, int t, int k) {
        Row row = rowOf(stream);
        if (row == null || !areDays(t, k)) {
            return NONE;
        }
        int known = row.knownBy(k);
        judge.settle(row, known);
        int state = 0;
        for (int i = 0; i < known; i++) {
            Happening h = row.nth(i);
            if (h != null && h.isValid() && h.soAsMended() <= t) {
                state = Math.max(state, stateBy(h.kind));
            }
        }
        return state;
    }

    public int view(int by, int what) {
        boolean asTold = isWithin(by, VIEW_BY_STREAMS, VIEW_BY_MONTHS) && isWithin(what, VIEW_SUMS, VIEW_COUNTS);
        if (!asTold || viewCount >= MOST_VIEWS) {
            return NONE;
        }
        views[viewCount] = new View(by, what);
        viewCount++;
        return viewCount - 1;
    }

    public int read(int view, int n) {
        View reader = viewAt(view);
        if (reader == null || !isWithin(n, 0, MOST_HAPPENINGS)) {
            return NONE;
        }
        int more = Math.min(n, all.size - reader.hasRead);
        reader.hasRead += more;
        return more;
    }

    public int up(int view, int what) {
        View reader = viewAt(view);
        if (reader == null) {
            return NONE;
        }
        switch (what) {
            case 0: return reader.hasRead;
            case 1: return reader.rows();
            case 2: return all.size - reader.hasRead;
            default: return NONE;
        }
    }

    public long at(int view, int row) {
        View reader = viewAt(view);
        if (reader == null) {
            return 0L;
        }
        settleFirst(reader.hasRead);
        long sum = 0L;
        for (int i = 0; i < reader.hasRead; i++) {
            Happening h = all.nth(i);
            if (h != null && reader.isOfRow(h, row)) {
                sum += reader.what == VIEW_SUMS ? h.amountAsMended() : 1;
            }
        }
        return sum;
    }

    public int lead(int view, int row, int k) {
        View reader = viewAt(view);
        if (reader == null || k < 0) {
            return NONE;
        }
        settleFirst(reader.hasRead);
        int ahead = 0;
        for (int i = 0; i < reader.hasRead; i++) {
            Happening h = all.nth(i);
            if (h != null && reader.isOfRow(h, row)) {
                if (ahead == k) {
                    return i;
                }
                ahead++;
            }
        }
        return NONE;
    }

    public int doing() {
        if (doingCount >= MOST_DOINGS) {
            return NONE;
        }
        doings[doingCount] = new Doing(BY_DOING + doingCount);
        doingCount++;
        return doingCount - 1;
    }

    public int leg(int doing, int stream, int amount) {
        Doing told = doingAt(doing);
        boolean asTold = isWithin(stream, 0, STREAMS - 1) && isAmount(amount);
        if (told == null || !asTold || told.how != DOING_TOLD || told.legCount >= MOST_LEGS) {
            return NONE;
        }
        told.add(new Leg(stream, amount));
        return told.legCount;
    }

    public boolean go(int doing) {
        Doing told = doingAt(doing);
        if (told == null || told.how != DOING_TOLD || told.legCount == 0) {
            return false;
        }
        told.how = DOING_GOING;
        return true;
    }

    public int step(int doing) {
        Doing stepping = doingAt(doing);
        if (stepping == null) {
            return NOT_AS_TOLD;
        }
        switch (stepping.how) {
            case DOING_GOING: return doNextLeg(stepping);
            case DOING_UNDOING: return undoLastLeg(stepping);
            default: return NONE;
        }
    }

    public int ends(int doing, int what) {
        Doing asked = doingAt(doing);
        if (asked == null) {
            return NONE;
        }
        switch (what) {
            case 0: return asked.how;
            case 1: return asked.legCount;
            case 2: return asked.done;
            case 3: return asked.undone;
            default: return what < FIRST_LEG ? NONE : changeOf(asked.nth(what - FIRST_LEG));
        }
    }

    public int in(int sender, int number, int stream, int amount, int key, int so) {
        Sender from = senderAt(sender);
        if (from == null || number < 0) {
            return NOT_AS_TOLD;
        }
        if (from.isOld(number)) {
            return OLD_LETTER;
        }
        if (from.hasCounted(number)) {
            return HAS_COUNTED;
        }
        Happening next = new Happening(stream, CHANGED, so, today, BY_SENDER + sender);
        next.say(HUNDREDTHS, amount, key);
        int answer = bring(next, NONE);
        if (answer >= 0) {
            from.remember(number);
        }
        return answer;
    }

    public int latest(int sender) {
        Sender asked = senderAt(sender);
        return asked == null ? NONE : asked.greatest;
    }

    public int check(int h, int field, int mask) {
        Happening told = all.nth(h);
        boolean isField = field == NONE || isWithin(field, FIRST_ALTERABLE, LAST_ALTERABLE);
        Row row = told == null ? null : rowOf(told.stream);
        if (told == null || row == null || !isField) {
            return NOT_AS_TOLD;
        }
        Happening altered = told.copy();
        altered.alter(field, mask);
        trial.become(row);
        trial.put(altered.number, altered);
        return firstThatCouldNotCome(altered);
    }

    private static boolean isWithin(int x, int least, int most) {
        return least <= x && x <= most;
    }

    private static boolean isDay(int d) {
        return 0 <= d && d <= LAST_DAY;
    }

    private static boolean areDays(int t, int k) {
        return isDay(t) && isDay(k);
    }

    private static boolean isAmount(int amount) {
        return isWithin(amount, -GREATEST_AMOUNT, GREATEST_AMOUNT);
    }

    private static int stateBy(int kind) {
        switch (kind) {
            case MADE: return 1;
            case ENDED: return 2;
            default: return 0;
        }
    }

    private Row rowOf(int stream) {
        return isWithin(stream, 0, STREAMS - 1) ? streams[stream] : null;
    }

    private View viewAt(int view) {
        return isWithin(view, 0, viewCount - 1) ? views[view] : null;
    }

    private Doing doingAt(int doing) {
        return isWithin(doing, 0, doingCount - 1) ? doings[doing] : null;
    }

    private Sender senderAt(int sender) {
        return isWithin(sender, 0, SENDERS - 1) ? senders[sender] : null;
    }

    private static int changeOf(Leg leg) {
        return leg == null || leg.change == null ? NONE : leg.change.index;
    }

    private boolean isVoidByAll(Happening h) {
        Row row = rowOf(h.stream);
        if (row == null) {
            return false;
        }
        judge.settle(row, row.size);
        return h.isVoid;
    }

    private void settleFirst(int happenings) {
        for (int s = 0; s < STREAMS; s++) {
            Row row = rowOf(s);
            if (row != null) {
                judge.settle(row, row.amongFirst(happenings));
            }
        }
    }

    private Happening taking(int stream, int ref, int by) {
        Happening next = new Happening(stream, TAKEN, today, today, by);
        next.ref = ref;
        return next;
    }

    /** Answers the number over all of what has come, or why it was refused. */
    private int bring(Happening next, int seen) {
        Row row = rowOf(next.stream);
        if (row == null || !next.isAsTold()) {
            return NOT_AS_TOLD;
        }
        if (seen != NONE && seen != row.size) {
            return OLD;
        }
        if (all.size >= MOST_HAPPENINGS) {
            return FULL;
        }
        next.index = all.size;
        next.number = row.size;
        if (!next.hasItsRef(row)) {
            return NO_REF;
        }
        row.add(next);
        int verdict = judge.verdict(row, row.size);
        if (verdict != RIGHT) {
            row.dropLast();
            return verdict;
        }
        all.add(next);
        return next.index;
    }

    private int doNextLeg(Doing going) {
        Leg leg = going.nth(going.done);
        if (leg == null) {
            return NONE;
        }
        Happening next = new Happening(leg.stream, CHANGED, today, today, going.by);
        next.say(HUNDREDTHS, leg.amount, DOING_KEY);
        int answer = bring(next, NONE);
        if (answer < 0) {
            going.how = going.done == 0 ? DOING_UNDONE : DOING_UNDOING;
            return answer;
        }
        leg.change = next;
        going.done++;
        if (going.done == going.legCount) {
            going.how = DOING_DONE;
        }
        return answer;
    }

    private int undoLastLeg(Doing undoing) {
        Leg leg = undoing.nth(undoing.done - undoing.undone - 1);
        if (leg == null || leg.change == null) {
            return NONE;
        }
        int answer = bring(taking(leg.stream, leg.change.number, undoing.by), NONE);
        if (answer < 0) {
            return answer;
        }
        undoing.undone++;
        if (undoing.undone == undoing.done) {
            undoing.how = DOING_UNDONE;
        }
        return answer;
    }

    /**
     * What stands ahead of the altered one, and what stands in other streams, has come as it is;
     * so only the days are looked at over all, and the rest in the altered one's stream (the trial row).
     */
    private int firstThatCouldNotCome(Happening altered) {
        Happening before = all.nth(altered.index - 1);
        for (int i = altered.index; i < all.size; i++) {
            Happening h = i == altered.index ? altered : all.nth(i);
            if (h == null || before != null && h.known < before.known) {
                return i;
            }
            if (h.stream == altered.stream && !couldComeInTrial(h)) {
                return i;
            }
            before = h;
        }
        return NONE;
    }

    private boolean couldComeInTrial(Happening h) {
        return h.isAsTold() && h.hasItsRef(trial) && judge.verdict(trial, h.number + 1) == RIGHT;
    }

    /** One happening; what it tells never changes once it has come. */
    private static final class Happening {
        final int stream;
        final int by;
        int index = NONE;
        int number = NONE;
        int kind;
        int form = 0;
        int amount = 0;
        int key = 0;
        int so;
        int known;
        int ref = NONE;

        // Both are the judge's marks, true of the row that it settled last.
        boolean isVoid = false;
        Happening mending = null;

        Happening(int stream, int kind, int so, int known, int by) {
            this.stream = stream;
            this.kind = kind;
            this.so = so;
            this.known = known;
            this.by = by;
        }

        void say(int newForm, int newAmount, int newKey) {
            form = newForm;
            amount = newAmount;
            key = newKey;
        }

        Happening copy() {
            Happening copy = new Happening(stream, kind, so, known, by);
            copy.say(form, amount, key);
            copy.index = index;
            copy.number = number;
            copy.ref = ref;
            return copy;
        }

        int field(int what) {
            switch (what) {
                case 0: return stream;
                case 1: return number;
                case 2: return kind;
                case 3: return form;
                case 4: return amount;
                case 5: return key;
                case 6: return so;
                case 7: return known;
                case 8: return ref;
                case 9: return by;
                default: return NONE;
            }
        }

        void alter(int field, int mask) {
            switch (field) {
                case 2: kind ^= mask; break;
                case 3: form ^= mask; break;
                case 4: amount ^= mask; break;
                case 5: key ^= mask; break;
                case 6: so ^= mask; break;
                case 7: known ^= mask; break;
                case 8: ref ^= mask; break;
                default: break;
            }
        }

        boolean isAsTold() {
            return isWithin(kind, MADE, TAKEN) && isWithin(form, WHOLE_COINS, HUNDREDTHS) && isAmount(amount)
                && isWithin(key, 0, KEYS - 1) && isDay(so) && isDay(known) && isAsItsKindAsks();
        }

        private boolean isAsItsKindAsks() {
            boolean saysNothing = form == 0 && amount == 0 && key == 0;
            switch (kind) {
                case ENDED: return saysNothing;
                case TAKEN: return saysNothing && so == known;
                default: return true;
            }
        }

        boolean hasItsRef(Row row) {
            if (kind <= ENDED) {
                return ref == NONE;
            }
            Happening meant = ref < number ? row.nth(ref) : null;
            return meant != null && (kind == TAKEN || meant.kind <= ENDED);
        }

        int inHundredths() {
            return form == WHOLE_COINS ? 100 * amount : amount;
        }

        boolean isValid() {
            return kind <= ENDED && !isVoid;
        }

        int amountAsMended() {
            if (kind == ENDED) {
                return 0;
            }
            return mending == null ? inHundredths() : mending.inHundredths();
        }

        int keyAsMended() {
            return mending == null ? key : mending.key;
        }

        int soAsMended() {
            return mending == null ? so : mending.so;
        }
    }

    /** Happenings in the order in which they came. */
    private static final class Row {
        int size = 0;
        private Happening[] told = new Happening[8];

        Happening nth(int i) {
            return i >= 0 && i < size ? told[i] : null;
        }

        void add(Happening h) {
            if (size >= told.length) {
                makeRoom();
            }
            told[size] = h;
            size++;
        }

        void dropLast() {
            if (size > 0) {
                size--;
                told[size] = null;
            }
        }

        void put(int i, Happening h) {
            if (i >= 0 && i < size) {
                told[i] = h;
            }
        }

        void become(Row other) {
            size = 0;
            for (int i = 0; i < other.size; i++) {
                add(other.nth(i));
            }
        }

        private void makeRoom() {
            Happening[] more = new Happening[2 * told.length];
            for (int i = 0; i < told.length; i++) {
                more[i] = told[i];
            }
            told = more;
        }

        // Days and numbers only rise along a row: so many are the first so many.
        int knownBy(int day) {
            int known = 0;
            for (int i = 0; i < size; i++) {
                Happening h = nth(i);
                if (h != null && h.known <= day) {
                    known++;
                }
            }
            return known;
        }

        int amongFirst(int happenings) {
            int among = 0;
            for (int i = 0; i < size; i++) {
                Happening h = nth(i);
                if (h != null && h.index < happenings) {
                    among++;
                }
            }
            return among;
        }
    }

    /** Finds what is VOID and what is mended among a stream's first happenings, and whether these are RIGHT. */
    private static final class Judge {
        private final Days days = new Days();
        private int valid;
        private int made;
        private int ended;
        private int madeSo;
        private int endedSo;
        private int firstSo;
        private int lastSo;
        private long sum;

        void settle(Row row, int first) {
            for (int i = 0; i < first; i++) {
                Happening h = row.nth(i);
                if (h != null) {
                    h.isVoid = false;
                    h.mending = null;
                }
            }
            // From the last one back: whether one is VOID hangs on later ones alone.
            for (int i = first - 1; i >= 0; i--) {
                Happening h = row.nth(i);
                if (h != null && h.kind > ENDED && !h.isVoid) {
                    markMeant(row.nth(h.ref), h);
                }
            }
        }

        private static void markMeant(Happening meant, Happening by) {
            if (meant == null) {
                return;
            }
            if (by.kind == TAKEN) {
                meant.isVoid = true;
            } else if (meant.mending == null) {
                meant.mending = by;
            }
        }

        int verdict(Row row, int first) {
            settle(row, first);
            tally(row, first);
            boolean isBelowOnce = days.isBelowOnceAsEmptied();
            if (made > 1 || valid > 0 && made == 0) {
                return WRONG_BY_A;
            }
            if (firstSo < madeSo || ended > 1 || ended == 1 && lastSo > endedSo) {
                return WRONG_BY_B;
            }
            return isBelowOnce || ended == 1 && sum != 0L ? WRONG_BY_C : RIGHT;
        }

        private void tally(Row row, int first) {
            valid = 0;
            made = 0;
            ended = 0;
            madeSo = 0;
            endedSo = LAST_DAY;
            firstSo = LAST_DAY;
            lastSo = 0;
            sum = 0L;
            for (int i = 0; i < first; i++) {
                Happening h = row.nth(i);
                if (h != null && h.isValid()) {
                    int amount = h.amountAsMended();
                    sum += amount;
                    days.put(h.soAsMended(), amount);
                    tallyKind(h.kind, h.soAsMended());
                }
            }
        }

        private void tallyKind(int kind, int so) {
            valid++;
            firstSo = Math.min(firstSo, so);
            lastSo = Math.max(lastSo, so);
            if (kind == MADE) {
                made++;
                madeSo = so;
            } else if (kind == ENDED) {
                ended++;
                endedSo = so;
            }
        }
    }

    /** Amounts by days. The days in use are marked, so that few happenings do not cost a thousand days. */
    private static final class Days {
        private static final int WORD = 64;

        private final long[] amounts = new long[LAST_DAY + 1];
        private final long[] marks = new long[LAST_DAY / WORD + 1];

        void put(int day, int amount) {
            if (isDay(day)) {
                amounts[day] += amount;
                marks[day / WORD] |= 1L << (day % WORD);
            }
        }

        /** Walks to the end even if it is below 0 early, as the next use wants the days empty. */
        boolean isBelowOnceAsEmptied() {
            boolean below = false;
            long sum = 0L;
            for (int w = 0; w < marks.length; w++) {
                long left = marks[w];
                marks[w] = 0L;
                for (int turn = 0; turn < WORD && left != 0L; turn++) {
                    long lowest = left & -left;
                    left ^= lowest;
                    sum += takeOut(w * WORD + Long.bitCount(lowest - 1L));
                    below = below || sum < 0L;
                }
            }
            return below;
        }

        private long takeOut(int day) {
            if (!isDay(day)) {
                return 0L;
            }
            long amount = amounts[day];
            amounts[day] = 0L;
            return amount;
        }
    }

    private static final class View {
        final int by;
        final int what;
        int hasRead = 0;

        View(int by, int what) {
            this.by = by;
            this.what = what;
        }

        int rows() {
            switch (by) {
                case VIEW_BY_STREAMS: return STREAMS;
                case VIEW_BY_KEYS: return KEYS;
                default: return LAST_DAY / MONTH + 1;
            }
        }

        boolean isOfRow(Happening h, int row) {
            return h.kind <= CHANGED && h.isValid() && rowAsked(h) == row;
        }

        private int rowAsked(Happening h) {
            switch (by) {
                case VIEW_BY_STREAMS: return h.stream;
                case VIEW_BY_KEYS: return h.keyAsMended();
                default: return h.soAsMended() / MONTH;
            }
        }
    }

    private static final class Leg {
        final int stream;
        final int amount;
        Happening change = null;

        Leg(int stream, int amount) {
            this.stream = stream;
            this.amount = amount;
        }
    }

    private static final class Doing {
        final int by;
        int how = DOING_TOLD;
        int legCount = 0;
        int done = 0;
        int undone = 0;
        private final Leg[] legs = new Leg[MOST_LEGS];

        Doing(int by) {
            this.by = by;
        }

        void add(Leg leg) {
            if (legCount < MOST_LEGS) {
                legs[legCount] = leg;
                legCount++;
            }
        }

        Leg nth(int i) {
            return i >= 0 && i < legCount ? legs[i] : null;
        }
    }

    /** Which of a sender's latest numbers have counted: bit b stands for the greatest less b. */
    private static final class Sender {
        int greatest = NONE;
        private int counted = 0;

        boolean isOld(int number) {
            return number <= greatest - REMEMBERED;
        }

        boolean hasCounted(int number) {
            return number <= greatest && !isOld(number) && (counted >>> (greatest - number) & 1) != 0;
        }

        void remember(int number) {
            if (number <= greatest) {
                counted |= 1 << (greatest - number);
                return;
            }
            // An int's shift by 32 and more would wrap around.
            boolean someStay = greatest != NONE && number - greatest < REMEMBERED;
            counted = someStay ? counted << (number - greatest) | 1 : 1;
            greatest = number;
        }
    }
}
