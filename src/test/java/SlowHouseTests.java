import java.util.ArrayList;
import java.util.HashSet;
import java.util.List;
import java.util.Random;
import java.util.Set;

/** Random runs of calls, each answer held against a slow house that is written straight from the document's words. */
public final class SlowHouseTests {
    private static final int NONE = -1;
    private static final int MADE = 0;
    private static final int CHANGED = 1;
    private static final int ENDED = 2;
    private static final int MENDED = 3;
    private static final int TAKEN = 4;
    private static final int CALLS = 512;

    /** Numbers at the edges that the document names, and at an int's own. */
    private static final int[] ODD = {
        -1, -2, 0, 1, 2, 3, 4, 5, 9, 10, 11, 12, 13, 14, 19, 20, 29, 30, 31, 32, 33, 34, 399, 400, 401, 999, 1000,
        1000000, 1000001, -1000000, -1000001, Integer.MAX_VALUE, Integer.MAX_VALUE - 31, Integer.MAX_VALUE - 32,
        Integer.MIN_VALUE, Integer.MIN_VALUE + 1,
    };

    private static int wrong = 0;

    public static void main(String[] args) {
        int runs = args.length > 0 ? Integer.parseInt(args[0]) : 600;
        long answers = 0;
        long happenings = 0;
        for (int seed = 0; seed < runs && wrong == 0; seed++) {
            Run run = new Run(seed);
            answers += run.go();
            happenings += run.fast.count(0);
        }
        System.out.println(wrong == 0 ? "all of " + answers + " answers are as the slow house's, over " + happenings
            + " happenings" : "the houses differ");
        if (wrong != 0) {
            System.exit(1);
        }
    }

    private record Told(int stream, int number, int kind, int form, int amount, int key, int so, int known, int ref, int by) {
        int[] fields() {
            return new int[] {stream, number, kind, form, amount, key, so, known, ref, by};
        }

        static Told of(int[] f) {
            return new Told(f[0], f[1], f[2], f[3], f[4], f[5], f[6], f[7], f[8], f[9]);
        }

        long readAmount() {
            return form == 0 ? 100L * amount : amount;
        }
    }

    /** One that is VALID, with what it says as mended. */
    private record Valid(Told told, long amount, int key, int so) { }

    private static boolean isVoid(List<Told> first, int number) {
        for (Told later : first) {
            boolean takes = later.number > number && later.kind == TAKEN && later.ref == number;
            if (takes && !isVoid(first, later.number)) {
                return true;
            }
        }
        return false;
    }

    private static List<Valid> valid(List<Told> first) {
        List<Valid> valid = new ArrayList<>();
        for (Told t : first) {
            if (t.kind > ENDED || isVoid(first, t.number)) {
                continue;
            }
            Told says = t;
            for (Told m : first) {
                if (m.kind == MENDED && m.ref == t.number && !isVoid(first, m.number)) {
                    says = m;
                }
            }
            valid.add(new Valid(t, t.kind == ENDED ? 0 : says.readAmount(), says.key, says.so));
        }
        return valid;
    }

    private static List<Valid> ofKind(List<Valid> valid, int kind) {
        List<Valid> some = new ArrayList<>();
        for (Valid v : valid) {
            if (v.told.kind == kind) {
                some.add(v);
            }
        }
        return some;
    }

    private static long sumBy(List<Valid> valid, int day, int key) {
        long sum = 0;
        for (Valid v : valid) {
            sum += v.so <= day && (key == 10 || v.key == key) ? v.amount : 0;
        }
        return sum;
    }

    private static int whyNotRight(List<Told> stream) {
        List<Valid> valid = valid(stream);
        List<Valid> made = ofKind(valid, MADE);
        List<Valid> ended = ofKind(valid, ENDED);
        if (made.size() > 1 || !valid.isEmpty() && made.isEmpty()) {
            return -6;
        }
        if (ended.size() > 1) {
            return -7;
        }
        for (Valid v : valid) {
            if (v.so < made.get(0).so || !ended.isEmpty() && v.so > ended.get(0).so) {
                return -7;
            }
        }
        for (Valid v : valid) {
            if (sumBy(valid, v.so, 10) < 0) {
                return -8;
            }
        }
        return !ended.isEmpty() && sumBy(valid, 999, 10) != 0 ? -8 : 0;
    }

    private static boolean in(int x, int least, int most) {
        return x >= least && x <= most;
    }

    private static final class SlowHouse {
        final List<Told> all = new ArrayList<>();
        final List<int[]> views = new ArrayList<>();
        final List<SlowDoing> doings = new ArrayList<>();
        final List<Set<Integer>> letters = new ArrayList<>();
        int today = 0;

        SlowHouse() {
            for (int s = 0; s < 4; s++) {
                letters.add(new HashSet<>());
            }
        }

        List<Told> stream(int stream, int first, int known) {
            List<Told> some = new ArrayList<>();
            for (Told t : all.subList(0, first)) {
                if (t.stream == stream && t.known <= known) {
                    some.add(t);
                }
            }
            return some;
        }

        List<Told> stream(int stream) {
            return stream(stream, all.size(), 999);
        }

        int bring(Told t, int seen) {
            if (!in(t.stream, 0, 19) || !in(t.form, 0, 1) || !in(t.amount, -1000000, 1000000) || !in(t.key, 0, 9)
                || !in(t.so, 0, 999)) {
                return -2;
            }
            List<Told> stream = stream(t.stream);
            if (seen != NONE && seen != stream.size()) {
                return -3;
            }
            if (all.size() == 400) {
                return -4;
            }
            if (t.kind >= MENDED && (!in(t.ref, 0, stream.size() - 1)
                || t.kind == MENDED && stream.get(t.ref).kind > ENDED)) {
                return -5;
            }
            int[] fields = t.fields();
            fields[1] = stream.size();
            stream.add(Told.of(fields));
            int why = whyNotRight(stream);
            if (why != 0) {
                return why;
            }
            all.add(Told.of(fields));
            return all.size() - 1;
        }

        int tell(int stream, int kind, int form, int amount, int key, int so, int seen) {
            if (!in(kind, 0, 2)) {
                return -2;
            }
            return kind == ENDED ? bring(new Told(stream, 0, kind, 0, 0, 0, so, today, NONE, 0), seen)
                : bring(new Told(stream, 0, kind, form, amount, key, so, today, NONE, 0), seen);
        }

        int mend(int stream, int ref, int form, int amount, int key, int so, int seen) {
            return bring(new Told(stream, 0, MENDED, form, amount, key, so, today, ref, 0), seen);
        }

        int take(int stream, int ref, int seen, int by) {
            return bring(new Told(stream, 0, TAKEN, 0, 0, 0, today, today, ref, by), seen);
        }

        int happening(int h, int what) {
            if (!in(h, 0, all.size() - 1) || !in(what, 0, 11)) {
                return NONE;
            }
            Told t = all.get(h);
            if (what == 10) {
                return isVoid(stream(t.stream), t.number) ? 1 : 0;
            }
            return what == 11 ? (int) t.readAmount() : t.fields()[what];
        }

        int number(int stream, int n) {
            for (int h = 0; h < all.size(); h++) {
                if (all.get(h).stream == stream && all.get(h).number == n) {
                    return h;
                }
            }
            return NONE;
        }

        int count(int what) {
            return in(what, 0, 3) ? new int[] {all.size(), views.size(), doings.size(), today}[what] : NONE;
        }

        long sum(int stream, int t, int k, int key) {
            if (!in(stream, 0, 19) || !in(t, 0, 999) || !in(k, 0, 999) || !in(key, 0, 10)) {
                return 0;
            }
            return sumBy(valid(stream(stream, all.size(), k)), t, key);
        }

        int state(int stream, int t, int k) {
            if (!in(stream, 0, 19) || !in(t, 0, 999) || !in(k, 0, 999)) {
                return NONE;
            }
            List<Valid> valid = valid(stream(stream, all.size(), k));
            for (Valid v : ofKind(valid, ENDED)) {
                if (v.so <= t) {
                    return 2;
                }
            }
            for (Valid v : ofKind(valid, MADE)) {
                if (v.so <= t) {
                    return 1;
                }
            }
            return 0;
        }

        int view(int by, int what) {
            if (!in(by, 0, 2) || !in(what, 0, 1) || views.size() == 4) {
                return NONE;
            }
            views.add(new int[] {by, what, 0});
            return views.size() - 1;
        }

        int read(int view, int n) {
            if (!in(view, 0, views.size() - 1) || !in(n, 0, 400)) {
                return NONE;
            }
            int more = 0;
            while (more < n && views.get(view)[2] < all.size()) {
                views.get(view)[2]++;
                more++;
            }
            return more;
        }

        int up(int view, int what) {
            if (!in(view, 0, views.size() - 1) || !in(what, 0, 2)) {
                return NONE;
            }
            int[] v = views.get(view);
            return what == 0 ? v[2] : what == 1 ? new int[] {20, 10, 34}[v[0]] : all.size() - v[2];
        }

        List<Valid> makers(int view, int row) {
            List<Valid> makers = new ArrayList<>();
            int[] v = views.get(view);
            for (int h = 0; h < v[2]; h++) {
                Told t = all.get(h);
                for (Valid one : valid(stream(t.stream, v[2], 999))) {
                    int of = v[0] == 0 ? t.stream : v[0] == 1 ? one.key : one.so / 30;
                    if (one.told.number == t.number && t.kind != ENDED && of == row) {
                        makers.add(one);
                    }
                }
            }
            return makers;
        }

        long at(int view, int row) {
            long sum = 0;
            if (in(view, 0, views.size() - 1)) {
                for (Valid v : makers(view, row)) {
                    sum += views.get(view)[1] == 0 ? v.amount : 1;
                }
            }
            return sum;
        }

        int lead(int view, int row, int k) {
            if (!in(view, 0, views.size() - 1)) {
                return NONE;
            }
            List<Valid> makers = makers(view, row);
            return in(k, 0, makers.size() - 1) ? all.indexOf(makers.get(k).told) : NONE;
        }

        int doing() {
            if (doings.size() == 10) {
                return NONE;
            }
            doings.add(new SlowDoing());
            return doings.size() - 1;
        }

        int leg(int doing, int stream, int amount) {
            if (!in(doing, 0, doings.size() - 1) || !in(stream, 0, 19) || !in(amount, -1000000, 1000000)) {
                return NONE;
            }
            SlowDoing d = doings.get(doing);
            if (d.how != 0 || d.legs.size() == 4) {
                return NONE;
            }
            d.legs.add(new int[] {stream, amount});
            return d.legs.size();
        }

        boolean go(int doing) {
            if (!in(doing, 0, doings.size() - 1)) {
                return false;
            }
            SlowDoing d = doings.get(doing);
            if (d.how != 0 || d.legs.isEmpty()) {
                return false;
            }
            d.how = 1;
            return true;
        }

        int step(int doing) {
            if (!in(doing, 0, doings.size() - 1)) {
                return -2;
            }
            SlowDoing d = doings.get(doing);
            if (d.how == 1) {
                int[] leg = d.legs.get(d.done.size());
                int h = bring(new Told(leg[0], 0, CHANGED, 1, leg[1], 9, today, today, NONE, 1 + doing), NONE);
                if (h < 0) {
                    d.how = d.done.isEmpty() ? 4 : 2;
                } else {
                    d.done.add(h);
                    d.how = d.done.size() == d.legs.size() ? 3 : 1;
                }
                return h;
            }
            if (d.how == 2) {
                Told last = all.get(d.done.get(d.done.size() - 1 - d.undone));
                int h = take(last.stream, last.number, NONE, 1 + doing);
                if (h >= 0) {
                    d.undone++;
                    d.how = d.undone == d.done.size() ? 4 : 2;
                }
                return h;
            }
            return -1;
        }

        int ends(int doing, int what) {
            if (!in(doing, 0, doings.size() - 1)) {
                return NONE;
            }
            SlowDoing d = doings.get(doing);
            if (in(what, 0, 3)) {
                return new int[] {d.how, d.legs.size(), d.done.size(), d.undone}[what];
            }
            return in(what, 10, 9 + d.done.size()) ? d.done.get(what - 10) : NONE;
        }

        int letter(int sender, int number, int stream, int amount, int key, int so) {
            if (!in(sender, 0, 3) || number < 0) {
                return -2;
            }
            Set<Integer> counted = letters.get(sender);
            if (!counted.isEmpty() && (long) number <= (long) latest(sender) - 32) {
                return -10;
            }
            if (counted.contains(number)) {
                return -9;
            }
            int h = bring(new Told(stream, 0, CHANGED, 1, amount, key, so, today, NONE, 100 + sender), NONE);
            if (h >= 0) {
                counted.add(number);
            }
            return h;
        }

        int latest(int sender) {
            int latest = NONE;
            if (in(sender, 0, 3)) {
                for (int n : letters.get(sender)) {
                    latest = Math.max(latest, n);
                }
            }
            return latest;
        }

        int check(int h, int field, int mask) {
            if (!in(h, 0, all.size() - 1) || field != NONE && !in(field, 2, 8)) {
                return -2;
            }
            SlowHouse anew = new SlowHouse();
            for (int i = 0; i < all.size(); i++) {
                int[] fields = all.get(i).fields();
                if (i == h && field != NONE) {
                    fields[field] ^= mask;
                }
                if (!anew.couldCome(Told.of(fields))) {
                    return i;
                }
                anew.all.add(Told.of(fields));
            }
            return NONE;
        }

        boolean couldCome(Told t) {
            List<Told> stream = stream(t.stream);
            boolean told = in(t.kind, 0, 4) && in(t.form, 0, 1) && in(t.amount, -1000000, 1000000) && in(t.key, 0, 9)
                && in(t.so, 0, 999) && in(t.known, 0, 999);
            boolean empty = t.form == 0 && t.amount == 0 && t.key == 0;
            if (!told || !all.isEmpty() && t.known < all.get(all.size() - 1).known) {
                return false;
            }
            if ((t.kind == ENDED || t.kind == TAKEN) && !empty || t.kind == TAKEN && t.so != t.known) {
                return false;
            }
            if (t.kind <= ENDED ? t.ref != NONE : !in(t.ref, 0, stream.size() - 1)) {
                return false;
            }
            if (t.kind == MENDED && stream.get(t.ref).kind > ENDED) {
                return false;
            }
            stream.add(t);
            return whyNotRight(stream) == 0;
        }
    }

    private static final class SlowDoing {
        final List<int[]> legs = new ArrayList<>();
        final List<Integer> done = new ArrayList<>();
        int how = 0;
        int undone = 0;
    }

    /** One run: a new house of each sort, the same calls to both. */
    private static final class Run {
        final ToldHouse fast = new ToldHouse();
        final SlowHouse slow = new SlowHouse();
        final List<String> calls = new ArrayList<>();
        final Random random;
        final int streams;
        final int lastSo;
        final int amounts;
        final int asks;
        final int usualPerOdd;

        Run(int seed) {
            random = new Random(seed);
            streams = 1 + random.nextInt(random.nextInt(4) == 0 ? 20 : 3);
            lastSo = new int[] {3, 12, 70, 999}[random.nextInt(4)];
            amounts = new int[] {2, 10, 900, 1000000}[random.nextInt(4)];
            asks = new int[] {20, 45, 70}[random.nextInt(3)];
            usualPerOdd = new int[] {200, 60, 60, 12, 4}[random.nextInt(5)];
        }

        int go() {
            for (int call = 0; call < CALLS && wrong == 0; call++) {
                if (random.nextInt(100) < asks) {
                    ask();
                } else {
                    command();
                }
            }
            return calls.size();
        }

        void same(long got, long want, String name, int... with) {
            StringBuilder call = new StringBuilder(name).append('(');
            for (int i = 0; i < with.length; i++) {
                call.append(i == 0 ? "" : ", ").append(with[i]);
            }
            calls.add(call.append(") ").append(got).toString());
            if (got != want) {
                wrong++;
                for (String c : calls) {
                    System.out.println(c);
                }
                System.out.println("the last one's due answer is " + want);
            }
        }

        int odd(int usual) {
            return random.nextInt(usualPerOdd) == 0 ? ODD[random.nextInt(ODD.length)] : usual;
        }

        int below(int bound) {
            return odd(random.nextInt(Math.max(1, bound)));
        }

        int stream() {
            return below(streams);
        }

        int so() {
            return below(lastSo + 1);
        }

        int amount() {
            return odd(random.nextInt(3) == 0 ? 0 : random.nextInt(2 * amounts + 1) - amounts * 2 / 3);
        }

        int seenOf(int stream) {
            return odd(random.nextBoolean() ? NONE : fast.seen(stream));
        }

        int small(int amount) {
            return Math.abs((long) amount) > 1000000 ? amount : Math.min(amount, 1000000);
        }

        void command() {
            int s = stream();
            int seen = seenOf(s);
            int ref = below(Math.max(0, fast.seen(s)) + (random.nextInt(20) == 0 ? 1 : 0));
            int form = below(2);
            int amount = small(amount());
            int key = below(10);
            int so = so();
            int kind = odd(fast.state(s, 999, 999) == 0 ? 0 : new int[] {1, 1, 1, 1, 1, 1, 2, 0}[random.nextInt(8)]);
            switch (random.nextInt(12)) {
                case 0: case 1: case 2: case 3:
                    same(fast.tell(s, kind, form, amount, key, so, seen), slow.tell(s, kind, form, amount, key, so, seen),
                        "tell", s, kind, form, amount, key, so, seen);
                    break;
                case 4: case 5:
                    same(fast.mend(s, ref, form, amount, key, so, seen), slow.mend(s, ref, form, amount, key, so, seen),
                        "mend", s, ref, form, amount, key, so, seen);
                    break;
                case 6: case 7:
                    same(fast.take(s, ref, seen), slow.take(s, ref, seen, 0), "take", s, ref, seen);
                    break;
                case 8: letter(s, amount, key, so); break;
                case 9: oneStep(); break;
                case 10: newDoing(s, amount); break;
                default: today(); break;
            }
        }

        void today() {
            int d = odd(fast.count(3) + random.nextInt(2) * random.nextInt(1 + lastSo / 6));
            boolean later = d > slow.today && d <= 999;
            slow.today = later ? d : slow.today;
            same(fast.day(d) ? 1 : 0, later ? 1 : 0, "day", d);
        }

        void letter(int s, int amount, int key, int so) {
            int sender = below(4);
            int number = odd(Math.max(0, fast.latest(sender)) + random.nextInt(80) - 40);
            same(fast.in(sender, number, s, amount, key, so), slow.letter(sender, number, s, amount, key, so),
                "in", sender, number, s, amount, key, so);
            same(fast.latest(sender), slow.latest(sender), "latest", sender);
        }

        void newDoing(int s, int amount) {
            int d = odd(Math.max(0, fast.count(2) - 1));
            switch (random.nextInt(4)) {
                case 0: same(fast.doing(), slow.doing(), "doing"); break;
                case 1: same(fast.go(d) ? 1 : 0, slow.go(d) ? 1 : 0, "go", d); break;
                default: same(fast.leg(d, s, amount), slow.leg(d, s, amount), "leg", d, s, amount); break;
            }
        }

        void oneStep() {
            int d = below(fast.count(2));
            same(fast.step(d), slow.step(d), "step", d);
            int what = random.nextBoolean() ? below(4) : 10 + random.nextInt(5);
            same(fast.ends(d, what), slow.ends(d, what), "ends", d, what);
        }

        void ask() {
            int s = stream();
            int t = so();
            int k = random.nextBoolean() ? 999 : below(fast.count(3) + 1);
            int h = below(slow.all.size());
            int v = below(fast.count(1));
            int row = below(new int[] {streams, 10, 1 + lastSo / 30}[random.nextInt(3)]);
            int what = below(12);
            switch (random.nextInt(12)) {
                case 0: same(fast.happening(h, what), slow.happening(h, what), "happening", h, what); break;
                case 1: same(fast.happening(h, 10), slow.happening(h, 10), "happening", h, 10); break;
                case 2: same(fast.number(s, what), slow.number(s, what), "number", s, what); break;
                case 3: same(fast.count(what), slow.count(what), "count", what); break;
                case 4: same(fast.seen(s), in(s, 0, 19) ? slow.stream(s).size() : NONE, "seen", s); break;
                case 5: case 6: same(fast.sum(s, t, k, what), slow.sum(s, t, k, what), "sum", s, t, k, what); break;
                case 7: same(fast.state(s, t, k), slow.state(s, t, k), "state", s, t, k); break;
                case 8: askView(v); break;
                case 9: same(fast.at(v, row), slow.at(v, row), "at", v, row); break;
                case 10: same(fast.lead(v, row, what), slow.lead(v, row, what), "lead", v, row, what); break;
                default: askCheck(h); break;
            }
        }

        void askView(int v) {
            int what = below(3);
            int of = below(2);
            int n = random.nextInt(4) == 0 ? below(401) : random.nextInt(9);
            switch (random.nextInt(4)) {
                case 0: same(fast.view(what, of), slow.view(what, of), "view", what, of); break;
                case 1: same(fast.up(v, what), slow.up(v, what), "up", v, what); break;
                default: same(fast.read(v, n), slow.read(v, n), "read", v, n); break;
            }
        }

        void askCheck(int h) {
            // The slow house tells all anew; a long row would take it too long each time.
            if (slow.all.size() > 120 && random.nextInt(8) != 0) {
                return;
            }
            int field = odd(random.nextInt(12) == 0 ? NONE : 2 + random.nextInt(7));
            int mask = random.nextInt(6) == 0 ? random.nextInt() : odd(1 << random.nextInt(random.nextBoolean() ? 4 : 11));
            mask = field == 2 && random.nextBoolean() ? 7 : mask;
            same(fast.check(h, field, mask), slow.check(h, field, mask), "check", h, field, mask);
        }
    }
}
