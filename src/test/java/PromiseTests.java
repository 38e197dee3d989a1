/** One method a promise of DOC.md: ordinary calls, the edges that it names, and wrong ones. */
public final class PromiseTests {
    private static final int NONE = ToldHouse.NONE;
    private static final int MADE = 0;
    private static final int CHANGED = 1;
    private static final int ENDED = 2;
    private static final int MENDED = 3;
    private static final int TAKEN = 4;
    private static final int MIN = Integer.MIN_VALUE;
    private static final int MAX = Integer.MAX_VALUE;

    private static int promise = 0;
    private static int wrong = 0;

    public static void main(String[] args) {
        promise = 1; aNewObject();
        promise = 2; day();
        promise = 3; tell(); tellRefusedInOrder(); tellRight();
        promise = 4; mend(); mendOfTheEnded();
        promise = 5; take(); takeOfTakes();
        promise = 6; happening();
        promise = 7; number();
        promise = 8; count();
        promise = 9; seen();
        promise = 10; sum();
        promise = 11; state();
        promise = 12; view();
        promise = 13; read();
        promise = 14; up();
        promise = 15; at(); atAsByTheRead();
        promise = 16; lead();
        promise = 17; doing();
        promise = 18; leg();
        promise = 19; go();
        promise = 20; step(); stepUndoing(); stepWhenFull();
        promise = 21; ends();
        promise = 22; in(); inOldAndCounted();
        promise = 23; latest();
        promise = 24; check(); checkFieldByField(); checkLaterOnes();
        System.out.println(wrong == 0 ? "all promises hold" : wrong + " answers are not as due");
        if (wrong != 0) {
            System.exit(1);
        }
    }

    private static void due(String call, long got, long want) {
        if (got != want) {
            wrong++;
            System.out.println("promise " + promise + ": " + call + " answered " + got + ", due is " + want);
        }
    }

    private static void due(String call, boolean got, boolean want) {
        due(call, got ? 1 : 0, want ? 1 : 0);
    }

    /** A house whose stream 0 was MADE with 10 whole coins, key 3, SO 10. */
    private static ToldHouse made() {
        ToldHouse x = new ToldHouse();
        due("made", x.tell(0, MADE, 0, 10, 3, 10, 0), 0);
        return x;
    }

    private static ToldHouse full() {
        ToldHouse x = new ToldHouse();
        due("made", x.tell(0, MADE, 0, 10, 3, 10, 0), 0);
        for (int i = 1; i < 400; i++) {
            due("filling " + i, x.tell(0, CHANGED, 1, 1, i % 10, 10 + i, i), i);
        }
        return x;
    }

    private static void aNewObject() {
        due("NONE", ToldHouse.NONE, -1);
        ToldHouse x = new ToldHouse();
        for (int what = 0; what < 4; what++) {
            due("count " + what, x.count(what), 0);
        }
        for (int s = 0; s < 20; s++) {
            due("seen " + s, x.seen(s), 0);
            due("state " + s, x.state(s, 999, 999), 0);
            due("sum " + s, x.sum(s, 999, 999, 10), 0);
        }
        for (int s = 0; s < 4; s++) {
            due("latest " + s, x.latest(s), NONE);
        }
        ToldHouse other = made();
        due("another object's", x.count(0), 0);
        due("its own", other.count(0), 1);
    }

    private static void day() {
        ToldHouse x = new ToldHouse();
        due("day(0)", x.day(0), false);
        due("day(-1)", x.day(-1), false);
        due("day(MIN)", x.day(MIN), false);
        due("day(1000)", x.day(1000), false);
        due("day(MAX)", x.day(MAX), false);
        due("today still", x.count(3), 0);
        due("day(1)", x.day(1), true);
        due("day(1) again", x.day(1), false);
        due("day(998)", x.day(998), true);
        due("day(997)", x.day(997), false);
        due("today", x.count(3), 998);
        due("day(999)", x.day(999), true);
        due("today at last", x.count(3), 999);
    }

    private static void tell() {
        ToldHouse x = new ToldHouse();
        due("day", x.day(7), true);
        due("greatest amount", x.tell(0, MADE, 0, 1000000, 9, 0, 0), 0);
        due("least amount", x.tell(0, CHANGED, 0, -1000000, 0, 999, 1), 1);
        due("another stream", x.tell(19, MADE, 1, 0, 0, 999, NONE), 2);
        int[] want = {0, 1, CHANGED, 0, -1000000, 0, 999, 7, NONE, 0};
        for (int what = 0; what < want.length; what++) {
            due("field " + what, x.happening(1, what), want[what]);
        }
        due("ENDED, what it says counts for nothing", x.tell(0, ENDED, 77, MIN, -5, 999, 2), 3);
        int[] ended = {0, 2, ENDED, 0, 0, 0, 999, 7, NONE, 0};
        for (int what = 0; what < ended.length; what++) {
            due("ENDED field " + what, x.happening(3, what), ended[what]);
        }
    }

    private static void tellRefusedInOrder() {
        ToldHouse x = made();
        int[][] notAsTold = {
            {-1, 1, 0, 0, 0, 10}, {20, 1, 0, 0, 0, 10}, {MIN, 1, 0, 0, 0, 10}, {MAX, 1, 0, 0, 0, 10},
            {0, -1, 0, 0, 0, 10}, {0, 3, 0, 0, 0, 10}, {0, 4, 0, 0, 0, 10}, {0, MAX, 0, 0, 0, 10},
            {0, 1, -1, 0, 0, 10}, {0, 1, 2, 0, 0, 10},
            {0, 1, 0, 1000001, 0, 10}, {0, 1, 0, -1000001, 0, 10}, {0, 1, 0, MIN, 0, 10},
            {0, 1, 0, 0, -1, 10}, {0, 1, 0, 0, 10, 10},
            {0, 1, 0, 0, 0, -1}, {0, 1, 0, 0, 0, 1000}, {0, 2, 0, 0, 0, 1000}, {20, 2, 0, 0, 0, 10},
        };
        for (int[] t : notAsTold) {
            due("not as told", x.tell(t[0], t[1], t[2], t[3], t[4], t[5], 5), -2);
        }
        due("-3 ahead of -6", x.tell(0, MADE, 0, 0, 0, 10, 0), -3);
        due("seen too many", x.tell(0, CHANGED, 0, 0, 0, 10, 2), -3);
        due("seen below NONE", x.tell(0, CHANGED, 0, 0, 0, 10, -2), -3);
        due("-6 ahead of -7", x.tell(0, MADE, 0, 0, 0, 9, 1), -6);
        due("-7 ahead of -8", x.tell(0, CHANGED, 0, -11, 0, 9, 1), -7);
        due("-8", x.tell(0, CHANGED, 0, -11, 0, 10, 1), -8);
        due("nothing has come", x.count(0), 1);
        ToldHouse y = full();
        due("-2 ahead of -4", y.tell(20, MADE, 0, 0, 0, 10, NONE), -2);
        due("-3 ahead of -4", y.tell(0, CHANGED, 0, 0, 0, 10, 399), -3);
        due("-4", y.tell(0, CHANGED, 0, 0, 0, 10, 400), -4);
        due("-4 ahead of -6", y.tell(1, CHANGED, 0, 0, 0, 10, 0), -4);
        due("still 400", y.count(0), 400);
    }

    private static void tellRight() {
        ToldHouse x = new ToldHouse();
        due("(a) CHANGED without MADE", x.tell(0, CHANGED, 0, 0, 0, 0, 0), -6);
        due("(a) ENDED without MADE", x.tell(0, ENDED, 0, 0, 0, 0, 0), -6);
        due("(c) MADE below 0", x.tell(0, MADE, 1, -1, 0, 10, 0), -8);
        due("MADE", x.tell(0, MADE, 1, 100, 0, 10, 0), 0);
        due("(a) MADE twice", x.tell(0, MADE, 1, 100, 0, 10, 1), -6);
        due("(b) ahead of MADE", x.tell(0, CHANGED, 1, 1, 0, 9, 1), -7);
        due("(b) ENDED ahead of MADE", x.tell(0, ENDED, 0, 0, 0, 9, 1), -7);
        due("(c) ENDED with something left", x.tell(0, ENDED, 0, 0, 0, 20, 1), -8);
        due("on the day of MADE", x.tell(0, CHANGED, 1, -100, 0, 10, 1), 1);
        due("later, more", x.tell(0, CHANGED, 0, 2, 0, 30, 2), 2);
        due("(c) between the two", x.tell(0, CHANGED, 1, -1, 0, 29, 3), -8);
        due("on the same day", x.tell(0, CHANGED, 1, -200, 0, 30, 3), 3);
        due("(b) ENDED ahead of the last", x.tell(0, ENDED, 0, 0, 0, 29, 4), -7);
        due("ENDED", x.tell(0, ENDED, 0, 0, 0, 30, 4), 4);
        due("(b) ENDED twice", x.tell(0, ENDED, 0, 0, 0, 30, 5), -7);
        due("(b) behind ENDED", x.tell(0, CHANGED, 0, 0, 0, 31, 5), -7);
        due("(c) sum of all", x.tell(0, CHANGED, 1, 1, 0, 30, 5), -8);
        due("0 is fine", x.tell(0, CHANGED, 1, 0, 0, 30, 5), 5);
        ToldHouse y = new ToldHouse();
        due("sums beyond an int", y.tell(0, MADE, 0, 1000000, 0, 0, 0), 0);
        for (int i = 1; i < 30; i++) {
            due("sums beyond an int", y.tell(0, CHANGED, 0, 1000000, 0, 0, i), i);
        }
        due("sum beyond an int", y.sum(0, 0, 0, 10), 3000000000L);
    }

    private static void mend() {
        ToldHouse x = made();
        due("changed", x.tell(0, CHANGED, 1, -500, 4, 20, 1), 1);
        int[][] notAsTold = {
            {-1, 0, 0, 0, 0, 10}, {20, 0, 0, 0, 0, 10}, {0, 0, -1, 0, 0, 10}, {0, 0, 2, 0, 0, 10},
            {0, 0, 0, 1000001, 0, 10}, {0, 0, 0, -1000001, 0, 10}, {0, 0, 0, 0, -1, 10}, {0, 0, 0, 0, 10, 10},
            {0, 0, 0, 0, 0, -1}, {0, 0, 0, 0, 0, 1000}, {0, 9, 2, 0, 0, 10},
        };
        for (int[] t : notAsTold) {
            due("not as told", x.mend(t[0], t[1], t[2], t[3], t[4], t[5], 9), -2);
        }
        due("-3 ahead of -5", x.mend(0, 9, 0, 0, 0, 10, 9), -3);
        due("REF below 0", x.mend(0, -1, 0, 0, 0, 10, 2), -5);
        due("REF far below 0", x.mend(0, MIN, 0, 0, 0, 10, 2), -5);
        due("REF itself", x.mend(0, 2, 0, 0, 0, 10, 2), -5);
        due("REF far above", x.mend(0, MAX, 0, 0, 0, 10, 2), -5);
        due("REF of another stream", x.mend(1, 0, 0, 0, 0, 10, 0), -5);
        due("(b) MADE behind the other", x.mend(0, 0, 0, 10, 3, 21, 2), -7);
        due("(b) ahead of MADE", x.mend(0, 1, 0, 0, 3, 9, 2), -7);
        due("(c)", x.mend(0, 1, 1, -1001, 3, 10, 2), -8);
        due("(c) by MADE", x.mend(0, 0, 1, 499, 3, 10, 2), -8);
        due("mended", x.mend(0, 1, 1, -1000, 6, 15, 2), 2);
        int[] want = {0, 2, MENDED, 1, -1000, 6, 15, 0, 1, 0};
        for (int what = 0; what < want.length; what++) {
            due("field " + what, x.happening(2, what), want[what]);
        }
        due("sum", x.sum(0, 15, 0, 10), 0);
        due("REF is MENDED", x.mend(0, 2, 0, 0, 0, 10, 3), -5);
        due("taken", x.take(0, 2, 3), 3);
        due("REF is TAKEN", x.mend(0, 3, 0, 0, 0, 10, 4), -5);
        due("sum, the mending being taken", x.sum(0, 15, 0, 10), 1000);
        due("the latest of two", x.mend(0, 1, 1, -1, 6, 15, 4), 4);
        due("the latest of two", x.mend(0, 1, 1, -2, 7, 16, 5), 5);
        due("sum", x.sum(0, 16, 0, 7), -2);
        due("its earlier key", x.sum(0, 16, 0, 6), 0);
        due("the latest is taken", x.take(0, 5, 6), 6);
        due("the one before counts", x.sum(0, 16, 0, 6), -1);
        due("-4", full().mend(0, 9999, 0, 0, 0, 10, NONE), -4);
        due("-2 ahead of -4", full().mend(0, 0, 0, 0, 0, 1000, NONE), -2);
    }

    private static void mendOfTheEnded() {
        ToldHouse x = new ToldHouse();
        due("made", x.tell(0, MADE, 0, 0, 0, 10, 0), 0);
        due("ended", x.tell(0, ENDED, 0, 0, 0, 20, 1), 1);
        due("its day", x.mend(0, 1, 1, 700, 5, 30, 2), 2);
        due("what is told stays", x.happening(2, 4), 700);
        due("of ENDED the amount is 0", x.sum(0, 999, 0, 10), 0);
        due("by key too", x.sum(0, 999, 0, 5), 0);
        due("the day is the mended one", x.state(0, 29, 0), 1);
        due("the day is the mended one", x.state(0, 30, 0), 2);
        due("room until there", x.tell(0, CHANGED, 0, 0, 0, 30, 3), 3);
        due("not ahead of it", x.mend(0, 1, 0, 0, 0, 29, 4), -7);
        due("what it says is asked", x.mend(0, 1, 0, 0, 10, 30, 4), -2);
        due("mending what is VOID", x.take(0, 3, 4), 4);
        due("mending what is VOID", x.mend(0, 3, 0, -5, 0, 0, 5), 5);
        due("it counts when it is VALID again", x.take(0, 4, 6), -7);
    }

    private static void take() {
        ToldHouse x = made();
        due("day", x.day(50), true);
        due("stream", x.take(-1, 0, NONE), -2);
        due("stream", x.take(20, 0, 5), -2);
        due("seen", x.take(0, 5, 0), -3);
        due("REF", x.take(0, 1, 1), -5);
        due("REF", x.take(0, -1, 1), -5);
        due("REF", x.take(0, MIN, NONE), -5);
        due("REF", x.take(0, MAX, NONE), -5);
        due("REF of another stream", x.take(1, 0, NONE), -5);
        due("changed", x.tell(0, CHANGED, 1, -500, 4, 20, 1), 1);
        due("(a)", x.take(0, 0, 2), -6);
        due("taken", x.take(0, 1, 2), 2);
        int[] want = {0, 2, TAKEN, 0, 0, 0, 50, 50, 1, 0};
        for (int what = 0; what < want.length; what++) {
            due("field " + what, x.happening(2, what), want[what]);
        }
        due("sum", x.sum(0, 999, 50, 10), 1000);
        due("taken twice", x.take(0, 1, 3), 3);
        due("MADE, the last that is VALID", x.take(0, 0, 4), 4);
        due("not made", x.state(0, 999, 50), 0);
        due("MADE anew", x.tell(0, MADE, 0, 1, 0, 0, 5), 5);
        due("(a) two would be MADE", x.take(0, 4, 6), -6);
        due("-4", full().take(0, 400, 400), -4);
        due("-3 ahead of -4", full().take(0, 400, 399), -3);
    }

    private static void takeOfTakes() {
        ToldHouse x = made();
        due("changed", x.tell(0, CHANGED, 1, -500, 4, 20, NONE), 1);
        due("taken", x.take(0, 1, NONE), 2);
        due("once more", x.take(0, 1, NONE), 3);
        due("one of them is taken", x.take(0, 2, NONE), 4);
        due("the other stands", x.sum(0, 999, 0, 10), 1000);
        due("the other is taken", x.take(0, 3, NONE), 5);
        due("VALID again", x.sum(0, 999, 0, 10), 500);
        due("(c)", x.tell(0, CHANGED, 1, -500, 4, 30, NONE), 6);
        due("a taking of a taking is taken", x.take(0, 5, NONE), 7);
        due("VOID", x.happening(1, 10), 1);
        due("not VOID", x.happening(3, 10), 0);
        due("VOID", x.happening(5, 10), 1);
        due("spent", x.tell(0, CHANGED, 1, -500, 4, 30, NONE), 8);
        due("(c)", x.take(0, 7, NONE), -8);
        due("(c)", x.take(0, 3, NONE), -8);
    }

    private static void happening() {
        ToldHouse x = made();
        due("day", x.day(5), true);
        due("changed", x.tell(0, CHANGED, 1, -77, 4, 20, 1), 1);
        due("READ of whole coins", x.happening(0, 11), 1000);
        due("READ of hundredths", x.happening(1, 11), -77);
        due("mended", x.mend(0, 1, 0, -3, 0, 20, 2), 2);
        due("READ isn't as mended", x.happening(1, 11), -77);
        due("READ of MENDED", x.happening(2, 11), -300);
        due("READ of the greatest", x.tell(1, MADE, 0, 1000000, 0, 0, 0), 3);
        due("READ of the greatest", x.happening(3, 11), 100000000);
        due("VOID", x.happening(1, 10), 0);
        due("taken", x.take(0, 1, 3), 4);
        due("VOID", x.happening(1, 10), 1);
        due("TAKEN isn't VOID", x.happening(4, 10), 0);
        due("MENDED of one that is VOID isn't", x.happening(2, 10), 0);
        due("KNOWN", x.happening(0, 7), 0);
        due("KNOWN", x.happening(1, 7), 5);
        for (int what : new int[] {-1, 12, MIN, MAX}) {
            due("what " + what, x.happening(0, what), NONE);
        }
        for (int h : new int[] {-1, 5, MIN, MAX, 400}) {
            due("happening " + h, x.happening(h, 0), NONE);
            due("happening " + h, x.happening(h, 10), NONE);
            due("happening " + h, x.happening(h, 11), NONE);
        }
    }

    private static void number() {
        ToldHouse x = made();
        due("other stream", x.tell(7, MADE, 0, 1, 0, 0, 0), 1);
        due("changed", x.tell(0, CHANGED, 0, 1, 0, 10, 1), 2);
        due("number", x.number(0, 0), 0);
        due("number", x.number(0, 1), 2);
        due("number", x.number(7, 0), 1);
        due("none", x.number(0, 2), NONE);
        due("none", x.number(7, 1), NONE);
        due("none", x.number(0, -1), NONE);
        due("none", x.number(0, MAX), NONE);
        due("none", x.number(1, 0), NONE);
        due("none", x.number(-1, 0), NONE);
        due("none", x.number(20, 0), NONE);
        due("refused ones have none", x.tell(0, MADE, 0, 1, 0, 10, NONE), -6);
        due("none", x.number(0, 2), NONE);
    }

    private static void count() {
        ToldHouse x = made();
        due("view", x.view(0, 0), 0);
        due("doing", x.doing(), 0);
        due("doing", x.doing(), 1);
        due("day", x.day(9), true);
        due("happenings", x.count(0), 1);
        due("views", x.count(1), 1);
        due("doings", x.count(2), 2);
        due("today", x.count(3), 9);
        due("others", x.count(4), NONE);
        due("others", x.count(-1), NONE);
        due("others", x.count(MIN), NONE);
    }

    private static void seen() {
        ToldHouse x = made();
        due("seen", x.seen(0), 1);
        due("seen", x.seen(19), 0);
        due("mended", x.mend(0, 0, 0, 0, 0, 0, 1), 1);
        due("taken", x.take(0, 1, 2), 2);
        due("refused", x.take(0, 5, 3), -5);
        due("seen", x.seen(0), 3);
        due("none", x.seen(-1), NONE);
        due("none", x.seen(20), NONE);
    }

    private static void sum() {
        ToldHouse x = made();
        due("day", x.day(40), true);
        due("changed", x.tell(0, CHANGED, 1, -400, 4, 20, 1), 1);
        due("day", x.day(60), true);
        due("mended", x.mend(0, 1, 1, -300, 5, 25, 2), 2);
        due("day", x.day(80), true);
        due("taken", x.take(0, 2, 3), 3);
        due("ahead of all", x.sum(0, 9, 999, 10), 0);
        due("MADE", x.sum(0, 10, 999, 10), 1000);
        due("known by 39", x.sum(0, 20, 39, 10), 1000);
        due("known by 40", x.sum(0, 20, 40, 10), 600);
        due("known by 59", x.sum(0, 20, 59, 4), -400);
        due("known by 60", x.sum(0, 20, 60, 10), 1000);
        due("known by 60", x.sum(0, 25, 60, 10), 700);
        due("known by 60", x.sum(0, 25, 60, 5), -300);
        due("known by 60", x.sum(0, 25, 60, 4), 0);
        due("known by 79", x.sum(0, 24, 79, 10), 1000);
        due("known by 80", x.sum(0, 24, 80, 10), 600);
        due("by key", x.sum(0, 999, 999, 3), 1000);
        int[][] notAsTold = {
            {-1, 99, 99, 10}, {20, 99, 99, 10}, {0, -1, 99, 10}, {0, 1000, 99, 10},
            {0, 99, -1, 10}, {0, 99, 1000, 10}, {0, 99, 99, -1}, {0, 99, 99, 11},
        };
        for (int[] t : notAsTold) {
            due("not as told", x.sum(t[0], t[1], t[2], t[3]), 0);
        }
    }

    private static void state() {
        ToldHouse x = new ToldHouse();
        due("made", x.tell(0, MADE, 0, 0, 0, 10, 0), 0);
        due("day", x.day(5), true);
        due("ended", x.tell(0, ENDED, 0, 0, 0, 20, 1), 1);
        due("day", x.day(6), true);
        due("mended", x.mend(0, 0, 0, 0, 0, 12, 2), 2);
        due("day", x.day(7), true);
        due("taken", x.take(0, 1, 3), 3);
        due("not yet", x.state(0, 9, 5), 0);
        due("made", x.state(0, 10, 5), 1);
        due("not ended as known", x.state(0, 20, 4), 1);
        due("not ended yet", x.state(0, 19, 5), 1);
        due("ended", x.state(0, 20, 5), 2);
        due("mended", x.state(0, 11, 6), 0);
        due("mended", x.state(0, 12, 6), 1);
        due("taken", x.state(0, 999, 7), 1);
        due("another", x.state(1, 999, 999), 0);
        for (int[] t : new int[][] {{-1, 0, 0}, {20, 0, 0}, {0, -1, 0}, {0, 1000, 0}, {0, 0, -1}, {0, 0, 1000}}) {
            due("not as told", x.state(t[0], t[1], t[2]), NONE);
        }
    }

    private static void view() {
        ToldHouse x = new ToldHouse();
        for (int[] t : new int[][] {{-1, 0}, {3, 0}, {0, -1}, {0, 2}, {MIN, MAX}}) {
            due("not as told", x.view(t[0], t[1]), NONE);
        }
        due("none came", x.count(1), 0);
        due("view", x.view(0, 0), 0);
        due("view", x.view(2, 1), 1);
        due("view", x.view(1, 0), 2);
        due("the same again", x.view(0, 0), 3);
        due("4 are there", x.view(0, 0), NONE);
        due("views", x.count(1), 4);
    }

    private static void read() {
        ToldHouse x = full();
        due("view", x.view(0, 0), 0);
        due("0", x.read(0, 0), 0);
        due("1", x.read(0, 1), 1);
        due("400", x.read(0, 400), 399);
        due("no more", x.read(0, 400), 0);
        due("no view", x.read(1, 0), NONE);
        due("no view", x.read(-1, 0), NONE);
        due("no view", x.read(MAX, 0), NONE);
        due("n", x.read(0, -1), NONE);
        due("n", x.read(0, 401), NONE);
        due("another view", x.view(0, 0), 1);
        due("of its own", x.read(1, 400), 400);
    }

    private static void up() {
        ToldHouse x = made();
        due("view", x.view(0, 0), 0);
        due("view", x.view(1, 1), 1);
        due("view", x.view(2, 0), 2);
        due("rows", x.up(0, 1), 20);
        due("rows", x.up(1, 1), 10);
        due("rows", x.up(2, 1), 34);
        due("has read", x.up(0, 0), 0);
        due("hasn't read", x.up(0, 2), 1);
        due("reads", x.read(0, 5), 1);
        due("has read", x.up(0, 0), 1);
        due("hasn't read", x.up(0, 2), 0);
        due("the other hasn't read", x.up(1, 2), 1);
        due("others", x.up(0, 3), NONE);
        due("others", x.up(0, -1), NONE);
        due("no view", x.up(3, 0), NONE);
        due("no view", x.up(-1, 0), NONE);
    }

    private static void at() {
        ToldHouse x = new ToldHouse();
        due("made", x.tell(19, MADE, 0, 3, 9, 999, 0), 0);
        due("made", x.tell(0, MADE, 0, 5, 9, 29, 0), 1);
        due("changed", x.tell(0, CHANGED, 1, -500, 0, 30, 1), 2);
        due("ended", x.tell(0, ENDED, 0, 0, 0, 30, 2), 3);
        int[][] kinds = {{0, 0}, {0, 1}, {1, 0}, {2, 1}};
        for (int v = 0; v < 4; v++) {
            due("view", x.view(kinds[v][0], kinds[v][1]), v);
            due("nothing is read", x.at(v, 0), 0);
            due("reads", x.read(v, 400), 4);
        }
        due("stream 0", x.at(0, 0), 0);
        due("stream 19", x.at(0, 19), 300);
        due("no stream 20", x.at(0, 20), 0);
        due("ENDED doesn't count", x.at(1, 0), 2);
        due("stream 19", x.at(1, 19), 1);
        due("key 9", x.at(2, 9), 800);
        due("key 0", x.at(2, 0), -500);
        due("no key 10", x.at(2, 10), 0);
        due("month 0", x.at(3, 0), 1);
        due("month 1", x.at(3, 1), 1);
        due("month 33", x.at(3, 33), 1);
        due("no month 34", x.at(3, 34), 0);
        due("no row", x.at(3, -1), 0);
        due("no view", x.at(4, 0), 0);
        due("no view", x.at(-1, 0), 0);
    }

    private static void atAsByTheRead() {
        ToldHouse x = made();
        due("view", x.view(2, 0), 0);
        due("mended", x.mend(0, 0, 0, 20, 5, 70, 1), 1);
        due("taken", x.take(0, 1, 2), 2);
        due("reads MADE", x.read(0, 1), 1);
        due("month 0", x.at(0, 0), 1000);
        due("reads MENDED", x.read(0, 1), 1);
        due("month 0", x.at(0, 0), 0);
        due("month 2", x.at(0, 2), 2000);
        due("reads TAKEN", x.read(0, 1), 1);
        due("month 0", x.at(0, 0), 1000);
        due("month 2", x.at(0, 2), 0);
        due("taken", x.take(0, 0, 3), 3);
        due("not read yet", x.at(0, 0), 1000);
        due("reads", x.read(0, 1), 1);
        due("VOID", x.at(0, 0), 0);
    }

    private static void lead() {
        ToldHouse x = new ToldHouse();
        due("made", x.tell(3, MADE, 0, 3, 9, 10, 0), 0);
        due("made", x.tell(1, MADE, 0, 5, 9, 10, 0), 1);
        due("changed", x.tell(3, CHANGED, 0, 1, 2, 40, 1), 2);
        due("mended", x.mend(3, 1, 0, 1, 9, 40, 2), 3);
        due("view", x.view(1, 1), 0);
        due("nothing is read", x.lead(0, 9, 0), NONE);
        due("reads", x.read(0, 3), 3);
        due("as by the read", x.lead(0, 2, 0), 2);
        due("as by the read", x.lead(0, 9, 2), NONE);
        due("reads", x.read(0, 3), 1);
        due("first", x.lead(0, 9, 0), 0);
        due("second", x.lead(0, 9, 1), 1);
        due("third", x.lead(0, 9, 2), 2);
        due("no fourth", x.lead(0, 9, 3), NONE);
        due("not there any more", x.lead(0, 2, 0), NONE);
        due("k", x.lead(0, 9, -1), NONE);
        due("k", x.lead(0, 9, MAX), NONE);
        due("row", x.lead(0, 10, 0), NONE);
        due("row", x.lead(0, -1, 0), NONE);
        due("view", x.lead(1, 9, 0), NONE);
        due("view", x.lead(-1, 9, 0), NONE);
    }

    private static void doing() {
        ToldHouse x = new ToldHouse();
        for (int d = 0; d < 10; d++) {
            due("doing", x.doing(), d);
            due("told", x.ends(d, 0), 0);
        }
        due("10 are there", x.doing(), NONE);
        due("doings", x.count(2), 10);
    }

    private static void leg() {
        ToldHouse x = made();
        due("no doing", x.leg(0, 0, 1), NONE);
        due("doing", x.doing(), 0);
        due("no doing", x.leg(1, 0, 1), NONE);
        due("no doing", x.leg(-1, 0, 1), NONE);
        due("stream", x.leg(0, -1, 1), NONE);
        due("stream", x.leg(0, 20, 1), NONE);
        due("amount", x.leg(0, 0, 1000001), NONE);
        due("amount", x.leg(0, 0, -1000001), NONE);
        due("none yet", x.ends(0, 1), 0);
        due("leg", x.leg(0, 0, 1000000), 1);
        due("leg", x.leg(0, 0, -1000000), 2);
        due("leg", x.leg(0, 19, 0), 3);
        due("leg", x.leg(0, 0, 5), 4);
        due("4 are there", x.leg(0, 0, 5), NONE);
        due("another", x.doing(), 1);
        due("its leg", x.leg(1, 0, 5), 1);
        due("day", x.day(10), true);
        due("goes", x.go(1), true);
        due("it isn't told", x.leg(1, 0, 5), NONE);
        due("step", x.step(1), 1);
        due("it is done", x.leg(1, 0, 5), NONE);
        due("legs", x.ends(1, 1), 1);
    }

    private static void go() {
        ToldHouse x = made();
        due("no doing", x.go(0), false);
        due("doing", x.doing(), 0);
        due("no leg", x.go(0), false);
        due("leg", x.leg(0, 0, 5), 1);
        due("no doing", x.go(-1), false);
        due("no doing", x.go(1), false);
        due("goes", x.go(0), true);
        due("going", x.ends(0, 0), 1);
        due("goes already", x.go(0), false);
        due("nothing came", x.count(0), 1);
        due("day", x.day(10), true);
        due("step", x.step(0), 1);
        due("done", x.go(0), false);
        due("still done", x.ends(0, 0), 3);
    }

    private static void step() {
        ToldHouse x = made();
        due("made", x.tell(1, MADE, 0, 0, 0, 0, 0), 1);
        due("no doing", x.step(0), -2);
        due("doing", x.doing(), 0);
        due("doing", x.doing(), 1);
        due("no doing", x.step(-1), -2);
        due("no doing", x.step(2), -2);
        due("leg", x.leg(1, 0, -600), 1);
        due("leg", x.leg(1, 1, 600), 2);
        due("told", x.step(1), -1);
        due("goes", x.go(1), true);
        due("day", x.day(33), true);
        due("step", x.step(1), 2);
        int[] want = {0, 1, CHANGED, 1, -600, 9, 33, 33, NONE, 2};
        for (int what = 0; what < want.length; what++) {
            due("field " + what, x.happening(2, what), want[what]);
        }
        due("going", x.ends(1, 0), 1);
        due("step", x.step(1), 3);
        due("done", x.ends(1, 0), 3);
        due("over", x.step(1), -1);
        due("nothing came", x.count(0), 4);
    }

    private static void stepUndoing() {
        ToldHouse x = made();
        due("day", x.day(20), true);
        due("doing", x.doing(), 0);
        due("leg", x.leg(0, 0, 300), 1);
        due("leg", x.leg(0, 0, 200), 2);
        due("leg", x.leg(0, 5, 1), 3);
        due("goes", x.go(0), true);
        due("step", x.step(0), 1);
        due("step", x.step(0), 2);
        due("refused", x.step(0), -6);
        due("undoing", x.ends(0, 0), 2);
        due("nothing came", x.count(0), 3);
        due("the stream is made too late", x.tell(5, MADE, 0, 1, 0, 0, 0), 3);
        due("spent", x.tell(0, CHANGED, 1, -1400, 0, 20, NONE), 4);
        due("refused", x.step(0), -8);
        due("stays", x.ends(0, 0), 2);
        due("given back", x.tell(0, CHANGED, 1, 100, 0, 20, NONE), 5);
        due("day", x.day(25), true);
        due("undoes the last", x.step(0), 6);
        int[] want = {0, 5, TAKEN, 0, 0, 0, 25, 25, 2, 1};
        for (int what = 0; what < want.length; what++) {
            due("field " + what, x.happening(6, what), want[what]);
        }
        due("undone", x.ends(0, 3), 1);
        due("still undoing", x.ends(0, 0), 2);
        due("refused", x.step(0), -8);
        due("given back", x.tell(0, CHANGED, 1, 300, 0, 20, NONE), 7);
        due("undoes the first", x.step(0), 8);
        due("its happening", x.happening(8, 8), 1);
        due("undone", x.ends(0, 0), 4);
        due("over", x.step(0), -1);
        due("doing", x.doing(), 1);
        due("leg", x.leg(1, 6, 1), 1);
        due("goes", x.go(1), true);
        due("refused, no leg was done", x.step(1), -6);
        due("undone at once", x.ends(1, 0), 4);
    }

    private static void stepWhenFull() {
        ToldHouse x = new ToldHouse();
        due("made", x.tell(0, MADE, 0, 10, 3, 10, 0), 0);
        due("day", x.day(20), true);
        due("doing", x.doing(), 0);
        due("leg", x.leg(0, 0, 1), 1);
        due("leg", x.leg(0, 0, 1), 2);
        due("goes", x.go(0), true);
        due("step", x.step(0), 1);
        for (int i = 2; i < 400; i++) {
            due("filling " + i, x.tell(0, CHANGED, 1, 1, 0, 10, i), i);
        }
        due("there are 400", x.step(0), -4);
        due("undoing", x.ends(0, 0), 2);
        due("there are 400", x.step(0), -4);
        due("stays", x.ends(0, 0), 2);
    }

    private static void ends() {
        ToldHouse x = made();
        due("no doing", x.ends(0, 0), NONE);
        due("doing", x.doing(), 0);
        due("leg", x.leg(0, 0, 3), 1);
        due("leg", x.leg(0, 0, 2), 2);
        due("leg", x.leg(0, 5, 1), 3);
        due("legs", x.ends(0, 1), 3);
        due("not done", x.ends(0, 10), NONE);
        due("goes", x.go(0), true);
        due("refused, SO is ahead of MADE", x.step(0), -7);
        due("undone", x.ends(0, 0), 4);
        due("none done", x.ends(0, 2), 0);
        due("none undone", x.ends(0, 3), 0);
        due("day", x.day(10), true);
        due("doing", x.doing(), 1);
        due("leg", x.leg(1, 0, 3), 1);
        due("leg", x.leg(1, 0, 2), 2);
        due("leg", x.leg(1, 5, 1), 3);
        due("goes", x.go(1), true);
        due("step", x.step(1), 1);
        due("done", x.ends(1, 2), 1);
        due("step", x.step(1), 2);
        due("refused", x.step(1), -6);
        due("step", x.step(1), 3);
        due("done", x.ends(1, 2), 2);
        due("undone", x.ends(1, 3), 1);
        due("leg's happening", x.ends(1, 10), 1);
        due("leg's happening", x.ends(1, 11), 2);
        due("none", x.ends(1, 12), NONE);
        for (int what : new int[] {-1, 4, 9, 13, 14, MIN, MAX}) {
            due("what " + what, x.ends(1, what), NONE);
        }
        due("no doing", x.ends(2, 0), NONE);
        due("no doing", x.ends(-1, 0), NONE);
    }

    private static void in() {
        ToldHouse x = made();
        due("day", x.day(12), true);
        due("sender", x.in(-1, 0, 0, 1, 1, 10), -2);
        due("sender", x.in(4, 0, 0, 1, 1, 10), -2);
        due("number", x.in(0, -1, 0, 1, 1, 10), -2);
        due("number", x.in(0, MIN, 0, 1, 1, 10), -2);
        due("stream", x.in(0, 0, 20, 1, 1, 10), -2);
        due("amount", x.in(0, 0, 0, 1000001, 1, 10), -2);
        due("key", x.in(0, 0, 0, 1, 10, 10), -2);
        due("key", x.in(0, 0, 0, 1, -1, 10), -2);
        due("so", x.in(0, 0, 0, 1, 1, 1000), -2);
        due("so", x.in(0, 0, 0, 1, 1, -1), -2);
        due("(a)", x.in(0, 0, 1, 1, 1, 10), -6);
        due("(b)", x.in(0, 0, 0, 1, 1, 9), -7);
        due("(c)", x.in(0, 0, 0, -1001, 1, 10), -8);
        due("none has counted", x.latest(0), NONE);
        due("counts", x.in(3, 0, 0, -1000, 1, 11), 1);
        int[] want = {0, 1, CHANGED, 1, -1000, 1, 11, 12, NONE, 103};
        for (int what = 0; what < want.length; what++) {
            due("field " + what, x.happening(1, what), want[what]);
        }
        due("once", x.in(3, 0, 0, 1, 1, 10), -9);
        due("-9 ahead of what is not as told", x.in(3, 0, 20, 1, 1, 10), -9);
        due("another sender's", x.in(0, 0, 0, 1, 1, 10), 2);
        due("-4", full().in(0, 0, 0, 1, 1, 10), -4);
    }

    private static void inOldAndCounted() {
        ToldHouse x = made();
        due("far on", x.in(1, 100, 0, 1, 1, 10), 1);
        due("less 32", x.in(1, 68, 0, 1, 1, 10), -10);
        due("OLD ahead of what is not as told", x.in(1, 68, 20, 1, 1, 10), -10);
        due("less 31", x.in(1, 69, 0, 1, 1, 10), 2);
        due("less 31 again", x.in(1, 69, 0, 1, 1, 10), -9);
        due("less 1", x.in(1, 99, 0, 1, 1, 10), 3);
        due("the greatest stays", x.latest(1), 100);
        due("one more", x.in(1, 101, 0, 1, 1, 10), 4);
        due("OLD now", x.in(1, 69, 0, 1, 1, 10), -10);
        due("had counted", x.in(1, 99, 0, 1, 1, 10), -9);
        due("had counted", x.in(1, 100, 0, 1, 1, 10), -9);
        due("hadn't", x.in(1, 98, 0, 1, 1, 10), 5);
        due("by 31", x.in(1, 132, 0, 1, 1, 10), 6);
        due("had counted, less 31", x.in(1, 101, 0, 1, 1, 10), -9);
        due("hadn't", x.in(1, 102, 0, 1, 1, 10), 7);
        due("by 32", x.in(1, 164, 0, 1, 1, 10), 8);
        due("less 32", x.in(1, 132, 0, 1, 1, 10), -10);
        due("less 31", x.in(1, 133, 0, 1, 1, 10), 9);
        due("refused, it hasn't counted", x.in(1, 500, 0, -9999, 1, 10), -8);
        due("so this isn't OLD", x.in(1, 134, 0, 1, 1, 10), 10);
        due("the greatest of all", x.in(1, MAX, 0, 1, 1, 10), 11);
        due("again", x.in(1, MAX, 0, 1, 1, 10), -9);
        due("less 32", x.in(1, MAX - 32, 0, 1, 1, 10), -10);
        due("less 31", x.in(1, MAX - 31, 0, 1, 1, 10), 12);
        due("0 is OLD", x.in(1, 0, 0, 1, 1, 10), -10);
        due("first the greatest of all", x.in(2, MAX, 0, 1, 1, 10), 13);
        due("hasn't counted", x.in(2, MAX - 1, 0, 1, 1, 10), 14);
        due("small ones", x.in(0, 31, 0, 1, 1, 10), 15);
        due("0 isn't OLD", x.in(0, 0, 0, 1, 1, 10), 16);
        due("32", x.in(0, 32, 0, 1, 1, 10), 17);
        due("0 is OLD now", x.in(0, 0, 0, 1, 1, 10), -10);
        due("0 first", x.in(3, 0, 0, 1, 1, 10), 18);
        due("then 31", x.in(3, 31, 0, 1, 1, 10), 19);
        due("0 has counted", x.in(3, 0, 0, 1, 1, 10), -9);
    }

    private static void latest() {
        ToldHouse x = made();
        due("none", x.latest(0), NONE);
        due("none", x.latest(-1), NONE);
        due("none", x.latest(4), NONE);
        due("in", x.in(2, 7, 0, 1, 1, 10), 1);
        due("in", x.in(2, 3, 0, 1, 1, 10), 2);
        due("greatest", x.latest(2), 7);
        due("refused", x.in(2, 9, 0, 1, 1, 9), -7);
        due("greatest", x.latest(2), 7);
        due("another", x.latest(1), NONE);
    }

    /** MADE, CHANGED, MENDED, TAKEN in stream 0, one of stream 1 between them. */
    private static ToldHouse told() {
        ToldHouse x = made();
        due("changed", x.tell(0, CHANGED, 1, -500, 4, 20, 1), 1);
        due("day", x.day(8), true);
        due("other stream", x.tell(1, MADE, 0, 1, 1, 1, 0), 2);
        due("mended", x.mend(0, 1, 1, -700, 4, 20, 2), 3);
        due("taken", x.take(0, 2, 3), 4);
        return x;
    }

    private static void check() {
        ToldHouse x = told();
        due("none altered", x.check(0, NONE, 0), NONE);
        due("none altered, mask or no", x.check(4, NONE, MAX), NONE);
        for (int h = 0; h < 5; h++) {
            for (int field = 2; field <= 8; field++) {
                due("mask 0", x.check(h, field, 0), NONE);
            }
        }
        for (int field : new int[] {-2, 0, 1, 9, 10, 11, MIN, MAX}) {
            due("field " + field, x.check(0, field, 1), -2);
        }
        for (int h : new int[] {-1, 5, MIN, MAX}) {
            due("happening " + h, x.check(h, 2, 1), -2);
            due("happening " + h, x.check(h, NONE, 1), -2);
        }
        due("nothing has changed", x.happening(0, 4), 10);
        due("nothing has changed", x.sum(0, 999, 999, 10), 500);
        due("no happening", new ToldHouse().check(0, 2, 0), -2);
    }

    private static void checkFieldByField() {
        ToldHouse x = told();
        due("KIND: MADE to CHANGED", x.check(0, 2, 1), 0);
        due("KIND: CHANGED to MADE", x.check(1, 2, 1), 1);
        due("KIND: CHANGED to ENDED, amount isn't 0", x.check(1, 2, 3), 1);
        due("KIND: CHANGED to MENDED, no REF", x.check(1, 2, 2), 1);
        due("KIND: MENDED to MADE, it has a REF", x.check(3, 2, 3), 3);
        due("KIND: MENDED to TAKEN, amount isn't 0", x.check(3, 2, 7), 3);
        due("KIND: TAKEN to 5", x.check(4, 2, 1), 4);
        due("KIND: TAKEN to MENDED of MENDED", x.check(4, 2, 7), 4);
        due("KIND below 0", x.check(4, 2, MIN), 4);
        due("FORM 1", x.check(2, 3, 1), NONE);
        due("FORM 2", x.check(2, 3, 2), 2);
        due("FORM of TAKEN", x.check(4, 3, 1), 4);
        due("FORM of MADE: 10 hundredths", x.check(0, 3, 1), 1);
        due("amount: 1000000 and more", x.check(2, 4, 1 << 20), 2);
        due("amount: 1 to 524289", x.check(2, 4, 1 << 19), NONE);
        due("amount below 0", x.check(2, 4, -1), 2);
        due("amount of TAKEN", x.check(4, 4, 1), 4);
        due("key 9", x.check(2, 5, 8), NONE);
        due("key 11", x.check(2, 5, 10), 2);
        due("key below 0", x.check(2, 5, -1), 2);
        due("key of TAKEN", x.check(4, 5, 1), 4);
        due("SO 513", x.check(2, 6, 512), NONE);
        due("SO 1025", x.check(2, 6, 1024), 2);
        due("SO below 0", x.check(2, 6, -1), 2);
        due("SO of TAKEN", x.check(4, 6, 1), 4);
        due("KNOWN of the first", x.check(0, 7, 1), 1);
        due("KNOWN as late as the next one", x.check(1, 7, 8), NONE);
        due("KNOWN later than the next one", x.check(1, 7, 9), 2);
        due("KNOWN ahead of the one before, of another stream", x.check(3, 7, 15), 3);
        due("KNOWN above 999", x.check(1, 7, 1024), 1);
        due("KNOWN below 0", x.check(0, 7, -1), 0);
        due("KNOWN of TAKEN isn't SO", x.check(4, 7, 16), 4);
        due("REF of MADE", x.check(0, 8, 1), 0);
        due("REF of MENDED: MADE, below 0", x.check(3, 8, 1), 3);
        due("REF of MENDED: itself", x.check(3, 8, 3), 3);
        due("REF of MENDED: below 0", x.check(3, 8, MIN), 3);
        due("REF of TAKEN: MADE", x.check(4, 8, 2), 4);
        due("REF of TAKEN: itself", x.check(4, 8, 1), 4);
        due("day", x.day(9), true);
        due("the last may be KNOWN later than TODAY", x.tell(1, CHANGED, 0, 1, 1, 1, 1), 5);
        due("the last may be KNOWN later than TODAY", x.check(5, 7, 512), NONE);
    }

    private static void checkLaterOnes() {
        ToldHouse x = made();
        due("changed", x.tell(0, CHANGED, 1, -500, 4, 20, 1), 1);
        due("another stream", x.tell(1, MADE, 0, 0, 0, 0, 0), 2);
        due("day", x.day(12), true);
        due("taken", x.take(0, 1, 2), 3);
        due("mended", x.mend(0, 1, 0, 0, 0, 15, 3), 4);
        due("mended", x.mend(0, 0, 0, 0, 0, 15, 4), 5);
        due("ended", x.tell(0, ENDED, 0, 0, 0, 20, 5), 6);
        due("MADE 10 to 2: 1 can't", x.check(0, 4, 8), 1);
        due("MADE SO 10 to 26: 1 can't", x.check(0, 6, 16), 1);
        due("CHANGED -500 to -499: VOID since", x.check(1, 4, 1023 ^ 1022), NONE);
        due("TAKEN to MENDED with 0: fine", x.check(3, 2, 7), NONE);
        due("MENDED SO 15 to 8: VOID", x.check(4, 6, 7), NONE);
        due("MENDED SO 15 to 31: ENDED can't", x.check(5, 6, 16), 6);
        due("MENDED 0 to 1: ENDED can't", x.check(5, 4, 1), 6);
        due("MENDED 0 to -1: it can't", x.check(5, 4, -1), 5);
        due("ENDED SO 20 to 4: it can't", x.check(6, 6, 16), 6);
        ToldHouse y = new ToldHouse();
        due("made", y.tell(0, MADE, 0, 0, 0, 0, 0), 0);
        due("taken", y.take(0, 0, 1), 1);
        due("made anew", y.tell(0, MADE, 0, 0, 0, 0, 2), 2);
        due("TAKEN to MENDED: two are MADE", y.check(1, 2, 7), 2);
        due("mended", y.mend(0, 2, 0, 0, 0, 0, 3), 3);
        due("MENDED to TAKEN", y.check(3, 2, 7), NONE);
        due("changed", y.tell(0, CHANGED, 0, 0, 0, 0, 4), 4);
        due("MENDED to TAKEN: none is MADE", y.check(3, 2, 7), 4);
        due("taken", y.take(0, 4, 5), 5);
        due("mended", y.mend(0, 4, 0, 0, 0, 0, 6), 6);
        due("CHANGED to MADE: two are MADE", y.check(4, 2, 1), 4);
        ToldHouse z = full();
        due("of 400 the last", z.check(0, 4, 10), NONE);
        due("of 400 the last", z.check(399, 2, 1), 399);
        due("of 400 the first", z.check(0, 6, 256), 1);
        due("of 400 none", z.check(0, NONE, 0), NONE);
    }
}
