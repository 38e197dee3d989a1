import java.io.IOException;
import java.nio.file.Files;
import java.nio.file.Path;
import java.util.Map;
import java.util.TreeMap;
import java.util.regex.Matcher;
import java.util.regex.Pattern;

/**
 * One method a sentence of DOC.md, with the edges that the sentence names. Each method quotes its sentence;
 * at the end the quotes are held against the document, so that no sentence of it stays without a test.
 */
public final class EdgeTests {
    private static final int NONE = ToldHouse.NONE;
    private static final int MADE = 0;
    private static final int CHANGED = 1;
    private static final int ENDED = 2;
    private static final int MENDED = 3;
    private static final int TAKEN = 4;
    private static final int MIN = Integer.MIN_VALUE;
    private static final int MAX = Integer.MAX_VALUE;
    private static final int WHAT_IT_IS = -1;
    private static final int TERMS = 0;

    private static final Map<Integer, StringBuilder> UNQUOTED = new TreeMap<>();
    private static String sentence = "";
    private static int sentences = 0;
    private static int wrong = 0;

    public static void main(String[] args) throws IOException {
        readTheDocument(Path.of("../shared/DOC.md"));
        part1();
        part2();
        part3();
        promises1To9();
        promises10To16();
        promises17To24();
        tellWhatIsNotQuoted();
        System.out.println(wrong == 0 ? "all edges of " + sentences + " sentences hold" : wrong + " are not as due");
        if (wrong != 0) {
            System.exit(1);
        }
    }

    private static void part1() {
        calls512();
        noneIsMinus1();
        streams();
        atMost400();
        numbers();
        kinds();
        forms();
        amounts();
        keys();
        so();
        known();
        refs();
        by();
        readAmounts();
        todayIsADay();
        voidByALaterTaken();
        validOnes();
        asMended();
        endedAmount();
        rightA();
        rightNoTwoMade();
        rightAnyNeedsMade();
        rightNotAheadOfMade();
        rightNoTwoEnded();
        rightNotBehindEnded();
        rightSumsByDay();
        rightSumOfAllWhenEnded();
    }

    private static void part2() {
        oneAtTheEnd();
        refusedInOrder();
        refusedNotAsTold();
        refusedOld();
        refusedFull();
        refusedRef();
        refusedRefOfMended();
        refusedNotRight();
    }

    private static void part3() {
        views();
        viewRows();
        viewWhat();
        viewHasRead();
        doings();
        legsOfADoing();
        howADoingIs();
        stepOfOneThatGoes();
        stepRefused();
        stepBehindTheLast();
        stepOfOneUndoing();
        stepUndoingRefused();
        stepBehindTheFirst();
        senders();
        latest32();
    }

    private static void promises1To9() {
        nothingHasHappened();
        dayLater();
        dayNotLater();
        tellKinds();
        tellEnded();
        tellNumber();
        tellWhyNot();
        mended();
        taken();
        takenLikewise();
        happeningFields();
        happeningVoid();
        happeningRead();
        happeningNone();
        numberOf();
        numberNone();
        countOf();
        countOthers();
        seenOf();
        seenNone();
    }

    private static void promises10To16() {
        sumOf();
        sumKeys();
        sumNotAsTold();
        stateOf();
        stateNotAsTold();
        viewNumber();
        viewNone();
        readMore();
        readNone();
        upOf();
        upOthers();
        atRow();
        atNone();
        leadKth();
        leadNone();
    }

    private static void promises17To24() {
        doingNumber();
        doingNone();
        legMore();
        legNone();
        goes();
        goesNot();
        stepAnswers();
        stepOverOrTold();
        stepWhyNot();
        stepNoDoing();
        endsOf();
        endsLegs();
        endsNone();
        letterCounts();
        letterFirstOf();
        letterNoSender();
        letterOld();
        letterHasCounted();
        letterRefused();
        latestOf();
        latestNone();
        checkAltered();
        checkFirst();
        checkNumbersAsTold();
        checkAsPart2Asks();
        checkRight();
        checkNone();
        checkNoSuch();
    }

    // ---- the document

    private static void readTheDocument(Path document) throws IOException {
        if (!Files.exists(document)) {
            System.out.println(document + " isn't there: the quotes are not held against it");
            return;
        }
        Pattern promise = Pattern.compile("## Promise (\\d+):.*");
        StringBuilder section = new StringBuilder();
        for (String line : Files.readAllLines(document)) {
            Matcher heading = promise.matcher(line);
            if (line.startsWith("## ")) {
                section = new StringBuilder();
                if (heading.matches()) {
                    UNQUOTED.put(Integer.parseInt(heading.group(1)), section);
                } else if (line.equals("## Terms")) {
                    UNQUOTED.put(TERMS, section);
                } else if (line.equals("## What it is")) {
                    UNQUOTED.put(WHAT_IT_IS, section);
                }
            } else if (!line.startsWith("```")) {
                section.append(line.trim().replaceFirst("^`.*?\\)`: ", "")).append(' ');
            }
        }
    }

    /** Begins a sentence's test; the words stand in the document under the promise. */
    private static void says(int promise, String words) {
        sentence = (promise > 0 ? "promise " + promise : "terms") + ", \"" + words + "\"";
        sentences++;
        if (UNQUOTED.isEmpty()) {
            return;
        }
        StringBuilder text = UNQUOTED.get(promise);
        int at = text == null ? -1 : text.indexOf(words);
        if (at < 0) {
            wrong++;
            System.out.println(sentence + ": the document doesn't say so, or it is quoted twice");
            return;
        }
        text.replace(at, at + words.length(), "|");
    }

    private static void tellWhatIsNotQuoted() {
        UNQUOTED.remove(WHAT_IT_IS);
        for (Map.Entry<Integer, StringBuilder> section : UNQUOTED.entrySet()) {
            for (String left : section.getValue().toString().split("\\|")) {
                if (!left.isBlank()) {
                    wrong++;
                    System.out.println("no test quotes (promise " + section.getKey() + "): " + left.trim());
                }
            }
        }
    }

    // ---- helpers

    private static void due(String call, long got, long want) {
        if (got != want) {
            wrong++;
            System.out.println(sentence + ": " + call + " answered " + got + ", due is " + want);
        }
    }

    private static void due(String call, boolean got, boolean want) {
        due(call, got ? 1 : 0, want ? 1 : 0);
    }

    /** A house whose stream 0 was MADE with 10 whole coins, key 3, SO 10. */
    private static ToldHouse made() {
        ToldHouse x = new ToldHouse();
        due("made", x.tell(0, MADE, 0, 10, 3, 10, 0), 0);
        return x;
    }

    /** A house with 400 happenings, all of stream 0, the last of day 10, KNOWN on day 20. */
    private static ToldHouse full() {
        ToldHouse x = made();
        due("day", x.day(20), true);
        for (int i = 1; i < 400; i++) {
            due("filling " + i, x.tell(0, CHANGED, 1, 1, i % 10, 10, i), i);
        }
        return x;
    }

    private static void fields(ToldHouse x, int h, int... want) {
        for (int what = 0; what < want.length; what++) {
            due("happening(" + h + ", " + what + ")", x.happening(h, what), want[what]);
        }
    }

    /** What check() answers if the field were this number. */
    private static int checkTo(ToldHouse x, int h, int field, int number) {
        return x.check(h, field, x.happening(h, field) ^ number);
    }

    /** A doing of these legs (stream, amount, stream, amount ..) that goes. */
    private static int going(ToldHouse x, int... legs) {
        int doing = x.doing();
        for (int i = 0; i + 1 < legs.length; i += 2) {
            due("leg", x.leg(doing, legs[i], legs[i + 1]), i / 2 + 1);
        }
        due("goes", x.go(doing), true);
        return doing;
    }

    // ---- PART 1

    private static void calls512() {
        says(WHAT_IT_IS, "An object is used for at most 512 calls after it has been made");
        ToldHouse x = new ToldHouse();
        due("call 1", x.tell(0, MADE, 1, 0, 0, 0, 0), 0);
        for (int i = 1; i < 400; i++) {
            due("call " + (i + 1), x.tell(0, CHANGED, 1, 1, 0, 0, i), i);
        }
        for (int call = 401; call < 512; call++) {
            due("call " + call, x.check(0, 4, call % 2), NONE);
        }
        due("call 512", x.sum(0, 0, 0, 10), 399);
    }

    private static void noneIsMinus1() {
        says(TERMS, "The constants: `NONE = -1`: There is none.");
        due("NONE", ToldHouse.NONE, -1);
    }

    private static void streams() {
        says(TERMS, "PART 1. STREAMS, 20: 0 to 19.");
        ToldHouse x = new ToldHouse();
        for (int s = 0; s < 20; s++) {
            due("tell, stream " + s, x.tell(s, MADE, 1, 5 + s, 0, 0, 0), s);
        }
        due("doing", x.doing(), 0);
        for (int s : new int[] {-1, 20, MIN, MAX}) {
            due("tell, stream " + s, x.tell(s, MADE, 1, 5, 0, 0, NONE), -2);
            due("mend, stream " + s, x.mend(s, 0, 1, 5, 0, 0, NONE), -2);
            due("take, stream " + s, x.take(s, 0, NONE), -2);
            due("number, stream " + s, x.number(s, 0), NONE);
            due("seen, stream " + s, x.seen(s), NONE);
            due("sum, stream " + s, x.sum(s, 999, 999, 10), 0);
            due("state, stream " + s, x.state(s, 999, 999), NONE);
            due("leg, stream " + s, x.leg(0, s, 5), NONE);
            due("in, stream " + s, x.in(0, 0, s, 5, 0, 0), -2);
        }
        for (int s = 0; s < 20; s++) {
            due("number, stream " + s, x.number(s, 0), s);
            due("seen, stream " + s, x.seen(s), 1);
            due("sum, stream " + s, x.sum(s, 0, 0, 10), 5 + s);
            due("state, stream " + s, x.state(s, 0, 0), 1);
        }
        int h = 20;
        for (int s : new int[] {0, 19}) {
            due("mend, stream " + s, x.mend(s, 0, 1, 5, 0, 0, 1), h++);
            due("take, stream " + s, x.take(s, 1, 2), h++);
            due("in, stream " + s, x.in(0, s, s, 5, 0, 0), h++);
        }
        due("leg, stream 0", x.leg(0, 0, 5), 1);
        due("leg, stream 19", x.leg(0, 19, 5), 2);
    }

    private static void atMost400() {
        says(TERMS, "HAPPENINGS, at most 400,");
        ToldHouse x = new ToldHouse();
        for (int i = 0; i < 400; i++) {
            due("tell " + i, x.tell(i % 20, i < 20 ? MADE : CHANGED, 1, 1, 0, 0, i / 20), i);
        }
        due("the last there is", x.happening(399, 0), 19);
        for (int s = 0; s < 20; s++) {
            due("seen " + s, x.seen(s), 20);
            due("one more " + s, x.tell(s, CHANGED, 1, 1, 0, 0, NONE), -4);
        }
        due("how many", x.count(0), 400);
        due("none behind it", x.happening(400, 0), NONE);
    }

    private static void numbers() {
        says(TERMS, "numbered over all from 0 on, and in each stream from 0 on (its NUMBER);");
        ToldHouse x = new ToldHouse();
        int[] streams = {7, 7, 19, 7, 19, 0};
        int[] numbers = {0, 1, 0, 2, 1, 0};
        for (int h = 0; h < streams.length; h++) {
            due("tell " + h, x.tell(streams[h], numbers[h] == 0 ? MADE : CHANGED, 1, 1, 0, 0, numbers[h]), h);
            due("a refused one takes no number", x.tell(streams[h], MADE, 1, 1, 0, 0, NONE), -6);
            due("NUMBER of " + h, x.happening(h, 1), numbers[h]);
        }
    }

    private static void kinds() {
        says(TERMS, "each of a KIND: 0 MADE, 1 CHANGED, 2 ENDED, 3 MENDED, 4 TAKEN;");
        ToldHouse x = made();
        due("tell 1", x.tell(0, 1, 0, -10, 0, 10, 1), 1);
        due("tell 2", x.tell(0, 2, 0, 0, 0, 10, 2), 2);
        due("mend", x.mend(0, 0, 0, 10, 3, 10, 3), 3);
        due("take", x.take(0, 3, 4), 4);
        for (int kind = MADE; kind <= TAKEN; kind++) {
            due("KIND of " + kind, x.happening(kind, 2), kind);
        }
    }

    private static void forms() {
        says(TERMS, "with a FORM (0 whole coins, 1 hundredths),");
        ToldHouse x = made();
        for (int form : new int[] {-1, 2, MIN, MAX}) {
            due("tell, form " + form, x.tell(0, CHANGED, form, 1, 0, 10, 1), -2);
            due("mend, form " + form, x.mend(0, 0, form, 10, 0, 10, 1), -2);
        }
        due("tell, form 0", x.tell(0, CHANGED, 0, 7, 0, 10, 1), 1);
        due("tell, form 1", x.tell(0, CHANGED, 1, 7, 0, 10, 2), 2);
        due("mend, form 1", x.mend(0, 0, 1, 1, 0, 10, 3), 3);
        due("sum", x.sum(0, 10, 0, 10), 708);
        due("mend, form 0", x.mend(0, 0, 0, 1, 0, 10, 4), 4);
        due("sum", x.sum(0, 10, 0, 10), 807);
        int[] want = {0, 0, 1, 1, 0};
        for (int h = 0; h < want.length; h++) {
            due("FORM of " + h, x.happening(h, 3), want[h]);
        }
    }

    private static void amounts() {
        says(TERMS, "an amount (-1000000 to 1000000),");
        ToldHouse x = new ToldHouse();
        due("made", x.tell(0, MADE, 0, 1000000, 0, 0, 0), 0);
        for (int form = 0; form < 2; form++) {
            for (int amount : new int[] {1000001, -1000001, MIN, MAX}) {
                due("tell " + amount, x.tell(0, CHANGED, form, amount, 0, 0, NONE), -2);
                due("mend " + amount, x.mend(0, 0, form, amount, 0, 0, NONE), -2);
                due("in " + amount, x.in(0, form, 0, amount, 0, 0), -2);
            }
        }
        due("tell the least", x.tell(0, CHANGED, 0, -1000000, 0, 0, NONE), 1);
        due("tell the greatest", x.tell(0, CHANGED, 1, 1000000, 0, 0, NONE), 2);
        due("mend to the greatest", x.mend(0, 1, 0, 1000000, 0, 0, NONE), 3);
        due("mend to the least", x.mend(0, 1, 0, -1000000, 0, 0, NONE), 4);
        due("in the least", x.in(0, 0, 0, -1000000, 0, 0), 5);
        due("in the greatest", x.in(0, 1, 0, 1000000, 0, 0), 6);
        int[] want = {1000000, -1000000, 1000000, 1000000, -1000000, -1000000, 1000000};
        for (int h = 0; h < want.length; h++) {
            due("amount of " + h, x.happening(h, 4), want[h]);
        }
    }

    private static void keys() {
        says(TERMS, "a key (0 to 9),");
        ToldHouse x = made();
        for (int key : new int[] {-1, 10, MIN, MAX}) {
            due("tell, key " + key, x.tell(0, CHANGED, 0, 0, key, 10, NONE), -2);
            due("mend, key " + key, x.mend(0, 0, 0, 0, key, 10, NONE), -2);
            due("in, key " + key, x.in(0, 0, 0, 0, key, 10), -2);
        }
        int h = 1;
        for (int key : new int[] {0, 9}) {
            due("tell, key " + key, x.tell(0, CHANGED, 0, 0, key, 10, NONE), h);
            due("key", x.happening(h++, 5), key);
            due("mend, key " + key, x.mend(0, 0, 0, 0, key, 10, NONE), h);
            due("key", x.happening(h++, 5), key);
            due("in, key " + key, x.in(0, key, 0, 0, key, 10), h);
            due("key", x.happening(h++, 5), key);
        }
    }

    private static void so() {
        says(TERMS, "SO: the day since when it is so (0 to 999),");
        ToldHouse x = new ToldHouse();
        due("made", x.tell(0, MADE, 0, 1, 0, 0, 0), 0);
        for (int so : new int[] {-1, 1000, MIN, MAX}) {
            due("tell, SO " + so, x.tell(0, CHANGED, 0, 0, 0, so, NONE), -2);
            due("tell ENDED, SO " + so, x.tell(0, ENDED, 0, 0, 0, so, NONE), -2);
            due("mend, SO " + so, x.mend(0, 0, 0, 0, 0, so, NONE), -2);
            due("in, SO " + so, x.in(0, 0, 0, 0, 0, so), -2);
        }
        due("tell, SO 999", x.tell(0, CHANGED, 0, 0, 0, 999, 1), 1);
        due("mend, SO 0", x.mend(0, 1, 0, 0, 0, 0, 2), 2);
        due("mend, SO 999", x.mend(0, 1, 0, 0, 0, 999, 3), 3);
        due("in, SO 0", x.in(0, 0, 0, 0, 0, 0), 4);
        due("in, SO 999", x.in(0, 1, 0, -100, 0, 999), 5);
        due("tell ENDED, SO 999", x.tell(0, ENDED, 0, 0, 0, 999, 6), 6);
        int[] want = {0, 999, 0, 999, 0, 999, 999};
        for (int h = 0; h < want.length; h++) {
            due("SO of " + h, x.happening(h, 6), want[h]);
        }
    }

    private static void known() {
        says(TERMS, "KNOWN: TODAY when it came,");
        ToldHouse x = made();
        due("day", x.day(999), true);
        due("changed", x.tell(0, CHANGED, 0, 0, 0, 10, 1), 1);
        due("on day 0", x.happening(0, 7), 0);
        due("on day 999", x.happening(1, 7), 999);
        due("sum ahead of it", x.sum(0, 999, 998, 10), 1000);
    }

    private static void refs() {
        says(TERMS, "REF (of MENDED, TAKEN: the NUMBER of an earlier one of the stream; else NONE),");
        ToldHouse x = new ToldHouse();
        due("another stream", x.tell(1, MADE, 0, 0, 0, 0, 0), 0);
        due("made", x.tell(0, MADE, 0, 0, 0, 0, 0), 1);
        due("changed", x.tell(0, CHANGED, 0, 0, 0, 0, 1), 2);
        due("ended", x.tell(0, ENDED, 0, 0, 0, 0, 2), 3);
        due("mend the first", x.mend(0, 0, 0, 0, 0, 0, 3), 4);
        due("take the one before", x.take(0, 3, 4), 5);
        due("itself", x.take(0, 5, 5), -5);
        due("itself", x.mend(0, 5, 0, 0, 0, 0, 5), -5);
        int[] want = {NONE, NONE, NONE, NONE, 0, 3};
        for (int h = 0; h < want.length; h++) {
            due("REF of " + h, x.happening(h, 8), want[h]);
        }
    }

    private static void by() {
        says(TERMS, "BY: who told it (0 a hand, 1 + d doing d, 100 + a letter's sender).");
        ToldHouse x = made();
        due("day", x.day(10), true);
        due("mend", x.mend(0, 0, 0, 10, 3, 10, NONE), 1);
        due("take", x.take(0, 1, NONE), 2);
        for (int d = 0; d < 10; d++) {
            int doing = going(x, 0, 1, 5, 1);
            due("step", x.step(doing), 3 + 2 * d);
            due("refused", x.step(doing), -6);
            due("step", x.step(doing), 4 + 2 * d);
        }
        for (int s = 0; s < 4; s++) {
            due("in", x.in(s, 0, 0, 1, 0, 10), 23 + s);
        }
        for (int h = 0; h < 3; h++) {
            due("BY of " + h, x.happening(h, 9), 0);
        }
        for (int d = 0; d < 10; d++) {
            due("BY of a LEG", x.happening(3 + 2 * d, 9), 1 + d);
            due("BY of its undoing", x.happening(4 + 2 * d, 9), 1 + d);
        }
        for (int s = 0; s < 4; s++) {
            due("BY of a letter", x.happening(23 + s, 9), 100 + s);
        }
    }

    private static void readAmounts() {
        says(TERMS, "All amounts are READ in hundredths: of FORM 0 100 times the amount.");
        ToldHouse x = new ToldHouse();
        due("made", x.tell(0, MADE, 0, 1000000, 0, 0, 0), 0);
        due("changed", x.tell(0, CHANGED, 1, 1000000, 1, 0, 1), 1);
        due("changed", x.tell(0, CHANGED, 0, -1000000, 2, 0, 2), 2);
        due("changed", x.tell(0, CHANGED, 1, -1000000, 3, 0, 3), 3);
        long[] want = {100000000, 1000000, -100000000, -1000000};
        for (int h = 0; h < want.length; h++) {
            due("READ", x.happening(h, 11), want[h]);
            due("sum", x.sum(0, 0, 0, h), want[h]);
        }
    }

    private static void todayIsADay() {
        says(TERMS, "TODAY: a day 0 to 999, 0 at first.");
        ToldHouse x = new ToldHouse();
        due("at first", x.count(3), 0);
        due("999", x.day(999), true);
        due("1000", x.day(1000), false);
        due("at last", x.count(3), 999);
    }

    private static void voidByALaterTaken() {
        says(TERMS, "Of some first happenings of a stream (or those KNOWN by a day) one is VOID if a later TAKEN one of"
            + " these with this REF isn't VOID.");
        ToldHouse x = made();
        due("view", x.view(0, 1), 0);
        for (int h = 1; h < 400; h++) {
            due("day", x.day(h), true);
            due("take the one before", x.take(0, h - 1, h), h);
        }
        for (int h = 399; h >= 380; h--) {
            due("VOID " + h, x.happening(h, 10), (399 - h) % 2);
        }
        due("VOID of the first", x.happening(0, 10), 1);
        for (int k = 0; k < 12; k++) {
            due("as KNOWN by " + k, x.state(0, 999, k), k % 2 == 0 ? 1 : 0);
            due("reads", x.read(0, 1), 1);
            due("by the first " + (k + 1), x.at(0, 0), k % 2 == 0 ? 1 : 0);
        }
        ToldHouse y = made();
        due("changed", y.tell(0, CHANGED, 0, 1, 0, 10, 1), 1);
        due("taken", y.take(0, 1, 2), 2);
        due("taken twice", y.take(0, 1, 3), 3);
        due("one of both is taken", y.take(0, 2, 4), 4);
        due("VOID by the other", y.happening(1, 10), 1);
        due("the other is taken", y.take(0, 3, 5), 5);
        due("not VOID", y.happening(1, 10), 0);
        due("a MENDED one voids nothing", y.mend(0, 1, 0, 1, 0, 10, 6), 6);
        due("not VOID", y.happening(1, 10), 0);
        due("another stream", y.tell(1, MADE, 0, 1, 0, 0, 0), 7);
        due("another stream's", y.take(1, 0, 1), 8);
        due("not VOID", y.happening(0, 10), 0);
        due("VOID", y.happening(7, 10), 1);
    }

    private static void validOnes() {
        says(TERMS, "VALID: a MADE, CHANGED or ENDED one that isn't VOID;");
        ToldHouse x = made();
        due("changed", x.tell(0, CHANGED, 0, -10, 4, 20, 1), 1);
        due("mended, counts through its REF alone", x.mend(0, 0, 0, 10, 3, 10, 2), 2);
        due("ended", x.tell(0, ENDED, 0, 0, 0, 30, 3), 3);
        due("sum", x.sum(0, 19, 0, 10), 1000);
        due("sum", x.sum(0, 20, 0, 10), 0);
        due("ended", x.state(0, 30, 0), 2);
        due("ENDED is VOID", x.take(0, 3, 4), 4);
        due("made", x.state(0, 30, 0), 1);
        due("CHANGED is VOID", x.take(0, 1, 5), 5);
        due("sum", x.sum(0, 20, 0, 10), 1000);
        due("MADE is VOID", x.take(0, 0, 6), 6);
        due("sum", x.sum(0, 20, 0, 10), 0);
        due("not made", x.state(0, 999, 0), 0);
    }

    private static void asMended() {
        says(TERMS, "its amount (as READ), key and SO are those of the latest MENDED one that isn't VOID with this REF,"
            + " if there is one, else its own");
        ToldHouse x = made();
        due("its own", x.sum(0, 10, 0, 3), 1000);
        due("mended", x.mend(0, 0, 1, 70, 4, 20, 1), 1);
        due("SO", x.sum(0, 19, 0, 10), 0);
        due("amount", x.sum(0, 20, 0, 10), 70);
        due("key", x.sum(0, 20, 0, 4), 70);
        due("not its own key", x.sum(0, 20, 0, 3), 0);
        due("mended later", x.mend(0, 0, 0, 8, 5, 5, 2), 2);
        due("the latest", x.sum(0, 5, 0, 5), 800);
        due("not the one before", x.sum(0, 999, 0, 4), 0);
        due("mended still later", x.mend(0, 0, 0, 9, 6, 6, 3), 3);
        due("the middle one is taken", x.take(0, 2, 4), 4);
        due("the latest", x.sum(0, 6, 0, 6), 900);
        due("the latest is taken", x.take(0, 3, 5), 5);
        due("the first of the three", x.sum(0, 20, 0, 4), 70);
        due("it is taken", x.take(0, 1, 6), 6);
        due("its own", x.sum(0, 10, 0, 3), 1000);
        due("a taking is taken", x.take(0, 4, 7), 7);
        due("the middle one", x.sum(0, 5, 0, 5), 800);
        due("what is told stays", x.happening(0, 4), 10);
    }

    private static void endedAmount() {
        says(TERMS, "(of ENDED the amount is 0).");
        ToldHouse x = new ToldHouse();
        due("made", x.tell(0, MADE, 0, 0, 0, 10, 0), 0);
        due("ended", x.tell(0, ENDED, 1, 55, 7, 20, 1), 1);
        due("mended", x.mend(0, 1, 0, 1000000, 7, 20, 2), 2);
        due("sum", x.sum(0, 999, 0, 10), 0);
        due("sum by key", x.sum(0, 999, 0, 7), 0);
        due("mended below 0", x.mend(0, 1, 0, -1, 7, 20, 3), 3);
        due("sum", x.sum(0, 999, 0, 10), 0);
    }

    private static void rightA() {
        says(TERMS, "A stream is RIGHT if by all its happenings:");
        ToldHouse x = new ToldHouse();
        due("a stream without any", x.state(0, 999, 999), 0);
        due("made", x.tell(0, MADE, 0, 0, 0, 500, 0), 0);
        due("day", x.day(3), true);
        due("mended, KNOWN later", x.mend(0, 0, 0, 0, 0, 100, 1), 1);
        due("by all, not by those KNOWN earlier", x.tell(0, CHANGED, 0, 0, 0, 100, 2), 2);
        due("each stream by itself", x.tell(1, MADE, 0, 0, 0, 0, 0), 3);
        due("each stream by itself", x.tell(2, CHANGED, 0, 0, 0, 0, 0), -6);
    }

    private static void rightNoTwoMade() {
        says(TERMS, "(a) no two MADE ones are VALID,");
        ToldHouse x = made();
        due("two", x.tell(0, MADE, 0, 0, 0, 10, 1), -6);
        due("taken", x.take(0, 0, 1), 1);
        due("one again", x.tell(0, MADE, 0, 0, 0, 10, 2), 2);
        due("two by taking the TAKEN one", x.take(0, 1, 3), -6);
        due("taken", x.take(0, 2, 3), 3);
        due("the first is VALID again", x.take(0, 1, 4), 4);
        due("two by taking the other TAKEN one", x.take(0, 3, 5), -6);
    }

    private static void rightAnyNeedsMade() {
        says(TERMS, "and if any is VALID a MADE one is;");
        ToldHouse x = new ToldHouse();
        due("CHANGED alone", x.tell(0, CHANGED, 0, 0, 0, 10, 0), -6);
        due("ENDED alone", x.tell(0, ENDED, 0, 0, 0, 10, 0), -6);
        due("made", x.tell(0, MADE, 0, 0, 0, 10, 0), 0);
        due("changed", x.tell(0, CHANGED, 0, 0, 0, 10, 1), 1);
        due("a CHANGED one would be left", x.take(0, 0, 2), -6);
        due("taken", x.take(0, 1, 2), 2);
        due("none would be left", x.take(0, 0, 3), 3);
        due("the CHANGED one alone", x.take(0, 2, 4), -6);
        due("CHANGED alone", x.tell(0, CHANGED, 0, 0, 0, 10, 4), -6);
        due("a MENDED one is none of these", x.mend(0, 0, 0, 5, 0, 10, 4), 4);
        ToldHouse y = new ToldHouse();
        due("made", y.tell(0, MADE, 0, 0, 0, 10, 0), 0);
        due("ended", y.tell(0, ENDED, 0, 0, 0, 10, 1), 1);
        due("an ENDED one would be left", y.take(0, 0, 2), -6);
    }

    private static void rightNotAheadOfMade() {
        says(TERMS, "(b) no VALID one is SO ahead of the MADE one,");
        ToldHouse x = made();
        due("a day ahead", x.tell(0, CHANGED, 0, 0, 0, 9, 1), -7);
        due("the same day", x.tell(0, CHANGED, 0, 0, 0, 10, 1), 1);
        due("mended to a day ahead", x.mend(0, 1, 0, 0, 0, 9, 2), -7);
        due("MADE is mended to a day later", x.mend(0, 0, 0, 10, 0, 11, 2), -7);
        due("mended to a day later", x.mend(0, 1, 0, 0, 0, 11, 2), 2);
        due("MADE is mended to the same day", x.mend(0, 0, 0, 10, 0, 11, 3), 3);
        due("the mending can't be taken", x.take(0, 2, 4), -7);
        due("ahead of MADE as it is mended", x.tell(0, CHANGED, 0, 0, 0, 10, 4), -7);
        due("ENDED a day ahead", x.tell(0, ENDED, 0, 0, 0, 10, 4), -7);
        ToldHouse y = new ToldHouse();
        due("made", y.tell(0, MADE, 0, 0, 0, 999, 0), 0);
        due("ENDED on MADE's day", y.tell(0, ENDED, 0, 0, 0, 999, 1), 1);
    }

    private static void rightNoTwoEnded() {
        says(TERMS, "no two ENDED ones are VALID,");
        ToldHouse x = new ToldHouse();
        due("made", x.tell(0, MADE, 0, 0, 0, 10, 0), 0);
        due("ended", x.tell(0, ENDED, 0, 0, 0, 20, 1), 1);
        due("twice, the same day", x.tell(0, ENDED, 0, 0, 0, 20, 2), -7);
        due("twice, ahead", x.tell(0, ENDED, 0, 0, 0, 15, 2), -7);
        due("twice, behind", x.tell(0, ENDED, 0, 0, 0, 25, 2), -7);
        due("taken", x.take(0, 1, 2), 2);
        due("once", x.tell(0, ENDED, 0, 0, 0, 20, 3), 3);
        due("the first would be VALID, too", x.take(0, 2, 4), -7);
    }

    private static void rightNotBehindEnded() {
        says(TERMS, "no VALID one is SO behind the ENDED one;");
        ToldHouse x = new ToldHouse();
        due("made", x.tell(0, MADE, 0, 0, 0, 10, 0), 0);
        due("changed", x.tell(0, CHANGED, 0, 0, 0, 20, 1), 1);
        due("a day too early", x.tell(0, ENDED, 0, 0, 0, 19, 2), -7);
        due("the same day", x.tell(0, ENDED, 0, 0, 0, 20, 2), 2);
        due("a day behind", x.tell(0, CHANGED, 0, 0, 0, 21, 3), -7);
        due("on its day", x.tell(0, CHANGED, 0, 0, 0, 20, 3), 3);
        due("mended to a day behind", x.mend(0, 1, 0, 0, 0, 21, 4), -7);
        due("ENDED mended to a day too early", x.mend(0, 2, 0, 0, 0, 19, 4), -7);
        due("MADE mended to a day behind", x.mend(0, 0, 0, 0, 0, 21, 4), -7);
        due("ENDED mended to later", x.mend(0, 2, 0, 0, 0, 999, 4), 4);
        due("on its day as mended", x.tell(0, CHANGED, 0, 0, 0, 999, 5), 5);
        due("the mending can't be taken", x.take(0, 4, 6), -7);
        due("ENDED is taken", x.take(0, 2, 6), 6);
        due("then the mending can", x.take(0, 4, 7), 7);
    }

    private static void rightSumsByDay() {
        says(TERMS, "(c) for each VALID one's SO the sum of amounts of all VALID ones SO by that day is 0 at least;");
        ToldHouse x = new ToldHouse();
        due("MADE below 0", x.tell(0, MADE, 1, -1, 0, 10, 0), -8);
        due("MADE with 0", x.tell(0, MADE, 1, 0, 0, 10, 0), 0);
        due("1 below 0", x.tell(0, CHANGED, 1, -1, 0, 10, 1), -8);
        due("more later", x.tell(0, CHANGED, 1, 5, 0, 20, 1), 1);
        due("ahead of the more", x.tell(0, CHANGED, 1, -1, 0, 19, 2), -8);
        due("all of it on its day", x.tell(0, CHANGED, 1, -5, 0, 20, 2), 2);
        due("1 below 0 in the end", x.tell(0, CHANGED, 1, -1, 0, 999, 3), -8);
        due("still more, later", x.tell(0, CHANGED, 1, 9, 0, 40, 3), 3);
        due("1 below 0 between the two", x.tell(0, CHANGED, 1, -1, 0, 39, 4), -8);
        due("the more mended to less", x.mend(0, 1, 1, 4, 0, 20, 4), -8);
        due("the more mended to later", x.mend(0, 1, 1, 5, 0, 21, 4), -8);
        due("the more taken", x.take(0, 1, 4), -8);
        due("MADE mended to 1", x.mend(0, 0, 1, 1, 0, 10, 4), 4);
        due("then 1 less at once", x.tell(0, CHANGED, 1, -1, 0, 10, 5), 5);
        due("the mending can't be taken", x.take(0, 4, 6), -8);
        ToldHouse y = new ToldHouse();
        due("made", y.tell(0, MADE, 0, 1000000, 0, 0, 0), 0);
        for (int i = 1; i < 50; i++) {
            due("beyond an int's greatest " + i, y.tell(0, CHANGED, 0, 1000000, 0, i, i), i);
        }
        for (int day = 1; day <= 999; day++) {
            rightSumsBy(day);
        }
        for (int first : new int[] {0, 249, 498, 749}) {
            rightSumsOfDaysInARow(first);
        }
    }

    private static void rightSumsOfDaysInARow(int first) {
        ToldHouse x = new ToldHouse();
        for (int i = 0; i <= 250; i++) {
            due("0 on day " + (first + i), x.tell(0, i == 0 ? MADE : CHANGED, 1, 0, 0, first + i, i), i);
        }
        for (int i = 0; i <= 250; i++) {
            due("1 below 0 on day " + (first + i), x.tell(0, CHANGED, 1, -1, 0, first + i, 251), -8);
        }
    }

    private static void rightSumsBy(int day) {
        ToldHouse x = new ToldHouse();
        due("made", x.tell(0, MADE, 1, 0, 0, 0, 0), 0);
        due("1 below 0 on day " + day, x.tell(0, CHANGED, 1, -1, 0, day, 1), -8);
        due("5 more on day " + day, x.tell(0, CHANGED, 1, 5, 0, day, 1), 1);
        due("1 below 0 on the day ahead of " + day, x.tell(0, CHANGED, 1, -1, 0, day - 1, 2), -8);
        due("1 too many on day " + day, x.tell(0, CHANGED, 1, -6, 0, day, 2), -8);
        due("all on day " + day, x.tell(0, CHANGED, 1, -5, 0, day, 2), 2);
    }

    private static void rightSumOfAllWhenEnded() {
        says(TERMS, "if there is an ENDED one the sum of all is 0.");
        ToldHouse x = new ToldHouse();
        due("made", x.tell(0, MADE, 1, 1, 0, 10, 0), 0);
        due("1 is left", x.tell(0, ENDED, 0, 0, 0, 10, 1), -8);
        due("changed", x.tell(0, CHANGED, 1, -1, 0, 10, 1), 1);
        due("0 is left", x.tell(0, ENDED, 0, 0, 0, 10, 2), 2);
        due("1 more", x.tell(0, CHANGED, 1, 1, 0, 10, 3), -8);
        due("0 more", x.tell(0, CHANGED, 1, 0, 0, 10, 3), 3);
        due("MADE mended to 2", x.mend(0, 0, 1, 2, 0, 10, 4), -8);
        due("the CHANGED one taken", x.take(0, 1, 4), -8);
        ToldHouse y = new ToldHouse();
        for (int i = 0; i < 42; i++) {
            due("42 times 100000000", y.tell(0, i == 0 ? MADE : CHANGED, 0, 1000000, 0, 0, i), i);
        }
        due("and 94967200", y.tell(0, CHANGED, 0, 949672, 0, 0, 42), 42);
        due("and 96", y.tell(0, CHANGED, 1, 96, 0, 0, 43), 43);
        due("are 2 to the 32nd", y.sum(0, 0, 0, 10), 4294967296L);
        due("which isn't 0", y.tell(0, ENDED, 0, 0, 0, 0, 44), -8);
    }

    // ---- PART 2

    private static void oneAtTheEnd() {
        says(TERMS, "PART 2. COMMANDS bring one happening each, at the stream's end.");
        ToldHouse x = made();
        due("day", x.day(10), true);
        int doing = going(x, 0, 5, 6, 1);
        due("tell, SO much later", x.tell(0, CHANGED, 0, 0, 0, 999, NONE), 1);
        due("tell, SO earlier", x.tell(0, CHANGED, 0, 0, 0, 10, NONE), 2);
        due("mend", x.mend(0, 0, 0, 10, 3, 10, NONE), 3);
        due("take", x.take(0, 1, NONE), 4);
        due("in", x.in(0, 0, 0, 1, 1, 10), 5);
        due("step", x.step(doing), 6);
        due("refused", x.step(doing), -6);
        due("step", x.step(doing), 7);
        for (int n = 0; n < 8; n++) {
            due("NUMBER " + n, x.number(0, n), n);
            due("NUMBER of " + n, x.happening(n, 1), n);
        }
        due("how many", x.count(0), 8);
        due("how many of the stream", x.seen(0), 8);
    }

    private static void refusedInOrder() {
        says(TERMS, "Refused, the first that holds:");
        ToldHouse x = made();
        due("-2 ahead of -3", x.tell(0, CHANGED, 2, 0, 0, 10, 0), -2);
        due("-2 ahead of -5", x.mend(0, 1, 2, 0, 0, 10, 1), -2);
        due("-2 ahead of -6", x.tell(0, MADE, 2, 0, 0, 10, 1), -2);
        due("-2 ahead of -7", x.tell(0, CHANGED, 2, 0, 0, 9, 1), -2);
        due("-2 ahead of -8", x.tell(0, CHANGED, 2, -11, 0, 10, 1), -2);
        due("-3 ahead of -5", x.take(0, 1, 0), -3);
        due("-3 ahead of -6", x.tell(0, MADE, 0, 0, 0, 10, 0), -3);
        due("-3 ahead of -7", x.tell(0, CHANGED, 0, 0, 0, 9, 0), -3);
        due("-3 ahead of -8", x.tell(0, CHANGED, 0, -11, 0, 10, 0), -3);
        due("-6 ahead of -7", x.tell(0, MADE, 0, 0, 0, 9, 1), -6);
        due("-6 ahead of -8", x.tell(0, MADE, 0, -11, 0, 10, 1), -6);
        due("-7 ahead of -8", x.tell(0, CHANGED, 0, -11, 0, 9, 1), -7);
        due("-7 ahead of -8", x.tell(0, ENDED, 0, 0, 0, 9, 1), -7);
        due("all is as it was", x.seen(0), 1);
        due("all is as it was", x.count(0), 1);
        due("all is as it was", x.sum(0, 999, 999, 10), 1000);
        due("all is as it was", x.number(0, 1), NONE);
        due("the next one comes", x.tell(0, CHANGED, 0, -10, 0, 10, 1), 1);
        ToldHouse y = full();
        due("-2 ahead of -4", y.tell(0, CHANGED, 2, 0, 0, 10, 400), -2);
        due("-3 ahead of -4", y.tell(0, CHANGED, 0, 0, 0, 10, 399), -3);
        due("-4 ahead of -5", y.take(0, 400, 400), -4);
        due("-4 ahead of -6", y.tell(0, MADE, 0, 0, 0, 10, 400), -4);
        due("-4 ahead of -7", y.tell(0, CHANGED, 0, 0, 0, 9, 400), -4);
        due("-4 ahead of -8", y.tell(0, CHANGED, 0, -1000000, 0, 10, 400), -4);
    }

    private static void refusedNotAsTold() {
        says(TERMS, "-2 something is not as told;");
        int[] usual = {0, CHANGED, 0, 0, 0, 10};
        int[][] wrongOnes = {{-1, 20}, {-1, 3, 4, 5}, {-1, 2}, {-1000001, 1000001}, {-1, 10}, {-1, 1000}};
        ToldHouse x = made();
        for (int i = 0; i < usual.length; i++) {
            for (int w : wrongOnes[i]) {
                int[] t = usual.clone();
                t[i] = w;
                due("tell, parameter " + i + " " + w, x.tell(t[0], t[1], t[2], t[3], t[4], t[5], 1), -2);
                if (i != 1) {
                    due("mend, parameter " + i + " " + w, x.mend(t[0], 0, t[2], t[3], t[4], t[5], 1), -2);
                }
            }
        }
        due("nothing came", x.count(0), 1);
        due("as told", x.tell(0, CHANGED, 0, 0, 0, 10, 1), 1);
    }

    private static void refusedOld() {
        says(TERMS, "-3 OLD: the number seen isn't how many happenings the stream has (seen NONE: not asked);");
        ToldHouse x = new ToldHouse();
        due("1 of none", x.tell(0, MADE, 0, 10, 0, 10, 1), -3);
        due("0 of none", x.tell(0, MADE, 0, 10, 0, 10, 0), 0);
        due("another stream's count", x.tell(1, MADE, 0, 10, 0, 10, 1), -3);
        due("another stream's count", x.tell(1, MADE, 0, 10, 0, 10, 0), 1);
        for (int seen : new int[] {0, 2, -2, MIN, MAX}) {
            due("tell, seen " + seen, x.tell(0, CHANGED, 0, 0, 0, 10, seen), -3);
            due("mend, seen " + seen, x.mend(0, 0, 0, 10, 0, 10, seen), -3);
            due("take, seen " + seen, x.take(0, 0, seen), -3);
        }
        due("tell, seen 1", x.tell(0, CHANGED, 0, 0, 0, 10, 1), 2);
        due("mend, seen 2", x.mend(0, 0, 0, 10, 0, 10, 2), 3);
        due("take, seen 3", x.take(0, 1, 3), 4);
        due("tell, seen NONE", x.tell(0, CHANGED, 0, 0, 0, 10, NONE), 5);
        due("mend, seen NONE", x.mend(0, 0, 0, 10, 0, 10, NONE), 6);
        due("take, seen NONE", x.take(0, 5, NONE), 7);
    }

    private static void refusedFull() {
        says(TERMS, "-4 there are 400;");
        ToldHouse x = made();
        due("day", x.day(20), true);
        int doing = going(x, 0, 1);
        for (int i = 1; i < 399; i++) {
            due("filling " + i, x.tell(0, CHANGED, 1, 1, 0, 10, i), i);
        }
        due("a refused one fills nothing", x.tell(0, MADE, 0, 0, 0, 10, 399), -6);
        due("the 400th", x.take(0, 398, 399), 399);
        due("tell", x.tell(0, CHANGED, 1, 1, 0, 10, 400), -4);
        due("tell in a stream without any", x.tell(1, MADE, 1, 1, 0, 10, 0), -4);
        due("mend", x.mend(0, 0, 0, 10, 3, 10, 400), -4);
        due("take", x.take(0, 1, 400), -4);
        due("in", x.in(0, 0, 0, 1, 1, 10), -4);
        due("it hasn't counted", x.latest(0), NONE);
        due("step", x.step(doing), -4);
        due("how many", x.count(0), 400);
        due("nor in the stream", x.seen(0), 400);
    }

    private static void refusedRef() {
        says(TERMS, "-5 REF: not a NUMBER of the stream;");
        ToldHouse x = new ToldHouse();
        due("of none", x.take(0, 0, 0), -5);
        due("of none", x.mend(0, 0, 0, 0, 0, 0, 0), -5);
        due("another stream", x.tell(1, MADE, 0, 0, 0, 0, 0), 0);
        due("another stream", x.tell(1, CHANGED, 0, 0, 0, 0, 1), 1);
        due("made", x.tell(0, MADE, 0, 0, 0, 0, 0), 2);
        for (int ref : new int[] {1, 2, -1, -2, MIN, MAX, 400}) {
            due("take " + ref, x.take(0, ref, 1), -5);
            due("mend " + ref, x.mend(0, ref, 0, 0, 0, 0, 1), -5);
        }
        due("mend the last", x.mend(0, 0, 0, 0, 0, 0, 1), 3);
        due("take the last", x.take(0, 1, 2), 4);
        due("take a TAKEN one", x.take(0, 2, 3), 5);
    }

    private static void refusedRefOfMended() {
        says(TERMS, "for MENDED not one of a MADE, CHANGED, ENDED one;");
        ToldHouse x = new ToldHouse();
        due("made", x.tell(0, MADE, 0, 0, 0, 0, 0), 0);
        due("changed", x.tell(0, CHANGED, 0, 0, 0, 0, 1), 1);
        due("ended", x.tell(0, ENDED, 0, 0, 0, 0, 2), 2);
        due("of MADE", x.mend(0, 0, 0, 0, 0, 0, 3), 3);
        due("of CHANGED", x.mend(0, 1, 0, 0, 0, 0, 4), 4);
        due("of ENDED", x.mend(0, 2, 0, 0, 0, 0, 5), 5);
        due("of MENDED", x.mend(0, 3, 0, 0, 0, 0, 6), -5);
        due("taken", x.take(0, 3, 6), 6);
        due("of MENDED that is VOID", x.mend(0, 3, 0, 0, 0, 0, 7), -5);
        due("of TAKEN", x.mend(0, 6, 0, 0, 0, 0, 7), -5);
        due("taken", x.take(0, 1, 7), 7);
        due("of CHANGED that is VOID", x.mend(0, 1, 0, 0, 0, 0, 8), 8);
    }

    private static void refusedNotRight() {
        says(TERMS, "-6, -7, -8: the stream would not be RIGHT by (a), (b), (c).");
        ToldHouse x = made();
        due("changed", x.tell(0, CHANGED, 0, -10, 0, 20, 1), 1);
        due("tell (a)", x.tell(0, MADE, 0, 0, 0, 10, 2), -6);
        due("tell (b)", x.tell(0, CHANGED, 0, 0, 0, 9, 2), -7);
        due("tell (c)", x.tell(0, CHANGED, 1, -1, 0, 10, 2), -8);
        due("mend (b)", x.mend(0, 1, 0, -10, 0, 9, 2), -7);
        due("mend (c)", x.mend(0, 0, 1, 999, 0, 10, 2), -8);
        due("take (a)", x.take(0, 0, 2), -6);
        due("ended", x.tell(0, ENDED, 0, 0, 0, 20, 2), 2);
        due("take (c)", x.take(0, 1, 3), -8);
        due("in (a)", x.in(0, 0, 1, 0, 0, 10), -6);
        due("in (b)", x.in(0, 0, 0, 0, 0, 21), -7);
        due("in (c)", x.in(0, 0, 0, 1, 0, 20), -8);
        due("nothing came", x.seen(0), 3);
    }

    // ---- PART 3

    private static void views() {
        says(TERMS, "PART 3. VIEWS, at most 4:");
        ToldHouse x = new ToldHouse();
        for (int v = 0; v < 4; v++) {
            due("view", x.view(0, 0), v);
        }
        for (int by = 0; by < 3; by++) {
            due("a fifth", x.view(by, 1), NONE);
        }
        due("how many", x.count(1), 4);
        due("the last", x.up(3, 0), 0);
        due("no fifth", x.up(4, 0), NONE);
    }

    private static void viewRows() {
        says(TERMS, "rows BY streams (0), keys (1), or months (2: SO / 30, 0 to 33);");
        ToldHouse x = new ToldHouse();
        due("made", x.tell(0, MADE, 1, 1, 0, 0, 0), 0);
        due("made", x.tell(19, MADE, 1, 2, 9, 29, 0), 1);
        due("changed", x.tell(0, CHANGED, 1, 4, 1, 30, 1), 2);
        due("changed", x.tell(0, CHANGED, 1, 8, 8, 989, 2), 3);
        due("changed", x.tell(19, CHANGED, 1, 16, 8, 990, 1), 4);
        due("changed", x.tell(19, CHANGED, 1, 32, 9, 999, 2), 5);
        for (int by = 0; by < 3; by++) {
            due("view", x.view(by, 0), by);
            due("reads", x.read(by, 400), 6);
        }
        due("stream 0", x.at(0, 0), 13);
        due("stream 19", x.at(0, 19), 50);
        due("stream 1", x.at(0, 1), 0);
        due("key 0", x.at(1, 0), 1);
        due("key 1", x.at(1, 1), 4);
        due("key 8", x.at(1, 8), 24);
        due("key 9", x.at(1, 9), 34);
        due("month 0", x.at(2, 0), 3);
        due("month 1", x.at(2, 1), 4);
        due("month 32", x.at(2, 32), 8);
        due("month 33", x.at(2, 33), 48);
        int[] beyond = {20, 10, 34};
        for (int by = 0; by < 3; by++) {
            due("no such row", x.at(by, beyond[by]), 0);
            due("no such row", x.at(by, -1), 0);
        }
    }

    private static void viewWhat() {
        says(TERMS, "WHAT: the sum of READ amounts (0) of VALID MADE and CHANGED ones, or how many these are (1).");
        ToldHouse x = made();
        due("sums", x.view(0, 0), 0);
        due("how many", x.view(0, 1), 1);
        due("how many by months", x.view(2, 1), 2);
        due("changed", x.tell(0, CHANGED, 1, -1000, 0, 10, 1), 1);
        due("changed", x.tell(0, CHANGED, 1, 0, 0, 10, 2), 2);
        due("ended", x.tell(0, ENDED, 0, 0, 0, 300, 3), 3);
        due("mended", x.mend(0, 0, 0, 10, 3, 10, 4), 4);
        for (int v = 0; v < 3; v++) {
            due("reads", x.read(v, 400), 5);
        }
        due("sum", x.at(0, 0), 0);
        due("ENDED and MENDED aren't counted", x.at(1, 0), 3);
        due("nor ENDED by its month", x.at(2, 10), 0);
        due("one is VOID", x.take(0, 2, 5), 5);
        due("reads", x.read(1, 400), 1);
        due("nor TAKEN, nor what is VOID", x.at(1, 0), 2);
        ToldHouse y = new ToldHouse();
        due("view", y.view(0, 0), 0);
        for (int i = 0; i < 50; i++) {
            due("50 times 100000000", y.tell(0, i == 0 ? MADE : CHANGED, 0, 1000000, 0, 0, i), i);
        }
        due("reads", y.read(0, 400), 50);
        due("a sum beyond an int", y.at(0, 0), 5000000000L);
    }

    private static void viewHasRead() {
        says(TERMS, "A view has read so many happenings (over all): its rows are those of these alone (VALID as by them).");
        ToldHouse x = made();
        due("another stream", x.tell(1, MADE, 1, 7, 3, 10, 0), 1);
        due("mended", x.mend(0, 0, 1, 5, 4, 40, 1), 2);
        due("taken", x.take(0, 1, 2), 3);
        due("taken", x.take(1, 0, 1), 4);
        due("view", x.view(1, 0), 0);
        long[][] rows = {{0, 0}, {1000, 0}, {1007, 0}, {7, 5}, {1007, 0}, {1000, 0}};
        for (int n = 0; n < rows.length; n++) {
            due("has read", x.up(0, 0), n);
            due("key 3", x.at(0, 3), rows[n][0]);
            due("key 4", x.at(0, 4), rows[n][1]);
            due("reads", x.read(0, 1), n < 5 ? 1 : 0);
        }
        due("all is known meanwhile", x.sum(0, 999, 999, 10), 1000);
    }

    private static void doings() {
        says(TERMS, "DOINGS, at most 10,");
        ToldHouse x = new ToldHouse();
        for (int d = 0; d < 10; d++) {
            due("doing", x.doing(), d);
        }
        due("an eleventh", x.doing(), NONE);
        due("how many", x.count(2), 10);
        due("the last", x.leg(9, 0, 0), 1);
        due("no eleventh", x.leg(10, 0, 0), NONE);
    }

    private static void legsOfADoing() {
        says(TERMS, "of 1 to 4 LEGS (a stream, an amount in hundredths, -1000000 to 1000000).");
        ToldHouse x = new ToldHouse();
        due("made", x.tell(0, MADE, 0, 10000, 0, 0, 0), 0);
        due("made", x.tell(19, MADE, 0, 0, 0, 0, 0), 1);
        due("doing", x.doing(), 0);
        due("without a LEG", x.go(0), false);
        for (int amount : new int[] {1000001, -1000001, MIN, MAX}) {
            due("amount " + amount, x.leg(0, 0, amount), NONE);
        }
        due("the least", x.leg(0, 0, -1000000), 1);
        due("the greatest", x.leg(0, 19, 1000000), 2);
        due("nothing", x.leg(0, 19, 0), 3);
        due("a fourth", x.leg(0, 0, 1), 4);
        due("a fifth", x.leg(0, 0, 1), NONE);
        due("how many", x.ends(0, 1), 4);
        due("goes", x.go(0), true);
        for (int leg = 0; leg < 4; leg++) {
            due("step", x.step(0), 2 + leg);
        }
        due("hundredths", x.sum(0, 0, 0, 10), 1);
        due("hundredths", x.sum(19, 0, 0, 10), 1000000);
        due("with one LEG", x.step(going(x, 0, 5)), 6);
    }

    private static void howADoingIs() {
        says(TERMS, "It is 0 told, 1 going, 2 undoing, 3 done, 4 undone.");
        ToldHouse x = new ToldHouse();
        due("made", x.tell(0, MADE, 0, 10, 0, 0, 0), 0);
        due("doing", x.doing(), 0);
        due("told", x.ends(0, 0), 0);
        due("leg", x.leg(0, 0, 1), 1);
        due("leg", x.leg(0, 1, 1), 2);
        due("told", x.ends(0, 0), 0);
        due("goes", x.go(0), true);
        due("going", x.ends(0, 0), 1);
        due("step", x.step(0), 1);
        due("going", x.ends(0, 0), 1);
        due("refused", x.step(0), -6);
        due("undoing", x.ends(0, 0), 2);
        due("step", x.step(0), 2);
        due("undone", x.ends(0, 0), 4);
        due("step", x.step(going(x, 0, 1)), 3);
        due("done", x.ends(1, 0), 3);
    }

    private static void stepOfOneThatGoes() {
        says(TERMS, "A STEP of one that goes: its next LEG: a CHANGED command (FORM 1, key 9, SO TODAY);");
        ToldHouse x = made();
        due("made", x.tell(3, MADE, 0, 0, 0, 10, 0), 1);
        due("day", x.day(10), true);
        int doing = going(x, 0, -1000, 3, 600, 0, 25);
        due("the first", x.step(doing), 2);
        fields(x, 2, 0, 1, CHANGED, 1, -1000, 9, 10, 10, NONE, 1);
        due("day", x.day(999), true);
        due("the second", x.step(doing), 3);
        fields(x, 3, 3, 1, CHANGED, 1, 600, 9, 999, 999, NONE, 1);
        due("seen isn't asked", x.tell(0, CHANGED, 0, 0, 0, 999, 2), 4);
        due("the third", x.step(doing), 5);
        fields(x, 5, 0, 3, CHANGED, 1, 25, 9, 999, 999, NONE, 1);
    }

    private static void stepRefused() {
        says(TERMS, "refused: it's undoing (undone at once, if no LEG was done);");
        ToldHouse x = made();
        int ahead = going(x, 0, 1);
        due("SO TODAY is ahead of MADE", x.step(ahead), -7);
        due("undone at once", x.ends(ahead, 0), 4);
        due("day", x.day(10), true);
        int first = going(x, 0, -1001, 0, 1);
        due("the first LEG", x.step(first), -8);
        due("undone at once", x.ends(first, 0), 4);
        due("over", x.step(first), -1);
        int second = going(x, 0, -1000, 0, -1, 0, 1);
        due("the first LEG", x.step(second), 1);
        due("the second LEG", x.step(second), -8);
        due("undoing", x.ends(second, 0), 2);
        due("one was done", x.ends(second, 2), 1);
        due("nothing came of the second", x.count(0), 2);
        ToldHouse y = full();
        int none = going(y, 0, 1);
        due("there are 400", y.step(none), -4);
        due("undone at once", y.ends(none, 0), 4);
    }

    private static void stepBehindTheLast() {
        says(TERMS, "behind the last LEG it's done.");
        ToldHouse x = made();
        due("day", x.day(10), true);
        int doing = going(x, 0, 1, 0, 1, 0, 1, 0, 1);
        for (int leg = 0; leg < 4; leg++) {
            due("going", x.ends(doing, 0), 1);
            due("LEGS done", x.ends(doing, 2), leg);
            due("step", x.step(doing), 1 + leg);
        }
        due("done", x.ends(doing, 0), 3);
        due("LEGS done", x.ends(doing, 2), 4);
        due("over", x.step(doing), -1);
    }

    private static void stepOfOneUndoing() {
        says(TERMS, "A STEP of one that is undoing: of the last LEG that is done and not undone a TAKEN command (its"
            + " happening; FORM, amount, key 0, SO TODAY);");
        ToldHouse x = made();
        due("made", x.tell(3, MADE, 0, 0, 0, 10, 0), 1);
        due("day", x.day(10), true);
        int doing = going(x, 0, -5, 3, 5, 0, -7, 9, 1);
        for (int leg = 0; leg < 3; leg++) {
            due("step", x.step(doing), 2 + leg);
        }
        due("refused", x.step(doing), -6);
        due("day", x.day(30), true);
        due("undo the third", x.step(doing), 5);
        fields(x, 5, 0, 3, TAKEN, 0, 0, 0, 30, 30, 2, 1);
        due("sum", x.sum(0, 30, 30, 10), 995);
        due("seen isn't asked", x.tell(3, CHANGED, 0, 0, 0, 10, 2), 6);
        due("day", x.day(999), true);
        due("undo the second", x.step(doing), 7);
        fields(x, 7, 3, 3, TAKEN, 0, 0, 0, 999, 999, 1, 1);
        due("undo the first", x.step(doing), 8);
        fields(x, 8, 0, 4, TAKEN, 0, 0, 0, 999, 999, 1, 1);
        due("sum", x.sum(0, 999, 999, 10), 1000);
    }

    private static void stepUndoingRefused() {
        says(TERMS, "refused: it's told so, and stays;");
        ToldHouse x = made();
        due("day", x.day(10), true);
        int doing = going(x, 0, 500, 7, 1);
        due("step", x.step(doing), 1);
        due("refused", x.step(doing), -6);
        due("spent", x.tell(0, CHANGED, 1, -1001, 0, 10, NONE), 2);
        for (int turn = 0; turn < 3; turn++) {
            due("refused", x.step(doing), -8);
            due("stays", x.ends(doing, 0), 2);
            due("none is undone", x.ends(doing, 3), 0);
        }
        due("given back", x.tell(0, CHANGED, 1, 1, 0, 10, NONE), 3);
        due("step", x.step(doing), 4);
        due("undone", x.ends(doing, 0), 4);
        ToldHouse y = made();
        due("day", y.day(10), true);
        doing = going(y, 0, 500, 7, 1);
        due("step", y.step(doing), 1);
        due("refused", y.step(doing), -6);
        for (int i = 2; i < 400; i++) {
            due("filling " + i, y.tell(0, CHANGED, 1, 1, 0, 10, i), i);
        }
        due("there are 400", y.step(doing), -4);
        due("stays", y.ends(doing, 0), 2);
    }

    private static void stepBehindTheFirst() {
        says(TERMS, "behind the first LEG it's undone.");
        ToldHouse x = made();
        due("day", x.day(10), true);
        int doing = going(x, 0, 1, 0, 2, 0, 3, 7, 1);
        for (int leg = 0; leg < 3; leg++) {
            due("step", x.step(doing), 1 + leg);
        }
        due("refused", x.step(doing), -6);
        for (int leg = 0; leg < 3; leg++) {
            due("undoing", x.ends(doing, 0), 2);
            due("LEGS undone", x.ends(doing, 3), leg);
            due("step", x.step(doing), 4 + leg);
        }
        due("undone", x.ends(doing, 0), 4);
        due("LEGS undone", x.ends(doing, 3), 3);
        due("over", x.step(doing), -1);
    }

    private static void senders() {
        says(TERMS, "LETTERS come from SENDERS 0 to 3 with numbers 0 on;");
        ToldHouse x = made();
        for (int sender : new int[] {-1, 4, MIN, MAX}) {
            due("sender " + sender, x.in(sender, 0, 0, 1, 0, 10), -2);
            due("latest of " + sender, x.latest(sender), NONE);
        }
        for (int sender = 0; sender < 4; sender++) {
            due("number -1", x.in(sender, -1, 0, 1, 0, 10), -2);
            due("number 0 of " + sender, x.in(sender, 0, 0, 1, 0, 10), 1 + sender);
        }
        due("the greatest", x.in(3, MAX, 0, 1, 0, 10), 5);
    }

    private static void latest32() {
        says(TERMS, "of each the latest 32 are remembered: a number at most the greatest that counted less 32 is OLD.");
        ToldHouse x = made();
        due("31", x.in(0, 31, 0, 1, 0, 10), 1);
        for (int n = 0; n < 31; n++) {
            due("less than 32 less: " + n, x.in(0, n, 0, 1, 0, 10), 2 + n);
        }
        for (int n = 0; n < 32; n++) {
            due("all 32 are remembered: " + n, x.in(0, n, 0, 1, 0, 10), -9);
        }
        due("32", x.in(0, 32, 0, 1, 0, 10), 33);
        due("0 is OLD", x.in(0, 0, 0, 1, 0, 10), -10);
        for (int n = 1; n < 33; n++) {
            due("32 are remembered: " + n, x.in(0, n, 0, 1, 0, 10), -9);
        }
        due("by 31 on", x.in(0, 63, 0, 1, 0, 10), 34);
        due("31 is OLD", x.in(0, 31, 0, 1, 0, 10), -10);
        due("32 has counted", x.in(0, 32, 0, 1, 0, 10), -9);
        due("33 hasn't", x.in(0, 33, 0, 1, 0, 10), 35);
        due("by 32 on", x.in(0, 95, 0, 1, 0, 10), 36);
        due("63 is OLD", x.in(0, 63, 0, 1, 0, 10), -10);
        due("64 hasn't counted", x.in(0, 64, 0, 1, 0, 10), 37);
        due("65 hasn't, though 33 had", x.in(0, 65, 0, 1, 0, 10), 38);
        due("by 33 on", x.in(0, 128, 0, 1, 0, 10), 39);
        due("97 hasn't", x.in(0, 97, 0, 1, 0, 10), 40);
        due("the greatest", x.in(0, MAX, 0, 1, 0, 10), 41);
        due("less 32", x.in(0, MAX - 32, 0, 1, 0, 10), -10);
        due("less 31", x.in(0, MAX - 31, 0, 1, 0, 10), 42);
        due("less 31 has counted", x.in(0, MAX - 31, 0, 1, 0, 10), -9);
        due("0 is OLD", x.in(0, 0, 0, 1, 0, 10), -10);
        due("another sender's 0 isn't", x.in(1, 0, 0, 1, 0, 10), 43);
        due("its greatest at once", x.in(1, MAX, 0, 1, 0, 10), 44);
        due("0 is OLD, though it had counted", x.in(1, 0, 0, 1, 0, 10), -10);
        due("a sender's first is its greatest", x.in(2, MAX, 0, 1, 0, 10), 45);
        due("less 1 hasn't counted", x.in(2, MAX - 1, 0, 1, 0, 10), 46);
    }

    // ---- promises 1 to 9

    private static void nothingHasHappened() {
        says(1, "Nothing has happened.");
        made();
        ToldHouse x = new ToldHouse();
        for (int what = 0; what < 4; what++) {
            due("count(" + what + ")", x.count(what), 0);
        }
        for (int s = 0; s < 20; s++) {
            due("seen", x.seen(s), 0);
            due("number", x.number(s, 0), NONE);
            due("sum", x.sum(s, 999, 999, 10), 0);
            due("state", x.state(s, 999, 999), 0);
        }
        for (int s = 0; s < 4; s++) {
            due("latest", x.latest(s), NONE);
        }
        due("happening", x.happening(0, 0), NONE);
        due("view", x.up(0, 0), NONE);
        due("doing", x.ends(0, 0), NONE);
        due("check", x.check(0, NONE, 0), -2);
    }

    private static void dayLater() {
        says(2, "TODAY becomes a later day: true.");
        ToldHouse x = new ToldHouse();
        for (int d : new int[] {1, 2, 998, 999}) {
            due("day(" + d + ")", x.day(d), true);
            due("TODAY", x.count(3), d);
        }
    }

    private static void dayNotLater() {
        says(2, "False, doing nothing: it isn't later, or above 999.");
        ToldHouse x = new ToldHouse();
        for (int d : new int[] {0, -1, MIN, 1000, MAX}) {
            due("day(" + d + ")", x.day(d), false);
            due("TODAY", x.count(3), 0);
        }
        due("day(50)", x.day(50), true);
        for (int d : new int[] {50, 49, 0, -1, MIN, 1000, MAX}) {
            due("day(" + d + ")", x.day(d), false);
            due("TODAY", x.count(3), 50);
        }
        due("day(51)", x.day(51), true);
    }

    private static void tellKinds() {
        says(3, "MADE, CHANGED or ENDED (kind 0 to 2;");
        ToldHouse x = new ToldHouse();
        due("MADE", x.tell(0, 0, 0, 0, 0, 0, NONE), 0);
        due("CHANGED", x.tell(0, 1, 0, 0, 0, 0, NONE), 1);
        for (int kind : new int[] {-1, 3, 4, 5, MIN, MAX}) {
            due("kind " + kind, x.tell(0, kind, 0, 0, 0, 0, NONE), -2);
        }
        due("ENDED", x.tell(0, 2, 0, 0, 0, 0, NONE), 2);
        for (int h = 0; h < 3; h++) {
            due("KIND", x.happening(h, 2), h);
        }
    }

    private static void tellEnded() {
        says(3, "of ENDED form, amount and key count for nothing and are 0):");
        int[][] said = {{2, 0, 0}, {-1, 0, 0}, {0, 1000001, 0}, {0, MIN, 0}, {0, 0, 10}, {0, 0, -1}, {1, 5, 5}, {MAX, MAX, MAX}};
        for (int[] t : said) {
            ToldHouse x = new ToldHouse();
            due("made", x.tell(0, MADE, 0, 0, 0, 0, 0), 0);
            due("ended", x.tell(0, ENDED, t[0], t[1], t[2], 7, 1), 1);
            fields(x, 1, 0, 1, ENDED, 0, 0, 0, 7, 0, NONE, 0);
            due("READ", x.happening(1, 11), 0);
            due("the stream is asked", x.tell(20, ENDED, t[0], t[1], t[2], 7, NONE), -2);
            due("SO is asked", x.tell(0, ENDED, t[0], t[1], t[2], 1000, NONE), -2);
        }
    }

    private static void tellNumber() {
        says(3, "the happening's number over all;");
        ToldHouse x = new ToldHouse();
        for (int s = 0; s < 20; s++) {
            due("tell", x.tell(19 - s, MADE, 0, 0, 0, 0, 0), s);
            due("its stream", x.happening(s, 0), 19 - s);
        }
    }

    private static void tellWhyNot() {
        says(3, "else why not (-2 to -8).");
        ToldHouse x = made();
        due("-2", x.tell(0, 3, 0, 0, 0, 10, NONE), -2);
        due("-3", x.tell(0, CHANGED, 0, 0, 0, 10, 0), -3);
        due("-6", x.tell(0, MADE, 0, 0, 0, 10, 1), -6);
        due("-7", x.tell(0, CHANGED, 0, 0, 0, 9, 1), -7);
        due("-8", x.tell(0, CHANGED, 0, -11, 0, 10, 1), -8);
        due("nothing came", x.count(0), 1);
        ToldHouse y = full();
        due("-4", y.tell(0, CHANGED, 0, 0, 0, 10, 400), -4);
        due("nothing came", y.count(0), 400);
    }

    private static void mended() {
        says(4, "MENDED. Likewise.");
        ToldHouse x = made();
        due("day", x.day(4), true);
        due("changed", x.tell(0, CHANGED, 0, -10, 0, 20, 1), 1);
        due("-2", x.mend(0, 0, 0, 0, 10, 10, 2), -2);
        due("-3", x.mend(0, 0, 0, 10, 3, 10, 1), -3);
        due("-5", x.mend(0, 2, 0, 10, 3, 10, 2), -5);
        due("-6 is none here: a mending leaves each VALID", x.mend(0, 0, 0, 10, 3, 20, 2), 2);
        due("-7", x.mend(0, 0, 0, 10, 3, 21, 3), -7);
        due("-8", x.mend(0, 0, 1, 999, 3, 10, 3), -8);
        due("nothing came", x.count(0), 3);
        fields(x, 2, 0, 2, MENDED, 0, 10, 3, 20, 4, 0, 0);
        due("all it says", x.mend(0, 1, 1, -1000, 9, 999, 3), 3);
        fields(x, 3, 0, 3, MENDED, 1, -1000, 9, 999, 4, 1, 0);
        ToldHouse y = full();
        due("-4", y.mend(0, 0, 0, 10, 3, 10, 400), -4);
    }

    private static void taken() {
        says(5, "TAKEN (FORM, amount, key 0, SO TODAY).");
        ToldHouse x = made();
        due("changed", x.tell(0, CHANGED, 1, 7, 8, 20, 1), 1);
        due("on day 0", x.take(0, 1, 2), 2);
        fields(x, 2, 0, 2, TAKEN, 0, 0, 0, 0, 0, 1, 0);
        due("day", x.day(999), true);
        due("on day 999", x.take(0, 2, 3), 3);
        fields(x, 3, 0, 3, TAKEN, 0, 0, 0, 999, 999, 2, 0);
        due("READ", x.happening(3, 11), 0);
    }

    private static void takenLikewise() {
        says(5, "Likewise.");
        ToldHouse x = made();
        due("changed", x.tell(0, CHANGED, 1, -1000, 8, 20, 1), 1);
        due("-2", x.take(20, 0, 2), -2);
        due("-3", x.take(0, 0, 3), -3);
        due("-5", x.take(0, 2, 2), -5);
        due("-6", x.take(0, 0, 2), -6);
        due("ended", x.tell(0, ENDED, 0, 0, 0, 20, 2), 2);
        due("-8", x.take(0, 1, 3), -8);
        due("ENDED is taken", x.take(0, 2, 3), 3);
        due("changed", x.tell(0, CHANGED, 1, 0, 8, 21, 4), 4);
        due("-7", x.take(0, 3, 5), -7);
        due("nothing came", x.count(0), 5);
        ToldHouse y = full();
        due("-4", y.take(0, 1, 400), -4);
    }

    private static void happeningFields() {
        says(6, "Of a happening: stream (0), NUMBER (1), KIND (2), FORM (3), amount (4), key (5), SO (6), KNOWN (7),"
            + " REF (8), BY (9);");
        ToldHouse x = made();
        due("day", x.day(13), true);
        due("in", x.in(2, 0, 0, -17, 6, 11), 1);
        due("mend", x.mend(0, 1, 1, -19, 7, 12, 2), 2);
        fields(x, 0, 0, 0, MADE, 0, 10, 3, 10, 0, NONE, 0);
        fields(x, 1, 0, 1, CHANGED, 1, -17, 6, 11, 13, NONE, 102);
        fields(x, 2, 0, 2, MENDED, 1, -19, 7, 12, 13, 1, 0);
    }

    private static void happeningVoid() {
        says(6, "whether it's VOID by all (10),");
        ToldHouse x = made();
        due("isn't", x.happening(0, 10), 0);
        due("view", x.view(0, 0), 0);
        due("reads", x.read(0, 1), 1);
        due("day", x.day(5), true);
        due("take", x.take(0, 0, 1), 1);
        due("an asking by fewer", x.sum(0, 999, 0, 10), 1000);
        due("by all all the same", x.happening(0, 10), 1);
        due("an asking by fewer", x.at(0, 0), 1000);
        due("by all all the same", x.happening(0, 10), 1);
        due("TAKEN isn't", x.happening(1, 10), 0);
        due("a refused take", x.take(0, 1, 0), -3);
        due("TAKEN isn't", x.happening(1, 10), 0);
        due("take", x.take(0, 1, 2), 2);
        due("isn't any more", x.happening(0, 10), 0);
        due("TAKEN is", x.happening(1, 10), 1);
        due("one that would not be RIGHT", x.tell(0, CHANGED, 0, 0, 0, 20, 3), 3);
        due("is refused", x.take(0, 0, 4), -6);
        due("and leaves no mark", x.happening(0, 10), 0);
    }

    private static void happeningRead() {
        says(6, "READ amount (11; not as mended).");
        ToldHouse x = made();
        due("changed", x.tell(0, CHANGED, 1, 77, 0, 10, 1), 1);
        due("mend", x.mend(0, 0, 1, 5, 3, 10, 2), 2);
        due("mend", x.mend(0, 1, 0, 6, 3, 10, 3), 3);
        long[] want = {1000, 77, 5, 600};
        for (int h = 0; h < want.length; h++) {
            due("READ", x.happening(h, 11), want[h]);
        }
    }

    private static void happeningNone() {
        says(6, "NONE: there is none such.");
        ToldHouse x = new ToldHouse();
        for (int what = -1; what <= 12; what++) {
            due("of none", x.happening(0, what), NONE);
        }
        due("made", x.tell(1, MADE, 0, 10, 3, 10, 0), 0);
        for (int what = -1; what <= 12; what++) {
            for (int h : new int[] {-1, 1, MIN, MAX}) {
                due("happening " + h, x.happening(h, what), NONE);
            }
        }
        for (int what : new int[] {-1, 12, MIN, MAX}) {
            due("what " + what, x.happening(0, what), NONE);
        }
        for (int h = 1; h < 400; h++) {
            due("tell " + h, x.tell(1, CHANGED, 0, 0, 0, 10, h), h);
            due("behind " + h, x.happening(h + 1, 0), NONE);
        }
    }

    private static void numberOf() {
        says(7, "The happening that is NUMBER n of a stream.");
        ToldHouse x = full();
        due("the first", x.number(0, 0), 0);
        due("the last", x.number(0, 399), 399);
        ToldHouse y = new ToldHouse();
        due("made", y.tell(19, MADE, 0, 0, 0, 0, 0), 0);
        due("made", y.tell(0, MADE, 0, 0, 0, 0, 0), 1);
        due("changed", y.tell(19, CHANGED, 0, 0, 0, 0, 1), 2);
        due("of stream 19", y.number(19, 0), 0);
        due("of stream 19", y.number(19, 1), 2);
        due("of stream 0", y.number(0, 0), 1);
    }

    private static void numberNone() {
        says(7, "NONE: there is none.");
        ToldHouse x = made();
        for (int n : new int[] {1, -1, MIN, MAX}) {
            due("n " + n, x.number(0, n), NONE);
        }
        due("a stream without any", x.number(1, 0), NONE);
        for (int s : new int[] {-1, 20, MIN, MAX}) {
            due("stream " + s, x.number(s, 0), NONE);
        }
        // A row that is as long as the room that it has is the edge here, wherever that is.
        ToldHouse y = new ToldHouse();
        for (int n = 0; n < 400; n++) {
            due("behind " + n, y.number(0, n), NONE);
            due("tell " + n, y.tell(0, n == 0 ? MADE : CHANGED, 0, 0, 0, 0, n), n);
        }
        due("behind 400", y.number(0, 400), NONE);
    }

    private static void countOf() {
        says(8, "How many happenings (0), views (1), doings (2), TODAY (3).");
        ToldHouse x = made();
        due("changed", x.tell(0, CHANGED, 0, 0, 0, 10, 1), 1);
        due("taken", x.take(0, 1, 2), 2);
        due("mended", x.mend(0, 1, 0, 0, 0, 10, 3), 3);
        due("view", x.view(0, 0), 0);
        due("view", x.view(0, 0), 1);
        due("view", x.view(0, 0), 2);
        due("doing", x.doing(), 0);
        due("doing", x.doing(), 1);
        due("day", x.day(7), true);
        long[] want = {4, 3, 2, 7};
        for (int what = 0; what < 4; what++) {
            due("count(" + what + ")", x.count(what), want[what]);
        }
    }

    private static void countOthers() {
        says(8, "NONE for others.");
        for (int what : new int[] {-1, 4, MIN, MAX}) {
            due("count(" + what + ")", made().count(what), NONE);
        }
    }

    private static void seenOf() {
        says(9, "How many happenings a stream has.");
        ToldHouse x = made();
        due("one", x.seen(0), 1);
        due("none", x.seen(1), 0);
        due("refused", x.tell(0, MADE, 0, 0, 0, 10, 1), -6);
        due("one", x.seen(0), 1);
        due("taken", x.take(0, 0, 1), 1);
        due("two, VOID or not", x.seen(0), 2);
        due("400", full().seen(0), 400);
    }

    private static void seenNone() {
        says(9, "NONE: none such.");
        for (int s : new int[] {-1, 20, MIN, MAX}) {
            due("seen(" + s + ")", made().seen(s), NONE);
        }
    }

    // ---- promises 10 to 16

    private static void sumOf() {
        says(10, "Of a stream at a day t, as KNOWN by a day k (both 0 to 999):");
        ToldHouse x = new ToldHouse();
        due("made", x.tell(0, MADE, 1, 1, 0, 0, 0), 0);
        due("changed", x.tell(0, CHANGED, 1, 2, 0, 999, 1), 1);
        due("day", x.day(999), true);
        due("changed", x.tell(0, CHANGED, 1, 4, 0, 0, 2), 2);
        due("changed", x.tell(0, CHANGED, 1, 8, 0, 999, 3), 3);
        due("t 0, k 0", x.sum(0, 0, 0, 10), 1);
        due("t 998, k 0", x.sum(0, 998, 0, 10), 1);
        due("t 999, k 0", x.sum(0, 999, 0, 10), 3);
        due("t 0, k 998", x.sum(0, 0, 998, 10), 1);
        due("t 0, k 999", x.sum(0, 0, 999, 10), 5);
        due("t 999, k 999", x.sum(0, 999, 999, 10), 15);
    }

    private static void sumKeys() {
        says(10, "the sum of amounts of VALID ones SO by t (key 10: of all; 0 to 9: of that key).");
        ToldHouse x = new ToldHouse();
        for (int key = 0; key < 10; key++) {
            due("tell", x.tell(0, key == 0 ? MADE : CHANGED, 1, 1 << key, key, key, key), key);
        }
        for (int key = 0; key < 10; key++) {
            due("key " + key, x.sum(0, 9, 0, key), 1 << key);
            due("the day ahead", x.sum(0, Math.max(0, key - 1), 0, key), key == 0 ? 1 : 0);
            due("of all", x.sum(0, key, 0, 10), (2 << key) - 1);
        }
        due("taken", x.take(0, 5, 10), 10);
        due("VOID", x.sum(0, 9, 0, 5), 0);
        due("of all", x.sum(0, 9, 0, 10), 1023 - 32);
        due("another stream", x.sum(1, 9, 0, 10), 0);
    }

    private static void sumNotAsTold() {
        says(10, "0 of what is not as told.");
        ToldHouse x = new ToldHouse();
        due("made", x.tell(0, MADE, 0, 10, 0, 0, 0), 0);
        for (int w : new int[] {-1, MIN, MAX}) {
            due("stream", x.sum(w, 999, 999, 10), 0);
            due("t", x.sum(0, w, 999, 10), 0);
            due("k", x.sum(0, 999, w, 10), 0);
            due("key", x.sum(0, 999, 999, w), 0);
        }
        due("stream 20", x.sum(20, 999, 999, 10), 0);
        due("t 1000", x.sum(0, 1000, 999, 10), 0);
        due("k 1000", x.sum(0, 999, 1000, 10), 0);
        due("key 11", x.sum(0, 999, 999, 11), 0);
    }

    private static void stateOf() {
        says(11, "Likewise: 0 not made, 1 MADE (SO by t), 2 ENDED (SO by t).");
        ToldHouse x = new ToldHouse();
        due("made", x.tell(0, MADE, 0, 0, 0, 10, 0), 0);
        due("changed", x.tell(0, CHANGED, 0, 0, 0, 12, 1), 1);
        due("day", x.day(5), true);
        due("ended", x.tell(0, ENDED, 0, 0, 0, 20, 2), 2);
        due("a day ahead of MADE", x.state(0, 9, 999), 0);
        due("MADE's day", x.state(0, 10, 999), 1);
        due("a day ahead of ENDED", x.state(0, 19, 999), 1);
        due("ENDED's day", x.state(0, 20, 999), 2);
        due("a day ahead of its KNOWN", x.state(0, 20, 4), 1);
        due("KNOWN", x.state(0, 20, 5), 2);
        due("t 0, k 0", x.state(0, 0, 0), 0);
        due("t 999, k 0", x.state(0, 999, 0), 1);
        due("another stream", x.state(1, 999, 999), 0);
        ToldHouse y = new ToldHouse();
        due("made", y.tell(0, MADE, 0, 0, 0, 10, 0), 0);
        due("ended on the same day", y.tell(0, ENDED, 0, 0, 0, 10, 1), 1);
        due("ahead of it", y.state(0, 9, 0), 0);
        due("that day", y.state(0, 10, 0), 2);
    }

    private static void stateNotAsTold() {
        says(11, "NONE: not as told.");
        ToldHouse x = made();
        for (int w : new int[] {-1, MIN, MAX}) {
            due("stream", x.state(w, 999, 999), NONE);
            due("t", x.state(0, w, 999), NONE);
            due("k", x.state(0, 999, w), NONE);
        }
        due("stream 20", x.state(20, 999, 999), NONE);
        due("t 1000", x.state(0, 1000, 999), NONE);
        due("k 1000", x.state(0, 999, 1000), NONE);
    }

    private static void viewNumber() {
        says(12, "A view: its number.");
        ToldHouse x = new ToldHouse();
        due("the first", x.view(2, 1), 0);
        due("the second", x.view(0, 0), 1);
        due("its own rows", x.up(0, 1), 34);
        due("its own rows", x.up(1, 1), 20);
    }

    private static void viewNone() {
        says(12, "NONE, doing nothing: not as told; 4 are there.");
        ToldHouse x = new ToldHouse();
        for (int w : new int[] {-1, 3, MIN, MAX}) {
            due("by " + w, x.view(w, 0), NONE);
            due("what " + w, x.view(0, w), NONE);
        }
        due("what 2", x.view(0, 2), NONE);
        due("none", x.count(1), 0);
        for (int v = 0; v < 4; v++) {
            due("view", x.view(v % 3, v % 2), v);
        }
        due("4 are there", x.view(1, 1), NONE);
        due("how many", x.count(1), 4);
        due("the last is as it was", x.up(3, 1), 20);
    }

    private static void readMore() {
        says(13, "A view reads n happenings more (0 to 400), as long as there are: how many.");
        ToldHouse x = new ToldHouse();
        due("view", x.view(0, 0), 0);
        due("none are there", x.read(0, 400), 0);
        ToldHouse y = full();
        due("view", y.view(0, 0), 0);
        due("view", y.view(0, 0), 1);
        due("0", y.read(0, 0), 0);
        due("399", y.read(0, 399), 399);
        due("2", y.read(0, 2), 1);
        due("1", y.read(0, 1), 0);
        due("400", y.read(1, 400), 400);
        due("400 more", y.read(1, 400), 0);
        due("all is read", y.up(1, 2), 0);
    }

    private static void readNone() {
        says(13, "NONE: no such view, n.");
        ToldHouse x = made();
        due("no view yet", x.read(0, 1), NONE);
        due("view", x.view(0, 0), 0);
        for (int v : new int[] {-1, 1, 4, MIN, MAX}) {
            due("view " + v, x.read(v, 1), NONE);
        }
        for (int n : new int[] {-1, 401, MIN, MAX}) {
            due("n " + n, x.read(0, n), NONE);
        }
        due("nothing was read", x.up(0, 0), 0);
    }

    private static void upOf() {
        says(14, "How many a view has read (0), rows it has (1: 20, 10 or 34), happenings it hasn't read (2).");
        ToldHouse x = new ToldHouse();
        int[] rows = {20, 10, 34};
        for (int v = 0; v < 3; v++) {
            due("view", x.view(v, 0), v);
            due("rows", x.up(v, 1), rows[v]);
            due("has read", x.up(v, 0), 0);
            due("hasn't read", x.up(v, 2), 0);
        }
        for (int i = 0; i < 5; i++) {
            due("tell", x.tell(0, i == 0 ? MADE : CHANGED, 0, 0, 0, 0, i), i);
        }
        due("hasn't read", x.up(1, 2), 5);
        due("reads", x.read(1, 3), 3);
        due("has read", x.up(1, 0), 3);
        due("hasn't read", x.up(1, 2), 2);
        due("rows are as many", x.up(1, 1), 10);
        due("the other", x.up(2, 0), 0);
    }

    private static void upOthers() {
        says(14, "NONE for others.");
        ToldHouse x = made();
        due("no view yet", x.up(0, 0), NONE);
        due("view", x.view(0, 0), 0);
        for (int w : new int[] {-1, 3, 4, MIN, MAX}) {
            due("what " + w, x.up(0, w), NONE);
            due("view " + w, x.up(w, 0), NONE);
        }
        due("view 1", x.up(1, 0), NONE);
    }

    private static void atRow() {
        says(15, "A view's row.");
        ToldHouse x = made();
        due("changed", x.tell(0, CHANGED, 1, -1000, 4, 20, 1), 1);
        due("sums by streams", x.view(0, 0), 0);
        due("how many by streams", x.view(0, 1), 1);
        due("sums by keys", x.view(1, 0), 2);
        due("sums by months", x.view(2, 0), 3);
        for (int v = 0; v < 4; v++) {
            due("nothing is read", x.at(v, 0), 0);
            due("reads", x.read(v, 1), 1);
        }
        due("sum", x.at(0, 0), 1000);
        due("how many", x.at(1, 0), 1);
        due("key", x.at(2, 3), 1000);
        due("month", x.at(3, 0), 1000);
        for (int v = 0; v < 4; v++) {
            due("reads", x.read(v, 1), 1);
        }
        due("sum", x.at(0, 0), 0);
        due("how many", x.at(1, 0), 2);
        due("a row below 0", x.at(2, 4), -1000);
        due("key", x.at(2, 3), 1000);
    }

    private static void atNone() {
        says(15, "0: there is none such.");
        ToldHouse x = new ToldHouse();
        for (int s = 0; s < 20; s++) {
            due("made", x.tell(s, MADE, 0, 1, s % 10, 50 * s, 0), s);
        }
        due("no view yet", x.at(0, 0), 0);
        int[] rows = {20, 10, 34};
        for (int v = 0; v < 3; v++) {
            due("view", x.view(v, 1), v);
            due("reads", x.read(v, 400), 20);
            due("row beyond", x.at(v, rows[v]), 0);
            for (int row : new int[] {-1, MIN, MAX}) {
                due("row " + row, x.at(v, row), 0);
            }
        }
        for (int v : new int[] {-1, 3, 4, MIN, MAX}) {
            due("view " + v, x.at(v, 0), 0);
        }
    }

    private static void leadKth() {
        says(16, "The k-th happening (over all, rising) that makes a view's row.");
        ToldHouse x = new ToldHouse();
        due("made", x.tell(5, MADE, 0, 0, 2, 60, 0), 0);
        due("made", x.tell(1, MADE, 0, 0, 2, 10, 0), 1);
        due("changed", x.tell(5, CHANGED, 0, 0, 2, 60, 1), 2);
        due("changed, another key", x.tell(1, CHANGED, 0, 0, 3, 10, 1), 3);
        due("ended", x.tell(1, ENDED, 0, 0, 0, 10, 2), 4);
        due("mended to this key", x.mend(1, 1, 0, 0, 2, 10, 3), 5);
        due("taken", x.take(5, 1, 2), 6);
        due("view", x.view(1, 0), 0);
        due("nothing is read", x.lead(0, 2, 0), NONE);
        due("reads", x.read(0, 5), 5);
        int[] byFive = {0, 1, 2, NONE};
        for (int k = 0; k < byFive.length; k++) {
            due("by five, " + k, x.lead(0, 2, k), byFive[k]);
        }
        due("by five", x.lead(0, 3, 0), 3);
        due("reads", x.read(0, 1), 1);
        due("what mends isn't what makes", x.lead(0, 2, 3), 3);
        due("ENDED makes none", x.lead(0, 0, 0), NONE);
        due("reads", x.read(0, 1), 1);
        int[] byAll = {0, 1, 3, NONE};
        for (int k = 0; k < byAll.length; k++) {
            due("by all, " + k, x.lead(0, 2, k), byAll[k]);
        }
        ToldHouse y = full();
        due("view", y.view(0, 0), 0);
        due("reads", y.read(0, 400), 400);
        due("the last of 400", y.lead(0, 0, 399), 399);
        due("behind it", y.lead(0, 0, 400), NONE);
    }

    private static void leadNone() {
        says(16, "NONE: there is none.");
        ToldHouse x = made();
        due("no view yet", x.lead(0, 0, 0), NONE);
        int[] rows = {20, 10, 34};
        for (int v = 0; v < 3; v++) {
            due("view", x.view(v, 0), v);
            due("reads", x.read(v, 1), 1);
            for (int row : new int[] {-1, rows[v], MIN, MAX}) {
                due("row " + row, x.lead(v, row, 0), NONE);
            }
        }
        for (int k : new int[] {-1, 1, MIN, MAX}) {
            due("k " + k, x.lead(0, 0, k), NONE);
        }
        for (int v : new int[] {-1, 3, 4, MIN, MAX}) {
            due("view " + v, x.lead(v, 0, 0), NONE);
        }
        due("a row that none makes", x.lead(0, 1, 0), NONE);
    }

    // ---- promises 17 to 24

    private static void doingNumber() {
        says(17, "A doing: its number.");
        ToldHouse x = new ToldHouse();
        for (int d = 0; d < 10; d++) {
            due("doing", x.doing(), d);
            due("told", x.ends(d, 0), 0);
            due("without LEGS", x.ends(d, 1), 0);
        }
    }

    private static void doingNone() {
        says(17, "NONE: 10 are there.");
        ToldHouse x = made();
        due("day", x.day(10), true);
        for (int d = 0; d < 10; d++) {
            due("one that is over counts, too", x.step(going(x, 0, 1)), 1 + d);
        }
        due("an eleventh", x.doing(), NONE);
        due("how many", x.count(2), 10);
        due("the last is as it was", x.ends(9, 0), 3);
    }

    private static void legMore() {
        says(18, "A LEG more of a doing that is told: how many.");
        ToldHouse x = new ToldHouse();
        due("doing", x.doing(), 0);
        due("doing", x.doing(), 1);
        for (int leg = 1; leg <= 4; leg++) {
            due("leg", x.leg(0, 19, -1000000), leg);
            due("LEGS", x.ends(0, 1), leg);
        }
        due("the other's own", x.leg(1, 0, 1000000), 1);
    }

    private static void legNone() {
        says(18, "NONE, doing nothing: not as told, it isn't, 4 are there.");
        ToldHouse x = made();
        due("no doing yet", x.leg(0, 0, 1), NONE);
        due("doing", x.doing(), 0);
        for (int w : new int[] {-1, 20, MIN, MAX}) {
            due("doing " + w, x.leg(w, 0, 1), NONE);
            due("stream " + w, x.leg(0, w, 1), NONE);
        }
        due("doing 1", x.leg(1, 0, 1), NONE);
        due("amount", x.leg(0, 0, 1000001), NONE);
        due("amount", x.leg(0, 0, -1000001), NONE);
        due("none", x.ends(0, 1), 0);
        due("day", x.day(10), true);
        int going = going(x, 0, 1, 9, 1);
        due("going", x.leg(going, 0, 1), NONE);
        due("step", x.step(going), 1);
        due("refused", x.step(going), -6);
        due("undoing", x.leg(going, 0, 1), NONE);
        due("step", x.step(going), 2);
        due("undone", x.leg(going, 0, 1), NONE);
        due("as many as before", x.ends(going, 1), 2);
        int done = going(x, 0, 1);
        due("step", x.step(done), 3);
        due("done", x.leg(done, 0, 1), NONE);
        for (int leg = 1; leg <= 4; leg++) {
            due("leg", x.leg(0, 0, leg), leg);
        }
        due("4 are there", x.leg(0, 0, 5), NONE);
        due("still 4", x.ends(0, 1), 4);
    }

    private static void goes() {
        says(19, "A doing that is told, with a LEG, goes.");
        ToldHouse x = new ToldHouse();
        for (int legs = 1; legs <= 4; legs++) {
            due("doing", x.doing(), legs - 1);
            for (int leg = 1; leg <= legs; leg++) {
                due("leg", x.leg(legs - 1, 0, 0), leg);
            }
            due("go", x.go(legs - 1), true);
            due("going", x.ends(legs - 1, 0), 1);
        }
        due("no happening came", x.count(0), 0);
    }

    private static void goesNot() {
        says(19, "False, doing nothing: none such.");
        ToldHouse x = made();
        for (int d : new int[] {0, -1, 10, MIN, MAX}) {
            due("doing " + d, x.go(d), false);
        }
        due("doing", x.doing(), 0);
        due("without a LEG", x.go(0), false);
        due("told", x.ends(0, 0), 0);
        due("doing 1", x.go(1), false);
        due("day", x.day(10), true);
        int doing = going(x, 0, 1, 9, 1);
        due("going", x.go(doing), false);
        due("step", x.step(doing), 1);
        due("refused", x.step(doing), -6);
        due("undoing", x.go(doing), false);
        due("still", x.ends(doing, 0), 2);
        due("step", x.step(doing), 2);
        due("undone", x.go(doing), false);
        due("still", x.ends(doing, 0), 4);
        int done = going(x, 0, 1);
        due("step", x.step(done), 3);
        due("done", x.go(done), false);
        due("still", x.ends(done, 0), 3);
    }

    private static void stepAnswers() {
        says(20, "A STEP of a doing: the happening's number;");
        ToldHouse x = made();
        due("day", x.day(10), true);
        int one = going(x, 0, 1, 0, 2);
        int other = going(x, 0, 3, 9, 1);
        due("the one's", x.step(one), 1);
        due("the other's", x.step(other), 2);
        due("by hand", x.tell(0, CHANGED, 0, 0, 0, 10, NONE), 3);
        due("the one's", x.step(one), 4);
        due("the other's, refused", x.step(other), -6);
        due("the other's undoing", x.step(other), 5);
    }

    private static void stepOverOrTold() {
        says(20, "-1 it's over, or told;");
        ToldHouse x = made();
        due("doing", x.doing(), 0);
        due("told, without a LEG", x.step(0), -1);
        due("leg", x.leg(0, 0, 1), 1);
        due("told", x.step(0), -1);
        due("still told", x.ends(0, 0), 0);
        due("day", x.day(10), true);
        due("goes", x.go(0), true);
        due("step", x.step(0), 1);
        due("done", x.step(0), -1);
        int undone = going(x, 9, 1);
        due("refused", x.step(undone), -6);
        due("undone", x.step(undone), -1);
        due("nothing came", x.count(0), 2);
    }

    private static void stepWhyNot() {
        says(20, "else why not (-3 is none here).");
        ToldHouse x = made();
        due("-7", x.step(going(x, 0, 1)), -7);
        due("day", x.day(10), true);
        due("-6", x.step(going(x, 9, 1)), -6);
        due("-8", x.step(going(x, 0, -1001)), -8);
        ToldHouse y = full();
        due("-4", y.step(going(y, 0, 1)), -4);
    }

    private static void stepNoDoing() {
        says(20, "-2: no such doing.");
        ToldHouse x = made();
        for (int d : new int[] {0, -1, 10, MIN, MAX}) {
            due("step(" + d + ")", x.step(d), -2);
        }
        due("doing", x.doing(), 0);
        due("step(1)", x.step(1), -2);
    }

    private static void endsOf() {
        says(21, "How a doing is (0), LEGS (1), LEGS done (2), LEGS undone (3);");
        ToldHouse x = made();
        due("day", x.day(10), true);
        int doing = going(x, 0, 1, 0, 2, 9, 1, 0, 3);
        int[][] want = {{1, 4, 0, 0}, {1, 4, 1, 0}, {1, 4, 2, 0}, {2, 4, 2, 0}, {2, 4, 2, 1}, {4, 4, 2, 2}, {4, 4, 2, 2}};
        int[] steps = {1, 2, -6, 3, 4, -1};
        for (int i = 0; i < want.length; i++) {
            for (int what = 0; what < 4; what++) {
                due("ends(" + what + ") behind step " + i, x.ends(doing, what), want[i][what]);
            }
            if (i < steps.length) {
                due("step", x.step(doing), steps[i]);
            }
        }
    }

    private static void endsLegs() {
        says(21, "10 and more: LEG's happening (NONE).");
        ToldHouse x = made();
        due("day", x.day(10), true);
        int doing = going(x, 0, 1, 0, 2, 0, 3, 0, 4);
        for (int leg = 0; leg < 4; leg++) {
            due("not done", x.ends(doing, 10 + leg), NONE);
            due("by hand", x.tell(0, CHANGED, 0, 0, 0, 10, NONE), 1 + 2 * leg);
            due("step", x.step(doing), 2 + 2 * leg);
            due("done", x.ends(doing, 10 + leg), 2 + 2 * leg);
        }
        due("the first's still", x.ends(doing, 10), 2);
        due("no fifth", x.ends(doing, 14), NONE);
        int undone = going(x, 0, 1, 9, 1);
        due("step", x.step(undone), 9);
        due("refused", x.step(undone), -6);
        due("the refused one has none", x.ends(undone, 11), NONE);
        due("step", x.step(undone), 10);
        due("the undone one's is what was done", x.ends(undone, 10), 9);
        due("no third", x.ends(undone, 12), NONE);
    }

    private static void endsNone() {
        says(21, "NONE: there is none such.");
        ToldHouse x = made();
        for (int d : new int[] {0, -1, 10, MIN, MAX}) {
            due("doing " + d, x.ends(d, 0), NONE);
        }
        due("doing", x.doing(), 0);
        due("doing 1", x.ends(1, 0), NONE);
        for (int what : new int[] {-1, 4, 9, 10, 13, 14, MIN, MAX}) {
            due("what " + what, x.ends(0, what), NONE);
        }
    }

    private static void letterCounts() {
        says(22, "A letter: if its number of this sender hasn't counted, a CHANGED command (FORM 1, seen not asked):"
            + " the happening's number.");
        ToldHouse x = made();
        due("day", x.day(12), true);
        due("in", x.in(3, 7, 0, -1000, 8, 11), 1);
        fields(x, 1, 0, 1, CHANGED, 1, -1000, 8, 11, 12, NONE, 103);
        due("a smaller one of the sender", x.in(3, 6, 0, 1, 0, 11), 2);
        due("the same of another", x.in(2, 7, 0, 2, 0, 11), 3);
        due("sum", x.sum(0, 999, 12, 10), 3);
    }

    private static void letterFirstOf() {
        says(22, "The first of:");
        ToldHouse x = made();
        due("in", x.in(0, 40, 0, 1, 0, 10), 1);
        due("-2 of the number ahead of -10", x.in(0, -1, 0, 1, 0, 10), -2);
        due("-10 ahead of -9: it had counted", x.in(0, 72, 0, 1, 0, 10), 2);
        due("-10 ahead of -9: it had counted", x.in(0, 40, 0, 1, 0, 10), -10);
        due("-10 ahead of the command's -2", x.in(0, 40, 20, 1, 0, 10), -10);
        due("-10 ahead of the command's -8", x.in(0, 40, 0, -1000000, 0, 10), -10);
        due("-9 ahead of the command's -2", x.in(0, 72, 20, 1, 0, 10), -9);
        due("-9 ahead of the command's -6", x.in(0, 72, 1, 1, 0, 10), -9);
        due("the sender's -2 ahead of all", x.in(4, 72, 0, 1, 0, 10), -2);
        ToldHouse y = made();
        due("in", y.in(0, 40, 0, 1, 0, 10), 1);
        for (int i = 2; i < 400; i++) {
            due("filling " + i, y.tell(0, CHANGED, 1, 1, 0, 10, i), i);
        }
        due("-10 ahead of -4", y.in(0, 8, 0, 1, 0, 10), -10);
        due("-9 ahead of -4", y.in(0, 40, 0, 1, 0, 10), -9);
        due("the command's -2 ahead of -4", y.in(0, 41, 0, 1, 10, 10), -2);
        due("-4", y.in(0, 41, 0, 1, 0, 10), -4);
    }

    private static void letterNoSender() {
        says(22, "-2: no such sender, or its number is below 0;");
        ToldHouse x = made();
        for (int sender : new int[] {-1, 4, MIN, MAX}) {
            due("sender " + sender, x.in(sender, 0, 0, 1, 0, 10), -2);
        }
        for (int number : new int[] {-1, -33, MIN}) {
            due("number " + number, x.in(0, number, 0, 1, 0, 10), -2);
        }
        due("nothing came", x.count(0), 1);
        due("sender 0, number 0", x.in(0, 0, 0, 1, 0, 10), 1);
        due("sender 3, number 0", x.in(3, 0, 0, 1, 0, 10), 2);
        due("number -1 behind 0", x.in(0, -1, 0, 1, 0, 10), -2);
    }

    private static void letterOld() {
        says(22, "-10: it's OLD;");
        ToldHouse x = made();
        due("in", x.in(1, 132, 0, 1, 0, 10), 1);
        due("less 32", x.in(1, 100, 0, 1, 0, 10), -10);
        due("less 33", x.in(1, 99, 0, 1, 0, 10), -10);
        due("0", x.in(1, 0, 0, 1, 0, 10), -10);
        due("less 31", x.in(1, 101, 0, 1, 0, 10), 2);
        due("refused, greater", x.in(1, 500, 0, 1, 0, 9), -7);
        due("so 102 isn't OLD", x.in(1, 102, 0, 1, 0, 10), 3);
        due("how many came", x.count(0), 4);
        due("the greatest that counted", x.latest(1), 132);
    }

    private static void letterHasCounted() {
        says(22, "-9: it has counted;");
        ToldHouse x = made();
        int[] numbers = {5, 3, 4, 36, 20, 6};
        for (int i = 0; i < numbers.length; i++) {
            due("in " + numbers[i], x.in(1, numbers[i], 0, 1, 0, 10), 1 + i);
            due("once more " + numbers[i], x.in(1, numbers[i], 0, 1, 0, 10), -9);
        }
        due("5 still", x.in(1, 5, 0, 1, 0, 10), -9);
        due("20 still", x.in(1, 20, 0, 1, 0, 10), -9);
        due("7 hasn't", x.in(1, 7, 0, 1, 0, 10), 7);
        due("how many came", x.count(0), 8);
        due("taking it back", x.take(0, 5, NONE), 8);
        due("it has counted all the same", x.in(1, 20, 0, 1, 0, 10), -9);
    }

    private static void letterRefused() {
        says(22, "else why the command is refused (-2, too; it hasn't counted then).");
        ToldHouse x = made();
        int[][] refused = {
            {20, 1, 0, 10, -2}, {-1, 1, 0, 10, -2}, {0, 1000001, 0, 10, -2}, {0, -1000001, 0, 10, -2}, {0, 1, 10, 10, -2},
            {0, 1, -1, 10, -2}, {0, 1, 0, -1, -2}, {0, 1, 0, 1000, -2}, {1, 1, 0, 10, -6}, {0, 1, 0, 9, -7}, {0, -1001, 0, 10, -8},
        };
        for (int[] t : refused) {
            due("in", x.in(2, 50, t[0], t[1], t[2], t[3]), t[4]);
            due("none has counted", x.latest(2), NONE);
            due("none came", x.count(0), 1);
        }
        due("17, less 33, isn't OLD", x.in(2, 17, 0, 1, 0, 10), 1);
        due("50 counts now", x.in(2, 50, 0, -1001, 0, 10), 2);
        due("a smaller one is refused", x.in(2, 49, 0, -1, 0, 10), -8);
        due("and counts later", x.in(2, 49, 0, 1, 0, 10), 3);
    }

    private static void latestOf() {
        says(23, "The greatest number of a sender that counted.");
        ToldHouse x = made();
        int[][] letters = {{0, 0, 0}, {0, 9, 9}, {0, 8, 9}, {3, 4, 4}, {0, 41, 41}, {0, 10, 41}, {3, MAX, MAX}};
        for (int i = 0; i < letters.length; i++) {
            due("in", x.in(letters[i][0], letters[i][1], 0, 1, 0, 10), 1 + i);
            due("latest", x.latest(letters[i][0]), letters[i][2]);
        }
        due("OLD", x.in(0, 9, 0, 1, 0, 10), -10);
        due("refused", x.in(0, 99, 0, 1, 0, 9), -7);
        due("latest", x.latest(0), 41);
    }

    private static void latestNone() {
        says(23, "NONE: none.");
        ToldHouse x = made();
        due("in", x.in(1, 5, 0, 1, 0, 10), 1);
        due("refused", x.in(2, 5, 0, 1, 0, 9), -7);
        for (int s : new int[] {0, 2, 3, -1, 4, MIN, MAX}) {
            due("latest(" + s + ")", x.latest(s), NONE);
        }
    }

    /** Stream 0: MADE, CHANGED, MENDED, TAKEN; stream 1, the last: MADE. KNOWN on days 0, 8, 8, 9, 9. */
    private static ToldHouse toCheck() {
        ToldHouse x = made();
        due("day", x.day(8), true);
        due("changed", x.tell(0, CHANGED, 1, -500, 4, 20, 1), 1);
        due("mended", x.mend(0, 1, 1, -700, 4, 20, 2), 2);
        due("day", x.day(9), true);
        due("taken", x.take(0, 2, 3), 3);
        due("another stream", x.tell(1, MADE, 0, 1000000, 1, 1, 0), 4);
        return x;
    }

    private static void checkAltered() {
        says(24, "All happenings told anew, one by one, one number of one altered (exclusive or mask; field 2 to 8 of"
            + " happening(); NONE: none is):");
        ToldHouse x = toCheck();
        for (int h = 0; h < 5; h++) {
            due("none is altered", x.check(h, NONE, MIN), NONE);
            for (int field = 2; field <= 8; field++) {
                due("mask 0", x.check(h, field, 0), NONE);
                // -500 and -700 become 499 and 699, which could have come.
                due("all bits", x.check(h, field, -1), field == 4 && (h == 1 || h == 2) ? NONE : h);
            }
        }
        due("KIND 1 to 2", x.check(1, 2, 3), 1);
        due("FORM 1 to 0", x.check(2, 3, 1), 2);
        due("FORM 1 to 3", x.check(2, 3, 2), 2);
        due("key 4 to 12", x.check(1, 5, 8), 1);
        due("key 3 to 11", x.check(0, 5, 8), 0);
        due("key 3 to 9", x.check(0, 5, 10), NONE);
        due("SO 20 to 4", x.check(1, 6, 16), 1);
        due("SO 20 to 16", x.check(1, 6, 4), NONE);
        due("KNOWN 8 to 0", x.check(1, 7, 8), NONE);
        due("KNOWN 8 to 10", x.check(1, 7, 2), 2);
        due("REF 1 to 0", x.check(2, 8, 1), 2);
        due("REF 2 to 1", x.check(3, 8, 3), NONE);
        due("amount 10 to 11", x.check(0, 4, 1), NONE);
        due("amount 10 to 8", x.check(0, 4, 2), NONE);
        due("amount 10 to 2", x.check(0, 4, 8), 1);
        due("amount -500 to -1000", checkTo(x, 1, 4, -1000), NONE);
        due("amount -500 to -1001", checkTo(x, 1, 4, -1001), 1);
        for (int what = 0; what < 10; what++) {
            due("nothing is altered in truth", x.happening(1, what), new int[] {0, 1, 1, 1, -500, 4, 20, 8, NONE, 0}[what]);
        }
        due("nor in its sum", x.sum(0, 999, 999, 10), 500);
        due("VOID as it was", x.happening(2, 10), 1);
        due("the next one comes", x.tell(0, CHANGED, 1, -500, 0, 20, 4), 5);
        due("of 400 none", full().check(399, NONE, 0), NONE);
        due("of 400 one that could", full().check(0, 4, 1), NONE);
    }

    private static void checkFirst() {
        says(24, "the first that could not have come:");
        ToldHouse x = new ToldHouse();
        due("made", x.tell(0, MADE, 1, 8, 0, 10, 0), 0);
        due("another stream", x.tell(1, MADE, 1, 0, 0, 0, 0), 1);
        due("changed", x.tell(0, CHANGED, 1, -1, 0, 10, 1), 2);
        due("changed", x.tell(0, CHANGED, 1, -4, 0, 10, 2), 3);
        due("changed", x.tell(0, CHANGED, 1, -3, 0, 10, 3), 4);
        due("changed", x.tell(0, CHANGED, 1, 5, 0, 10, 4), 5);
        due("8 to 8", checkTo(x, 0, 4, 8), NONE);
        due("8 to 7: the last that takes", checkTo(x, 0, 4, 7), 4);
        due("8 to 5", checkTo(x, 0, 4, 5), 4);
        due("8 to 4", checkTo(x, 0, 4, 4), 3);
        due("8 to 0", checkTo(x, 0, 4, 0), 2);
        due("8 to -1: itself", checkTo(x, 0, 4, -1), 0);
        due("ahead of later ones that are wrong, too", checkTo(x, 2, 4, -9), 2);
        due("KNOWN: one of another stream", x.check(0, 7, 1), 1);
        due("REF of none", x.check(1, 8, 1), 1);
    }

    private static void checkNumbersAsTold() {
        says(24, "its KIND, FORM, amount, key, SO, KNOWN (0 to 999, not ahead of the one before it over all) or REF"
            + " isn't as told in PART 1,");
        ToldHouse x = toCheck();
        due("changed", x.tell(1, CHANGED, 0, 0, 0, 1, 1), 5);
        int[][] last = {
            {2, 0, 5}, {2, 1, NONE}, {2, 2, 5}, {2, 3, 5}, {2, 4, 5}, {2, 5, 5}, {2, -1, 5}, {2, MIN, 5}, {2, MAX, 5},
            {3, 1, NONE}, {3, 2, 5}, {3, -1, 5}, {3, MAX, 5}, {3, MIN, 5},
            {4, 1000000, NONE}, {4, 1000001, 5}, {4, -1000000, NONE}, {4, -1000001, 5}, {4, MAX, 5}, {4, MIN, 5},
            {5, 9, NONE}, {5, 10, 5}, {5, -1, 5}, {5, MAX, 5}, {5, MIN, 5},
            {6, 999, NONE}, {6, 1000, 5}, {6, 1, NONE}, {6, 0, 5}, {6, -1, 5}, {6, MAX, 5}, {6, MIN, 5},
            {7, 9, NONE}, {7, 8, 5}, {7, 999, NONE}, {7, 1000, 5}, {7, -1, 5}, {7, MAX, 5}, {7, MIN, 5},
            {8, NONE, NONE}, {8, 0, 5}, {8, 1, 5}, {8, -2, 5}, {8, MAX, 5}, {8, MIN, 5},
        };
        for (int[] t : last) {
            due("field " + t[0] + " to " + t[1], checkTo(x, 5, t[0], t[1]), t[2]);
        }
        due("KNOWN as the next one's", checkTo(x, 0, 7, 8), NONE);
        due("KNOWN behind the next one's", checkTo(x, 0, 7, 9), 1);
        due("KNOWN as the one's before", checkTo(x, 1, 7, 0), NONE);
        due("KNOWN ahead of the one before, of another stream", checkTo(x, 4, 7, 8), 4);
        due("KNOWN between the two", checkTo(x, 2, 7, 9), NONE);
        due("KNOWN behind the next one's", checkTo(x, 2, 7, 10), 3);
        due("REF of MENDED: MADE", checkTo(x, 2, 8, 0), 2);
        due("REF of MENDED: itself", checkTo(x, 2, 8, 2), 2);
        due("REF of MENDED: a later one", checkTo(x, 2, 8, 3), 2);
        due("REF of MENDED: NONE", checkTo(x, 2, 8, NONE), 2);
        due("REF of TAKEN: CHANGED", checkTo(x, 3, 8, 1), NONE);
        due("REF of TAKEN: itself", checkTo(x, 3, 8, 3), 3);
        due("REF of TAKEN: NONE", checkTo(x, 3, 8, NONE), 3);
        due("REF of TAKEN: below 0", checkTo(x, 3, 8, MIN), 3);
        due("REF of TAKEN: far above", checkTo(x, 3, 8, MAX), 3);
    }

    private static void checkAsPart2Asks() {
        says(24, "or not as PART 2 asks it (of ENDED and TAKEN: FORM, amount, key 0; of TAKEN SO is KNOWN),");
        ToldHouse x = new ToldHouse();
        due("made", x.tell(0, MADE, 0, 0, 0, 0, 0), 0);
        due("changed", x.tell(0, CHANGED, 0, 0, 0, 0, 1), 1);
        due("mended", x.mend(0, 1, 0, 0, 0, 9, 2), 2);
        due("ended", x.tell(0, ENDED, 0, 0, 0, 9, 3), 3);
        due("day", x.day(9), true);
        due("taken", x.take(0, 2, 4), 4);
        for (int h = 3; h < 5; h++) {
            for (int field = 3; field <= 5; field++) {
                due("field " + field + " of ENDED, TAKEN", x.check(h, field, 1), h);
            }
        }
        for (int field = 3; field <= 5; field++) {
            // Its amount is mended until 4 takes the mending back; then ENDED would leave something.
            due("field " + field + " of CHANGED", x.check(1, field, 1), field == 4 ? 4 : NONE);
        }
        due("SO of ENDED", checkTo(x, 3, 6, 10), NONE);
        due("KNOWN of ENDED", checkTo(x, 3, 7, 9), NONE);
        due("SO of TAKEN a day earlier", checkTo(x, 4, 6, 8), 4);
        due("SO of TAKEN a day later", checkTo(x, 4, 6, 10), 4);
        due("KNOWN of TAKEN a day later", checkTo(x, 4, 7, 10), 4);
        due("CHANGED to ENDED, with 0 all: the ENDED one can't", checkTo(x, 1, 2, ENDED), 3);
        due("MENDED to TAKEN, SO isn't KNOWN", checkTo(x, 2, 2, TAKEN), 2);
        due("REF of MENDED is one that is MENDED", checkTo(x, 4, 2, MENDED), 4);
        due("REF of MENDED is MADE: CHANGED is ahead of it", checkTo(x, 2, 8, 0), 2);
        due("TAKEN to 5", checkTo(x, 4, 2, 5), 4);
        ToldHouse y = new ToldHouse();
        due("made", y.tell(0, MADE, 0, 0, 0, 0, 0), 0);
        due("changed", y.tell(0, CHANGED, 0, 0, 0, 0, 1), 1);
        due("mended", y.mend(0, 1, 0, 0, 0, 0, 2), 2);
        due("MENDED to TAKEN, 0 all, SO is KNOWN", checkTo(y, 2, 2, TAKEN), NONE);
        due("taken", y.take(0, 1, 3), 3);
        due("TAKEN to MENDED", checkTo(y, 3, 2, MENDED), NONE);
        due("mended", y.mend(0, 1, 0, 0, 0, 0, 4), 4);
        due("CHANGED to MENDED: its REF is NONE", checkTo(y, 1, 2, MENDED), 1);
        due("MENDED to CHANGED: its REF isn't NONE", checkTo(y, 4, 2, CHANGED), 4);
    }

    private static void checkRight() {
        says(24, "or its stream wouldn't be RIGHT.");
        ToldHouse x = made();
        due("changed", x.tell(0, CHANGED, 0, -10, 0, 20, 1), 1);
        due("ended", x.tell(0, ENDED, 0, 0, 0, 20, 2), 2);
        due("taken", x.take(0, 2, 3), 3);
        due("changed", x.tell(0, CHANGED, 1, 0, 0, 21, 4), 4);
        due("(a) MADE to CHANGED", checkTo(x, 0, 2, CHANGED), 0);
        due("(a) CHANGED to MADE", checkTo(x, 1, 2, MADE), 1);
        due("(a) TAKEN's REF to MADE", checkTo(x, 3, 8, 0), 3);
        due("(b) MADE a day too late", checkTo(x, 0, 6, 21), 1);
        due("(b) CHANGED a day too early", checkTo(x, 1, 6, 9), 1);
        due("(b) CHANGED a day too late for ENDED", checkTo(x, 1, 6, 21), 2);
        due("(b) ENDED a day too early", checkTo(x, 2, 6, 19), 2);
        due("(c) MADE with less", checkTo(x, 0, 4, 9), 1);
        due("(c) MADE with more: ENDED can't", checkTo(x, 0, 4, 11), 2);
        due("(c) CHANGED by less: ENDED can't", checkTo(x, 1, 4, -9), 2);
        due("(c) the last", checkTo(x, 4, 4, -1), 4);
        due("ENDED's day, since it's taken", checkTo(x, 2, 6, 999), NONE);
        due("MADE on the day of the next", checkTo(x, 0, 6, 20), NONE);
        ToldHouse y = new ToldHouse();
        due("made", y.tell(0, MADE, 0, 5, 0, 0, 0), 0);
        due("mended", y.mend(0, 0, 0, 3, 0, 0, 1), 1);
        due("changed", y.tell(0, CHANGED, 0, -3, 0, 0, 2), 2);
        due("mended to less", checkTo(y, 1, 4, 2), 2);
        due("what is mended since", checkTo(y, 0, 4, 0), NONE);
        due("a FORM", y.check(1, 3, 1), 2);
        due("another stream isn't asked", y.tell(1, MADE, 0, 0, 0, 0, 0), 3);
        due("another stream isn't asked", y.check(3, 4, 1), NONE);
    }

    private static void checkNone() {
        says(24, "NONE: all could.");
        ToldHouse x = toCheck();
        due("day", x.day(20), true);
        int doing = going(x, 0, 5, 1, 5, 7, 1);
        due("step", x.step(doing), 5);
        due("step", x.step(doing), 6);
        due("refused", x.step(doing), -6);
        due("step", x.step(doing), 7);
        due("in", x.in(0, 0, 1, 5, 5, 5), 8);
        for (int h = 0; h < 9; h++) {
            due("as all came", x.check(h, NONE, 0), NONE);
        }
        due("a doing's key isn't asked", x.check(5, 5, 1), NONE);
        due("a doing's FORM isn't asked", x.check(5, 3, 1), NONE);
        due("a letter's FORM isn't asked", x.check(8, 3, 1), NONE);
        due("KNOWN behind TODAY", checkTo(x, 8, 7, 999), NONE);
    }

    private static void checkNoSuch() {
        says(24, "-2: no such happening, field.");
        ToldHouse x = new ToldHouse();
        due("none has happened", x.check(0, 2, 0), -2);
        due("none has happened", x.check(0, NONE, 0), -2);
        due("made", x.tell(0, MADE, 0, 0, 0, 0, 0), 0);
        for (int h : new int[] {-1, 1, MIN, MAX}) {
            for (int field = -1; field <= 8; field++) {
                due("happening " + h, x.check(h, field, 0), -2);
            }
        }
        for (int field : new int[] {-2, 0, 1, 9, 10, 11, MIN, MAX}) {
            due("field " + field, x.check(0, field, 0), -2);
            due("field " + field, x.check(0, field, 1), -2);
        }
        due("behind 400", full().check(400, 2, 0), -2);
    }
}
