import java.util.ArrayList;
import java.util.List;
import java.util.function.ToIntFunction;

/** Promise 1, the 512 calls of an object's life, and any ints at all as arguments of any call. */
public final class LifeEdgeTest {
    private static final Check CHECK = new Check();
    private static final int LEAST = Integer.MIN_VALUE;
    private static final int GREATEST = Integer.MAX_VALUE;
    private static final int[] FAR_OFF = {LEAST, LEAST + 1, -10000, -2, 10000, 65536, GREATEST - 1, GREATEST};

    public static void main(String[] args) {
        promise1NobodyIsThere();
        promise1NothingIsTold();
        promise1NoLaws();
        promise1FirstNumbers();
        promise1ObjectsApart();
        lastCallOfALife();
        lastCallOfAFullLife();
        anyIntsOnANewObject();
        anyIntsOnAFullObject();
        CHECK.finish();
    }

    private static void promise1NobodyIsThere() {
        PromiseCourt court = new PromiseCourt();
        CHECK.due("promise 1: persons", court.count(0), 0);
        for (int person = -1; person < 13; person++) {
            CHECK.due("promise 1: degree of " + person, court.degree(person, person), -1);
            CHECK.due("promise 1: gaps of " + person, court.gaps(person), -1);
            CHECK.due("promise 1: bound " + person, court.bound(person, 0, 0), -1);
            CHECK.due("promise 1: owes " + person, court.owes(person, 0, 0), 0);
        }
    }

    private static void promise1NothingIsTold() {
        PromiseCourt court = new PromiseCourt();
        for (int what = 1; what < 6; what++) {
            CHECK.due("promise 1: count(" + what + ")", court.count(what), 0);
        }
        for (int promise = -1; promise < 11; promise++) {
            CHECK.due("promise 1: law of " + promise, court.law(promise), -1);
            CHECK.due("promise 1: proved " + promise, court.proved(promise, 0), -1);
            CHECK.due("promise 1: barred " + promise, court.barred(promise, 0), -1);
            CHECK.due("promise 1: state of " + promise, court.state(promise, 0, 0), -1);
            CHECK.due("promise 1: force of " + promise, court.force(promise, 0, 5), -3);
            CHECK.due("promise 1: goes " + promise, court.goes(promise, 0, 0), -1);
        }
        CHECK.due("promise 1: changed", court.changed(0, 0, 0), -1);
        CHECK.due("promise 1: the tape", court.back(1), -1);
        CHECK.due("promise 1: place", court.place(), -1);
    }

    private static void promise1NoLaws() {
        PromiseCourt court = new PromiseCourt();
        Check.strangers(court, 2);
        for (int place = 0; place < 4; place++) {
            court.promise(0, 1, place, 9999, 1, -1);
            CHECK.due("promise 1: the law of place " + place, court.law(place), -1);
        }
    }

    private static void promise1FirstNumbers() {
        PromiseCourt court = new PromiseCourt();
        CHECK.due("promise 1: the first bytes", court.feed(0, 0, 0, 0, 0), 20);
        CHECK.due("promise 1: the first person", court.person(-1, -1, 0), 0);
        court.person(-1, -1, 0);
        CHECK.due("promise 1: the first promise", court.promise(0, 1, 0, 0, 0, -1), 0);
        CHECK.due("promise 1: the first gift", court.gift(0, 0, 1), 0);
        CHECK.due("promise 1: the first fact", court.fame(0), 0);
        court.back(20);
        court.read(0, 0);
        CHECK.due("promise 1: the first law", court.law(0), 0);
    }

    private static void promise1ObjectsApart() {
        Courts.full();
        PromiseCourt one = new PromiseCourt();
        Courts.told();
        for (int what = 0; what < 6; what++) {
            CHECK.due("promise 1: count(" + what + ") beside others", one.count(what), 0);
        }
    }

    /** Two persons, a promise of them that was barred by a vow, a gift and two facts: eight calls. */
    private static PromiseCourt small() {
        PromiseCourt court = new PromiseCourt();
        Check.strangers(court, 2);
        // "bar if vow==1;proof " and "if 1==1;back 50;".
        court.feed(0x62617220, 0x69662076, 0x6f773d3d, 0x313b7072, 0x6f6f6620);
        court.feed(0x69662031, 0x3d3d313b, 0x6261636b, 0x2035303b, 0x20202020);
        court.read(0, 0);
        court.promise(0, 1, 0, 500, 0, -1);
        court.gift(0, 0, 10);
        court.fate(1, 0, 400);
        return court;
    }

    private static final int SMALL_CALLS = 8;

    private static void last(String call, int want, ToIntFunction<PromiseCourt> asked) {
        PromiseCourt court = small();
        for (int calls = SMALL_CALLS; calls < 511; calls++) {
            CHECK.due("call " + (calls + 1), court.count(0), 2);
        }
        CHECK.due("call 512: " + call, asked.applyAsInt(court), want);
    }

    private static void lastCallOfALife() {
        last("feed", 20, court -> court.feed(1, 2, 3, 4, 5));
        last("back", 0, court -> court.back(0));
        last("read", 0, court -> court.read(0, 0));
        last("place", -1, court -> court.place());
        last("person", 2, court -> court.person(0, 1, 1));
        last("promise", 1, court -> court.promise(0, 1, 3, 9999, 1, 5));
        last("gift", 1, court -> court.gift(0, 1, 1000));
        last("says", 1, court -> court.says(119, 0, false));
        last("fame", 1, court -> court.fame(0));
        last("comes", 1, court -> court.comes(5, 9999, true));
        last("fate", 1, court -> court.fate(3, 1, 9999));
        last("leave", 1, court -> court.leave(0, 1, 9999));
        last("degree", 99, court -> court.degree(0, 1));
        last("gaps", 14, court -> court.gaps(1));
        last("law", 0, court -> court.law(0));
        last("proved", 1, court -> court.proved(0, 1));
        last("barred", 0, court -> court.barred(0, 1));
        last("state", 4, court -> court.state(0, 500, 1));
        last("force", 500, court -> court.force(0, 0, 0));
        last("bound", 1, court -> court.bound(0, 500, 0));
        last("goes", 5, court -> court.goes(0, 500, 1));
        last("owes", -5, court -> court.owes(0, 500, 1));
        last("changed", 0, court -> court.changed(500, 0, 1));
        last("count", 1, court -> court.count(3));
    }

    /** 100 feeds and 274 calls that fill all rows, then questions up to the 512th. */
    private static void lastCallOfAFullLife() {
        PromiseCourt court = Courts.full();
        for (int i = 1; i <= 100; i++) {
            CHECK.due("a full life: feed " + i, court.feed(i, i, i, i, i), 20 * i);
        }
        for (int calls = 374; calls < 512; calls++) {
            CHECK.due("a full life: call " + (calls + 1), court.state(calls % 10, 400, 200), calls % 10 < 5 ? 9 : 6);
        }
    }

    /** Each call with an argument that is nowhere a number of anything, in each of its places. */
    private static List<ToIntFunction<PromiseCourt>> wrongCalls(int far) {
        List<ToIntFunction<PromiseCourt>> calls = new ArrayList<>();
        calls.add(court -> court.back(far));
        calls.add(court -> court.read(far, 0));
        calls.add(court -> court.read(0, far));
        calls.add(court -> court.person(far, -1, 1));
        calls.add(court -> court.person(-1, far, 1));
        calls.add(court -> court.person(-1, -1, far));
        calls.add(court -> court.promise(far, 1, 0, 0, 0, -1));
        calls.add(court -> court.promise(0, far, 0, 0, 0, -1));
        calls.add(court -> court.promise(0, 1, far, 0, 0, -1));
        calls.add(court -> court.promise(0, 1, 0, far, 0, -1));
        calls.add(court -> court.promise(0, 1, 0, 0, far, -1));
        calls.add(court -> court.promise(0, 1, 0, 0, 0, far));
        calls.add(court -> court.gift(far, 0, 1));
        calls.add(court -> court.gift(0, far, 1));
        calls.add(court -> court.gift(0, 0, far));
        calls.add(court -> court.says(far, 0, true));
        calls.add(court -> court.says(100, far, false));
        calls.add(court -> court.fame(far));
        calls.add(court -> court.comes(far, 0, true));
        calls.add(court -> court.comes(0, far, false));
        calls.add(court -> court.fate(far, 0, 0));
        calls.add(court -> court.fate(0, far, 0));
        calls.add(court -> court.fate(0, 0, far));
        calls.add(court -> court.leave(far, 0, 0));
        calls.add(court -> court.leave(0, far, 0));
        calls.add(court -> court.leave(0, 1, far));
        calls.add(court -> court.count(far));
        return calls;
    }

    private static List<ToIntFunction<PromiseCourt>> wrongQuestions(int far) {
        List<ToIntFunction<PromiseCourt>> calls = new ArrayList<>();
        calls.add(court -> court.degree(far, 0));
        calls.add(court -> court.degree(0, far));
        calls.add(court -> court.gaps(far));
        calls.add(court -> court.law(far));
        calls.add(court -> court.proved(far, 0));
        calls.add(court -> court.proved(0, far));
        calls.add(court -> court.barred(far, 0));
        calls.add(court -> court.barred(0, far));
        calls.add(court -> court.state(far, 0, 0));
        calls.add(court -> court.state(0, far, 0));
        calls.add(court -> court.state(0, 0, far));
        calls.add(court -> court.force(far, 0, 0) + 2);
        calls.add(court -> court.force(0, far, 0) + 2);
        calls.add(court -> court.force(0, 0, far) + 2);
        calls.add(court -> court.bound(far, 0, 0));
        calls.add(court -> court.bound(0, far, 0));
        calls.add(court -> court.bound(0, 0, far));
        calls.add(court -> court.goes(far, 0, 0));
        calls.add(court -> court.goes(0, far, 0));
        calls.add(court -> court.goes(0, 0, far));
        calls.add(court -> court.owes(far, 0, 0) - 1);
        calls.add(court -> court.owes(0, far, 0) - 1);
        calls.add(court -> court.owes(0, 0, far) - 1);
        calls.add(court -> court.changed(far, 0, 0));
        calls.add(court -> court.changed(0, far, 0));
        calls.add(court -> court.changed(0, 0, far));
        return calls;
    }

    private static void anyInts(String when, PromiseCourt court, int far, int[] counts) {
        List<ToIntFunction<PromiseCourt>> calls = wrongCalls(far);
        calls.addAll(wrongQuestions(far));
        for (int i = 0; i < calls.size(); i++) {
            CHECK.due("wrong call " + i + " with " + far + " on " + when, calls.get(i).applyAsInt(court), -1);
        }
        for (int what = 0; what < 6; what++) {
            CHECK.due("count(" + what + ") behind wrong calls on " + when, court.count(what), counts[what]);
        }
    }

    private static void anyIntsOnANewObject() {
        for (int far : FAR_OFF) {
            anyInts("a new object", new PromiseCourt(), far, new int[] {0, 0, 0, 0, 0, 0});
            PromiseCourt court = new PromiseCourt();
            CHECK.due("promise 2: any ints", court.feed(far, far, far, far, far), 20);
        }
    }

    private static void anyIntsOnAFullObject() {
        for (int far : FAR_OFF) {
            anyInts("a full object", Courts.full(), far, new int[] {12, 10, 20, 200, 8, 0});
            anyInts("one that is told this and that", Courts.told(), far, new int[] {5, 4, 4, 9, 1, 9});
        }
    }
}
