import java.util.ArrayList;
import java.util.List;
import java.util.function.Supplier;
import java.util.function.ToIntFunction;

/**
 * Two courts that were told the same, of which one hears a call that is to be refused: it answers as is due, and
 * whatever comes later both answer alike. Neither is called more than 512 times.
 */
final class Twins {
    private final Check check;
    private final String promise;
    private final Supplier<PromiseCourt> made;

    Twins(Check check, String promise, Supplier<PromiseCourt> made) {
        this.check = check;
        this.promise = promise;
        this.made = made;
    }

    void refused(String call, int answer, ToIntFunction<PromiseCourt> refusal) {
        PromiseCourt one = made.get();
        PromiseCourt other = made.get();
        check.due(promise + ": " + call, refusal.applyAsInt(one), answer);
        check.due(promise + ": place() behind " + call, one.place(), other.place());
        alike("behind " + call, one, other);
    }

    /** All that can be asked, and then a row of calls that change each part. */
    void alike(String when, PromiseCourt one, PromiseCourt other) {
        compare(when, questions(one), questions(other));
        compare("later, " + when, changes(one), changes(other));
    }

    private void compare(String when, List<String> one, List<String> other) {
        for (int i = 0; i < other.size(); i++) {
            String seen = i < one.size() ? one.get(i) : "nothing";
            check.due(promise + ": " + when + ": " + seen + ", its twin " + other.get(i), seen.equals(other.get(i)) ? 1 : 0, 1);
        }
    }

    private static List<String> questions(PromiseCourt court) {
        List<String> said = new ArrayList<>();
        int[] counts = new int[6];
        for (int what = 0; what < 6; what++) {
            counts[what] = court.count(what);
            said.add("count " + what + " = " + counts[what]);
        }
        int facts = counts[3];
        for (int person = 0; person < 12; person++) {
            said.add("gaps " + person + " = " + court.gaps(person));
            said.add("degree " + person + " = " + court.degree(person, 0));
            said.add("bound " + person + " = " + court.bound(person, 4100, facts));
            said.add("owes " + person + " = " + court.owes(person, 9999, facts));
        }
        for (int promise = 0; promise < counts[1]; promise++) {
            String of = " " + promise + " = ";
            said.add("law" + of + court.law(promise));
            said.add("proved" + of + court.proved(promise, facts));
            said.add("barred" + of + court.barred(promise, facts));
            said.add("state" + of + court.state(promise, 9999, facts));
            for (int what = 0; what < 6; what++) {
                said.add("force " + what + of + court.force(promise, facts, what));
            }
        }
        for (int gift = 0; gift < counts[2]; gift++) {
            said.add("goes " + gift + " = " + court.goes(gift, 9999, facts));
        }
        said.add("changed = " + court.changed(9999, 0, facts));
        return said;
    }

    private static List<String> changes(PromiseCourt court) {
        List<String> said = new ArrayList<>();
        said.add("read = " + court.read(1, 5));
        said.add("place = " + court.place());
        said.add("person = " + court.person(1, -1, 9999));
        said.add("promise = " + court.promise(0, 1, 1, 7000, 1, -1));
        said.add("gift = " + court.gift(0, 1, 50));
        said.add("says = " + court.says(110, 0, false));
        said.add("fate = " + court.fate(0, 0, 7500));
        said.add("comes = " + court.comes(1, 5500, true));
        said.add("feed = " + court.feed(0x6c617073, 0x65203132, 0x3b202020, 0x20202020, 0x20202020));
        said.add("back = " + court.back(9));
        int promises = court.count(1);
        int facts = court.count(3);
        for (int promise = 0; promise < promises; promise++) {
            said.add("law " + promise + " = " + court.law(promise));
            said.add("state " + promise + " = " + court.state(promise, 9999, facts));
        }
        return said;
    }
}
