import java.util.ArrayList;
import java.util.LinkedHashMap;
import java.util.List;
import java.util.Map;

/**
 * Tells whether a call has changed anything that a later call could answer: two objects with the same story, one with
 * the call and one without, are asked all there is to ask (some 240 calls), at once and on every way on from there.
 * Each way begins with a new object, as one object answers for 512 calls only.
 */
final class Twins {
    interface Story {
        void on(TeethForCoins x);
    }

    interface Call {
        long on(TeethForCoins x);
    }

    private static final Map<String, Story> WAYS_ON = waysOn();

    private final Check check;

    Twins(Check check) {
        this.check = check;
    }

    private static Map<String, Story> waysOn() {
        Map<String, Story> ways = new LinkedHashMap<>();
        ways.put("at once", x -> { });
        ways.put("undo", TeethForCoins::undo);
        ways.put("undo twice", x -> undo(x, 2));
        ways.put("undo all", x -> undo(x, 8));
        ways.put("again 0", x -> x.again(0));
        ways.put("again 0, undo all", x -> {
            x.again(0);
            undo(x, 8);
        });
        ways.put("again 1", x -> x.again(1));
        ways.put("again 1, undo all", x -> {
            x.again(1);
            undo(x, 8);
        });
        ways.put("a byte more, market", x -> {
            x.write(1, '0');
            x.market();
        });
        ways.put("market", TeethForCoins::market);
        ways.put("wipe", TeethForCoins::wipe);
        ways.put("caught, paid", x -> {
            x.caught(1, 5L);
            x.pay(0, 1, 0);
        });
        ways.put("washed ashore", x -> x.washed(1, 7L));
        ways.put("all handled", x -> {
            for (int tooth = 0; tooth < 10; tooth++) {
                x.handle(tooth);
            }
        });
        return ways;
    }

    private static void undo(TeethForCoins x, int times) {
        for (int i = 0; i < times; i++) {
            x.undo();
        }
    }

    /** The call answers what is due, twice, and what all later calls answer is as if it had not been made. */
    void leaveAll(String what, Story story, Call call, long due) {
        for (Map.Entry<String, Story> way : WAYS_ON.entrySet()) {
            TeethForCoins with = new TeethForCoins();
            story.on(with);
            check.due(what, call.on(with), due);
            check.due(what + ", once more", call.on(with), due);
            way.getValue().on(with);
            TeethForCoins without = new TeethForCoins();
            story.on(without);
            way.getValue().on(without);
            List<String> changed = changed(without, with);
            check.due(what + " changes, " + way.getKey() + ": " + changed, changed.size(), 0);
        }
    }

    private static List<String> changed(TeethForCoins without, TeethForCoins with) {
        Map<String, Long> one = answers(without);
        Map<String, Long> other = answers(with);
        List<String> changed = new ArrayList<>();
        one.forEach((call, answer) -> {
            if (!answer.equals(other.get(call))) {
                changed.add(call + " " + answer + " -> " + other.get(call));
            }
        });
        return changed;
    }

    private static Map<String, Long> answers(TeethForCoins x) {
        Map<String, Long> told = new LinkedHashMap<>();
        for (int what = 0; what < 7; what++) {
            told.put("about " + what, (long) x.about(what));
        }
        for (int tooth = 0; tooth < 10; tooth++) {
            ofTooth(x, tooth, told);
        }
        for (int good = 0; good < 4; good++) {
            told.put("price " + good, (long) x.good(good, 0));
            told.put("use " + good, (long) x.good(good, 1));
        }
        told.put("fault", (long) x.fault());
        told.put("inflated", (long) x.inflated(0, 77));
        told.put("stolen", (long) x.stolen());
        told.put("thief", (long) x.thief());
        for (int person = 0; person < 4; person++) {
            ofPerson(x, person, told);
        }
        ofMonies(x, told);
        told.put("write", (long) x.write(1, 'L'));
        return told;
    }

    private static void ofTooth(TeethForCoins x, int tooth, Map<String, Long> told) {
        for (int what = 0; what < 6; what++) {
            told.put("tooth " + tooth + " " + what, (long) x.tooth(tooth, what));
        }
        for (int i = 0; i < 8; i++) {
            told.put("trace " + tooth + " " + i, (long) x.trace(tooth, i));
        }
        told.put("life " + tooth, (long) x.life(tooth, 5));
        int due = x.should(tooth, 0);
        told.put("should " + tooth, (long) due);
        x.should(tooth, Math.max(0, due));
    }

    private static void ofPerson(TeethForCoins x, int person, Map<String, Long> told) {
        int other = (person + 1) % 4;
        told.put("purse " + person, (long) x.purse(person));
        told.put("fewest " + person, (long) x.fewest(person, other, 20));
        told.put("paid " + person, (long) x.paid(person, other, 20, false));
        told.put("change " + person, (long) x.paid(person, other, 20, true));
        told.put("too much " + person, (long) x.tooMuch(person, 33, true));
        told.put("sums " + person, (long) x.sums(person, other, 999));
        told.put("spent " + person, (long) x.spent(person, true));
    }

    private static void ofMonies(TeethForCoins x, Map<String, Long> told) {
        told.put("ring", x.ring(true));
        told.put("ring below", x.ring(false));
        for (int i = 0; i < 4; i++) {
            told.put("ring at " + i, (long) x.ringAt(i));
        }
        for (int money = 0; money < 4; money++) {
            for (int other = 0; other < 4; other++) {
                told.put("rate " + money + " " + other, (long) x.rate(money, other, 1, 1));
            }
        }
    }
}
