import java.util.ArrayList;
import java.util.List;

/**
 * "A method that throws an exception changes nothing. If several exceptions apply, the one that is documented
 * first is thrown." Each call that is refused is made on an object of its own, once for each inquiry; what the
 * object then answers must be what it answers without that call.
 */
public final class RefusalTest {
    private static final Checks CHECK = new Checks();

    private static final Class<? extends RuntimeException> BOUNDS = IndexOutOfBoundsException.class;
    private static final Class<? extends RuntimeException> ARGUMENT = IllegalArgumentException.class;
    private static final Class<? extends RuntimeException> STATE = IllegalStateException.class;

    private interface Scene {
        Turbineorchard make();
    }

    private interface Refused {
        void call(Turbineorchard x);
    }

    private interface RefusedValue {
        void call(Turbineorchard x, int value);
    }

    /** Asks within the 512 calls that an object is used for. */
    private interface Inquiry {
        List<String> ask(Turbineorchard x);
    }

    private static final Inquiry[] INQUIRIES = {
        RefusalTest::whatStands,
        RefusalTest::whatIsForetold,
        RefusalTest::whatWasTold,
        RefusalTest::whatCanBeSold,
        RefusalTest::whatBreaksAndIsRepaired,
        RefusalTest::whatComes,
    };

    private final String name;
    private final Scene scene;
    private final int now;
    private final int turbines;
    private final List<List<String>> before = new ArrayList<>();

    private RefusalTest(String name, Scene scene, int now, int turbines) {
        this.name = name;
        this.scene = scene;
        this.now = now;
        this.turbines = turbines;
        for (Inquiry inquiry : INQUIRIES) {
            before.add(inquiry.ask(scene.make()));
        }
    }

    public static void main(String[] args) {
        new RefusalTest("a new object", Turbineorchard::new, 0, 0).refuseAll();
        new RefusalTest("in the midst of repairs", RefusalTest::midst, 30, 5).refuseAll();
        new RefusalTest("a full field", RefusalTest::full, 23, 12).refuseAll();
        new RefusalTest("the last hour", RefusalTest::last, 479, 3).refuseAll();
        refusedInTheMidst();
        refusedByAFullField();
        refusedInTheLastHour();
        CHECK.end("RefusalTest");
    }

    /** The hour 30: the boat 0 at work, the boat 1 waiting for its crew, a turbine broken and left. */
    private static Turbineorchard midst() {
        Turbineorchard x = Orchards.withTurbines(7, 8, 1, 13, 20);
        x.wind(24, 60, 11, true);
        x.waves(31, 4);
        x.waves(33, 5);
        x.crew(1, 2);
        x.sell(24, 2000, 9);
        x.sell(29, 0, 9);
        x.sell(48, 1500, 31);
        x.pass(24);
        x.breaks(0);
        x.breaks(1);
        x.breaks(3);
        x.repair(0, 0, 20);
        x.repair(1, 3, 4);
        x.pass(6);
        return x;
    }

    /** The last hour of the first day, with all turbines, three of them in repair. */
    private static Turbineorchard full() {
        Turbineorchard x = Orchards.withTurbines(0, 1, 2, 3, 6, 7, 8, 9, 23, 17, 20, 14);
        x.wind(20, 50, 21, false);
        x.pass(20);
        for (int boat = 0; boat < 3; boat++) {
            x.breaks(4 * boat + 1);
            x.repair(boat, 4 * boat + 1, 40);
        }
        x.sell(24, 9000, 7);
        x.pass(3);
        return x;
    }

    private static Turbineorchard last() {
        Turbineorchard x = Orchards.withTurbines(5, 11, 12);
        x.sell(470, 1200, 50);
        Orchards.passTo(x, 460);
        x.breaks(1);
        x.repair(2, 1, 30);
        x.pass(19);
        return x;
    }

    private void refused(String call, Class<? extends RuntimeException> kind, Refused deed) {
        for (int i = 0; i < INQUIRIES.length; i++) {
            Turbineorchard x = scene.make();
            CHECK.dueThrow(name + ": " + call, kind, () -> deed.call(x));
            dueAsBefore(call, before.get(i), INQUIRIES[i].ask(x));
        }
    }

    private void dueAsBefore(String call, List<String> want, List<String> got) {
        CHECK.due(name + ", after " + call + ": the answers", got.size(), want.size());
        for (int i = 0; i < Math.min(want.size(), got.size()); i++) {
            CHECK.dueText(name + ", after " + call + ", the answer " + i, got.get(i), want.get(i));
        }
    }

    /** One value before the first that is taken, one after the last, and those that are farthest off. */
    private void refusedBeyond(String call, Class<? extends RuntimeException> kind, int least, int most,
            RefusedValue deed) {
        for (int value : new int[] {least - 1, most + 1, Integer.MIN_VALUE, Integer.MAX_VALUE}) {
            refused(call + " " + value, kind, x -> deed.call(x, value));
        }
    }

    /** What each method refuses whatever stands. */
    private void refuseAll() {
        refuseNoSuch();
        refuseHours();
        refuseOutOfRange();
        refuseSlotsTooLate();
        refuseFirstsOfSeveral();
        if (turbines > 0) {
            refusedBeyond("a repair of", ARGUMENT, 1, 40, (x, hours) -> x.repair(2, 0, hours));
            refusedBeyond("of a turbine", ARGUMENT, 0, 2, (x, what) -> x.ofTurbine(0, what));
        }
        if (now > 0) {
            refusedBeyond("of an hour", ARGUMENT, 0, 3, (x, what) -> x.ofHour(0, what));
        }
    }

    private void refuseNoSuch() {
        refusedBeyond("turbine", BOUNDS, 0, 23, (x, place) -> x.turbine(place));
        refusedBeyond("breaks", BOUNDS, 0, turbines - 1, (x, turbine) -> x.breaks(turbine));
        refusedBeyond("windAt", BOUNDS, 0, turbines - 1, (x, turbine) -> x.windAt(turbine));
        refusedBeyond("ofTurbine", BOUNDS, 0, turbines - 1, (x, turbine) -> x.ofTurbine(turbine, 0));
        refusedBeyond("repair of", BOUNDS, 0, turbines - 1, (x, turbine) -> x.repair(0, turbine, 1));
        refusedBeyond("repair by", BOUNDS, 0, 2, (x, boat) -> x.repair(boat, 0, 1));
        refusedBeyond("crew", BOUNDS, 0, 2, (x, boat) -> x.crew(boat, 1));
        refusedBeyond("ofBoat", BOUNDS, 0, 2, (x, boat) -> x.ofBoat(boat, 0));
    }

    private void refuseHours() {
        refusedBeyond("wind from", ARGUMENT, now, 479, (x, hour) -> x.wind(hour, 479, 20, true));
        refusedBeyond("wind from and to", ARGUMENT, now, 479, (x, hour) -> x.wind(hour, hour, 20, true));
        refusedBeyond("wind to", ARGUMENT, now, 479, (x, hour) -> x.wind(now, hour, 20, true));
        refusedBeyond("wind from the last hour to", ARGUMENT, 479, 479, (x, hour) -> x.wind(479, hour, 20, true));
        refusedBeyond("waves of", ARGUMENT, now, 479, (x, hour) -> x.waves(hour, 20));
        refusedBeyond("foretold of", ARGUMENT, now, 479, (x, hour) -> x.foretold(hour));
        refusedBeyond("foretoldAnew of", ARGUMENT, now, 479, (x, hour) -> x.foretoldAnew(hour));
        refusedBeyond("sell of", ARGUMENT, 0, 479, (x, hour) -> x.sell(hour, 9, 9));
        refusedBeyond("ofHour of", ARGUMENT, 0, now - 1, (x, hour) -> x.ofHour(hour, 0));
        refusedBeyond("ratio of", ARGUMENT, 0, now - 1, (x, hour) -> x.ratio(hour));
    }

    private void refuseOutOfRange() {
        refusedBeyond("a wind of", ARGUMENT, 0, 40, (x, speed) -> x.wind(now, 479, speed, true));
        refusedBeyond("waves of now of", ARGUMENT, 0, 20, (x, waves) -> x.waves(now, waves));
        refusedBeyond("a crew of", ARGUMENT, 0, 24, (x, hours) -> x.crew(0, hours));
        refusedBeyond("units of", ARGUMENT, 0, 30000, (x, units) -> x.sell(479, units, 9));
        refusedBeyond("a price of", ARGUMENT, 1, 100, (x, price) -> x.sell(479, 9, price));
        refusedBeyond("pass", ARGUMENT, 1, 48, (x, hours) -> x.pass(hours));
        refusedBeyond("of a boat", ARGUMENT, 0, 3, (x, what) -> x.ofBoat(2, what));
    }

    private void refuseSlotsTooLate() {
        int dayBegins = now - now % 24;
        refused("a slot of the first hour", STATE, x -> x.sell(0, 9, 9));
        refused("a slot of the hour before", now > 0 ? STATE : ARGUMENT, x -> x.sell(now - 1, 9, 9));
        refused("a slot of now", STATE, x -> x.sell(now, 9, 9));
        refused("a slot of this day's begin", STATE, x -> x.sell(dayBegins, 9, 9));
        refused("a slot of this day's end", STATE, x -> x.sell(dayBegins + 23, 9, 9));
    }

    private void refuseFirstsOfSeveral() {
        refused("the boat before the hours of its crew", BOUNDS, x -> x.crew(3, 25));
        refused("the boat before the hours", BOUNDS, x -> x.repair(3, 0, 41));
        refused("the boat and the turbine before the hours", BOUNDS, x -> x.repair(3, turbines, 0));
        refused("the turbine before the hours", BOUNDS, x -> x.repair(0, turbines, 41));
        refused("the boat before what", BOUNDS, x -> x.ofBoat(-1, 4));
        refused("the turbine before what", BOUNDS, x -> x.ofTurbine(turbines, 3));
        refused("the units before the day", ARGUMENT, x -> x.sell(now, 30001, 1));
        refused("the price before the day", ARGUMENT, x -> x.sell(0, 1, 101));
    }

    private static void refusedInTheMidst() {
        RefusalTest midst = new RefusalTest("in the midst", RefusalTest::midst, 30, 5);
        for (int place : new int[] {7, 8, 1, 13, 20}) {
            midst.refused("turbine(" + place + ")", STATE, x -> x.turbine(place));
        }
        for (int turbine : new int[] {0, 1, 3}) {
            midst.refused("breaks(" + turbine + ")", STATE, x -> x.breaks(turbine));
        }
        midst.refused("a boat at work to a broken one", STATE, x -> x.repair(0, 1, 1));
        midst.refused("a boat that waits to a broken one", STATE, x -> x.repair(1, 1, 1));
        midst.refused("a free boat to one that turns", STATE, x -> x.repair(2, 4, 1));
        midst.refused("a free boat to one in repair", STATE, x -> x.repair(2, 0, 1));
        midst.refused("a free boat to one whose boat waits", STATE, x -> x.repair(2, 3, 1));
        midst.refused("a boat to what it repairs", STATE, x -> x.repair(0, 0, 40));
        midst.refused("the hours before the boat at work", ARGUMENT, x -> x.repair(0, 0, 0));
        midst.refused("the hours before one that turns", ARGUMENT, x -> x.repair(2, 4, 41));
    }

    private static void refusedByAFullField() {
        RefusalTest full = new RefusalTest("in a full field", RefusalTest::full, 23, 12);
        for (int place : new int[] {0, 4, 5, 14, 22, 23}) {
            full.refused("turbine(" + place + ")", STATE, x -> x.turbine(place));
        }
        full.refused("no place before no room", BOUNDS, x -> x.turbine(-1));
        full.refused("the turbine 12", BOUNDS, x -> x.breaks(12));
    }

    private static void refusedInTheLastHour() {
        RefusalTest last = new RefusalTest("in the last hour", RefusalTest::last, 479, 3);
        for (int hours : new int[] {1, 2, 47, 48}) {
            last.refused("pass(" + hours + ")", STATE, x -> x.pass(hours));
        }
        last.refused("the hours to pass before the last hour", ARGUMENT, x -> x.pass(49));
        last.refused("no hours before the last hour", ARGUMENT, x -> x.pass(0));
        RefusalTest near = new RefusalTest("near the last hour", () -> Orchards.inHour(440, 0, 1), 440, 2);
        for (int hours : new int[] {40, 41, 48}) {
            near.refused("pass(" + hours + ")", STATE, x -> x.pass(hours));
        }
    }

    private static void add(List<String> answers, Checks.Call call) {
        answers.add(Checks.answerOf(call));
    }

    /** 12 turbines, 3 boats, the hours 0 to 59 and some later ones. */
    private static List<String> whatStands(Turbineorchard x) {
        List<String> answers = new ArrayList<>();
        for (int number = 0; number < 12; number++) {
            int turbine = number;
            add(answers, () -> x.windAt(turbine));
            for (int what = 0; what < 3; what++) {
                int asked = what;
                add(answers, () -> x.ofTurbine(turbine, asked));
            }
        }
        for (int number = 0; number < 12; number++) {
            int boat = number / 4;
            int what = number % 4;
            add(answers, () -> x.ofBoat(boat, what));
        }
        for (int hour = 0; hour < 480; hour += hour < 60 ? 1 : 35) {
            int asked = hour;
            for (int what = 0; what < 4; what++) {
                int ofHour = what;
                add(answers, () -> x.ofHour(asked, ofHour));
            }
            add(answers, () -> Float.floatToIntBits(x.ratio(asked)));
        }
        add(answers, () -> x.brought());
        return answers;
    }

    private static List<String> whatIsForetold(Turbineorchard x) {
        List<String> answers = new ArrayList<>();
        for (int hour = 0; hour < 480; hour++) {
            int asked = hour;
            if (hour % 2 == 0) {
                add(answers, () -> x.foretold(asked));
            } else {
                add(answers, () -> x.foretoldAnew(asked));
            }
        }
        return answers;
    }

    /** Telling the waves or a crew answers what was told before. */
    private static List<String> whatWasTold(Turbineorchard x) {
        List<String> answers = new ArrayList<>();
        for (int hour = 0; hour < 480; hour++) {
            int asked = hour;
            add(answers, () -> x.waves(asked, 7));
        }
        for (int number = 0; number < 3; number++) {
            int boat = number;
            add(answers, () -> x.crew(boat, 7));
        }
        return answers;
    }

    private static List<String> whatCanBeSold(Turbineorchard x) {
        List<String> answers = new ArrayList<>();
        for (int hour = 0; hour < 480; hour++) {
            int asked = hour;
            add(answers, () -> x.sell(asked, 7, 7));
        }
        return answers;
    }

    private static List<String> whatBreaksAndIsRepaired(Turbineorchard x) {
        List<String> answers = new ArrayList<>();
        for (int number = 0; number < 36; number++) {
            int boat = number % 3;
            int turbine = number / 3;
            add(answers, () -> {
                x.repair(boat, turbine, 2);
                return 0;
            });
        }
        for (int number = 0; number < 12; number++) {
            int turbine = number;
            add(answers, () -> x.breaks(turbine));
        }
        for (int number = 0; number < 24; number++) {
            int place = number;
            add(answers, () -> x.turbine(place));
        }
        return answers;
    }

    /** What the next 60 hours make and bring, and what the boats do in them. */
    private static List<String> whatComes(Turbineorchard x) {
        List<String> answers = new ArrayList<>();
        for (int hours = 0; hours < 60; hours++) {
            add(answers, () -> x.pass(1));
            for (int number = 0; number < 3; number++) {
                int boat = number;
                add(answers, () -> x.ofBoat(boat, 1));
                add(answers, () -> x.ofBoat(boat, 2));
            }
            add(answers, () -> x.brought());
        }
        return answers;
    }
}
