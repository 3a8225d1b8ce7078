/** Promises 8, 13, 14 and 17: slots, imbalances, ratios, and what hours bring. */
public final class SlotTest {
    private static final Checks CHECK = new Checks();

    public static void main(String[] args) {
        sellTells();
        sellEndsWithTheDayAhead();
        sellRefuses();
        hoursWithoutSlots();
        hoursWithSlots();
        slotOfNoUnits();
        mostUnitsAndPrices();
        ofHourRefuses();
        ratios();
        broughtAddsUp();
        CHECK.end("SlotTest");
    }

    /** Makes 1000 units in each hour of a wind of 10. */
    private static Turbineorchard withOneTurbine() {
        return Orchards.withTurbines(0);
    }

    private static void dueHour(Turbineorchard x, int hour, int... want) {
        for (int what = 0; what < 4; what++) {
            CHECK.due("ofHour(" + hour + ", " + what + ")", x.ofHour(hour, what), want[what]);
        }
    }

    /** Promise 8. */
    private static void sellTells() {
        Turbineorchard x = new Turbineorchard();
        CHECK.due("without a slot", x.sell(24, 30000, 100), Turbineorchard.NONE);
        CHECK.due("30000 before", x.sell(24, 0, 1), 30000);
        CHECK.due("0 before", x.sell(24, 7, 2), 0);
        CHECK.due("7 before", x.sell(24, 7, 2), 7);
        CHECK.due("the last hour, without a slot", x.sell(479, 1, 1), Turbineorchard.NONE);
    }

    private static void sellEndsWithTheDayAhead() {
        Turbineorchard x = new Turbineorchard();
        CHECK.notNow("an hour of the first day", () -> x.sell(0, 1, 1));
        CHECK.notNow("the last hour of the first day", () -> x.sell(23, 1, 1));
        CHECK.due("the first of the second day", x.sell(24, 1, 1), -1);
        x.pass(23);
        CHECK.due("in the last hour of the day ahead", x.sell(24, 2, 1), 1);
        CHECK.due("the last hour of the second day", x.sell(47, 3, 1), -1);
        x.pass(1);
        CHECK.notNow("the hour of now", () -> x.sell(24, 4, 1));
        CHECK.notNow("the last hour of this day", () -> x.sell(47, 4, 1));
        CHECK.notNow("an hour that is over", () -> x.sell(0, 4, 1));
        CHECK.due("the first of the third day", x.sell(48, 4, 1), -1);
        x.pass(48);
        CHECK.due("sold for 24", x.ofHour(24, 1), 2);
        CHECK.due("sold for 47", x.ofHour(47, 1), 3);
        CHECK.due("sold for 48", x.ofHour(48, 1), 4);
    }

    private static void sellRefuses() {
        Turbineorchard x = new Turbineorchard();
        x.sell(24, 5, 5);
        CHECK.outOfRange("sell(-1, 1, 1)", () -> x.sell(-1, 1, 1));
        CHECK.outOfRange("sell(480, 1, 1)", () -> x.sell(480, 1, 1));
        CHECK.outOfRange("sell(24, -1, 1)", () -> x.sell(24, -1, 1));
        CHECK.outOfRange("sell(24, 30001, 1)", () -> x.sell(24, 30001, 1));
        CHECK.outOfRange("sell(24, 1, 0)", () -> x.sell(24, 1, 0));
        CHECK.outOfRange("sell(24, 1, 101)", () -> x.sell(24, 1, 101));
        CHECK.outOfRange("the range before the day", () -> x.sell(0, 1, 0));
        CHECK.outOfRange("the units before the day", () -> x.sell(0, 30001, 1));
        CHECK.due("sold before those", x.sell(24, 6, 6), 5);
    }

    /** Promise 13. */
    private static void hoursWithoutSlots() {
        Turbineorchard x = withOneTurbine();
        x.wind(1, 1, 0, true);
        x.pass(3);
        dueHour(x, 0, 1000, 0, -1000, 1000);
        dueHour(x, 1, 0, 0, 0, 0);
        dueHour(x, 2, 1000, 0, -1000, 1000);
    }

    private static void hoursWithSlots() {
        Turbineorchard x = withOneTurbine();
        x.sell(24, 1500, 10);
        x.sell(25, 900, 7);
        x.sell(26, 1000, 9);
        x.sell(27, 900, 1);
        x.sell(28, 5000, 3);
        x.sell(28, 2001, 4);
        x.sell(30, 1001, 5);
        x.sell(31, 999, 5);
        x.pass(32);
        dueHour(x, 24, 1000, 1500, 500, 5000);
        dueHour(x, 25, 1000, 900, -100, 6600);
        dueHour(x, 26, 1000, 1000, 0, 9000);
        dueHour(x, 27, 1000, 900, -100, 900);
        dueHour(x, 28, 1000, 2001, 1001, -4);
        dueHour(x, 29, 1000, 0, -1000, 1000);
        dueHour(x, 30, 1000, 1001, 1, 4995);
        dueHour(x, 31, 1000, 999, -1, 4997);
        CHECK.due("brought()", x.brought(), 25000 + 5000 + 6600 + 9000 + 900 - 4 + 4995 + 4997);
    }

    private static void slotOfNoUnits() {
        Turbineorchard x = withOneTurbine();
        x.sell(24, 0, 51);
        x.sell(25, 0, 1);
        x.pass(26);
        dueHour(x, 24, 1000, 0, -1000, 25000);
        dueHour(x, 25, 1000, 0, -1000, 0);
        CHECK.due("nothing was sold", x.ratio(24), 0);
    }

    private static void mostUnitsAndPrices() {
        Turbineorchard x = new Turbineorchard();
        for (int hour = 24; hour < 264; hour++) {
            x.sell(hour, 30000, 100);
        }
        for (int hour = 0; hour < 264; hour += 24) {
            x.pass(24);
        }
        dueHour(x, 263, 0, 30000, 30000, -3000000);
        CHECK.due("brought()", x.brought(), -3000000L * 240);
    }

    private static void ofHourRefuses() {
        Turbineorchard x = withOneTurbine();
        x.pass(2);
        CHECK.outOfRange("ofHour(2, 0)", () -> x.ofHour(2, 0));
        CHECK.outOfRange("ofHour(-1, 0)", () -> x.ofHour(-1, 0));
        CHECK.outOfRange("ofHour(480, 0)", () -> x.ofHour(480, 0));
        CHECK.outOfRange("ofHour(1, 4)", () -> x.ofHour(1, 4));
        CHECK.outOfRange("ofHour(1, -1)", () -> x.ofHour(1, -1));
        CHECK.due("ofHour(1, 0)", x.ofHour(1, 0), 1000);
    }

    /** Promise 14. */
    private static void ratios() {
        Turbineorchard x = withOneTurbine();
        x.sell(24, 3000, 1);
        x.sell(25, 400, 1);
        x.sell(26, 1000, 1);
        x.sell(27, 7, 1);
        x.wind(27, 27, 0, false);
        x.pass(28);
        CHECK.due("a third", x.ratio(24), 1000f / 3000f);
        CHECK.due("two and a half", x.ratio(25), 2.5);
        CHECK.due("one", x.ratio(26), 1);
        CHECK.due("nothing made", x.ratio(27), 0);
        CHECK.due("nothing sold", x.ratio(23), 0);
        CHECK.outOfRange("ratio(28)", () -> x.ratio(28));
        CHECK.outOfRange("ratio(-1)", () -> x.ratio(-1));
        CHECK.outOfRange("ratio(480)", () -> x.ratio(480));
    }

    /** Promise 17. */
    private static void broughtAddsUp() {
        Turbineorchard x = withOneTurbine();
        x.sell(24, 1500, 10);
        CHECK.due("at first", x.brought(), 0);
        x.pass(1);
        CHECK.due("after an hour", x.brought(), 1000);
        x.pass(23);
        CHECK.due("after a day", x.brought(), 24000);
        x.pass(1);
        CHECK.due("after the slot", x.brought(), 29000);
        x.breaks(0);
        x.pass(1);
        CHECK.due("after an hour of nothing", x.brought(), 29000);
    }
}
