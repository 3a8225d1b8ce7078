/**
 * Slots, imbalances and what hours bring at their bounds: above each test stand the words of the document that
 * it holds, with the last value that is taken and the first that is refused.
 */
public final class SlotEdgesTest {
    private static final Checks CHECK = new Checks();
    private static final int NONE = Turbineorchard.NONE;

    public static void main(String[] args) {
        noneIsMinus1();
        slotHours();
        slotUnits();
        slotPrices();
        noneOfTheFirstDay();
        untilTheDayAheadHasEnded();
        rangesBeforeTheDay();
        toldAnew();
        aSlotOfNoUnits();
        withoutASlot();
        imbalanceAbove0AndBelow();
        halfOfThePrice();
        twiceThePrice();
        mostThatAnHourBrings();
        leastThatAnHourBrings();
        hoursThatAreOver();
        ofHourWhats();
        ratiosOfNothing();
        ratiosAsFloats();
        broughtByHoursThatAreOver();
        CHECK.end("SlotEdgesTest");
    }

    /** Makes 1000 units in each hour of a wind of 10. */
    private static Turbineorchard withOneTurbine() {
        return Orchards.withTurbines(0);
    }

    private static Turbineorchard withTwelveTurbines() {
        return Orchards.withTurbines(0, 1, 2, 3, 4, 5, 6, 7, 8, 9, 10, 11);
    }

    private static void dueHour(Turbineorchard x, int hour, int... want) {
        for (int what = 0; what < 4; what++) {
            CHECK.due("ofHour(" + hour + ", " + what + ")", x.ofHour(hour, what), want[what]);
        }
    }

    /** "NONE = -1". */
    private static void noneIsMinus1() {
        CHECK.due("NONE", Turbineorchard.NONE, -1);
        CHECK.due("no slot", new Turbineorchard().sell(479, 1, 1), -1);
        CHECK.due("no repair", new Turbineorchard().ofBoat(2, 0), -1);
    }

    /** "hour: 0 to 479": 0 and 479 are in range, and 0 is of the first day. */
    private static void slotHours() {
        Turbineorchard x = new Turbineorchard();
        CHECK.notNow("sell(0, ..)", () -> x.sell(0, 1, 1));
        CHECK.due("sell(479, ..)", x.sell(479, 1, 1), NONE);
        for (int hour : new int[] {-1, 480, Integer.MIN_VALUE, Integer.MAX_VALUE}) {
            CHECK.outOfRange("sell(" + hour + ", ..)", () -> x.sell(hour, 1, 1));
        }
    }

    /** "units: 0 to 30000". */
    private static void slotUnits() {
        Turbineorchard x = new Turbineorchard();
        CHECK.due("no units", x.sell(24, 0, 1), NONE);
        CHECK.due("one unit", x.sell(24, 1, 1), 0);
        CHECK.due("29999 units", x.sell(24, 29999, 1), 1);
        CHECK.due("30000 units", x.sell(24, 30000, 1), 29999);
        for (int units : new int[] {-1, 30001, Integer.MIN_VALUE, Integer.MAX_VALUE}) {
            CHECK.outOfRange("sell(24, " + units + ", 1)", () -> x.sell(24, units, 1));
            CHECK.outOfRange("sell(25, " + units + ", 1)", () -> x.sell(25, units, 1));
        }
        CHECK.due("after those", x.sell(24, 1, 1), 30000);
        CHECK.due("without", x.sell(25, 1, 1), NONE);
    }

    /** "price: 1 to 100". */
    private static void slotPrices() {
        Turbineorchard x = withOneTurbine();
        x.sell(24, 1000, 1);
        x.sell(25, 1000, 2);
        x.sell(26, 1000, 99);
        x.sell(27, 1000, 100);
        for (int price : new int[] {0, 101, -1, Integer.MIN_VALUE, Integer.MAX_VALUE}) {
            CHECK.outOfRange("sell(27, 900, " + price + ")", () -> x.sell(27, 900, price));
        }
        x.pass(28);
        dueHour(x, 24, 1000, 1000, 0, 1000);
        dueHour(x, 25, 1000, 1000, 0, 2000);
        dueHour(x, 26, 1000, 1000, 0, 99000);
        dueHour(x, 27, 1000, 1000, 0, 100000);
    }

    /** "so for none of the first day". */
    private static void noneOfTheFirstDay() {
        Turbineorchard x = new Turbineorchard();
        for (int hour = 0; hour <= 23; hour++) {
            int ofFirstDay = hour;
            CHECK.notNow("sell(" + hour + ", 1, 1)", () -> x.sell(ofFirstDay, 1, 1));
        }
        for (int hour = 24; hour <= 479; hour++) {
            CHECK.due("sell(" + hour + ", 1, 1)", x.sell(hour, 1, 1), NONE);
        }
    }

    /** "a slot can be sold until the day ahead of its day has ended": the last hour of each day and the next. */
    private static void untilTheDayAheadHasEnded() {
        for (int day = 1; day < 20; day++) {
            int first = 24 * day;
            Turbineorchard x = Orchards.inHour(first - 1);
            CHECK.notNow("this day's last hour, before the day " + day, () -> x.sell(first - 1, 1, 1));
            CHECK.due("the first hour of the day " + day, x.sell(first, 2, 1), NONE);
            CHECK.due("the last hour of the day " + day, x.sell(first + 23, 3, 1), NONE);
            CHECK.due("the first hour again", x.sell(first, 4, 1), 2);
            x.pass(1);
            CHECK.notNow("the first hour in the day " + day, () -> x.sell(first, 5, 1));
            CHECK.notNow("the last hour in the day " + day, () -> x.sell(first + 23, 5, 1));
            CHECK.notNow("an hour that is over", () -> x.sell(first - 1, 5, 1));
            CHECK.notNow("the hour 0", () -> x.sell(0, 5, 1));
            dueNextDay(x, first + 24);
            x.pass(23);
            CHECK.notNow("the last hour in itself", () -> x.sell(first + 23, 5, 1));
            CHECK.due("what was sold for the first", x.ofHour(first, 1), 4);
        }
    }

    private static void dueNextDay(Turbineorchard x, int hour) {
        if (hour < 480) {
            CHECK.due("the first hour of the day after", x.sell(hour, 6, 1), NONE);
        } else {
            CHECK.outOfRange("there is no day after", () -> x.sell(hour, 6, 1));
        }
    }

    /** "If several exceptions apply, the one that is documented first is thrown." */
    private static void rangesBeforeTheDay() {
        Turbineorchard x = Orchards.inHour(30);
        for (int hour : new int[] {0, 23, 30, 47}) {
            CHECK.notNow("sell(" + hour + ", 0, 1)", () -> x.sell(hour, 0, 1));
            CHECK.notNow("sell(" + hour + ", 30000, 100)", () -> x.sell(hour, 30000, 100));
            CHECK.outOfRange("sell(" + hour + ", -1, 1)", () -> x.sell(hour, -1, 1));
            CHECK.outOfRange("sell(" + hour + ", 30001, 1)", () -> x.sell(hour, 30001, 1));
            CHECK.outOfRange("sell(" + hour + ", 1, 0)", () -> x.sell(hour, 1, 0));
            CHECK.outOfRange("sell(" + hour + ", 1, 101)", () -> x.sell(hour, 1, 101));
        }
        CHECK.due("the day after", x.sell(48, 1, 1), NONE);
    }

    /** "told anew it takes the place of what was told": the units and the price, of that hour alone. */
    private static void toldAnew() {
        Turbineorchard x = withOneTurbine();
        x.sell(24, 2000, 50);
        x.sell(25, 2000, 50);
        CHECK.due("told anew", x.sell(24, 500, 3), 2000);
        CHECK.due("told anew once more", x.sell(24, 600, 4), 500);
        x.pass(26);
        dueHour(x, 24, 1000, 600, -400, 600 * 4 + 400 * 2);
        dueHour(x, 25, 1000, 2000, 1000, 0);
    }

    /** "units: 0": a slot of none has its price all the same. */
    private static void aSlotOfNoUnits() {
        Turbineorchard x = withOneTurbine();
        x.sell(24, 0, 100);
        x.sell(25, 700, 9);
        CHECK.due("told anew as none", x.sell(25, 0, 9), 700);
        x.sell(26, 0, 1);
        x.pass(27);
        dueHour(x, 24, 1000, 0, -1000, 50000);
        dueHour(x, 25, 1000, 0, -1000, 4000);
        dueHour(x, 26, 1000, 0, -1000, 0);
    }

    /** "without a slot the price is 2". */
    private static void withoutASlot() {
        Turbineorchard x = withOneTurbine();
        x.wind(25, 25, 3, false);
        x.wind(26, 26, 4, false);
        x.pass(27);
        dueHour(x, 0, 1000, 0, -1000, 1000);
        dueHour(x, 24, 1000, 0, -1000, 1000);
        dueHour(x, 25, 0, 0, 0, 0);
        dueHour(x, 26, 64, 0, -64, 64);
    }

    /** "if that is above 0, twice the price for each, if it is below 0 nothing is paid": 1, 0 and -1. */
    private static void imbalanceAbove0AndBelow() {
        Turbineorchard x = withOneTurbine();
        x.sell(24, 1001, 7);
        x.sell(25, 1000, 7);
        x.sell(26, 999, 7);
        x.pass(27);
        dueHour(x, 24, 1000, 1001, 1, 7007 - 14);
        dueHour(x, 25, 1000, 1000, 0, 7000);
        dueHour(x, 26, 1000, 999, -1, 6993 + 3);
    }

    /** "a half of the price, rounded down, is got for each unit more than was sold": each price. */
    private static void halfOfThePrice() {
        Turbineorchard x = withOneTurbine();
        for (int price = 1; price <= 100; price++) {
            x.sell(23 + price, 990, price);
        }
        Orchards.passTo(x, 124);
        for (int price = 1; price <= 100; price++) {
            int half = price % 2 == 0 ? price / 2 : (price - 1) / 2;
            dueHour(x, 23 + price, 1000, 990, -10, 990 * price + 10 * half);
        }
    }

    /** "twice the price for each": each price. */
    private static void twiceThePrice() {
        Turbineorchard x = withOneTurbine();
        for (int price = 1; price <= 100; price++) {
            x.sell(23 + price, 3000, price);
        }
        Orchards.passTo(x, 124);
        for (int price = 1; price <= 100; price++) {
            dueHour(x, 23 + price, 1000, 3000, 2000, 3000 * price - 4000 * price);
        }
    }

    /** All turbines at their most, all of it sold at the highest price; all of it, without one unit sold. */
    private static void mostThatAnHourBrings() {
        Turbineorchard x = withTwelveTurbines();
        x.wind(0, 479, 25, false);
        for (int hour = 24; hour <= 479; hour++) {
            x.sell(hour, hour % 2 == 0 ? 24000 : 0, 100);
        }
        Orchards.passTo(x, 479);
        dueHour(x, 478, 24000, 24000, 0, 2400000);
        dueHour(x, 477, 24000, 0, -24000, 1200000);
        CHECK.due("brought()", x.brought(), 24L * 24000 + 228L * 2400000 + 227L * 1200000);
    }

    /** "perhaps below 0": as much sold as can be, and nothing made. */
    private static void leastThatAnHourBrings() {
        Turbineorchard x = new Turbineorchard();
        for (int hour = 24; hour <= 479; hour++) {
            x.sell(hour, 30000, 100);
        }
        Orchards.passTo(x, 479);
        dueHour(x, 24, 0, 30000, 30000, -3000000);
        dueHour(x, 478, 0, 30000, 30000, -3000000);
        CHECK.due("brought()", x.brought(), -3000000L * 455);
    }

    /** "hour: 0 to less than that of now". */
    private static void hoursThatAreOver() {
        for (int now : new int[] {0, 1, 2, 478, 479}) {
            Turbineorchard x = Orchards.inHour(now, 0);
            for (int hour : new int[] {-1, now, now + 1, 479, 480, Integer.MIN_VALUE, Integer.MAX_VALUE}) {
                CHECK.outOfRange("ofHour(" + hour + ", 0) in the hour " + now, () -> x.ofHour(hour, 0));
                CHECK.outOfRange("ratio(" + hour + ") in the hour " + now, () -> x.ratio(hour));
            }
            if (now > 0) {
                dueHour(x, 0, 1000, 0, -1000, 1000);
                dueHour(x, now - 1, 1000, 0, -1000, 1000);
                CHECK.due("ratio(0)", x.ratio(0), 0);
                CHECK.due("ratio of the hour before", x.ratio(now - 1), 0);
            }
        }
    }

    /** "what: 0 what was made; 1 what was sold; 2 the imbalance; 3 what it brought". */
    private static void ofHourWhats() {
        Turbineorchard x = withOneTurbine();
        x.sell(24, 1200, 5);
        x.pass(25);
        dueHour(x, 24, 1000, 1200, 200, 4000);
        for (int what : new int[] {-1, 4, Integer.MIN_VALUE, Integer.MAX_VALUE}) {
            CHECK.outOfRange("ofHour(24, " + what + ")", () -> x.ofHour(24, what));
            CHECK.outOfRange("ofHour(25, " + what + ")", () -> x.ofHour(25, what));
        }
    }

    /** "0 if nothing was": sold; and 0 too if nothing was made. */
    private static void ratiosOfNothing() {
        Turbineorchard x = withOneTurbine();
        x.sell(25, 0, 1);
        x.sell(26, 1, 1);
        x.sell(27, 1, 1);
        x.wind(27, 28, 0, false);
        x.pass(29);
        CHECK.due("without a slot", x.ratio(24), 0);
        CHECK.due("a slot of no units", x.ratio(25), 0);
        CHECK.due("a slot of one unit", x.ratio(26), 1000);
        CHECK.due("one unit, and nothing made", x.ratio(27), 0);
        CHECK.due("nothing sold and nothing made", x.ratio(28), 0);
        CHECK.due("not below 0", 1 / x.ratio(27), Double.POSITIVE_INFINITY);
    }

    /** "what was made, as float, divided by what was sold, as float". */
    private static void ratiosAsFloats() {
        Turbineorchard x = withTwelveTurbines();
        x.wind(0, 479, 25, false);
        int[] sold = {1, 7, 23999, 24000, 24001, 29999, 30000};
        for (int i = 0; i < sold.length; i++) {
            x.sell(24 + i, sold[i], 1);
        }
        x.pass(24 + sold.length);
        for (int i = 0; i < sold.length; i++) {
            CHECK.due("24000 of " + sold[i], x.ratio(24 + i), 24000f / sold[i]);
        }
    }

    /** "Returns what all hours that are over brought.": none, one, and with one below 0. */
    private static void broughtByHoursThatAreOver() {
        Turbineorchard x = withOneTurbine();
        CHECK.due("no hour", x.brought(), 0);
        x.sell(24, 30000, 100);
        CHECK.due("no hour, with a slot", x.brought(), 0);
        x.pass(1);
        CHECK.due("one hour", x.brought(), 1000);
        x.pass(23);
        CHECK.due("the first day", x.brought(), 24000);
        x.pass(1);
        CHECK.due("an hour below 0", x.brought(), 24000 + 3000000 - 29000 * 200);
        x.pass(24);
        long sum = 0;
        for (int hour = 0; hour < 49; hour++) {
            sum += x.ofHour(hour, 3);
        }
        CHECK.due("the sum of the hours", x.brought(), sum);
    }
}
