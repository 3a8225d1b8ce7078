/** Promises 1, 2, 3, 5, 10, 11, 12 and 16: turbines, the wind, wakes, and what is foretold. */
public final class FieldTest {
    private static final Checks CHECK = new Checks();

    public static void main(String[] args) {
        newObject();
        turbineBuilds();
        turbineRefuses();
        windIsTold();
        windRefuses();
        breaksCounts();
        windAtAlongColumn();
        windAtAlongRow();
        windAtBothSidesOfBroken();
        windAtIgnoresRepairs();
        foretoldPowers();
        foretoldOfOtherHours();
        foretoldWithBrokenOnes();
        powerlessTurbinesTakeWind();
        ofTurbineTells();
        CHECK.end("FieldTest");
    }

    private static Turbineorchard withTurbines(int... places) {
        return Orchards.withTurbines(places);
    }

    private static void dueForetold(Turbineorchard x, int hour, int want) {
        CHECK.due("foretold(" + hour + ")", x.foretold(hour), want);
        CHECK.due("foretoldAnew(" + hour + ")", x.foretoldAnew(hour), want);
    }

    /** Promise 1. */
    private static void newObject() {
        Turbineorchard x = new Turbineorchard();
        CHECK.due("NONE", Turbineorchard.NONE, -1);
        CHECK.due("brought()", x.brought(), 0);
        dueForetold(x, 0, 0);
        dueForetold(x, 479, 0);
        CHECK.noSuch("windAt(0) without turbines", () -> x.windAt(0));
        CHECK.noSuch("ofTurbine(0, 0) without turbines", () -> x.ofTurbine(0, 0));
        CHECK.noSuch("breaks(0) without turbines", () -> x.breaks(0));
        CHECK.noSuch("repair(0, 0, 1) without turbines", () -> x.repair(0, 0, 1));
        CHECK.outOfRange("ofHour(0, 0) in the hour 0", () -> x.ofHour(0, 0));
        CHECK.outOfRange("ratio(0) in the hour 0", () -> x.ratio(0));
        for (int boat = 0; boat < 3; boat++) {
            CHECK.due("ofBoat(boat, 0)", x.ofBoat(boat, 0), Turbineorchard.NONE);
            CHECK.due("ofBoat(boat, 1)", x.ofBoat(boat, 1), 0);
            CHECK.due("ofBoat(boat, 2)", x.ofBoat(boat, 2), 0);
            CHECK.due("ofBoat(boat, 3)", x.ofBoat(boat, 3), 0);
        }
        CHECK.due("pass(1)", x.pass(1), 1);
        CHECK.due("ofHour(0, 0) without turbines", x.ofHour(0, 0), 0);
        CHECK.due("brought() without turbines", x.brought(), 0);
        Turbineorchard other = withTurbines(5);
        CHECK.noSuch("a turbine of another object", () -> x.windAt(0));
        CHECK.due("the other object's turbine", other.windAt(0), 10);
    }

    /** Promise 2. */
    private static void turbineBuilds() {
        Turbineorchard x = new Turbineorchard();
        int[] places = {23, 0, 22, 1, 21, 2, 20, 3, 19, 4, 18, 5};
        for (int number = 0; number < places.length; number++) {
            CHECK.due("turbine(" + places[number] + ")", x.turbine(places[number]), number);
            CHECK.due("its place", x.ofTurbine(number, 0), places[number]);
        }
        CHECK.notNow("the turbine 12", () -> x.turbine(10));
        CHECK.notNow("the turbine 12 at a taken place", () -> x.turbine(23));
        CHECK.noSuch("turbine(24) of a full field", () -> x.turbine(24));
        CHECK.noSuch("ofTurbine(12, 0)", () -> x.ofTurbine(12, 0));
        // The first row and the last are full: 10 in the one, and three places behind it 9 in the other.
        dueForetold(x, 0, 6 * 1000 + 6 * 729);
        x.pass(1);
        CHECK.due("made by a full field", x.ofHour(0, 0), 6 * 1000 + 6 * 729);
    }

    private static void turbineRefuses() {
        Turbineorchard x = withTurbines(7);
        CHECK.noSuch("turbine(-1)", () -> x.turbine(-1));
        CHECK.noSuch("turbine(24)", () -> x.turbine(24));
        CHECK.noSuch("turbine(least)", () -> x.turbine(Integer.MIN_VALUE));
        CHECK.noSuch("turbine(most)", () -> x.turbine(Integer.MAX_VALUE));
        CHECK.notNow("turbine(7) again", () -> x.turbine(7));
        x.breaks(0);
        CHECK.notNow("turbine(7) where a broken one stands", () -> x.turbine(7));
        CHECK.noSuch("windAt(1) after what was refused", () -> x.windAt(1));
        CHECK.due("turbine(8) after what was refused", x.turbine(8), 1);
    }

    /** Promise 3. */
    private static void windIsTold() {
        Turbineorchard x = withTurbines(0);
        CHECK.due("wind(0, 479, 5, false)", x.wind(0, 479, 5, false), 480);
        CHECK.due("wind(3, 3, 6, false)", x.wind(3, 3, 6, false), 1);
        CHECK.due("wind(479, 479, 7, true)", x.wind(479, 479, 7, true), 1);
        dueForetold(x, 2, 125);
        dueForetold(x, 3, 216);
        dueForetold(x, 4, 125);
        dueForetold(x, 479, 343);
        CHECK.due("wind(2, 4, 8, false)", x.wind(2, 4, 8, false), 3);
        dueForetold(x, 1, 125);
        dueForetold(x, 2, 512);
        dueForetold(x, 4, 512);
        dueForetold(x, 5, 125);
        x.pass(2);
        CHECK.due("windAt(0) in the hour 2", x.windAt(0), 8);
        CHECK.due("wind of now", x.wind(2, 2, 40, false), 1);
        CHECK.due("windAt(0) as told for now", x.windAt(0), 40);
        CHECK.due("wind(2, 2, 0, false)", x.wind(2, 2, 0, false), 1);
        CHECK.due("windAt(0) without wind", x.windAt(0), 0);
    }

    private static void windRefuses() {
        Turbineorchard x = withTurbines(0);
        x.pass(5);
        CHECK.outOfRange("wind of the hour before", () -> x.wind(4, 10, 20, true));
        CHECK.outOfRange("wind(-1, ..)", () -> x.wind(-1, 10, 20, true));
        CHECK.outOfRange("wind(480, 480, ..)", () -> x.wind(480, 480, 20, true));
        CHECK.outOfRange("wind(7, 6, ..)", () -> x.wind(7, 6, 20, true));
        CHECK.outOfRange("wind(7, 480, ..)", () -> x.wind(7, 480, 20, true));
        CHECK.outOfRange("wind(7, most, ..)", () -> x.wind(7, Integer.MAX_VALUE, 20, true));
        CHECK.outOfRange("a speed of -1", () -> x.wind(5, 479, -1, true));
        CHECK.outOfRange("a speed of 41", () -> x.wind(5, 479, 41, true));
        dueForetold(x, 5, 1000);
        dueForetold(x, 10, 1000);
        dueForetold(x, 479, 1000);
        CHECK.due("waves as before", x.waves(7, 0), 3);
    }

    /** Promise 5. */
    private static void breaksCounts() {
        Turbineorchard x = withTurbines(0, 8, 16);
        CHECK.due("breaks(2)", x.breaks(2), 1);
        CHECK.notNow("breaks(2) again", () -> x.breaks(2));
        CHECK.noSuch("breaks(3)", () -> x.breaks(3));
        CHECK.noSuch("breaks(-1)", () -> x.breaks(-1));
        CHECK.due("breaks(0)", x.breaks(0), 2);
        dueForetold(x, 0, 1000);
        x.repair(0, 2, 1);
        CHECK.notNow("breaks(2) in its repair", () -> x.breaks(2));
        x.pass(1);
        CHECK.due("made with two broken", x.ofHour(0, 0), 1000);
        CHECK.due("breaks(1) after a repair", x.breaks(1), 2);
        CHECK.due("breaks(2) after its repair", x.breaks(2), 3);
        x.pass(1);
        CHECK.due("made with all broken", x.ofHour(1, 0), 0);
    }

    /** Promise 10: column 2 from the north, wind 39: 30, 20 and 10 hundredths, each rounded down. */
    private static void windAtAlongColumn() {
        Turbineorchard x = withTurbines(20, 2, 14, 8);
        x.wind(0, 479, 39, false);
        CHECK.due("the first of its column", x.windAt(1), 39);
        CHECK.due("one 1 place behind", x.windAt(3), 28);
        CHECK.due("one 2 places behind", x.windAt(2), 23);
        CHECK.due("one 3 places behind", x.windAt(0), 21);
        CHECK.noSuch("windAt(4)", () -> x.windAt(4));
        CHECK.noSuch("windAt(-1)", () -> x.windAt(-1));
        x.breaks(3);
        CHECK.due("2 places behind alone", x.windAt(2), 32);
        x.wind(0, 0, 33, false);
        CHECK.due("a wake of just under 10", x.windAt(3), 24);
        x.wind(0, 0, 39, true);
        for (int turbine = 0; turbine < 4; turbine++) {
            CHECK.due("alone in its row", x.windAt(turbine), 39);
        }
    }

    private static void windAtAlongRow() {
        Turbineorchard x = withTurbines(6, 11, 10, 5, 12);
        x.wind(0, 479, 40, true);
        CHECK.due("the first of its row", x.windAt(0), 40);
        CHECK.due("4 places behind alone", x.windAt(2), 36);
        CHECK.due("1 and 5 places behind", x.windAt(1), 26);
        CHECK.due("the last of the row before", x.windAt(3), 40);
        CHECK.due("the first of the row after", x.windAt(4), 40);
        x.turbine(9);
        CHECK.due("3 places behind alone", x.windAt(5), 36);
        CHECK.due("1 and 4 places behind", x.windAt(2), 26);
        CHECK.due("1, 2 and 5 places behind", x.windAt(1), 21);
        x.wind(0, 0, 19, true);
        // 19 - 5 = 14, 14 - 2 = 12, 12 - 1 = 11
        CHECK.due("the nearest first", x.windAt(1), 11);
    }

    private static void windAtBothSidesOfBroken() {
        Turbineorchard x = withTurbines(3, 9, 15, 21);
        x.breaks(1);
        CHECK.due("at a broken one", x.windAt(1), 7);
        CHECK.due("behind a broken one", x.windAt(2), 8);
        CHECK.due("the last", x.windAt(3), 7);
        x.breaks(0);
        CHECK.due("the one before broke too", x.windAt(1), 10);
        CHECK.due("all before broke", x.windAt(2), 10);
    }

    private static void windAtIgnoresRepairs() {
        Turbineorchard x = withTurbines(0, 6, 7, 13);
        x.breaks(2);
        x.repair(0, 2, 5);
        CHECK.due("at 6", x.windAt(1), 7);
        CHECK.due("at 13, behind the broken one", x.windAt(3), 10);
        x.pass(1);
        CHECK.due("what 6 and 13 made when still", x.ofHour(0, 0), 1000);
        CHECK.due("at 6 after a still hour", x.windAt(1), 7);
        x.wind(1, 1, 10, true);
        CHECK.due("at 7 behind the stilled 6", x.windAt(2), 7);
        dueForetold(x, 1, 3000);
    }

    /** Promises 11 and 12. */
    private static void foretoldPowers() {
        Turbineorchard x = withTurbines(23);
        int[] winds = {0, 3, 4, 5, 11, 12, 13, 24, 25, 26, 40};
        int[] powers = {0, 0, 64, 125, 1331, 1728, 2000, 2000, 2000, 0, 0};
        for (int i = 0; i < winds.length; i++) {
            x.wind(i, i, winds[i], i % 2 == 0);
            dueForetold(x, i, powers[i]);
        }
        x.pass(winds.length);
        for (int i = 0; i < winds.length; i++) {
            CHECK.due("made with a wind of " + winds[i], x.ofHour(i, 0), powers[i]);
        }
        CHECK.outOfRange("foretold of an hour that is over", () -> x.foretold(10));
        CHECK.outOfRange("foretoldAnew of an hour that is over", () -> x.foretoldAnew(10));
        CHECK.outOfRange("foretold(480)", () -> x.foretold(480));
        CHECK.outOfRange("foretoldAnew(480)", () -> x.foretoldAnew(480));
        CHECK.outOfRange("foretold(-1)", () -> x.foretold(-1));
        CHECK.outOfRange("foretoldAnew(-1)", () -> x.foretoldAnew(-1));
        dueForetold(x, 11, 1000);
    }

    private static void foretoldOfOtherHours() {
        Turbineorchard x = withTurbines(0, 1, 6);
        x.wind(1, 1, 10, true);
        dueForetold(x, 0, 2343);
        dueForetold(x, 1, 2343);
        x.wind(1, 1, 12, true);
        dueForetold(x, 1, 1728 + 729 + 1728);
        x.turbine(7);
        dueForetold(x, 1, 2 * (1728 + 729));
        dueForetold(x, 0, 2 * (1000 + 343));
    }

    private static void foretoldWithBrokenOnes() {
        Turbineorchard x = withTurbines(0, 6, 12);
        x.breaks(0);
        dueForetold(x, 0, 1343);
        dueForetold(x, 479, 1343);
        x.repair(1, 0, 1);
        dueForetold(x, 0, 1343);
        dueForetold(x, 1, 1343);
        x.pass(1);
        CHECK.due("made while 6 was still", x.ofHour(0, 0), 1000);
        dueForetold(x, 1, 1000 + 343 + 216);
    }

    private static void powerlessTurbinesTakeWind() {
        Turbineorchard x = withTurbines(0, 6);
        x.wind(0, 0, 30, false);
        dueForetold(x, 0, 2000);
        x.wind(1, 1, 5, false);
        dueForetold(x, 1, 125 + 64);
        x.wind(2, 2, 4, false);
        dueForetold(x, 2, 64);
        x.pass(3);
        CHECK.due("made behind a powerless one", x.ofHour(0, 0), 2000);
        CHECK.due("the powerless one made", x.ofTurbine(0, 2), 125 + 64);
    }

    /** Promise 16. */
    private static void ofTurbineTells() {
        Turbineorchard x = withTurbines(14, 3);
        CHECK.due("place 14", x.ofTurbine(0, 0), 14);
        CHECK.due("place 3", x.ofTurbine(1, 0), 3);
        CHECK.due("not broken", x.ofTurbine(1, 1), 0);
        CHECK.due("made nothing yet", x.ofTurbine(1, 2), 0);
        x.breaks(1);
        CHECK.due("broken", x.ofTurbine(1, 1), 1);
        CHECK.due("the other is not", x.ofTurbine(0, 1), 0);
        x.pass(3);
        CHECK.due("made in 3 hours", x.ofTurbine(0, 2), 3000);
        CHECK.due("made while broken", x.ofTurbine(1, 2), 0);
        CHECK.noSuch("ofTurbine(2, 0)", () -> x.ofTurbine(2, 0));
        CHECK.noSuch("ofTurbine(-1, 0)", () -> x.ofTurbine(-1, 0));
        CHECK.noSuch("the turbine before what", () -> x.ofTurbine(2, 3));
        CHECK.outOfRange("ofTurbine(0, 3)", () -> x.ofTurbine(0, 3));
        CHECK.outOfRange("ofTurbine(0, -1)", () -> x.ofTurbine(0, -1));
    }
}
