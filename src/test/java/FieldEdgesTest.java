/**
 * The field, wakes and power at their bounds: above each test stand the words of the document that it holds,
 * with the last value that is taken and the first that is refused.
 */
public final class FieldEdgesTest {
    private static final Checks CHECK = new Checks();

    public static void main(String[] args) {
        placesFrom0To23();
        columnsAndRows();
        mostTurbines();
        aPlaceOfItsOwn();
        emptyAndFullField();
        hourAtFirst();
        firstAndLastHour();
        speedOfTheWind();
        windAtFirst();
        windFromTheHourOfNow();
        windToTheLastHour();
        windOfHoursThatItNames();
        windHowManyHours();
        wakesByDistance();
        wakesRoundedDown();
        wakesNearestFirst();
        wakesOfThoseThatTurn();
        wakesOfPowerlessOnes();
        powerBelow4AndAbove25();
        powerAtMost2000();
        powerBehindAWake();
        breaksFromNoneToAll();
        turbinesFrom0On();
        windAtTurningOrNot();
        windAtWithoutRepairs();
        foretoldFromTheHourOfNow();
        foretoldOfThoseNotBroken();
        foretoldAnewIsTheSame();
        ofTurbineWhats();
        CHECK.end("FieldEdgesTest");
    }

    private static Turbineorchard withTurbines(int... places) {
        return Orchards.withTurbines(places);
    }

    private static void dueForetold(String when, Turbineorchard x, int hour, int want) {
        CHECK.due(when + ": foretold(" + hour + ")", x.foretold(hour), want);
        CHECK.due(when + ": foretoldAnew(" + hour + ")", x.foretoldAnew(hour), want);
    }

    /** Tells the wind of the hour of now, and asks for the one at a turbine. */
    private static void dueWind(Turbineorchard x, int speed, boolean west, int turbine, int want) {
        x.wind(0, 0, speed, west);
        CHECK.due("windAt(" + turbine + ") in a wind of " + speed, x.windAt(turbine), want);
    }

    /** "numbered by rows from 0 to 23"; "if there is no such place". */
    private static void placesFrom0To23() {
        for (int place = 0; place <= 23; place++) {
            Turbineorchard x = new Turbineorchard();
            CHECK.due("turbine(" + place + ")", x.turbine(place), 0);
            CHECK.due("the place " + place, x.ofTurbine(0, 0), place);
        }
        Turbineorchard x = new Turbineorchard();
        for (int place : new int[] {-1, 24, Integer.MIN_VALUE, Integer.MAX_VALUE}) {
            CHECK.noSuch("turbine(" + place + ")", () -> x.turbine(place));
        }
        CHECK.due("the first that is built after those", x.turbine(23), 0);
    }

    /** "6 columns and 4 rows"; "down the columns, 1 from the west, along the rows": each place ahead of each other. */
    private static void columnsAndRows() {
        for (int ahead = 0; ahead < 24; ahead++) {
            for (int behind = 0; behind < 24; behind++) {
                if (ahead != behind) {
                    placeAheadOfAnother(ahead, behind);
                }
            }
        }
    }

    private static void placeAheadOfAnother(int ahead, int behind) {
        int[] left = {40, 28, 32, 36, 36, 36};
        int rows = behind % 6 == ahead % 6 && behind > ahead ? behind / 6 - ahead / 6 : 0;
        int columns = behind / 6 == ahead / 6 && behind > ahead ? behind % 6 - ahead % 6 : 0;
        Turbineorchard x = withTurbines(behind, ahead);
        x.wind(0, 0, 40, false);
        CHECK.due("at " + behind + ", with " + ahead + " turning, from the north", x.windAt(0), left[rows]);
        x.wind(0, 0, 40, true);
        CHECK.due("at " + behind + ", with " + ahead + " turning, from the west", x.windAt(0), left[columns]);
    }

    /** "Turbines are numbered from 0, at most 12"; "or there are 12". */
    private static void mostTurbines() {
        Turbineorchard x = new Turbineorchard();
        for (int number = 0; number < 12; number++) {
            CHECK.due("the turbine " + number, x.turbine(23 - number), number);
        }
        CHECK.notNow("a turbine 12", () -> x.turbine(0));
        CHECK.notNow("a turbine 12, asked for again", () -> x.turbine(11));
        CHECK.noSuch("its windAt", () -> x.windAt(12));
        CHECK.due("the place of the turbine 11", x.ofTurbine(11, 0), 12);
        x.breaks(11);
        CHECK.notNow("a turbine 12 when one is broken", () -> x.turbine(0));
    }

    /** "each at a place of its own"; "if one stands there". */
    private static void aPlaceOfItsOwn() {
        Turbineorchard x = withTurbines(0, 23, 11);
        for (int place : new int[] {0, 23, 11}) {
            CHECK.notNow("turbine(" + place + ") once more", () -> x.turbine(place));
        }
        CHECK.due("a place behind a taken one", x.turbine(1), 3);
        CHECK.due("a place before a taken one", x.turbine(22), 4);
        CHECK.due("a place between", x.turbine(12), 5);
        CHECK.notNow("turbine(12) once more", () -> x.turbine(12));
    }

    /** "No turbines"; "What is made in an hour is the power of all turbines". */
    private static void emptyAndFullField() {
        Turbineorchard x = new Turbineorchard();
        dueForetold("an empty field", x, 0, 0);
        x.pass(1);
        CHECK.due("made by an empty field", x.ofHour(0, 0), 0);
        CHECK.due("brought by an empty field", x.brought(), 0);
        CHECK.due("the ratio of an empty field", x.ratio(0), 0);
        for (int number = 0; number < 12; number++) {
            x.turbine(number);
        }
        // In six columns 20 stands before 14.
        x.wind(1, 1, 20, false);
        dueForetold("a full field", x, 1, 24000);
        x.pass(1);
        CHECK.due("made by a full field", x.ofHour(1, 0), 24000);
        CHECK.due("made before it was full", x.ofHour(0, 0), 0);
        for (int number = 0; number < 12; number++) {
            CHECK.due("made by the turbine " + number, x.ofTurbine(number, 2), 2000);
        }
    }

    /** "Hours are counted from 0; it is the hour 0 at first." */
    private static void hourAtFirst() {
        Turbineorchard x = new Turbineorchard();
        CHECK.outOfRange("the hour 0 is not over", () -> x.ofHour(0, 0));
        CHECK.outOfRange("there is no hour -1", () -> x.foretold(-1));
        CHECK.due("the wind of the hour 0", x.wind(0, 0, 10, false), 1);
        CHECK.due("the next hour", x.pass(1), 1);
        CHECK.due("the hour 0 is over", x.ofHour(0, 0), 0);
        CHECK.outOfRange("the hour 1 is not over", () -> x.ofHour(1, 0));
    }

    /** "Hours are 0 to 479." */
    private static void firstAndLastHour() {
        Turbineorchard x = new Turbineorchard();
        CHECK.due("wind in the last hour", x.wind(479, 479, 1, false), 1);
        CHECK.due("waves in the last hour", x.waves(479, 1), 0);
        CHECK.due("foretold in the last hour", x.foretold(479), 0);
        CHECK.due("foretoldAnew in the last hour", x.foretoldAnew(479), 0);
        CHECK.due("a slot in the last hour", x.sell(479, 1, 1), -1);
        for (int hour : new int[] {480, Integer.MAX_VALUE, -1, Integer.MIN_VALUE}) {
            CHECK.outOfRange("wind from " + hour, () -> x.wind(hour, hour, 1, false));
            CHECK.outOfRange("waves of " + hour, () -> x.waves(hour, 1));
            CHECK.outOfRange("foretold of " + hour, () -> x.foretold(hour));
            CHECK.outOfRange("foretoldAnew of " + hour, () -> x.foretoldAnew(hour));
            CHECK.outOfRange("a slot of " + hour, () -> x.sell(hour, 1, 1));
            CHECK.outOfRange("ofHour of " + hour, () -> x.ofHour(hour, 0));
            CHECK.outOfRange("ratio of " + hour, () -> x.ratio(hour));
        }
    }

    /** "In an hour the wind has a speed, 0 to 40". */
    private static void speedOfTheWind() {
        Turbineorchard x = withTurbines(0);
        for (int speed = 0; speed <= 40; speed++) {
            dueWind(x, speed, speed % 2 == 0, 0, speed);
        }
        for (int speed : new int[] {-1, 41, Integer.MIN_VALUE, Integer.MAX_VALUE}) {
            CHECK.outOfRange("a speed of " + speed, () -> x.wind(0, 479, speed, false));
        }
        CHECK.due("the wind after those", x.windAt(0), 40);
    }

    /** "10 at first, and a way, 0 from the north": in the first hour and the last. */
    private static void windAtFirst() {
        for (int hour : new int[] {0, 479}) {
            Turbineorchard x = Orchards.inHour(hour, 0, 1, 6);
            CHECK.due("the wind at first in the hour " + hour, x.windAt(0), 10);
            CHECK.due("along the row", x.windAt(1), 10);
            CHECK.due("down the column", x.windAt(2), 7);
            CHECK.due("the waves at first", x.waves(hour, 0), 3);
        }
    }

    /** "from: that of now to 479". */
    private static void windFromTheHourOfNow() {
        for (int now : new int[] {0, 1, 478, 479}) {
            Turbineorchard x = Orchards.inHour(now, 5);
            CHECK.outOfRange("wind from the hour before " + now, () -> x.wind(now - 1, 479, 7, true));
            CHECK.outOfRange("that hour alone", () -> x.wind(now - 1, now - 1, 7, true));
            CHECK.due("the wind after those", x.windAt(0), 10);
            CHECK.due("wind from the hour " + now, x.wind(now, now, 6, true), 1);
            CHECK.due("the wind told", x.windAt(0), 6);
            CHECK.due("wind from the last hour", x.wind(479, 479, 5, true), 1);
            CHECK.outOfRange("wind from the hour 480", () -> x.wind(480, 480, 7, true));
            dueForetold("the last hour told", x, 479, 125);
        }
    }

    /** "to: from to 479". */
    private static void windToTheLastHour() {
        Turbineorchard x = Orchards.inHour(3, 5);
        CHECK.due("to the same hour", x.wind(9, 9, 6, true), 1);
        CHECK.outOfRange("to the hour before", () -> x.wind(9, 8, 7, true));
        CHECK.outOfRange("to the hour of now, from a later one", () -> x.wind(9, 3, 7, true));
        CHECK.outOfRange("to the least", () -> x.wind(9, Integer.MIN_VALUE, 7, true));
        CHECK.due("to the last", x.wind(478, 479, 5, true), 2);
        CHECK.outOfRange("to the hour 480", () -> x.wind(478, 480, 7, true));
        CHECK.outOfRange("to the greatest", () -> x.wind(478, Integer.MAX_VALUE, 7, true));
        dueForetold("the same hour", x, 9, 216);
        dueForetold("the hour before", x, 8, 1000);
        dueForetold("the last but one", x, 478, 125);
        dueForetold("the last", x, 479, 125);
    }

    /** "Tells the wind of hours, in place of before": the hours beside them keep theirs. */
    private static void windOfHoursThatItNames() {
        Turbineorchard x = withTurbines(5);
        x.wind(100, 200, 6, true);
        dueForetold("before the first", x, 99, 1000);
        dueForetold("the first", x, 100, 216);
        dueForetold("the last", x, 200, 216);
        dueForetold("after the last", x, 201, 1000);
        x.wind(200, 201, 5, false);
        dueForetold("kept", x, 199, 216);
        dueForetold("in place of before", x, 200, 125);
        dueForetold("told at last", x, 201, 125);
    }

    /** "Returns how many hours that is." */
    private static void windHowManyHours() {
        Turbineorchard x = new Turbineorchard();
        CHECK.due("one hour", x.wind(0, 0, 10, true), 1);
        CHECK.due("two hours", x.wind(0, 1, 10, true), 2);
        CHECK.due("all hours", x.wind(0, 479, 10, true), 480);
        x.pass(48);
        CHECK.due("all hours that are left", x.wind(48, 479, 10, true), 432);
    }

    /** "30 when it is 1 place away, 20 when 2, otherwise 10". */
    private static void wakesByDistance() {
        Turbineorchard row = withTurbines(6, 7, 8, 9, 10, 11);
        int[] alongRow = {40, 28, 32, 36, 36, 36};
        row.wind(0, 479, 40, true);
        for (int turbine = 1; turbine < 6; turbine++) {
            row.breaks(turbine);
        }
        for (int away = 0; away < 6; away++) {
            CHECK.due(away + " places along the row", row.windAt(away), alongRow[away]);
        }
        Turbineorchard column = withTurbines(5, 11, 17, 23);
        column.wind(0, 479, 40, false);
        for (int turbine = 1; turbine < 4; turbine++) {
            column.breaks(turbine);
        }
        for (int away = 0; away < 4; away++) {
            CHECK.due(away + " places down the column", column.windAt(away), alongRow[away]);
        }
    }

    /** "what is taken is rounded down": each wind, and so both sides of each whole one that is taken. */
    private static void wakesRoundedDown() {
        Turbineorchard x = withTurbines(0, 1, 2, 5);
        x.breaks(1);
        x.breaks(2);
        for (int speed = 0; speed <= 40; speed++) {
            dueWind(x, speed, true, 1, speed - speed * 3 / 10);
            dueWind(x, speed, true, 2, speed - speed / 5);
            dueWind(x, speed, true, 3, speed - speed / 10);
        }
        dueWind(x, 3, true, 1, 3);
        dueWind(x, 4, true, 1, 3);
        dueWind(x, 4, true, 2, 4);
        dueWind(x, 5, true, 2, 4);
        dueWind(x, 9, true, 3, 9);
        dueWind(x, 10, true, 3, 9);
    }

    /** "the nearest first, so much less: of the wind that is left": the farthest first would leave 1 more or less. */
    private static void wakesNearestFirst() {
        Turbineorchard column = withTurbines(0, 6, 12);
        dueWind(column, 7, false, 2, 4);
        dueWind(column, 12, false, 2, 8);
        dueWind(column, 28, false, 2, 16);
        Turbineorchard row = withTurbines(0, 1, 2, 3, 4, 5);
        dueWind(row, 12, true, 5, 8);
        dueWind(row, 19, true, 5, 9);
        dueWind(row, 40, true, 5, 18);
        Turbineorchard apart = withTurbines(0, 4, 5);
        dueWind(apart, 11, true, 2, 8);
        dueWind(apart, 17, true, 2, 11);
        Turbineorchard builtBackwards = withTurbines(5, 4, 3, 2, 1, 0);
        dueWind(builtBackwards, 12, true, 0, 8);
        dueWind(builtBackwards, 40, true, 0, 18);
    }

    /** "A turbine that turns takes wind from those behind it": none of one ahead, and a broken one none. */
    private static void wakesOfThoseThatTurn() {
        Turbineorchard x = withTurbines(1, 7, 13);
        dueWind(x, 10, false, 0, 10);
        x.breaks(2);
        dueWind(x, 10, false, 2, 6);
        x.breaks(0);
        dueWind(x, 10, false, 1, 10);
        dueWind(x, 10, false, 2, 7);
        x.repair(0, 0, 1);
        dueWind(x, 10, false, 1, 10);
        x.pass(1);
        CHECK.due("behind one that turns again", x.windAt(1), 7);
        CHECK.due("behind both", x.windAt(2), 6);
    }

    /** "one whose power is 0 takes likewise, as long as it turns". */
    private static void wakesOfPowerlessOnes() {
        Turbineorchard x = withTurbines(0, 6);
        dueWind(x, 26, false, 1, 19);
        dueForetold("26 before 19", x, 0, 2000);
        dueWind(x, 40, false, 1, 28);
        dueForetold("40 before 28", x, 0, 0);
        x.breaks(0);
        dueWind(x, 26, false, 1, 26);
        dueForetold("26 behind a broken one", x, 0, 0);
        // 30 hundredths of 3 are less than 1, of 4 they are not.
        Turbineorchard y = withTurbines(0, 1, 2);
        dueWind(y, 3, true, 2, 3);
        dueWind(y, 4, true, 2, 3);
    }

    /** "0 below a wind of 4 and above 25". */
    private static void powerBelow4AndAbove25() {
        Turbineorchard x = withTurbines(12);
        int[] winds = {0, 1, 3, 4, 5, 24, 25, 26, 27, 40};
        int[] powers = {0, 0, 0, 64, 125, 2000, 2000, 0, 0, 0};
        for (int hour = 0; hour < winds.length; hour++) {
            x.wind(hour, hour, winds[hour], false);
            dueForetold("a wind of " + winds[hour], x, hour, powers[hour]);
        }
        x.pass(winds.length);
        for (int hour = 0; hour < winds.length; hour++) {
            CHECK.due("made in a wind of " + winds[hour], x.ofHour(hour, 0), powers[hour]);
        }
    }

    /** "otherwise the wind times itself times itself, at most 2000". */
    private static void powerAtMost2000() {
        Turbineorchard x = withTurbines(12);
        for (int wind = 4; wind <= 12; wind++) {
            x.wind(0, 0, wind, true);
            dueForetold("a wind of " + wind, x, 0, wind * wind * wind);
        }
        for (int wind = 13; wind <= 25; wind++) {
            x.wind(0, 0, wind, true);
            dueForetold("a wind of " + wind, x, 0, 2000);
        }
    }

    /** The same bounds for what a wake leaves, not for what is told. */
    private static void powerBehindAWake() {
        Turbineorchard x = withTurbines(3, 9);
        int[] winds = {4, 5, 17, 18, 19, 34, 35, 36, 37};
        int[] left = {3, 4, 12, 13, 14, 24, 25, 26, 26};
        int[] powers = {0, 64, 1728, 2000, 2000, 2000, 2000, 0, 0};
        x.pass(1);
        for (int i = 0; i < winds.length; i++) {
            x.wind(1 + i, 1 + i, winds[i], false);
        }
        int before = x.ofTurbine(1, 2);
        for (int i = 0; i < winds.length; i++) {
            CHECK.due("the wind behind one of " + winds[i], x.windAt(1), left[i]);
            x.pass(1);
            int made = x.ofTurbine(1, 2);
            CHECK.due("made behind a wind of " + winds[i], made - before, powers[i]);
            before = made;
        }
    }

    /** "Returns how many are broken."; "if it is broken": the first and all twelve. */
    private static void breaksFromNoneToAll() {
        Turbineorchard x = withTurbines(0, 1, 2, 3, 4, 5, 6, 7, 8, 9, 10, 11);
        int broken = 0;
        for (int turbine : new int[] {11, 0, 5, 6, 1, 10, 2, 9, 3, 8, 4, 7}) {
            broken++;
            CHECK.due("breaks(" + turbine + ")", x.breaks(turbine), broken);
            CHECK.notNow("breaks(" + turbine + ") again", () -> x.breaks(turbine));
        }
        dueForetold("all broken", x, 0, 0);
        x.repair(0, 11, 1);
        x.repair(1, 0, 2);
        CHECK.notNow("breaks(11) in a repair", () -> x.breaks(11));
        x.pass(1);
        CHECK.due("breaks(11) after its repair", x.breaks(11), 12);
        CHECK.notNow("breaks(0) with an hour left", () -> x.breaks(0));
        x.pass(1);
        CHECK.due("breaks(0) after its repair", x.breaks(0), 12);
    }

    /** "Turbines are numbered from 0"; "if there is no such turbine". */
    private static void turbinesFrom0On() {
        Turbineorchard x = new Turbineorchard();
        dueNoTurbine(x, 0);
        dueNoTurbine(x, -1);
        for (int number = 0; number < 12; number++) {
            x.turbine(number);
            CHECK.due("windAt(" + number + ")", x.windAt(number), number < 6 ? 10 : 7);
            CHECK.due("ofTurbine(" + number + ", 1)", x.ofTurbine(number, 1), 0);
            dueNoTurbine(x, number + 1);
        }
        dueNoTurbine(x, -1);
        dueNoTurbine(x, Integer.MIN_VALUE);
        dueNoTurbine(x, Integer.MAX_VALUE);
        CHECK.due("breaks(11)", x.breaks(11), 1);
        x.repair(0, 11, 1);
        CHECK.due("the turbine 11 is repaired", x.ofBoat(0, 0), 11);
    }

    private static void dueNoTurbine(Turbineorchard x, int turbine) {
        CHECK.noSuch("windAt(" + turbine + ")", () -> x.windAt(turbine));
        CHECK.noSuch("breaks(" + turbine + ")", () -> x.breaks(turbine));
        CHECK.noSuch("repair(0, " + turbine + ", 1)", () -> x.repair(0, turbine, 1));
        CHECK.noSuch("ofTurbine(" + turbine + ", 0)", () -> x.ofTurbine(turbine, 0));
    }

    /** "what the wind would be at a turbine in the hour of now, turning or not": in the first hour and the last. */
    private static void windAtTurningOrNot() {
        for (int now : new int[] {0, 479}) {
            Turbineorchard x = Orchards.inHour(now, 0, 6, 12);
            x.wind(now, now, 20, false);
            x.breaks(1);
            CHECK.due("at the first", x.windAt(0), 20);
            CHECK.due("at a broken one", x.windAt(1), 14);
            CHECK.due("behind it", x.windAt(2), 16);
        }
        Turbineorchard y = withTurbines(0);
        y.wind(1, 1, 20, false);
        CHECK.due("not yet told", y.windAt(0), 10);
        y.pass(1);
        CHECK.due("the hour that was told", y.windAt(0), 20);
        y.pass(1);
        CHECK.due("the hour after", y.windAt(0), 10);
    }

    /** "as turbines turn if no hour of a repair is done". */
    private static void windAtWithoutRepairs() {
        Turbineorchard x = withTurbines(0, 6, 7, 12);
        x.breaks(2);
        x.repair(0, 2, 2);
        for (int hour = 0; hour < 3; hour++) {
            CHECK.due("at 12, behind 6 that the repair stills", x.windAt(3), 6);
            CHECK.due("at 6", x.windAt(1), 7);
            x.pass(1);
        }
        CHECK.due("made at 12: twice behind 0 alone", x.ofTurbine(3, 2), 512 + 512 + 216);
        CHECK.due("made at 6: once", x.ofTurbine(1, 2), 343);
    }

    /** "hour: that of now to 479". */
    private static void foretoldFromTheHourOfNow() {
        for (int now : new int[] {0, 1, 478, 479}) {
            Turbineorchard x = Orchards.inHour(now, 0);
            CHECK.outOfRange("foretold of the hour before " + now, () -> x.foretold(now - 1));
            CHECK.outOfRange("foretoldAnew of the hour before " + now, () -> x.foretoldAnew(now - 1));
            CHECK.outOfRange("foretold(480)", () -> x.foretold(480));
            CHECK.outOfRange("foretoldAnew(480)", () -> x.foretoldAnew(480));
            dueForetold("in the hour " + now, x, now, 1000);
            dueForetold("in the hour " + now, x, 479, 1000);
        }
    }

    /** "all turbines that are not broken now, and with the wind, and its way, as told for that hour, whatever repairs". */
    private static void foretoldOfThoseNotBroken() {
        Turbineorchard x = withTurbines(0, 1, 7);
        x.wind(5, 5, 12, true);
        dueForetold("from the north", x, 4, 1000 + 1000 + 343);
        dueForetold("from the west", x, 5, 1728 + 729 + 1728);
        x.breaks(0);
        dueForetold("one broken", x, 4, 1000 + 343);
        dueForetold("one broken, from the west", x, 5, 1728 + 1728);
        x.repair(0, 0, 1);
        dueForetold("its repair stills 1 in the hour 0", x, 0, 1000 + 343);
        dueForetold("its repair ends before", x, 5, 1728 + 1728);
        x.pass(1);
        dueForetold("none broken", x, 5, 1728 + 729 + 1728);
        x.breaks(1);
        x.breaks(0);
        x.breaks(2);
        dueForetold("all broken", x, 5, 0);
    }

    /** "Returns the same, found from the turbine with the greatest number down": each wind, on a full field. */
    private static void foretoldAnewIsTheSame() {
        Turbineorchard x = withTurbines(20, 6, 8, 2, 11, 14, 7, 0, 23, 9, 12, 10);
        x.breaks(4);
        x.breaks(6);
        for (int speed = 0; speed <= 40; speed++) {
            x.wind(0, 0, speed, false);
            x.wind(479, 479, speed, true);
            CHECK.due("from the north, " + speed, x.foretoldAnew(0), x.foretold(0));
            CHECK.due("from the west, " + speed, x.foretoldAnew(479), x.foretold(479));
        }
        x.wind(0, 0, 20, false);
        // 11 and 7 are broken: winds of 20, 14, 12 in the column 0, of 20, 14, 12, 11 in the column 2.
        CHECK.due("a full field from the north", x.foretold(0), madeInColumns());
    }

    private static int madeInColumns() {
        int column0 = 2000 + 2000 + 1728;
        int column2 = 2000 + 2000 + 1728 + 1331;
        return column0 + column2 + 2000 + 2000 + 2000;
    }

    /** "what: 0 its place; 1 whether it is broken, 1 or 0; 2 what it made in all". */
    private static void ofTurbineWhats() {
        Turbineorchard x = withTurbines(23, 0);
        CHECK.due("its place", x.ofTurbine(0, 0), 23);
        CHECK.due("the first place", x.ofTurbine(1, 0), 0);
        CHECK.due("what it made at first", x.ofTurbine(0, 2), 0);
        for (int what : new int[] {-1, 3, Integer.MIN_VALUE, Integer.MAX_VALUE}) {
            CHECK.outOfRange("ofTurbine(1, " + what + ")", () -> x.ofTurbine(1, what));
            CHECK.noSuch("ofTurbine(2, " + what + ")", () -> x.ofTurbine(2, what));
        }
        x.wind(0, 479, 25, false);
        Orchards.passTo(x, 479);
        CHECK.due("the most that one makes", x.ofTurbine(0, 2), 479 * 2000);
        x.breaks(1);
        CHECK.due("not broken", x.ofTurbine(0, 1), 0);
        CHECK.due("broken", x.ofTurbine(1, 1), 1);
        CHECK.due("what a broken one made", x.ofTurbine(1, 2), 479 * 2000);
    }
}
