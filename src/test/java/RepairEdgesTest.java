/**
 * Repairs, boats, crews, waves and hours at their bounds: above each test stand the words of the document that
 * it holds, with the last value that is taken and the first that is refused.
 */
public final class RepairEdgesTest {
    private static final Checks CHECK = new Checks();
    private static final int NONE = Turbineorchard.NONE;

    public static void main(String[] args) {
        boatsFrom0To2();
        crewFrom0To24();
        crewAtFirst();
        wavesOfTheWind();
        wavesAsTold();
        wavesFrom0To20();
        wavesFromTheHourOfNow();
        repairInCalmWater();
        repairWithinTheHoursOfTheCrew();
        crewThatIsToldLess();
        crewOfNoHours();
        crewOfAllHours();
        daysOf24Hours();
        aBoatThatWaits();
        repairFrom1To40();
        repairsThatAreRefused();
        threeRepairs();
        besideInFourDirections();
        besideInThatHourAlone();
        besideTwoRepairs();
        theLastHourOfARepair();
        aBoatThatIsFreeAgain();
        passFrom1To48();
        passToTheLastHour();
        ofBoatWhats();
        CHECK.end("RepairEdgesTest");
    }

    private static Turbineorchard withTurbines(int... places) {
        return Orchards.withTurbines(places);
    }

    /** One broken turbine, at the place 0, in this hour. */
    private static Turbineorchard withBroken(int hour) {
        Turbineorchard x = Orchards.inHour(hour, 0);
        x.breaks(0);
        return x;
    }

    private static void dueBoat(String when, Turbineorchard x, int boat, int... want) {
        for (int what = 0; what < 4; what++) {
            CHECK.due(when + ": ofBoat(" + boat + ", " + what + ")", x.ofBoat(boat, what), want[what]);
        }
    }

    private static void dueLeft(String when, Turbineorchard x, int want) {
        CHECK.due(when + ": hours left", x.ofBoat(0, 1), want);
    }

    /** "There are the boats 0 to 2"; "if there is no such boat". */
    private static void boatsFrom0To2() {
        Turbineorchard x = withTurbines(0, 2, 4);
        for (int boat = 0; boat <= 2; boat++) {
            dueBoat("at first", x, boat, NONE, 0, 0, 0);
            CHECK.due("crew(" + boat + ", 8)", x.crew(boat, 8), 8);
            x.breaks(boat);
            x.repair(boat, boat, 1);
            dueBoat("with a repair", x, boat, boat, 1, 0, 0);
        }
        for (int boat : new int[] {-1, 3, Integer.MIN_VALUE, Integer.MAX_VALUE}) {
            CHECK.noSuch("crew(" + boat + ", 8)", () -> x.crew(boat, 8));
            CHECK.noSuch("repair(" + boat + ", 0, 1)", () -> x.repair(boat, 0, 1));
            CHECK.noSuch("ofBoat(" + boat + ", 0)", () -> x.ofBoat(boat, 0));
        }
    }

    /** "hours: 0 to 24". */
    private static void crewFrom0To24() {
        Turbineorchard x = new Turbineorchard();
        int before = 8;
        for (int hours = 0; hours <= 24; hours++) {
            CHECK.due("crew(2, " + hours + ")", x.crew(2, hours), before);
            before = hours;
        }
        for (int hours : new int[] {-1, 25, Integer.MIN_VALUE, Integer.MAX_VALUE}) {
            CHECK.outOfRange("crew(2, " + hours + ")", () -> x.crew(2, hours));
        }
        CHECK.due("the hours after those", x.crew(2, 0), 24);
    }

    /** "at most so many hours of a day of 24, 8 at first". */
    private static void crewAtFirst() {
        Turbineorchard x = withBroken(0);
        x.repair(0, 0, 40);
        x.pass(7);
        dueBoat("7 hours", x, 0, 0, 33, 7, 7);
        x.pass(1);
        dueBoat("8 hours", x, 0, 0, 32, 8, 8);
        x.pass(1);
        dueBoat("no 9 hours", x, 0, 0, 32, 8, 8);
        for (int boat = 0; boat <= 2; boat++) {
            CHECK.due("the hours of the boat " + boat, x.crew(boat, 8), 8);
        }
    }

    /** "waves are the speed divided by 3, rounded down". */
    private static void wavesOfTheWind() {
        Turbineorchard x = new Turbineorchard();
        int[] speeds = {0, 1, 2, 3, 5, 6, 8, 9, 11, 12, 14, 15, 38, 39, 40};
        int[] waves = {0, 0, 0, 1, 1, 2, 2, 3, 3, 4, 4, 5, 12, 13, 13};
        for (int hour = 0; hour < speeds.length; hour++) {
            x.wind(hour, hour, speeds[hour], hour % 2 == 0);
            CHECK.due("the waves of a wind of " + speeds[hour], x.waves(hour, 20), waves[hour]);
        }
    }

    /** "but as they were told, if they were": for that hour alone, and also if 0 was told. */
    private static void wavesAsTold() {
        Turbineorchard x = new Turbineorchard();
        x.wind(0, 479, 30, false);
        CHECK.due("of the wind", x.waves(7, 0), 10);
        CHECK.due("0 told", x.waves(7, 10), 0);
        CHECK.due("10 told", x.waves(7, 1), 10);
        CHECK.due("the hour before", x.waves(6, 1), 10);
        CHECK.due("the hour after", x.waves(8, 1), 10);
        CHECK.due("the last hour", x.waves(479, 1), 10);
        x.wind(0, 479, 40, false);
        CHECK.due("told before the wind was", x.waves(7, 1), 1);
        CHECK.due("not told", x.waves(9, 1), 13);
    }

    /** "waves: 0 to 20". */
    private static void wavesFrom0To20() {
        Turbineorchard x = new Turbineorchard();
        int before = 3;
        for (int waves = 0; waves <= 20; waves++) {
            CHECK.due("waves(0, " + waves + ")", x.waves(0, waves), before);
            before = waves;
        }
        for (int waves : new int[] {-1, 21, Integer.MIN_VALUE, Integer.MAX_VALUE}) {
            CHECK.outOfRange("waves(0, " + waves + ")", () -> x.waves(0, waves));
        }
        CHECK.due("the waves after those", x.waves(0, 0), 20);
    }

    /** "hour: that of now to 479". */
    private static void wavesFromTheHourOfNow() {
        for (int now : new int[] {0, 1, 478, 479}) {
            Turbineorchard x = Orchards.inHour(now);
            CHECK.outOfRange("waves of the hour before " + now, () -> x.waves(now - 1, 1));
            CHECK.outOfRange("waves of the hour 480", () -> x.waves(480, 1));
            CHECK.due("waves of the hour " + now, x.waves(now, 1), 3);
            CHECK.due("told", x.waves(now, 2), 1);
            CHECK.due("waves of the last hour", x.waves(479, 2), now == 479 ? 2 : 3);
        }
    }

    /** "in each hour in which the waves are at most 4": told, and of the wind. */
    private static void repairInCalmWater() {
        Turbineorchard x = withBroken(0);
        x.crew(0, 24);
        x.repair(0, 0, 40);
        int[] told = {0, 4, 5, 20};
        int[] leftThen = {39, 38, 38, 38};
        for (int hour = 0; hour < told.length; hour++) {
            x.waves(hour, told[hour]);
            x.pass(1);
            dueLeft("waves of " + told[hour], x, leftThen[hour]);
        }
        int[] winds = {0, 12, 14, 15, 17, 40};
        int[] leftOfWinds = {37, 36, 35, 35, 35, 35};
        for (int i = 0; i < winds.length; i++) {
            x.wind(4 + i, 4 + i, winds[i], true);
            x.pass(1);
            dueLeft("a wind of " + winds[i], x, leftOfWinds[i]);
        }
        x.wind(10, 10, 40, true);
        x.waves(10, 4);
        x.wind(11, 11, 0, true);
        x.waves(11, 5);
        x.pass(1);
        dueLeft("waves of 4 told in a wind of 40", x, 34);
        x.pass(1);
        dueLeft("waves of 5 told without wind", x, 34);
    }

    /** "and the crew has worked fewer hours of this day than it may": each number of hours. */
    private static void repairWithinTheHoursOfTheCrew() {
        for (int hours = 0; hours <= 24; hours++) {
            Turbineorchard x = withBroken(0);
            x.crew(0, hours);
            x.repair(0, 0, 40);
            x.pass(23);
            dueLeft("a crew of " + hours + " in 23 hours", x, 40 - Math.min(hours, 23));
            x.pass(1);
            dueLeft("a crew of " + hours + " in a day", x, 40 - hours);
            dueBoat("a crew of " + hours, x, 0, 0, 40 - hours, 0, hours);
        }
    }

    /** The same when the hours are told in the day: fewer than were worked, as many, and one more. */
    private static void crewThatIsToldLess() {
        Turbineorchard x = withBroken(0);
        x.repair(0, 0, 40);
        x.pass(5);
        x.crew(0, 4);
        x.pass(1);
        dueBoat("4 hours, 5 worked", x, 0, 0, 35, 5, 5);
        x.crew(0, 5);
        x.pass(1);
        dueBoat("5 hours, 5 worked", x, 0, 0, 35, 5, 5);
        x.crew(0, 6);
        x.pass(2);
        dueBoat("6 hours, 5 worked", x, 0, 0, 34, 6, 6);
        x.pass(15);
        dueBoat("the next day", x, 0, 0, 34, 0, 6);
        x.pass(7);
        dueBoat("6 hours of the next day", x, 0, 0, 28, 6, 12);
    }

    /** A crew of 0 hours works none: its boat waits, and stills nothing. */
    private static void crewOfNoHours() {
        Turbineorchard x = withTurbines(0, 1);
        x.breaks(0);
        x.crew(1, 0);
        x.repair(1, 0, 1);
        x.pass(48);
        dueBoat("a crew of no hours", x, 1, 0, 1, 0, 0);
        CHECK.due("made beside it", x.ofTurbine(1, 2), 48000);
        x.crew(1, 1);
        x.pass(1);
        dueBoat("a crew of one hour", x, 1, NONE, 0, 1, 1);
        CHECK.due("made beside it then", x.ofTurbine(1, 2), 48000);
    }

    /** A crew of 24 hours works in each hour of the day, and across its end. */
    private static void crewOfAllHours() {
        Turbineorchard x = withBroken(0);
        x.crew(2, 24);
        x.repair(2, 0, 40);
        x.pass(23);
        dueBoat("23 hours", x, 2, 0, 17, 23, 23);
        x.pass(1);
        dueBoat("24 hours", x, 2, 0, 16, 0, 24);
        x.pass(15);
        dueBoat("39 hours", x, 2, 0, 1, 15, 39);
        x.pass(1);
        dueBoat("40 hours", x, 2, NONE, 0, 16, 40);
    }

    /** "a day of 24": the last hour of a day and the first of the next, in the first days and the last. */
    private static void daysOf24Hours() {
        for (int day : new int[] {1, 2, 19}) {
            Turbineorchard x = withBroken(24 * day - 2);
            x.crew(0, 1);
            x.repair(0, 0, 4);
            x.pass(1);
            dueBoat("the last hour of a day", x, 0, 0, 3, 1, 1);
            x.pass(1);
            dueBoat("the first hour of the day " + day, x, 0, 0, 3, 0, 1);
            x.pass(1);
            dueBoat("the second hour of the day " + day, x, 0, 0, 2, 1, 2);
            x.pass(1);
            dueBoat("the third hour of the day " + day, x, 0, 0, 2, 1, 2);
        }
        Turbineorchard y = withBroken(0);
        y.repair(0, 0, 40);
        y.pass(48);
        dueBoat("two days at once", y, 0, 0, 24, 0, 16);
        y.pass(47);
        dueBoat("nearly two days more", y, 0, 0, 8, 8, 32);
        y.pass(1);
        dueBoat("two days more", y, 0, 0, 8, 0, 32);
    }

    /** "otherwise the boat waits": nothing is done, nothing is stilled, and the boat is not free. */
    private static void aBoatThatWaits() {
        Turbineorchard x = withTurbines(7, 8, 2);
        x.breaks(0);
        x.repair(0, 0, 1);
        x.breaks(2);
        x.waves(0, 5);
        x.pass(1);
        dueBoat("waiting", x, 0, 0, 1, 0, 0);
        CHECK.due("beside a boat that waits", x.ofTurbine(1, 2), 1000);
        CHECK.due("still broken", x.ofTurbine(0, 1), 1);
        CHECK.notNow("not free", () -> x.repair(0, 2, 1));
        CHECK.notNow("a boat repairs it", () -> x.repair(1, 0, 1));
        x.pass(1);
        dueBoat("done", x, 0, NONE, 0, 1, 1);
        CHECK.due("beside a boat that does not wait", x.ofTurbine(1, 2), 1000);
    }

    /** "hours: 1 to 40". */
    private static void repairFrom1To40() {
        for (int hours : new int[] {1, 2, 39, 40}) {
            Turbineorchard x = withBroken(0);
            x.crew(0, 24);
            x.repair(0, 0, hours);
            dueBoat("a repair of " + hours, x, 0, 0, hours, 0, 0);
            x.pass(hours);
            dueBoat("a repair of " + hours + " done", x, 0, NONE, 0, hours % 24, hours);
        }
        Turbineorchard x = withBroken(0);
        for (int hours : new int[] {0, 41, -1, Integer.MIN_VALUE, Integer.MAX_VALUE}) {
            CHECK.outOfRange("a repair of " + hours, () -> x.repair(0, 0, hours));
        }
        dueBoat("none of those", x, 0, NONE, 0, 0, 0);
    }

    /** "if the boat is not free, the turbine is not broken, or some boat repairs it", and each once it is otherwise. */
    private static void repairsThatAreRefused() {
        Turbineorchard x = withTurbines(0, 2);
        CHECK.notNow("not broken", () -> x.repair(0, 0, 1));
        x.breaks(0);
        x.repair(0, 0, 1);
        CHECK.notNow("its own boat again", () -> x.repair(0, 0, 1));
        CHECK.notNow("another boat", () -> x.repair(2, 0, 1));
        CHECK.notNow("its boat to one that is not broken", () -> x.repair(0, 1, 1));
        x.breaks(1);
        CHECK.notNow("its boat to another", () -> x.repair(0, 1, 1));
        x.repair(2, 1, 2);
        x.pass(1);
        CHECK.notNow("not broken any more", () -> x.repair(0, 0, 1));
        CHECK.notNow("the boat 2 still repairs it", () -> x.repair(0, 1, 1));
        x.breaks(0);
        CHECK.notNow("a boat that is at another", () -> x.repair(2, 0, 1));
        x.repair(0, 0, 5);
        dueBoat("the boat 0", x, 0, 0, 5, 1, 1);
        dueBoat("the boat 2", x, 2, 1, 1, 1, 1);
        dueBoat("the boat 1", x, 1, NONE, 0, 0, 0);
    }

    /** All three boats at once, each with its own crew and hours. */
    private static void threeRepairs() {
        Turbineorchard x = withTurbines(0, 2, 4, 18);
        for (int turbine = 0; turbine < 4; turbine++) {
            x.breaks(turbine);
        }
        x.crew(1, 2);
        x.repair(0, 2, 1);
        x.repair(1, 1, 3);
        x.repair(2, 0, 2);
        for (int boat = 0; boat <= 2; boat++) {
            int busy = boat;
            CHECK.notNow("no boat is free", () -> x.repair(busy, 3, 1));
        }
        x.pass(1);
        dueBoat("the first hour", x, 0, NONE, 0, 1, 1);
        dueBoat("the first hour", x, 1, 1, 2, 1, 1);
        dueBoat("the first hour", x, 2, 0, 1, 1, 1);
        CHECK.due("three are broken, and one more", x.breaks(2), 4);
        x.pass(2);
        dueBoat("the third hour", x, 1, 1, 1, 2, 2);
        dueBoat("the third hour", x, 2, NONE, 0, 2, 2);
        x.repair(2, 3, 1);
        x.pass(1);
        dueBoat("the fourth hour", x, 2, NONE, 0, 3, 3);
        CHECK.due("the turbine 3 is repaired", x.ofTurbine(3, 1), 0);
    }

    /** "the turbines beside it, in the four directions, do not turn": each place beside each other. */
    private static void besideInFourDirections() {
        for (int repaired = 0; repaired < 24; repaired++) {
            for (int other = 0; other < 24; other++) {
                if (repaired != other) {
                    placeBesideAnother(repaired, other);
                }
            }
        }
    }

    private static void placeBesideAnother(int repaired, int other) {
        int columns = Math.abs(repaired % 6 - other % 6);
        int rows = Math.abs(repaired / 6 - other / 6);
        Turbineorchard x = withTurbines(repaired, other);
        x.breaks(0);
        x.repair(0, 0, 1);
        x.pass(1);
        CHECK.due("made at " + other + " while " + repaired + " is repaired", x.ofHour(0, 0),
                columns + rows == 1 ? 0 : 1000);
    }

    /** "As long as an hour of a repair is done .. in that hour". */
    private static void besideInThatHourAlone() {
        Turbineorchard x = withTurbines(8, 9, 10);
        x.breaks(1);
        x.crew(0, 1);
        x.pass(1);
        x.repair(0, 1, 2);
        x.pass(26);
        int[] hours = {0, 1, 2, 23, 24, 25, 26};
        int[] made = {2000, 0, 2000, 2000, 0, 3000, 3000};
        for (int i = 0; i < hours.length; i++) {
            CHECK.due("made in the hour " + hours[i], x.ofHour(hours[i], 0), made[i]);
        }
        CHECK.due("made in all beside it", x.ofTurbine(0, 2), 25000);
        CHECK.due("made in all by it", x.ofTurbine(1, 2), 2000);
    }

    /** A turbine between two repairs is still until both are done; a stilled one takes no wind. */
    private static void besideTwoRepairs() {
        Turbineorchard x = withTurbines(6, 7, 8, 13);
        x.breaks(0);
        x.breaks(2);
        x.repair(0, 0, 1);
        x.repair(1, 2, 2);
        x.pass(1);
        CHECK.due("both done: 13 alone, behind a stilled 7", x.ofHour(0, 0), 1000);
        x.pass(1);
        CHECK.due("one done: 6 and 13", x.ofHour(1, 0), 2000);
        x.pass(1);
        CHECK.due("none: 13 behind 7", x.ofHour(2, 0), 3343);
    }

    /** "When all hours are done, the turbine turns from the next hour on". */
    private static void theLastHourOfARepair() {
        Turbineorchard x = withTurbines(0, 12);
        x.breaks(0);
        x.repair(0, 0, 2);
        x.pass(1);
        CHECK.due("one hour left: broken", x.ofTurbine(0, 1), 1);
        CHECK.due("one hour left: foretold", x.foretold(1), 1000);
        x.pass(1);
        CHECK.due("none left: not broken", x.ofTurbine(0, 1), 0);
        CHECK.due("none left: foretold", x.foretold(2), 1512);
        CHECK.due("none left: takes wind", x.windAt(1), 8);
        CHECK.due("not turning in the last hour", x.ofHour(1, 0), 1000);
        CHECK.due("nothing made yet", x.ofTurbine(0, 2), 0);
        x.pass(1);
        CHECK.due("turning in the next", x.ofHour(2, 0), 1512);
        CHECK.due("made in the next", x.ofTurbine(0, 2), 1000);
    }

    /** "and the boat is free": it may be sent at once, also to the same turbine. */
    private static void aBoatThatIsFreeAgain() {
        Turbineorchard x = withBroken(0);
        x.crew(0, 2);
        x.repair(0, 0, 1);
        x.pass(1);
        dueBoat("free", x, 0, NONE, 0, 1, 1);
        CHECK.due("broken again", x.breaks(0), 1);
        x.repair(0, 0, 2);
        dueBoat("sent again", x, 0, 0, 2, 1, 1);
        x.pass(2);
        dueBoat("one hour more of this day", x, 0, 0, 1, 2, 2);
        x.pass(21);
        dueBoat("the next day", x, 0, 0, 1, 0, 2);
        x.pass(1);
        dueBoat("free again", x, 0, NONE, 0, 1, 3);
    }

    /** "hours: 1 to 48". */
    private static void passFrom1To48() {
        Turbineorchard x = new Turbineorchard();
        int hour = 0;
        for (int hours : new int[] {1, 2, 23, 24, 25, 47, 48}) {
            hour += hours;
            CHECK.due("pass(" + hours + ")", x.pass(hours), hour);
        }
        for (int hours : new int[] {0, 49, -1, Integer.MIN_VALUE, Integer.MAX_VALUE}) {
            CHECK.outOfRange("pass(" + hours + ")", () -> x.pass(hours));
        }
        CHECK.due("the hour after those", x.pass(1), hour + 1);
    }

    /** "if it would be above 479": each number of hours to the last, and one more. */
    private static void passToTheLastHour() {
        for (int hours = 1; hours <= 48; hours++) {
            int toLast = hours;
            Turbineorchard x = Orchards.inHour(479 - hours, 0);
            if (hours < 48) {
                CHECK.notNow("one more than " + hours, () -> x.pass(toLast + 1));
                CHECK.due("made before", x.ofTurbine(0, 2), (479 - hours) * 1000);
            }
            CHECK.due("to the last hour by " + hours, x.pass(hours), 479);
            CHECK.due("made by then", x.ofTurbine(0, 2), 479000);
            CHECK.notNow("beyond the last hour by " + hours, () -> x.pass(toLast));
            CHECK.notNow("beyond the last hour by 1", () -> x.pass(1));
        }
        Turbineorchard y = Orchards.inHour(432);
        CHECK.notNow("48 from 432", () -> y.pass(48));
        CHECK.outOfRange("49 from 432", () -> y.pass(49));
        CHECK.due("47 from 432", y.pass(47), 479);
        CHECK.outOfRange("0 from 479", () -> y.pass(0));
        CHECK.outOfRange("49 from 479", () -> y.pass(49));
    }

    /** "what: 0 the turbine that it repairs, NONE if it is free; 1 .. left; 2 .. today; 3 in all". */
    private static void ofBoatWhats() {
        Turbineorchard x = withTurbines(0, 23);
        dueBoat("free", x, 1, NONE, 0, 0, 0);
        x.breaks(1);
        x.breaks(0);
        x.repair(1, 1, 9);
        dueBoat("the last turbine", x, 1, 1, 9, 0, 0);
        x.repair(0, 0, 9);
        dueBoat("the turbine 0", x, 0, 0, 9, 0, 0);
        for (int what : new int[] {-1, 4, Integer.MIN_VALUE, Integer.MAX_VALUE}) {
            CHECK.outOfRange("ofBoat(1, " + what + ")", () -> x.ofBoat(1, what));
            CHECK.noSuch("ofBoat(3, " + what + ")", () -> x.ofBoat(3, what));
        }
        x.pass(24);
        dueBoat("a day later", x, 1, 1, 1, 0, 8);
        x.pass(1);
        dueBoat("an hour later", x, 1, NONE, 0, 1, 9);
        dueBoat("the boat 2 has worked none", x, 2, NONE, 0, 0, 0);
    }
}
