/** Promises 4, 6, 7, 9 and 15: waves, crews, repairs, hours that go by, and boats. */
public final class RepairTest {
    private static final Checks CHECK = new Checks();

    public static void main(String[] args) {
        wavesAreTold();
        wavesRefuse();
        crewIsTold();
        crewRefuses();
        repairEnds();
        repairRefuses();
        repairWaitsForCalm();
        repairWaitsForItsCrew();
        crewIsRestedByTheDay();
        repairStillsItsNeighbours();
        stillnessStopsAtTheEdges();
        stilledTurbinesTakeNoWind();
        waitingBoatStillsNothing();
        twoRepairsSideBySide();
        passLetsHoursGoBy();
        ofBoatRefuses();
        CHECK.end("RepairTest");
    }

    private static Turbineorchard withTurbines(int... places) {
        return Orchards.withTurbines(places);
    }

    private static void dueBoat(String when, Turbineorchard x, int boat, int... want) {
        for (int what = 0; what < 4; what++) {
            CHECK.due(when + ": ofBoat(" + boat + ", " + what + ")", x.ofBoat(boat, what), want[what]);
        }
    }

    /** Promise 4. */
    private static void wavesAreTold() {
        Turbineorchard x = new Turbineorchard();
        CHECK.due("of a wind of 10", x.waves(0, 20), 3);
        CHECK.due("told before", x.waves(0, 0), 20);
        x.wind(0, 479, 40, true);
        CHECK.due("told before the wind", x.waves(0, 4), 0);
        CHECK.due("of a wind of 40", x.waves(479, 1), 13);
        x.wind(479, 479, 3, true);
        CHECK.due("told 1", x.waves(479, 1), 1);
        x.wind(1, 1, 2, true);
        CHECK.due("of a wind of 2", x.waves(1, 3), 0);
        x.wind(1, 1, 30, true);
        CHECK.due("told 3 before the wind of 30", x.waves(1, 3), 3);
    }

    private static void wavesRefuse() {
        Turbineorchard x = new Turbineorchard();
        x.pass(2);
        CHECK.outOfRange("waves of the hour before", () -> x.waves(1, 3));
        CHECK.outOfRange("waves(-1, 3)", () -> x.waves(-1, 3));
        CHECK.outOfRange("waves(480, 3)", () -> x.waves(480, 3));
        CHECK.outOfRange("waves(2, -1)", () -> x.waves(2, -1));
        CHECK.outOfRange("waves(2, 21)", () -> x.waves(2, 21));
        CHECK.due("nothing told by those", x.waves(2, 5), 3);
    }

    /** Promise 6. */
    private static void crewIsTold() {
        Turbineorchard x = new Turbineorchard();
        CHECK.due("8 at first", x.crew(0, 0), 8);
        CHECK.due("0 before", x.crew(0, 24), 0);
        CHECK.due("24 before", x.crew(0, 24), 24);
        CHECK.due("8 at first for the boat 1", x.crew(1, 1), 8);
        CHECK.due("8 at first for the boat 2", x.crew(2, 2), 8);
        CHECK.due("1 before", x.crew(1, 1), 1);
    }

    private static void crewRefuses() {
        Turbineorchard x = new Turbineorchard();
        CHECK.noSuch("crew(3, 1)", () -> x.crew(3, 1));
        CHECK.noSuch("crew(-1, 1)", () -> x.crew(-1, 1));
        CHECK.noSuch("the boat before the hours", () -> x.crew(3, 25));
        CHECK.outOfRange("crew(0, 25)", () -> x.crew(0, 25));
        CHECK.outOfRange("crew(0, -1)", () -> x.crew(0, -1));
        CHECK.due("nothing told by those", x.crew(0, 3), 8);
    }

    /** Promise 7. */
    private static void repairEnds() {
        Turbineorchard x = withTurbines(0, 23);
        x.breaks(1);
        x.repair(2, 1, 3);
        dueBoat("at first", x, 2, 1, 3, 0, 0);
        x.pass(2);
        dueBoat("after 2 hours", x, 2, 1, 1, 2, 2);
        CHECK.due("broken to the last hour", x.ofTurbine(1, 1), 1);
        CHECK.due("made by the other alone", x.ofHour(1, 0), 1000);
        x.pass(1);
        dueBoat("after 3 hours", x, 2, -1, 0, 3, 3);
        CHECK.due("repaired", x.ofTurbine(1, 1), 0);
        CHECK.due("not turning in the last hour", x.ofHour(2, 0), 1000);
        x.pass(1);
        CHECK.due("turning from the next hour on", x.ofHour(3, 0), 2000);
        dueBoat("a free boat works no hours", x, 2, -1, 0, 3, 3);
        x.breaks(0);
        x.repair(2, 0, 1);
        dueBoat("another repair", x, 2, 0, 1, 3, 3);
        x.pass(1);
        dueBoat("another repair's end", x, 2, -1, 0, 4, 4);
    }

    private static void repairRefuses() {
        Turbineorchard x = withTurbines(0, 2, 4);
        x.breaks(0);
        x.breaks(1);
        CHECK.noSuch("repair(3, 0, 1)", () -> x.repair(3, 0, 1));
        CHECK.noSuch("repair(-1, 0, 1)", () -> x.repair(-1, 0, 1));
        CHECK.noSuch("repair(0, 3, 1)", () -> x.repair(0, 3, 1));
        CHECK.noSuch("repair(0, -1, 1)", () -> x.repair(0, -1, 1));
        CHECK.noSuch("the boat before the hours", () -> x.repair(3, 0, 0));
        CHECK.noSuch("the turbine before the hours", () -> x.repair(0, 3, 41));
        CHECK.outOfRange("repair(0, 0, 0)", () -> x.repair(0, 0, 0));
        CHECK.outOfRange("repair(0, 0, 41)", () -> x.repair(0, 0, 41));
        CHECK.outOfRange("the hours before what is not broken", () -> x.repair(0, 2, 41));
        CHECK.notNow("a turbine that is not broken", () -> x.repair(0, 2, 1));
        dueBoat("nothing began by those", x, 0, -1, 0, 0, 0);
        x.repair(0, 0, 40);
        CHECK.notNow("a boat that is not free", () -> x.repair(0, 1, 1));
        CHECK.notNow("a turbine in another boat's repair", () -> x.repair(1, 0, 1));
        CHECK.notNow("a turbine in the same boat's repair", () -> x.repair(0, 0, 1));
        CHECK.outOfRange("the hours before the boat that is not free", () -> x.repair(0, 1, 0));
        dueBoat("the repair that began", x, 0, 0, 40, 0, 0);
        dueBoat("the boat 1", x, 1, -1, 0, 0, 0);
        x.repair(1, 1, 1);
        dueBoat("the boat 1 in another repair", x, 1, 1, 1, 0, 0);
    }

    private static void repairWaitsForCalm() {
        Turbineorchard x = withTurbines(0);
        x.breaks(0);
        x.repair(0, 0, 4);
        x.waves(0, 5);
        x.waves(1, 4);
        x.wind(2, 2, 15, false);
        x.wind(3, 3, 14, false);
        x.wind(4, 4, 40, false);
        x.waves(4, 0);
        int[] left = {4, 3, 3, 2, 1};
        for (int hour = 0; hour < left.length; hour++) {
            x.pass(1);
            CHECK.due("hours left after the hour " + hour, x.ofBoat(0, 1), left[hour]);
        }
        CHECK.due("worked in the calm hours alone", x.ofBoat(0, 3), 3);
    }

    private static void repairWaitsForItsCrew() {
        Turbineorchard x = withTurbines(0);
        x.breaks(0);
        x.repair(1, 0, 40);
        x.pass(12);
        dueBoat("8 hours of the day", x, 1, 0, 32, 8, 8);
        x.crew(1, 9);
        x.pass(2);
        dueBoat("9 hours of the day", x, 1, 0, 31, 9, 9);
        x.crew(1, 3);
        x.pass(2);
        dueBoat("3 hours of the day, 9 worked", x, 1, 0, 31, 9, 9);
        x.crew(1, 24);
        x.pass(8);
        dueBoat("a new day", x, 1, 0, 23, 0, 17);
        x.crew(1, 0);
        x.pass(24);
        dueBoat("a crew of no hours", x, 1, 0, 23, 0, 17);
        x.crew(1, 24);
        x.pass(22);
        dueBoat("one hour left", x, 1, 0, 1, 22, 39);
        x.pass(1);
        dueBoat("done", x, 1, -1, 0, 23, 40);
    }

    private static void crewIsRestedByTheDay() {
        Turbineorchard x = withTurbines(0);
        x.breaks(0);
        x.pass(20);
        x.repair(0, 0, 20);
        x.pass(3);
        dueBoat("the hour 23", x, 0, 0, 17, 3, 3);
        x.pass(1);
        dueBoat("the hour 24", x, 0, 0, 16, 0, 4);
        x.pass(23);
        dueBoat("the hour 47", x, 0, 0, 8, 8, 12);
        x.pass(48);
        dueBoat("the hour 95, two days later", x, 0, -1, 0, 0, 20);
    }

    private static void dueMade(String when, Turbineorchard x, int... want) {
        for (int turbine = 0; turbine < want.length; turbine++) {
            CHECK.due(when + ": made by the turbine " + turbine, x.ofTurbine(turbine, 2), want[turbine]);
        }
    }

    /** 7 is repaired, 1, 6, 8 and 13 stand beside it, 0, 2, 12 and 14 at its corners, 9 and 19 farther off. */
    private static void repairStillsItsNeighbours() {
        Turbineorchard x = withTurbines(7, 1, 6, 8, 13, 0, 2, 12, 14, 9, 19);
        x.breaks(0);
        x.repair(0, 0, 1);
        x.pass(1);
        dueMade("beside a repair", x, 0, 0, 0, 0, 0, 1000, 1000, 512, 512, 1000, 1000);
        CHECK.due("made beside a repair", x.ofHour(0, 0), 5024);
        x.pass(1);
        dueMade("after the repair", x, 343, 1000, 343, 343, 216, 2000, 2000, 728, 728, 2000, 1216);
        CHECK.due("made after the repair", x.ofHour(1, 0), 343 + 1000 + 343 + 343 + 216 + 1000 + 1000 + 216 + 216
                + 1000 + 216);
    }

    private static void stillnessStopsAtTheEdges() {
        Turbineorchard x = withTurbines(6, 5, 11, 12, 0, 23, 18, 17);
        x.breaks(0);
        x.repair(0, 0, 1);
        x.pass(1);
        // 12 and 0 are still beside 6, and 5 and 11 in the last column are not.
        dueMade("a repair in the first column", x, 0, 1000, 343, 0, 0, 216, 1000, 216);
        x.breaks(2);
        x.repair(0, 2, 1);
        x.pass(1);
        // 5 and 17 are still beside 11, and 6 and 12 in the first column are not.
        dueMade("a repair in the last column", x, 343, 1000, 343, 216, 1000, 1216, 1216, 216);
        Turbineorchard z = withTurbines(10, 11);
        z.breaks(0);
        z.repair(0, 0, 1);
        z.pass(1);
        dueMade("a repair in the last column but one", z, 0, 0);
        for (int corner : new int[] {0, 5, 18, 23}) {
            Turbineorchard y = withTurbines(corner);
            y.breaks(0);
            y.repair(0, 0, 1);
            y.pass(2);
            CHECK.due("a repair in the corner " + corner, y.ofTurbine(0, 2), 1000);
        }
    }

    private static void stilledTurbinesTakeNoWind() {
        Turbineorchard x = withTurbines(0, 6, 12, 18, 7);
        x.breaks(4);
        x.repair(0, 4, 1);
        x.pass(1);
        dueMade("behind a still one", x, 1000, 0, 512, 343, 0);
        CHECK.due("made behind a still one", x.ofHour(0, 0), 1855);
        x.pass(1);
        dueMade("behind it when it turns again", x, 2000, 343, 728, 559, 1000);
        CHECK.due("made when it turns again", x.ofHour(1, 0), 2775);
    }

    private static void waitingBoatStillsNothing() {
        Turbineorchard x = withTurbines(0, 1);
        x.breaks(0);
        x.repair(0, 0, 40);
        x.waves(0, 5);
        x.pass(1);
        CHECK.due("waves of 5", x.ofHour(0, 0), 1000);
        x.pass(8);
        CHECK.due("calm", x.ofHour(8, 0), 0);
        x.pass(1);
        CHECK.due("the crew has worked", x.ofHour(9, 0), 1000);
        CHECK.due("made in the hours that wait", x.ofTurbine(1, 2), 2000);
    }

    private static void twoRepairsSideBySide() {
        Turbineorchard x = withTurbines(0, 1, 2, 3);
        x.breaks(0);
        x.breaks(1);
        x.repair(2, 0, 1);
        x.repair(0, 1, 2);
        x.pass(1);
        dueMade("both repaired", x, 0, 0, 0, 1000);
        CHECK.due("the first is repaired", x.ofTurbine(0, 1), 0);
        CHECK.due("the second is not", x.ofTurbine(1, 1), 1);
        x.pass(1);
        dueMade("the first is still beside the second", x, 0, 0, 0, 2000);
        x.pass(1);
        dueMade("all turn", x, 1000, 1000, 1000, 3000);
        CHECK.due("none is broken", x.breaks(3), 1);
    }

    /** Promise 9. */
    private static void passLetsHoursGoBy() {
        Turbineorchard x = withTurbines(0);
        CHECK.outOfRange("pass(0)", () -> x.pass(0));
        CHECK.outOfRange("pass(-1)", () -> x.pass(-1));
        CHECK.outOfRange("pass(49)", () -> x.pass(49));
        CHECK.outOfRange("pass(most)", () -> x.pass(Integer.MAX_VALUE));
        CHECK.due("pass(1)", x.pass(1), 1);
        for (int hour = 49; hour < 480; hour += 48) {
            CHECK.due("pass(48)", x.pass(48), hour);
        }
        CHECK.notNow("pass(48) in the hour 433", () -> x.pass(48));
        CHECK.notNow("pass(47) in the hour 433", () -> x.pass(47));
        CHECK.due("made in 433 hours", x.ofTurbine(0, 2), 433000);
        CHECK.due("pass(46)", x.pass(46), 479);
        CHECK.notNow("pass(1) in the hour 479", () -> x.pass(1));
        CHECK.outOfRange("pass(49) in the hour 479", () -> x.pass(49));
        CHECK.due("the last hour that is over", x.ofHour(478, 0), 1000);
        CHECK.outOfRange("ofHour(479, 0)", () -> x.ofHour(479, 0));
        CHECK.due("wind in the last hour", x.wind(479, 479, 5, true), 1);
        CHECK.due("windAt in the last hour", x.windAt(0), 5);
        CHECK.due("waves in the last hour", x.waves(479, 20), 1);
        CHECK.due("brought by 479 hours", x.brought(), 479000);
    }

    /** Promise 15; its answers are those of dueBoat above. */
    private static void ofBoatRefuses() {
        Turbineorchard x = new Turbineorchard();
        CHECK.noSuch("ofBoat(3, 0)", () -> x.ofBoat(3, 0));
        CHECK.noSuch("ofBoat(-1, 0)", () -> x.ofBoat(-1, 0));
        CHECK.noSuch("the boat before what", () -> x.ofBoat(3, 4));
        CHECK.outOfRange("ofBoat(0, 4)", () -> x.ofBoat(0, 4));
        CHECK.outOfRange("ofBoat(2, -1)", () -> x.ofBoat(2, -1));
    }
}
