/** Objects that several tests begin with. */
final class Orchards {
    private Orchards() {
    }

    static Turbineorchard withTurbines(int... places) {
        Turbineorchard x = new Turbineorchard();
        for (int place : places) {
            x.turbine(place);
        }
        return x;
    }

    /** Lets hours go by from the hour 0 to this one, as far as a pass reaches at a time. */
    static void passTo(Turbineorchard x, int hour) {
        int now = 0;
        while (now < hour) {
            now = x.pass(Math.min(48, hour - now));
        }
    }

    /** An object in this hour, with turbines at these places from the hour 0 on. */
    static Turbineorchard inHour(int hour, int... places) {
        Turbineorchard x = withTurbines(places);
        passTo(x, hour);
        return x;
    }
}
