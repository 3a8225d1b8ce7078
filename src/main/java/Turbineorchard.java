/**
 * Wind turbines whose wakes, boats and grid slots bear on one another. What each method of the face
 * promises stands in the document; each looks at its arguments in the document's order, so that the
 * classes inside are given nothing but turbines, boats, places and hours that there are.
 */
public final class Turbineorchard {
    public static final int NONE = -1;

    private static final int COLUMNS = 6;
    private static final int ROWS = 4;
    private static final int PLACES = COLUMNS * ROWS;
    private static final int MOST_TURBINES = 12;
    private static final int BOATS = 3;

    private static final int HOURS = 480;
    private static final int LAST_HOUR = HOURS - 1;
    private static final int DAY = 24;
    private static final int MOST_PASSED = 48;

    private static final int MOST_SPEED = 40;
    private static final int FIRST_SPEED = 10;
    private static final int SPEED_FOR_A_WAVE = 3;
    private static final int MOST_WAVES = 20;
    private static final int CALM_WAVES = 4;

    private static final int LEAST_POWERING_WIND = 4;
    private static final int MOST_POWERING_WIND = 25;
    private static final int MOST_POWER = 2000;

    private static final int FIRST_CREW_HOURS = 8;
    private static final int MOST_REPAIR_HOURS = 40;

    private static final int MOST_UNITS = 30000;
    private static final int MOST_PRICE = 100;
    private static final int PRICE_WITHOUT_SLOT = 2;

    private static final int HOUR_MADE = 0;
    private static final int HOUR_SOLD = 1;
    private static final int HOUR_IMBALANCE = 2;
    private static final int HOUR_BROUGHT = 3;

    private static final int BOAT_TURBINE = 0;
    private static final int BOAT_HOURS_LEFT = 1;
    private static final int BOAT_WORKED_TODAY = 2;
    private static final int BOAT_WORKED_IN_ALL = 3;

    private static final int TURBINE_PLACE = 0;
    private static final int TURBINE_BROKEN = 1;
    private static final int TURBINE_MADE = 2;

    private final Weather weather = new Weather();
    private final Field field = new Field();
    private final Fleet fleet = new Fleet();
    private final Ledger ledger = new Ledger();
    /** 0 to LAST_HOUR, as pass refuses what would go above: an index of every row of hours. */
    private int now;

    public Turbineorchard() {
        now = 0;
    }

    public int turbine(int place) throws IndexOutOfBoundsException, IllegalStateException {
        if (!isWithin(place, 0, PLACES - 1)) {
            throw new IndexOutOfBoundsException("no such place");
        }
        if (!field.hasRoomAt(place)) {
            throw new IllegalStateException("the place is taken, or the field is full");
        }
        return field.build(place);
    }

    public int wind(int from, int to, int speed, boolean west) throws IllegalArgumentException {
        if (!isToCome(from) || !isWithin(to, from, LAST_HOUR) || !isWithin(speed, 0, MOST_SPEED)) {
            throw new IllegalArgumentException("from, to or speed is out of range");
        }
        weather.tellWind(from, to, speed, west);
        return to - from + 1;
    }

    public int waves(int hour, int waves) throws IllegalArgumentException {
        if (!isToCome(hour) || !isWithin(waves, 0, MOST_WAVES)) {
            throw new IllegalArgumentException("hour or waves is out of range");
        }
        int before = weather.wavesIn(hour);
        weather.tellWaves(hour, waves);
        return before;
    }

    public int breaks(int turbine) throws IndexOutOfBoundsException, IllegalStateException {
        if (!field.has(turbine)) {
            throw new IndexOutOfBoundsException("no such turbine");
        }
        if (field.isBroken(turbine)) {
            throw new IllegalStateException("the turbine is broken");
        }
        field.breakDown(turbine);
        return field.countBroken();
    }

    public int crew(int boat, int hours) throws IndexOutOfBoundsException, IllegalArgumentException {
        if (!isBoat(boat)) {
            throw new IndexOutOfBoundsException("no such boat");
        }
        if (!isWithin(hours, 0, DAY)) {
            throw new IllegalArgumentException("hours is out of range");
        }
        int before = fleet.crewHours(boat);
        fleet.setCrewHours(boat, hours);
        return before;
    }

    public void repair(int boat, int turbine, int hours)
            throws IndexOutOfBoundsException, IllegalArgumentException, IllegalStateException {
        if (!isBoat(boat) || !field.has(turbine)) {
            throw new IndexOutOfBoundsException("no such boat or turbine");
        }
        if (!isWithin(hours, 1, MOST_REPAIR_HOURS)) {
            throw new IllegalArgumentException("hours is out of range");
        }
        if (!fleet.isFree(boat) || !field.isBroken(turbine) || fleet.isAtWorkOn(turbine)) {
            throw new IllegalStateException("the boat or the turbine is not fit for a repair");
        }
        fleet.send(boat, turbine, hours);
    }

    public int sell(int hour, int units, int price) throws IllegalArgumentException, IllegalStateException {
        if (!isWithin(hour, 0, LAST_HOUR) || !isWithin(units, 0, MOST_UNITS) || !isWithin(price, 1, MOST_PRICE)) {
            throw new IllegalArgumentException("hour, units or price is out of range");
        }
        if (now / DAY >= hour / DAY) {
            throw new IllegalStateException("the day ahead has ended");
        }
        int before = ledger.slotUnits(hour);
        ledger.setSlot(hour, units, price);
        return before;
    }

    public int pass(int hours) throws IllegalArgumentException, IllegalStateException {
        if (!isWithin(hours, 1, MOST_PASSED)) {
            throw new IllegalArgumentException("hours is out of range");
        }
        if (now + hours > LAST_HOUR) {
            throw new IllegalStateException("there are no hours beyond the last");
        }
        for (int passed = 0; passed < hours; passed++) {
            liveHour();
        }
        return now;
    }

    public int windAt(int turbine) throws IndexOutOfBoundsException {
        if (!field.has(turbine)) {
            throw new IndexOutOfBoundsException("no such turbine");
        }
        return field.windLeft(turbine, weather.speedIn(now), weather.isWestIn(now));
    }

    public int foretold(int hour) throws IllegalArgumentException {
        if (!isToCome(hour)) {
            throw new IllegalArgumentException("hour is out of range");
        }
        return field.powerOfAll(weather.speedIn(hour), weather.isWestIn(hour));
    }

    public int foretoldAnew(int hour) throws IllegalArgumentException {
        if (!isToCome(hour)) {
            throw new IllegalArgumentException("hour is out of range");
        }
        return field.powerOfAllAnew(weather.speedIn(hour), weather.isWestIn(hour));
    }

    public int ofHour(int hour, int what) throws IllegalArgumentException {
        if (!isOver(hour) || !isWithin(what, HOUR_MADE, HOUR_BROUGHT)) {
            throw new IllegalArgumentException("hour or what is out of range");
        }
        switch (what) {
            case HOUR_MADE:
                return ledger.madeIn(hour);
            case HOUR_SOLD:
                return ledger.soldFor(hour);
            case HOUR_IMBALANCE:
                return ledger.imbalanceOf(hour);
            default:
                return ledger.proceedsOf(hour);
        }
    }

    public float ratio(int hour) throws IllegalArgumentException {
        if (!isOver(hour)) {
            throw new IllegalArgumentException("hour is out of range");
        }
        return ledger.madeToSold(hour);
    }

    public int ofBoat(int boat, int what) throws IndexOutOfBoundsException, IllegalArgumentException {
        if (!isBoat(boat)) {
            throw new IndexOutOfBoundsException("no such boat");
        }
        if (!isWithin(what, BOAT_TURBINE, BOAT_WORKED_IN_ALL)) {
            throw new IllegalArgumentException("what is out of range");
        }
        switch (what) {
            case BOAT_TURBINE:
                return fleet.turbineOf(boat);
            case BOAT_HOURS_LEFT:
                return fleet.hoursLeft(boat);
            case BOAT_WORKED_TODAY:
                return fleet.workedToday(boat);
            default:
                return fleet.workedInAll(boat);
        }
    }

    public int ofTurbine(int turbine, int what) throws IndexOutOfBoundsException, IllegalArgumentException {
        if (!field.has(turbine)) {
            throw new IndexOutOfBoundsException("no such turbine");
        }
        if (!isWithin(what, TURBINE_PLACE, TURBINE_MADE)) {
            throw new IllegalArgumentException("what is out of range");
        }
        switch (what) {
            case TURBINE_PLACE:
                return field.placeOf(turbine);
            case TURBINE_BROKEN:
                return field.isBroken(turbine) ? 1 : 0;
            default:
                return field.madeInAllBy(turbine);
        }
    }

    public long brought() {
        return ledger.proceedsInAll();
    }

    private static boolean isWithin(int value, int least, int most) {
        return value >= least && value <= most;
    }

    private static boolean isBoat(int boat) {
        return isWithin(boat, 0, BOATS - 1);
    }

    /** The hour of now counts as one to come: nothing of it has gone by. */
    private boolean isToCome(int hour) {
        return isWithin(hour, now, LAST_HOUR);
    }

    private boolean isOver(int hour) {
        return isWithin(hour, 0, now - 1);
    }

    private void liveHour() {
        workOnRepairs();
        ledger.endHour(now, field.generate(weather.speedIn(now), weather.isWestIn(now)));
        field.endStillness();
        // Only now: a turbine whose repair ends in this hour turns from the next hour on.
        endRepairs();
        now++;
        if (now % DAY == 0) {
            fleet.beginDay();
        }
    }

    private void workOnRepairs() {
        if (weather.wavesIn(now) > CALM_WAVES) {
            return;
        }
        for (int boat = 0; boat < BOATS; boat++) {
            if (fleet.canWork(boat)) {
                fleet.workAnHour(boat);
                field.stillBeside(fleet.turbineOf(boat));
            }
        }
    }

    private void endRepairs() {
        for (int boat = 0; boat < BOATS; boat++) {
            if (fleet.hasEnded(boat)) {
                field.mend(fleet.turbineOf(boat));
                fleet.release(boat);
            }
        }
    }

    /** The wind and the waves of each hour. */
    private static final class Weather {
        private final int[] speeds = new int[HOURS];
        private final boolean[] wests = new boolean[HOURS];
        /** NONE as long as the waves were not told: they then follow the wind. */
        private final int[] toldWaves = new int[HOURS];

        Weather() {
            for (int hour = 0; hour < HOURS; hour++) {
                speeds[hour] = FIRST_SPEED;
                toldWaves[hour] = NONE;
            }
        }

        void tellWind(int from, int to, int speed, boolean west) {
            for (int hour = from; hour <= to; hour++) {
                speeds[hour] = speed;
                wests[hour] = west;
            }
        }

        void tellWaves(int hour, int told) {
            toldWaves[hour] = told;
        }

        int speedIn(int hour) {
            return speeds[hour];
        }

        boolean isWestIn(int hour) {
            return wests[hour];
        }

        int wavesIn(int hour) {
            return toldWaves[hour] == NONE ? speeds[hour] / SPEED_FOR_A_WAVE : toldWaves[hour];
        }
    }

    /** The places, the turbines at them, and the wakes between them. */
    private static final class Field {
        /** The turbine at each place, NONE where there is none. */
        private final int[] turbineAt = new int[PLACES];
        private final int[] places = new int[MOST_TURBINES];
        private final boolean[] broken = new boolean[MOST_TURBINES];
        /** Set only while an hour goes by, so that at other times all that is not broken turns. */
        private final boolean[] stilled = new boolean[MOST_TURBINES];
        private final int[] madeInAll = new int[MOST_TURBINES];
        private int count;
        private int brokenCount;

        Field() {
            for (int place = 0; place < PLACES; place++) {
                turbineAt[place] = NONE;
            }
        }

        boolean has(int turbine) {
            return isWithin(turbine, 0, count - 1);
        }

        boolean hasRoomAt(int place) {
            return turbineAt[place] == NONE && count < MOST_TURBINES;
        }

        int build(int place) {
            int turbine = count;
            turbineAt[place] = turbine;
            places[turbine] = place;
            count++;
            return turbine;
        }

        int placeOf(int turbine) {
            return places[turbine];
        }

        boolean isBroken(int turbine) {
            return broken[turbine];
        }

        int countBroken() {
            return brokenCount;
        }

        int madeInAllBy(int turbine) {
            return madeInAll[turbine];
        }

        void breakDown(int turbine) {
            broken[turbine] = true;
            brokenCount++;
        }

        void mend(int turbine) {
            broken[turbine] = false;
            brokenCount--;
        }

        void stillBeside(int turbine) {
            int place = places[turbine];
            int column = place % COLUMNS;
            if (place >= COLUMNS) {
                stillAt(place - COLUMNS);
            }
            if (place < PLACES - COLUMNS) {
                stillAt(place + COLUMNS);
            }
            if (column > 0) {
                stillAt(place - 1);
            }
            if (column < COLUMNS - 1) {
                stillAt(place + 1);
            }
        }

        private void stillAt(int place) {
            int turbine = turbineAt[place];
            if (has(turbine)) {
                stilled[turbine] = true;
            }
        }

        int generate(int speed, boolean west) {
            int sum = 0;
            for (int turbine = 0; turbine < count; turbine++) {
                int power = powerOf(turbine, speed, west);
                madeInAll[turbine] += power;
                sum += power;
            }
            return sum;
        }

        void endStillness() {
            for (int turbine = 0; turbine < count; turbine++) {
                stilled[turbine] = false;
            }
        }

        int powerOfAll(int speed, boolean west) {
            int sum = 0;
            for (int turbine = 0; turbine < count; turbine++) {
                sum += powerOf(turbine, speed, west);
            }
            return sum;
        }

        int powerOfAllAnew(int speed, boolean west) {
            int sum = 0;
            for (int turbine = count - 1; turbine >= 0; turbine--) {
                if (turns(turbine)) {
                    sum += powerOfWind(windLeftAnew(places[turbine], speed, west));
                }
            }
            return sum;
        }

        private boolean turns(int turbine) {
            return !broken[turbine] && !stilled[turbine];
        }

        private int powerOf(int turbine, int speed, boolean west) {
            return turns(turbine) ? powerOfWind(windLeft(turbine, speed, west)) : 0;
        }

        /** Needs the nearest first: as each wake is rounded down, another order may leave another wind. */
        int windLeft(int turbine, int speed, boolean west) {
            int distances = distancesAhead(places[turbine], west);
            int left = speed;
            for (int away = 1; away < COLUMNS; away++) {
                if ((distances & (1 << away)) != 0) {
                    left -= takenByWake(left, away);
                }
            }
            return left;
        }

        /** The bit d is set if a turbine that turns stands d places ahead. */
        private int distancesAhead(int place, boolean west) {
            int distances = 0;
            for (int other = 0; other < count; other++) {
                int away = placesAhead(place, west) - placesAhead(places[other], west);
                if (away > 0 && lane(places[other], west) == lane(place, west) && turns(other)) {
                    distances |= 1 << away;
                }
            }
            return distances;
        }

        /** The document asks for the same once more, from place to place and so without windLeft. */
        private int windLeftAnew(int place, int speed, boolean west) {
            int step = west ? 1 : COLUMNS;
            int ahead = placesAhead(place, west);
            int left = speed;
            for (int away = 1; away <= ahead; away++) {
                int other = turbineAt[place - away * step];
                if (has(other) && turns(other)) {
                    left -= takenByWake(left, away);
                }
            }
            return left;
        }

        /** The row or the column along which the wind goes. */
        private static int lane(int place, boolean west) {
            return west ? place / COLUMNS : place % COLUMNS;
        }

        /** How many places of its lane the wind reaches before this one. */
        private static int placesAhead(int place, boolean west) {
            return west ? place % COLUMNS : place / COLUMNS;
        }

        private static int takenByWake(int wind, int away) {
            int hundredths = 10;
            if (away == 1) {
                hundredths = 30;
            } else if (away == 2) {
                hundredths = 20;
            }
            return wind * hundredths / 100;
        }

        private static int powerOfWind(int wind) {
            if (!isWithin(wind, LEAST_POWERING_WIND, MOST_POWERING_WIND)) {
                return 0;
            }
            return Math.min(wind * wind * wind, MOST_POWER);
        }
    }

    /** The boats, their crews, and the repairs that they do. */
    private static final class Fleet {
        /** The turbine that each boat repairs, NONE for a free boat. */
        private final int[] turbines = new int[BOATS];
        private final int[] left = new int[BOATS];
        private final int[] crewLimits = new int[BOATS];
        private final int[] today = new int[BOATS];
        private final int[] inAll = new int[BOATS];

        Fleet() {
            for (int boat = 0; boat < BOATS; boat++) {
                turbines[boat] = NONE;
                crewLimits[boat] = FIRST_CREW_HOURS;
            }
        }

        int crewHours(int boat) {
            return crewLimits[boat];
        }

        void setCrewHours(int boat, int hours) {
            crewLimits[boat] = hours;
        }

        int turbineOf(int boat) {
            return turbines[boat];
        }

        int hoursLeft(int boat) {
            return left[boat];
        }

        int workedToday(int boat) {
            return today[boat];
        }

        int workedInAll(int boat) {
            return inAll[boat];
        }

        boolean isFree(int boat) {
            return turbines[boat] == NONE;
        }

        boolean isAtWorkOn(int turbine) {
            for (int boat = 0; boat < BOATS; boat++) {
                if (turbines[boat] == turbine) {
                    return true;
                }
            }
            return false;
        }

        void send(int boat, int turbine, int hours) {
            turbines[boat] = turbine;
            left[boat] = hours;
        }

        boolean canWork(int boat) {
            return !isFree(boat) && today[boat] < crewLimits[boat];
        }

        void workAnHour(int boat) {
            left[boat]--;
            today[boat]++;
            inAll[boat]++;
        }

        boolean hasEnded(int boat) {
            return !isFree(boat) && left[boat] == 0;
        }

        void release(int boat) {
            turbines[boat] = NONE;
        }

        void beginDay() {
            for (int boat = 0; boat < BOATS; boat++) {
                today[boat] = 0;
            }
        }
    }

    /** The slots sold, what was made, and what that brought. */
    private static final class Ledger {
        /** NONE without a slot, which is not the same as a slot of 0 units: it has another price. */
        private final int[] slots = new int[HOURS];
        private final int[] prices = new int[HOURS];
        private final int[] made = new int[HOURS];
        private long proceeds;

        Ledger() {
            for (int hour = 0; hour < HOURS; hour++) {
                slots[hour] = NONE;
                prices[hour] = PRICE_WITHOUT_SLOT;
            }
        }

        int slotUnits(int hour) {
            return slots[hour];
        }

        void setSlot(int hour, int units, int price) {
            slots[hour] = units;
            prices[hour] = price;
        }

        /** The hour's slot is not sold any more, so that what it brings now is what it brought for good. */
        void endHour(int hour, int units) {
            made[hour] = units;
            proceeds += proceedsOf(hour);
        }

        int madeIn(int hour) {
            return made[hour];
        }

        int soldFor(int hour) {
            return slots[hour] == NONE ? 0 : slots[hour];
        }

        int imbalanceOf(int hour) {
            return soldFor(hour) - made[hour];
        }

        int proceedsOf(int hour) {
            int price = prices[hour];
            int imbalance = imbalanceOf(hour);
            int ofSlot = soldFor(hour) * price;
            return imbalance > 0 ? ofSlot - imbalance * 2 * price : ofSlot - imbalance * (price / 2);
        }

        long proceedsInAll() {
            return proceeds;
        }

        float madeToSold(int hour) {
            int sold = soldFor(hour);
            return sold == 0 ? 0.0f : (float) made[hour] / (float) sold;
        }
    }
}
