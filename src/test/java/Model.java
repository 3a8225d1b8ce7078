import java.util.ArrayList;
import java.util.HashMap;
import java.util.List;
import java.util.Map;
import java.util.TreeMap;

/**
 * The document once more, by other means: things with columns and rows in lists and maps, and sums
 * made when they are asked for. AgainstModelTest holds the two against one another.
 */
final class Model {
    private static final class Turbine {
        final int column;
        final int row;
        boolean broken;
        boolean still;
        int made;

        Turbine(int place) {
            column = place % 6;
            row = place / 6;
        }

        boolean turns() {
            return !broken && !still;
        }

        boolean isBeside(Turbine other) {
            return Math.abs(column - other.column) + Math.abs(row - other.row) == 1;
        }
    }

    private static final class Boat {
        int turbine = -1;
        int left;
        int limit = 8;
        final List<Integer> hoursWorked = new ArrayList<>();

        long workedOn(int day) {
            return hoursWorked.stream().filter(hour -> hour / 24 == day).count();
        }
    }

    private final List<Turbine> turbines = new ArrayList<>();
    private final Boat[] boats = {new Boat(), new Boat(), new Boat()};
    private final Map<Integer, Integer> speeds = new HashMap<>();
    private final Map<Integer, Boolean> wests = new HashMap<>();
    private final Map<Integer, Integer> waves = new HashMap<>();
    private final Map<Integer, int[]> slots = new HashMap<>();
    private final List<Integer> made = new ArrayList<>();

    private int now() {
        return made.size();
    }

    private static void exists(boolean right) {
        if (!right) {
            throw new IndexOutOfBoundsException();
        }
    }

    private static void inRange(boolean right) {
        if (!right) {
            throw new IllegalArgumentException();
        }
    }

    private static void state(boolean right) {
        if (!right) {
            throw new IllegalStateException();
        }
    }

    private void existsTurbine(int turbine) {
        exists(turbine >= 0 && turbine < turbines.size());
    }

    private static void existsBoat(int boat) {
        exists(boat >= 0 && boat < 3);
    }

    long turbine(int place) {
        exists(place >= 0 && place <= 23);
        Turbine built = new Turbine(place);
        state(turbines.size() < 12);
        state(turbines.stream().noneMatch(t -> t.column == built.column && t.row == built.row));
        turbines.add(built);
        return turbines.size() - 1;
    }

    long wind(int from, int to, int speed, boolean west) {
        inRange(from >= now() && from <= 479);
        inRange(to >= from && to <= 479);
        inRange(speed >= 0 && speed <= 40);
        for (int hour = from; hour <= to; hour++) {
            speeds.put(hour, speed);
            wests.put(hour, west);
        }
        return to - from + 1;
    }

    private int speed(int hour) {
        return speeds.getOrDefault(hour, 10);
    }

    private int wavesOf(int hour) {
        return waves.getOrDefault(hour, speed(hour) / 3);
    }

    long waves(int hour, int told) {
        inRange(hour >= now() && hour <= 479);
        inRange(told >= 0 && told <= 20);
        int before = wavesOf(hour);
        waves.put(hour, told);
        return before;
    }

    long breaks(int turbine) {
        existsTurbine(turbine);
        state(!turbines.get(turbine).broken);
        turbines.get(turbine).broken = true;
        return turbines.stream().filter(t -> t.broken).count();
    }

    long crew(int boat, int hours) {
        existsBoat(boat);
        inRange(hours >= 0 && hours <= 24);
        int before = boats[boat].limit;
        boats[boat].limit = hours;
        return before;
    }

    long repair(int boat, int turbine, int hours) {
        existsBoat(boat);
        existsTurbine(turbine);
        inRange(hours >= 1 && hours <= 40);
        state(boats[boat].turbine == -1);
        state(turbines.get(turbine).broken);
        for (Boat other : boats) {
            state(other.turbine != turbine);
        }
        boats[boat].turbine = turbine;
        boats[boat].left = hours;
        return 0;
    }

    long sell(int hour, int units, int price) {
        inRange(hour >= 0 && hour <= 479);
        inRange(units >= 0 && units <= 30000);
        inRange(price >= 1 && price <= 100);
        int endOfDayAhead = hour - hour % 24;
        state(now() < endOfDayAhead);
        int[] before = slots.put(hour, new int[] {units, price});
        return before == null ? -1 : before[0];
    }

    long pass(int hours) {
        inRange(hours >= 1 && hours <= 48);
        state(now() + hours <= 479);
        for (int i = 0; i < hours; i++) {
            passOne();
        }
        return now();
    }

    private void passOne() {
        int hour = now();
        List<Boat> working = new ArrayList<>();
        for (Boat boat : boats) {
            if (boat.turbine != -1 && wavesOf(hour) <= 4 && boat.workedOn(hour / 24) < boat.limit) {
                working.add(boat);
            }
        }
        for (Turbine turbine : turbines) {
            turbine.still = working.stream().anyMatch(boat -> turbines.get(boat.turbine).isBeside(turbine));
        }
        int sum = 0;
        for (Turbine turbine : turbines) {
            int power = power(turbine, hour);
            turbine.made += power;
            sum += power;
        }
        for (Turbine turbine : turbines) {
            turbine.still = false;
        }
        for (Boat boat : working) {
            boat.hoursWorked.add(hour);
            boat.left--;
            if (boat.left == 0) {
                turbines.get(boat.turbine).broken = false;
                boat.turbine = -1;
            }
        }
        made.add(sum);
    }

    private int windLeft(Turbine behind, int hour) {
        boolean west = wests.getOrDefault(hour, false);
        TreeMap<Integer, Turbine> ahead = new TreeMap<>();
        for (Turbine other : turbines) {
            boolean sameLane = west ? other.row == behind.row : other.column == behind.column;
            int away = west ? behind.column - other.column : behind.row - other.row;
            if (sameLane && away > 0 && other.turns()) {
                ahead.put(away, other);
            }
        }
        int left = speed(hour);
        for (int away : ahead.keySet()) {
            int wake = away == 1 ? 30 : away == 2 ? 20 : 10;
            left = left - left * wake / 100;
        }
        return left;
    }

    private int power(Turbine turbine, int hour) {
        int wind = windLeft(turbine, hour);
        if (!turbine.turns() || wind < 4 || wind > 25) {
            return 0;
        }
        return wind > 12 ? 2000 : wind * wind * wind;
    }

    long windAt(int turbine) {
        existsTurbine(turbine);
        return windLeft(turbines.get(turbine), now());
    }

    long foretold(int hour) {
        inRange(hour >= now() && hour <= 479);
        return turbines.stream().mapToInt(turbine -> power(turbine, hour)).sum();
    }

    private long bringsOf(int hour) {
        int[] slot = slots.getOrDefault(hour, new int[] {0, 2});
        long sold = slot[0];
        long price = slot[1];
        long tooFew = Math.max(0, sold - made.get(hour));
        long tooMany = Math.max(0, made.get(hour) - sold);
        return sold * price - tooFew * 2 * price + tooMany * Math.floorDiv(price, 2);
    }

    long ofHour(int hour, int what) {
        inRange(hour >= 0 && hour < now());
        inRange(what >= 0 && what <= 3);
        long sold = slots.getOrDefault(hour, new int[] {0, 2})[0];
        long[] all = {made.get(hour), sold, sold - made.get(hour), bringsOf(hour)};
        return all[what];
    }

    float ratio(int hour) {
        inRange(hour >= 0 && hour < now());
        int sold = slots.getOrDefault(hour, new int[] {0, 2})[0];
        return sold == 0 ? 0 : (float) (int) made.get(hour) / (float) sold;
    }

    long ofBoat(int boat, int what) {
        existsBoat(boat);
        inRange(what >= 0 && what <= 3);
        Boat of = boats[boat];
        long[] all = {of.turbine, of.left, of.workedOn(now() / 24), of.hoursWorked.size()};
        return all[what];
    }

    long ofTurbine(int turbine, int what) {
        existsTurbine(turbine);
        inRange(what >= 0 && what <= 2);
        Turbine of = turbines.get(turbine);
        long[] all = {of.row * 6 + of.column, of.broken ? 1 : 0, of.made};
        return all[what];
    }

    long brought() {
        long sum = 0;
        for (int hour = 0; hour < now(); hour++) {
            sum += bringsOf(hour);
        }
        return sum;
    }
}
