/**
 * Runs of 512 calls, drawn by a fixed rule, with right and wrong arguments: each answer and each exception
 * must be the model's. As the model changes nothing when it throws, this also holds the class to that.
 */
public final class AgainstModelTest {
    private static final int RUNS = 2000;
    private static final int CALLS = 512;
    private static final int KINDS = 18;

    private final Checks check;
    private final Turbineorchard x = new Turbineorchard();
    private final Model model = new Model();
    private final int mostPassed;
    private long seed;
    private int hour;

    private AgainstModelTest(Checks check, int run) {
        this.check = check;
        seed = run * 7919L + 17;
        mostPassed = run % 3 == 0 ? 48 : run % 3 == 1 ? 6 : 1;
    }

    public static void main(String[] args) {
        Checks check = new Checks();
        for (int run = 0; run < RUNS; run++) {
            AgainstModelTest test = new AgainstModelTest(check, run);
            for (int call = 0; call < CALLS; call++) {
                test.callSome("run " + run + ", call " + call + ": ");
            }
        }
        check.end("AgainstModelTest");
    }

    private int upTo(int bound) {
        seed = seed * 6364136223846793005L + 1442695040888963407L;
        return (int) ((seed >>> 33) % bound);
    }

    /** Mostly least..most, at times a little beyond, seldom far. */
    private int some(int least, int most) {
        int luck = upTo(40);
        if (luck == 0) {
            return least - 1;
        }
        if (luck == 1) {
            return most + 1;
        }
        if (luck == 2) {
            return upTo(2) == 0 ? Integer.MIN_VALUE : Integer.MAX_VALUE;
        }
        return most < least ? least : least + upTo(most - least + 1);
    }

    private int someTurbine() {
        return upTo(8) == 0 ? some(0, 11) : upTo(6);
    }

    private int hourToCome() {
        return upTo(3) == 0 ? some(hour, 479) : some(hour, Math.min(479, hour + 2 * mostPassed));
    }

    private int hourThatIsOver() {
        return some(0, hour - 1);
    }

    /** Low winds make the roundings matter, high ones the bounds of power. */
    private int someSpeed() {
        return upTo(3) == 0 ? some(0, 40) : 3 + upTo(15);
    }

    private void due(String call, Checks.Call ofClass, Checks.Call ofModel) {
        check.dueText(call, Checks.answerOf(ofClass), Checks.answerOf(ofModel));
    }

    private void callSome(String at) {
        int kind = upTo(KINDS);
        if (kind < 9) {
            change(at, kind);
        } else {
            ask(at, kind);
        }
    }

    private void change(String at, int kind) {
        int a;
        int b;
        int c;
        switch (kind) {
            case 0:
                a = some(0, 23);
                due(at + "turbine(" + a + ")", () -> x.turbine(a), () -> model.turbine(a));
                break;
            case 1:
                a = hourToCome();
                b = some(a, Math.min(479, a + upTo(60)));
                c = someSpeed();
                boolean west = upTo(2) == 0;
                due(at + "wind(" + a + ", " + b + ", " + c + ", " + west + ")",
                        () -> x.wind(a, b, c, west), () -> model.wind(a, b, c, west));
                break;
            case 2:
                a = hourToCome();
                b = upTo(2) == 0 ? 3 + upTo(3) : some(0, 20);
                due(at + "waves(" + a + ", " + b + ")", () -> x.waves(a, b), () -> model.waves(a, b));
                break;
            case 3:
                a = someTurbine();
                due(at + "breaks(" + a + ")", () -> x.breaks(a), () -> model.breaks(a));
                break;
            case 4:
                a = some(0, 2);
                b = some(0, 24);
                due(at + "crew(" + a + ", " + b + ")", () -> x.crew(a, b), () -> model.crew(a, b));
                break;
            case 5:
                a = some(0, 2);
                b = someTurbine();
                c = upTo(2) == 0 ? some(1, 40) : 1 + upTo(5);
                due(at + "repair(" + a + ", " + b + ", " + c + ")", () -> {
                    x.repair(a, b, c);
                    return 0;
                }, () -> model.repair(a, b, c));
                break;
            case 6:
                a = upTo(3) == 0 ? some(0, 479) : Math.min(479, hour + upTo(60));
                b = upTo(2) == 0 ? upTo(9) * 500 : some(0, 30000);
                c = some(1, 100);
                due(at + "sell(" + a + ", " + b + ", " + c + ")", () -> x.sell(a, b, c), () -> model.sell(a, b, c));
                break;
            default:
                passSome(at);
        }
    }

    private void passSome(String at) {
        int hours = some(1, mostPassed);
        String answer = Checks.answerOf(() -> x.pass(hours));
        String want = Checks.answerOf(() -> model.pass(hours));
        check.dueText(at + "pass(" + hours + ")", answer, want);
        if (!want.endsWith("Exception")) {
            hour = Integer.parseInt(want);
        }
    }

    private void ask(String at, int kind) {
        int a;
        int b;
        switch (kind) {
            case 9:
                a = someTurbine();
                due(at + "windAt(" + a + ")", () -> x.windAt(a), () -> model.windAt(a));
                break;
            case 10:
                a = hourToCome();
                due(at + "foretold(" + a + ")", () -> x.foretold(a), () -> model.foretold(a));
                break;
            case 11:
                a = hourToCome();
                due(at + "foretoldAnew(" + a + ")", () -> x.foretoldAnew(a), () -> model.foretold(a));
                break;
            case 12:
            case 13:
                a = hourThatIsOver();
                b = some(0, 3);
                due(at + "ofHour(" + a + ", " + b + ")", () -> x.ofHour(a, b), () -> model.ofHour(a, b));
                break;
            case 14:
                a = hourThatIsOver();
                due(at + "ratio(" + a + ")", () -> Float.floatToIntBits(x.ratio(a)),
                        () -> Float.floatToIntBits(model.ratio(a)));
                break;
            case 15:
                a = some(0, 2);
                b = some(0, 3);
                due(at + "ofBoat(" + a + ", " + b + ")", () -> x.ofBoat(a, b), () -> model.ofBoat(a, b));
                break;
            case 16:
                a = someTurbine();
                b = some(0, 2);
                due(at + "ofTurbine(" + a + ", " + b + ")", () -> x.ofTurbine(a, b), () -> model.ofTurbine(a, b));
                break;
            default:
                due(at + "brought()", () -> x.brought(), () -> model.brought());
        }
    }
}
