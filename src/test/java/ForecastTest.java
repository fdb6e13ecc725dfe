/** Promises 42 to 46. */
final class ForecastTest {
    public static void main(String[] args) {
        braking();
        forecastsComeTrue();
        forecastsEndWithTheTicks();
        ticksToCutoff();
        wrongArguments();
        Check.end();
    }

    private static void braking() {
        TrainDecoder x = Ask.with("track 9 1;train 1 5 3 0;");
        Check.equal("ticks of a standing train", 0, x.brakingTicks(0));
        Check.equal("distance of a standing train", 0, x.brakingDistance(0));
        x.setSpeed(1, 10);
        x.passTicks(2);
        // 10, then 7, 5, 4, 3, 2, 1, 0
        Check.equal("ticks by 3", 7, x.brakingTicks(0));
        Check.equal("distance by 3", 22, x.brakingDistance(0));
        brakingFromFullSpeed(1, 1, 0);
        // 14, 7, 4, 2, 1, 0
        brakingFromFullSpeed(2, 6, 28);
        // 25, 23, 21, 19, 17, and by 1 from there
        brakingFromFullSpeed(9, 22, 25 + 23 + 21 + 19 + 17 * 18 / 2);
        brakingIsNotStoppedByTheTarget();
    }

    private static void brakingFromFullSpeed(int divisor, int ticks, int distance) {
        TrainDecoder x = Ask.with("track 24 1;train 1 5 " + divisor + " 0;");
        x.setSpeed(1, 28);
        x.passTicks(6);
        Check.equal("full speed", 28, x.speed(0));
        Check.equal("ticks by " + divisor, ticks, x.brakingTicks(0));
        Check.equal("distance by " + divisor, distance, x.brakingDistance(0));
        x.setSpeed(1, 0);
        int run = 0;
        for (int left = ticks; left > 0; left--) {
            Check.equal("it still runs", true, x.speed(0) > 0);
            x.passTicks(1);
            run += x.speed(0);
        }
        Check.equal("it stands then", 0, x.speed(0));
        Check.equal("it has run so far", distance, run);
    }

    private static void brakingIsNotStoppedByTheTarget() {
        TrainDecoder x = Ask.with("track 9 9;train 1 5 9 0;");
        x.setSpeed(1, 5);
        x.passTicks(1);
        x.setSpeed(1, 3);
        Check.equal("ticks before", 5, x.brakingTicks(0));
        x.passTicks(1);
        Check.equal("ticks then", 4, x.brakingTicks(0));
        Check.equal("distance then", 6, x.brakingDistance(0));
        x.setShort(0, true);
        x.passTicks(1);
        Check.equal("the power does not matter", 3, x.brakingTicks(0));
    }

    private static void forecastsComeTrue() {
        TrainDecoder x = Ask.with("track 9 7;tunnel 4;short 8;train 1 3 4 0;train 2 5 7 3;train 9 1 2 5;");
        x.setSpeed(0, 27);
        x.setSpeed(2, 11);
        x.setSpeed(9, 5);
        x.passTicks(2);
        Check.equal("section now", x.sectionOf(1), x.sectionAfter(1, 0));
        Check.equal("speed now", x.speed(1), x.speedAfter(1, 0));
        String before = Ask.all(x);
        int[] sections = new int[603];
        int[] speeds = new int[603];
        for (int i = 0; i < 603; i++) {
            sections[i] = x.sectionAfter(i % 3, i / 3);
            speeds[i] = x.speedAfter(i % 3, i / 3);
        }
        Check.equal("forecasts change nothing", before, Ask.all(x));
        for (int i = 0; i < 603; i++) {
            Check.equal("section in " + i / 3, x.sectionOf(i % 3), sections[i]);
            Check.equal("speed in " + i / 3, x.speed(i % 3), speeds[i]);
            if (i % 3 == 2) {
                x.passTicks(1);
            }
        }
    }

    private static void forecastsEndWithTheTicks() {
        TrainDecoder x = Ask.with("track 9 7;short 1;train 1 5 4 0;");
        Ask.pass(x, 9998);
        x.setSpeed(1, 28);
        Check.equal("two ticks", 10, x.speedAfter(0, 2));
        Check.equal("no third tick", 10, x.speedAfter(0, 200));
        Check.equal("it gets nowhere", 0, x.sectionAfter(0, 200));
        Check.equal("no cutoff is reached", -1, x.ticksToCutoff());
        x.setShort(0, true);
        Check.equal("a cutoff in time", 1, x.ticksToCutoff());
        x.setShort(0, false);
        x.passTicks(1);
        x.setShort(0, true);
        Check.equal("a cutoff in the last tick", 1, x.ticksToCutoff());
        x.setShort(0, false);
        x.passTicks(1);
        x.setShort(0, true);
        Check.equal("no tick is left", -1, x.ticksToCutoff());
        Check.equal("speed at the end", 10, x.speedAfter(0, 1));
    }

    private static void ticksToCutoff() {
        TrainDecoder x = Ask.with("track 5 20;train 1 5 1 0;");
        Check.equal("no short circuit", -1, x.ticksToCutoff());
        x.setShort(1, true);
        Check.equal("nobody comes", -1, x.ticksToCutoff());
        x.setSpeed(1, 25);
        Check.equal("the first tick in the section", 6, x.ticksToCutoff());
        String before = Ask.all(x);
        x.ticksToCutoff();
        Check.equal("it changes nothing", before, Ask.all(x));
        x.passTicks(5);
        Check.equal("the next tick", 1, x.ticksToCutoff());
        x.passTicks(1);
        Check.equal("cut off", 1, x.cutoffs());
        Check.equal("on after 20 ticks, off in the next", 21, x.ticksToCutoff());
        x.passTicks(19);
        Check.equal("on in the next, off behind it", 2, x.ticksToCutoff());
        latestCutoff();
    }

    /**
     * Twelve packets keep a train of speed 1 from falling silent for 12 ticks, and it runs on for 39 more.
     * (No railway has its next cutoff so late that the limit of 200 ticks matters.)
     */
    private static void latestCutoff() {
        TrainDecoder x = Ask.with("track 4 1;short 1;train 1 1 1 0;");
        x.setSpeed(1, 1);
        x.passTicks(39);
        x.setSpeed(1, 1);
        x.passTicks(9);
        for (int packets = 0; packets < 12; packets++) {
            x.setSpeed(1, 1);
        }
        Check.equal("advance", 48, x.advance(0));
        Check.equal("it stops one tick too early", -1, x.ticksToCutoff());
        x.undo();
        x.passTicks(1);
        x.setSpeed(1, 1);
        x.setSpeed(1, 1);
        Check.equal("advance then", 49, x.advance(0));
        Check.equal("it comes in its last tick", 51, x.ticksToCutoff());
    }

    private static void wrongArguments() {
        TrainDecoder x = new TrainDecoder();
        for (int train : new int[] {-1, 2, 6, Integer.MAX_VALUE, Integer.MIN_VALUE}) {
            String of = "(" + train + ")";
            Check.outside(x, "brakingTicks" + of, () -> x.brakingTicks(train));
            Check.outside(x, "brakingDistance" + of, () -> x.brakingDistance(train));
            Check.outside(x, "sectionAfter" + of, () -> x.sectionAfter(train, 0));
            Check.outside(x, "speedAfter" + of, () -> x.speedAfter(train, 0));
            Check.outside(x, "sectionAfter of both", () -> x.sectionAfter(train, -1));
            Check.outside(x, "speedAfter of both", () -> x.speedAfter(train, 201));
        }
        for (int ticks : new int[] {-1, 201, Integer.MAX_VALUE, Integer.MIN_VALUE}) {
            Check.unfit(x, "sectionAfter(0, " + ticks + ")", () -> x.sectionAfter(0, ticks));
            Check.unfit(x, "speedAfter(1, " + ticks + ")", () -> x.speedAfter(1, ticks));
        }
        Check.equal("200 ticks", 0, x.sectionAfter(0, 200));
        Check.equal("speed in 200 ticks", 0, x.speedAfter(1, 200));
    }
}
