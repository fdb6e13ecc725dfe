/** What happens when a tick passes, in its order: the document's terms. */
final class TickTest {
    public static void main(String[] args) {
        kindsOfPackets();
        packetsAndTunnels();
        packetsAndPower();
        longSilence();
        silenceAndPackets();
        speeds();
        speedsWithoutPower();
        lamps();
        trainsMoveInOrder();
        blocking();
        entering();
        shortsAndPower();
        Check.end();
    }

    private static TrainDecoder one() {
        return Ask.with("track 9 5;train 1 5 2 0;");
    }

    private static void obey(TrainDecoder x, int command) {
        x.sendPacket(1, command, 1 ^ command);
        x.passTicks(1);
    }

    private static void kindsOfPackets() {
        TrainDecoder x = one();
        obey(x, 27);
        Check.equal("argument 27", 27, x.targetSpeed(0));
        obey(x, 63);
        Check.equal("argument 63", 28, x.targetSpeed(0));
        obey(x, 3);
        obey(x, 29);
        Check.equal("argument 29", 28, x.targetSpeed(0));
        obey(x, 64 + 63);
        Check.equal("duty of 63", 15, x.duty(0));
        obey(x, 64 + 16);
        Check.equal("duty of 16", 0, x.duty(0));
        obey(x, 64 + 37);
        Check.equal("duty of 37", 5, x.duty(0));
        Check.equal("the target stays", 28, x.targetSpeed(0));
        int speed = x.speed(0);
        obey(x, 192 + 1);
        Check.equal("kind 3 changes no target", 28, x.targetSpeed(0));
        Check.equal("kind 3 changes no duty", 5, x.duty(0));
        Check.equal("kind 3 does not stop", Math.min(28, speed + 5), x.speed(0));
        Check.equal("kind 3 is obeyed", 8, x.obeyed(0));
        obey(x, 128 + 63);
        Check.equal("kind 2 stops", 0, x.speed(0));
        Check.equal("kind 2 sets the target", 0, x.targetSpeed(0));
        Check.equal("kind 2 leaves the duty", 5, x.duty(0));
        Check.equal("all obeyed", 9, x.obeyed(0));
    }

    private static void packetsAndTunnels() {
        TrainDecoder x = Ask.with("track 4 5;tunnel 0;tunnel 3;train 1 5 2 0;train 2 5 2 1;");
        x.setSpeed(0, 9);
        x.sendPacket(1, 1, 1);
        x.passTicks(1);
        Check.equal("not heard", 0, x.targetSpeed(0));
        Check.equal("heard", 9, x.targetSpeed(1));
        Check.equal("unheard", 1, x.unheard(0));
        Check.equal("silent", 1, x.silence(0));
        x.passTicks(1);
        Check.equal("a broken one is not heard either", 2, x.unheard(0));
        Check.equal("nor rejected", 0, x.rejected(0));
    }

    private static void packetsAndPower() {
        TrainDecoder x = Ask.with("track 4 3;short 0;train 1 5 2 0;");
        x.passTicks(1);
        x.setShort(0, false);
        x.setSpeed(1, 9);
        Check.equal("none is sent while it is off", 0, x.passTicks(3));
        Check.equal("it is kept", 1, x.queueLength());
        Check.equal("power is on", true, x.isPowerOn());
        Check.equal("it is sent", 1, x.passTicks(1));
        Check.equal("obeyed", 9, x.targetSpeed(0));
    }

    private static void longSilence() {
        TrainDecoder x = one();
        x.setSpeed(1, 28);
        x.passTicks(40);
        Check.equal("39 ticks", 39, x.silence(0));
        Check.equal("target still", 28, x.targetSpeed(0));
        Check.equal("speed still", 28, x.speed(0));
        x.passTicks(1);
        Check.equal("40 ticks", 40, x.silence(0));
        Check.equal("target then", 0, x.targetSpeed(0));
        Check.equal("it brakes at once", 14, x.speed(0));
        x.passTicks(9);
        Check.equal("49 ticks", 49, x.silence(0));
        Check.equal("it stands", 0, x.speed(0));
        x.setSpeed(1, 7);
        x.passTicks(1);
        Check.equal("silence after a packet", 0, x.silence(0));
        Check.equal("target after a packet", 7, x.targetSpeed(0));
    }

    private static void silenceAndPackets() {
        TrainDecoder x = one();
        x.passTicks(39);
        x.setSpeed(1, 6);
        x.passTicks(1);
        Check.equal("heard in time", 6, x.targetSpeed(0));
        TrainDecoder y = Ask.with("track 9 20;train 1 5 2 0;");
        y.setSpeed(1, 6);
        y.passTicks(1);
        y.setShort(0, true);
        y.passTicks(40);
        Check.equal("silence without power", 40, y.silence(0));
        Check.equal("its target", 0, y.targetSpeed(0));
        TrainDecoder z = one();
        z.passTicks(45);
        z.setLamp(1, 3);
        z.passTicks(1);
        Check.equal("a lamp's packet ends the silence", 0, z.silence(0));
    }

    /** Train 0's speed after each of the next ticks. */
    private static String speeds(TrainDecoder x, int ticks) {
        StringBuilder speeds = new StringBuilder();
        for (int tick = 0; tick < ticks; tick++) {
            x.passTicks(1);
            speeds.append(x.speed(0)).append(' ');
        }
        return speeds.toString();
    }

    private static void speeds() {
        TrainDecoder x = one();
        x.setSpeed(1, 28);
        Check.equal("faster", "5 10 15 20 25 28 28 ", speeds(x, 7));
        x.setSpeed(1, 3);
        Check.equal("slower", "14 7 4 3 3 ", speeds(x, 5));
        TrainDecoder y = Ask.with("track 9 5;train 1 5 9 0;");
        y.setSpeed(1, 20);
        y.passTicks(4);
        y.setSpeed(1, 2);
        Check.equal("slower by 9", "18 16 15 14 13 12 ", speeds(y, 6));
        TrainDecoder z = Ask.with("track 9 5;train 1 5 1 0;");
        z.setSpeed(1, 20);
        z.passTicks(4);
        z.setSpeed(1, 13);
        z.passTicks(1);
        Check.equal("not below the target", 13, z.speed(0));
    }

    private static void speedsWithoutPower() {
        TrainDecoder x = Ask.with("track 9 4;train 1 5 9 0;");
        x.setSpeed(1, 12);
        x.passTicks(2);
        x.setShort(0, true);
        x.passTicks(1);
        x.setShort(0, false);
        Check.equal("power is off at the end of a tick", 12, x.speed(0));
        Check.equal("by 5, and up with the power", "7 2 0 0 5 ", speeds(x, 5));
        Check.equal("the target stays", 12, x.targetSpeed(0));
        Check.equal("it has run on", 5 + 10 + 12 + 7 + 2 + 5, x.advance(0));
    }

    private static void lamps() {
        TrainDecoder x = Ask.with("track 9 2;train 1 5 9 0;");
        x.setLamp(1, 3);
        x.passTicks(2);
        Check.equal("brightness", 2, x.brightness(0));
        x.setShort(0, true);
        x.passTicks(1);
        x.setShort(0, false);
        Check.equal("still bright", 3, x.brightness(0));
        x.passTicks(1);
        Check.equal("dark without power", 0, x.brightness(0));
        Check.equal("duty stays", 3, x.duty(0));
        x.passTicks(1);
        Check.equal("dark until the power is on", 0, x.brightness(0));
        x.passTicks(1);
        Check.equal("up again", 1, x.brightness(0));
    }

    /** Both want to enter the next section in the same tick; the one that moves first decides. */
    private static void trainsMoveInOrder() {
        TrainDecoder x = Ask.with("track 4 5;train 1 5 1 0;train 2 5 1 1;");
        x.setSpeed(0, 20);
        x.passTicks(6);
        Check.equal("advances", "90 90", x.advance(0) + " " + x.advance(1));
        x.passTicks(1);
        Check.equal("the first one is blocked by the second", "99 0 1", x.advance(0) + " " + x.sectionOf(0) + " "
                + x.blockedTicks(0));
        Check.equal("the second one goes on", "10 2", x.advance(1) + " " + x.sectionOf(1));
        TrainDecoder y = Ask.with("track 4 5;train 1 5 1 1;train 2 5 1 0;");
        y.setSpeed(0, 20);
        y.passTicks(7);
        Check.equal("the first one goes on", "10 2", y.advance(0) + " " + y.sectionOf(0));
        Check.equal("the second one follows", "10 1", y.advance(1) + " " + y.sectionOf(1));
        Check.equal("none is blocked", 0, y.blockedTicks(0) + y.blockedTicks(1));
    }

    private static void blocking() {
        TrainDecoder x = Ask.with("track 4 5;train 1 4 1 3;train 2 1 1 0;");
        x.setSpeed(1, 28);
        x.passTicks(7);
        Check.equal("advance", 99, x.advance(0));
        Check.equal("blocked before the ring's end", 1, x.blockedTicks(0));
        Check.equal("speed", 0, x.speed(0));
        Check.equal("target", 28, x.targetSpeed(0));
        x.passTicks(1);
        Check.equal("blocked again", 2, x.blockedTicks(0));
        x.stop(1);
        x.passTicks(1);
        Check.equal("a standing train is not blocked", 2, x.blockedTicks(0));
        Check.equal("advance stays", 99, x.advance(0));
    }

    private static void entering() {
        TrainDecoder x = Ask.with("track 4 5;train 1 5 1 3;");
        x.setSpeed(1, 28);
        x.passTicks(6);
        Check.equal("it enters section 0 with the rest", "0 3", x.sectionOf(0) + " " + x.advance(0));
        Check.equal("it is there", 0, x.trainIn(0));
        Check.equal("it is not here", -1, x.trainIn(3));
        TrainDecoder full = Ask.with("track 4 5;train 1 5 1 0;train 2 5 1 1;train 3 5 1 2;train 4 5 1 3;");
        full.setSpeed(0, 28);
        full.passTicks(30);
        for (int t = 0; t < 4; t++) {
            Check.equal("all are blocked", "99 " + t, full.advance(t) + " " + full.sectionOf(t));
        }
    }

    private static void shortsAndPower() {
        TrainDecoder x = Ask.with("track 4 2;short 1;train 1 5 1 0;train 2 1 1 2;");
        x.setSpeed(1, 25);
        x.passTicks(5);
        Check.equal("not yet", true, x.isPowerOn());
        x.passTicks(1);
        Check.equal("cut off where it enters", false, x.isPowerOn());
        Check.equal("for two ticks", 2, x.remainingCutoff());
        x.passTicks(2);
        Check.equal("on again", true, x.isPowerOn());
        Check.equal("one cutoff", 1, x.cutoffs());
        x.passTicks(1);
        Check.equal("and off", false, x.isPowerOn());
        Check.equal("two cutoffs", 2, x.cutoffs());
        Check.equal("for two ticks again", 2, x.remainingCutoff());
        TrainDecoder y = Ask.with("track 4 2;short 2;train 1 5 1 0;train 2 1 1 2;");
        y.passTicks(1);
        Check.equal("another train's section", 1, y.cutoffs());
    }
}
