/** Promise 1. */
final class NewObjectTest {
    public static void main(String[] args) {
        TrainDecoder x = new TrainDecoder();
        Check.equal("new railway",
                "tick 0, power true 0 0\n"
                + "0 -1 1 T-1 T-1 -1 S-1 -1 2 tunnels\n"
                + "train 0: 3 0 0 0 0 0 0 0 0 0 0 0 0 1 0 0 0\n"
                + "train 1: 5 2 0 0 0 0 0 0 0 0 0 0 0 5 0 0 0\n"
                + "fastest 0, mean 0.0, share 0.0\n"
                + "sent 0, gap 0\n"
                + "error 0 at -1; undoable 0; output ", Ask.all(x));
        Check.unfit(x, "loadRailway(1) of an empty buffer", () -> x.loadRailway(1));
        Check.unfit(x, "runScript(1) of an empty buffer", () -> x.runScript(1));
        Check.untimely(x, "undo of nothing", () -> x.undo());
        Check.untimely(x, "restoreSnapshot of none", () -> x.restoreSnapshot());
        isAsItsTextSays();
        Check.end();
    }

    /** Cutoff time, accelerations and brake divisors show in what happens only. */
    private static void isAsItsTextSays() {
        TrainDecoder x = new TrainDecoder();
        TrainDecoder y = Ask.with("track 8 4;tunnel 3;tunnel 4;short 6;train 3 2 4 0;train 5 1 2 2;");
        String script = "speed 3 28;speed 5 28;repeat 2 (wait 13;speed 5 4;speed 3 9;);short 5;wait 30;mend 5;wait 60;";
        Check.equal("commands, new", 12, Ask.run(x, script));
        Check.equal("commands, loaded", 12, Ask.run(y, script));
        Check.equal("a new railway and its text", Ask.all(y), Ask.all(x));
        TrainDecoder z = new TrainDecoder();
        z.setSpeed(0, 9);
        z.passTicks(1);
        Check.equal("acceleration 2", 2, z.speed(0));
        Check.equal("acceleration 1", 1, z.speed(1));
        z.passTicks(5);
        Check.equal("faster", 9, z.speed(0));
        // 9, then 7, 6, 5, 4, 3, 2, 1, 0
        Check.equal("brake divisor 4", 8, z.brakingTicks(0));
        Check.equal("brake divisor 2", 4, z.brakingTicks(1));
        z.setShort(2, true);
        z.passTicks(1);
        Check.equal("cutoff time 4", 4, z.remainingCutoff());
    }
}
