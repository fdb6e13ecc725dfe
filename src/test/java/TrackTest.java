/** Promises 6 to 14. */
final class TrackTest {
    public static void main(String[] args) {
        ticks();
        sections();
        shorts();
        power();
        powerComesBackBeforeTheNextCutoff();
        wrongSections();
        Check.end();
    }

    private static void ticks() {
        TrainDecoder x = new TrainDecoder();
        Check.equal("tick 0", 0, x.tick());
        x.passTicks(1);
        Check.equal("tick 1", 1, x.tick());
        x.passTicks(59);
        Check.equal("tick 60", 60, x.tick());
        Ask.pass(x, 9940);
        Check.equal("all ticks", 10000, x.tick());
    }

    private static void sections() {
        TrainDecoder x = Ask.with("track 13 2;tunnel 12;tunnel 4;tunnel 12;short 5;train 9 1 1 12;train 8 1 1 4;");
        Check.equal("sections", 13, x.sectionCount());
        Check.equal("tunnels", 2, x.tunnelCount());
        for (int s = 0; s < 13; s++) {
            Check.equal("isTunnel(" + s + ")", s == 12 || s == 4, x.isTunnel(s));
            Check.equal("hasShort(" + s + ")", s == 5, x.hasShort(s));
            Check.equal("trainIn(" + s + ")", s == 12 ? 0 : s == 4 ? 1 : -1, x.trainIn(s));
        }
    }

    private static void shorts() {
        TrainDecoder x = new TrainDecoder();
        x.setShort(3, true);
        Check.equal("made", true, x.hasShort(3));
        Check.equal("still a tunnel", true, x.isTunnel(3));
        x.setShort(3, false);
        Check.equal("mended", false, x.hasShort(3));
        Check.equal("the other one", true, x.hasShort(6));
    }

    private static void power() {
        TrainDecoder x = Ask.with("track 4 3;train 1 1 1 0;");
        Check.equal("on", true, x.isPowerOn());
        x.setShort(0, true);
        Check.equal("on before the tick", true, x.isPowerOn());
        Check.equal("no cutoff before the tick", 0, x.cutoffs());
        x.passTicks(1);
        x.setShort(0, false);
        for (int left = 3; left > 0; left--) {
            Check.equal("off", false, x.isPowerOn());
            Check.equal("remaining", left, x.remainingCutoff());
            Check.equal("one cutoff", 1, x.cutoffs());
            x.passTicks(1);
        }
        Check.equal("on again", true, x.isPowerOn());
        Check.equal("nothing remains", 0, x.remainingCutoff());
        x.passTicks(10);
        Check.equal("it stays on", true, x.isPowerOn());
        Check.equal("one cutoff in all", 1, x.cutoffs());
    }

    /** In the tick in which the power comes back a short circuit does not cut it off. */
    private static void powerComesBackBeforeTheNextCutoff() {
        TrainDecoder x = Ask.with("track 4 1;short 0;train 1 1 1 0;");
        for (int tick = 1; tick <= 6; tick++) {
            x.passTicks(1);
            Check.equal("power after tick " + tick, tick % 2 == 0, x.isPowerOn());
            Check.equal("cutoffs after tick " + tick, (tick + 1) / 2, x.cutoffs());
        }
    }

    private static void wrongSections() {
        TrainDecoder x = new TrainDecoder();
        for (int section : new int[] {-1, 8, 24, 32, 35, Integer.MAX_VALUE, Integer.MIN_VALUE}) {
            Check.outside(x, "isTunnel(" + section + ")", () -> x.isTunnel(section));
            Check.outside(x, "hasShort(" + section + ")", () -> x.hasShort(section));
            Check.outside(x, "trainIn(" + section + ")", () -> x.trainIn(section));
        }
        Check.equal("the last section", false, x.isTunnel(7));
        Check.equal("its short", false, x.hasShort(7));
        Check.equal("its train", -1, x.trainIn(7));
    }
}
