/** Promises 15 to 33. */
final class TrainsTest {
    private static final String THREE = "track 12 5;tunnel 5;train 7 3 2 0;train 9 5 4 5;train 11 1 9 11;";

    public static void main(String[] args) {
        numbers();
        packetsShow();
        countsOfPackets();
        sectionsEntered();
        blockedTicks();
        silence();
        fastestTrain();
        freeAhead();
        shares();
        wrongTrains();
        Check.end();
    }

    private static void numbers() {
        TrainDecoder x = Ask.with(THREE);
        Check.equal("trains", 3, x.trainCount());
        Check.equal("address 0", 7, x.address(0));
        Check.equal("address 2", 11, x.address(2));
        Check.equal("section 1", 5, x.sectionOf(1));
        Check.equal("section 2", 11, x.sectionOf(2));
        Check.equal("with 7", 0, x.trainWith(7));
        Check.equal("with 9", 1, x.trainWith(9));
        Check.equal("with 11", 2, x.trainWith(11));
        for (int address : new int[] {0, 1, 8, 127, 128, 7 + 256, -7, Integer.MAX_VALUE, Integer.MIN_VALUE}) {
            Check.equal("with " + address, -1, x.trainWith(address));
        }
    }

    private static void packetsShow() {
        TrainDecoder x = Ask.with(THREE);
        x.setSpeed(7, 8);
        x.setLamp(7, 2);
        x.passTicks(1);
        Check.equal("target", 8, x.targetSpeed(0));
        Check.equal("speed", 3, x.speed(0));
        Check.equal("advance", 3, x.advance(0));
        Check.equal("other target", 0, x.targetSpeed(2));
        x.passTicks(1);
        Check.equal("duty", 2, x.duty(0));
        Check.equal("brightness", 1, x.brightness(0));
        Check.equal("speed then", 6, x.speed(0));
        x.passTicks(1);
        Check.equal("brightness then", 2, x.brightness(0));
        Check.equal("not above the target", 8, x.speed(0));
        Check.equal("advance then", 17, x.advance(0));
        x.passTicks(1);
        Check.equal("not above the duty", 2, x.brightness(0));
        x.setLamp(7, 0);
        x.passTicks(1);
        Check.equal("brightness goes down", 1, x.brightness(0));
        x.passTicks(2);
        Check.equal("down to the duty", 0, x.brightness(0));
    }

    private static void countsOfPackets() {
        TrainDecoder x = Ask.with(THREE);
        x.setSpeed(0, 0);
        x.sendPacket(0, 5, 6);
        x.sendPacket(7, 5, 6);
        x.sendPacket(7, 192, 7 ^ 192);
        x.sendPacket(12, 1, 13);
        x.sendPacket(9, 1, 1);
        x.sendPacket(200, 1, 201);
        Check.equal("sent", 7, x.passTicks(8));
        Check.equal("obeyed", "2 0 1", x.obeyed(0) + " " + x.obeyed(1) + " " + x.obeyed(2));
        Check.equal("rejected", "2 0 1", x.rejected(0) + " " + x.rejected(1) + " " + x.rejected(2));
        Check.equal("unheard", "0 3 0", x.unheard(0) + " " + x.unheard(1) + " " + x.unheard(2));
        Check.equal("share", (double) (3f / 9f), x.obeyedShare());
    }

    private static void sectionsEntered() {
        TrainDecoder x = Ask.with("track 4 5;train 1 5 1 3;");
        x.setSpeed(1, 25);
        x.passTicks(5);
        Check.equal("advance", 5 + 10 + 15 + 20 + 25, x.advance(0));
        Check.equal("entered none", 0, x.sectionsEntered(0));
        x.passTicks(1);
        Check.equal("entered one at 100", 1, x.sectionsEntered(0));
        Check.equal("the first behind the last", 0, x.sectionOf(0));
        Check.equal("advance begins anew", 0, x.advance(0));
        Check.equal("it keeps its speed", 25, x.speed(0));
        x.passTicks(9);
        Check.equal("entered three", 3, x.sectionsEntered(0));
        Check.equal("section", 2, x.sectionOf(0));
        Check.equal("advance then", 25, x.advance(0));
    }

    private static void blockedTicks() {
        TrainDecoder x = Ask.with("track 4 5;train 1 5 1 0;train 2 1 1 1;");
        x.setSpeed(1, 5);
        x.passTicks(19);
        Check.equal("advance", 95, x.advance(0));
        Check.equal("not blocked", 0, x.blockedTicks(0));
        x.passTicks(1);
        Check.equal("blocked", 1, x.blockedTicks(0));
        Check.equal("advance then", 99, x.advance(0));
        Check.equal("speed then", 0, x.speed(0));
        Check.equal("target then", 5, x.targetSpeed(0));
        Check.equal("section then", 0, x.sectionOf(0));
        x.passTicks(3);
        Check.equal("blocked again", 4, x.blockedTicks(0));
        Check.equal("the other one", 0, x.blockedTicks(1));
    }

    private static void silence() {
        TrainDecoder x = new TrainDecoder();
        x.passTicks(3);
        Check.equal("since loading", 3, x.silence(0));
        x.sendPacket(3, 255, 3 ^ 255);
        x.sendPacket(3, 255, 0);
        x.passTicks(1);
        Check.equal("obeyed", 0, x.silence(0));
        Check.equal("the other one", 4, x.silence(1));
        x.passTicks(1);
        Check.equal("rejected", 1, x.silence(0));
        Ask.pass(x, 9995);
        Check.equal("long", 9996, x.silence(0));
    }

    private static void fastestTrain() {
        TrainDecoder x = Ask.with(THREE);
        Check.equal("all stand", 0, x.fastestTrain());
        x.setSpeed(11, 28);
        x.passTicks(1);
        Check.equal("the last one", 2, x.fastestTrain());
        x.setSpeed(7, 1);
        x.passTicks(1);
        Check.equal("still the last one", 2, x.fastestTrain());
        x.setSpeed(7, 28);
        x.passTicks(1);
        Check.equal("the first one", 0, x.fastestTrain());
        TrainDecoder y = Ask.with("track 12 5;train 7 3 2 0;train 9 2 4 5;train 11 2 9 11;");
        y.setSpeed(9, 2);
        y.setSpeed(11, 2);
        y.passTicks(2);
        Check.equal("the smaller number of two", 1, y.fastestTrain());
        Check.equal("mean of 0, 2 and 2", 4.0 / 3.0, y.meanSpeed());
    }

    private static void freeAhead() {
        TrainDecoder x = Ask.with("track 24 1;train 1 1 1 23;train 2 1 1 0;train 3 1 1 10;");
        Check.equal("none", 0, x.freeAhead(0));
        Check.equal("nine", 9, x.freeAhead(1));
        Check.equal("round to the first", 12, x.freeAhead(2));
        Check.equal("alone", 23, Ask.with("track 24 1;train 1 1 1 7;").freeAhead(0));
        Check.equal("alone at the end", 3, Ask.with("track 4 1;train 1 1 1 3;").freeAhead(0));
        TrainDecoder full = Ask.with("track 4 1;train 1 1 1 0;train 2 1 1 1;train 3 1 1 2;train 4 1 1 3;");
        for (int t = 0; t < 4; t++) {
            Check.equal("in a full ring", 0, full.freeAhead(t));
        }
    }

    private static void shares() {
        TrainDecoder x = new TrainDecoder();
        Check.equal("no packets", 0.0, x.obeyedShare());
        x.sendPacket(3, 0, 0);
        x.passTicks(1);
        Check.equal("none obeyed", 0.0, x.obeyedShare());
        x.setSpeed(0, 3);
        x.passTicks(1);
        Check.equal("two of three", (double) (2f / 3f), x.obeyedShare());
        Check.equal("mean", (2.0 + 1.0) / 2.0, x.meanSpeed());
        TrainDecoder alone = Ask.with("track 4 1;train 1 3 1 0;");
        alone.setSpeed(1, 28);
        alone.passTicks(1);
        Check.equal("mean of one", 3.0, alone.meanSpeed());
    }

    private static void wrongTrains() {
        TrainDecoder x = new TrainDecoder();
        for (int train : new int[] {-1, 2, 6, Integer.MAX_VALUE, Integer.MIN_VALUE}) {
            String of = "(" + train + ")";
            Check.outside(x, "address" + of, () -> x.address(train));
            Check.outside(x, "sectionOf" + of, () -> x.sectionOf(train));
            Check.outside(x, "advance" + of, () -> x.advance(train));
            Check.outside(x, "speed" + of, () -> x.speed(train));
            Check.outside(x, "targetSpeed" + of, () -> x.targetSpeed(train));
            Check.outside(x, "brightness" + of, () -> x.brightness(train));
            Check.outside(x, "duty" + of, () -> x.duty(train));
            Check.outside(x, "silence" + of, () -> x.silence(train));
            Check.outside(x, "sectionsEntered" + of, () -> x.sectionsEntered(train));
            Check.outside(x, "obeyed" + of, () -> x.obeyed(train));
            Check.outside(x, "rejected" + of, () -> x.rejected(train));
            Check.outside(x, "unheard" + of, () -> x.unheard(train));
            Check.outside(x, "blockedTicks" + of, () -> x.blockedTicks(train));
            Check.outside(x, "freeAhead" + of, () -> x.freeAhead(train));
        }
    }
}
