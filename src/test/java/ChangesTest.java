/** Promises 47 to 54. */
final class ChangesTest {
    public static void main(String[] args) {
        sendPacket();
        setSpeed();
        setLamp();
        stop();
        fullQueue();
        setShort();
        clearQueue();
        readdress();
        passTicks();
        eachIsOneChange();
        Check.end();
    }

    private static void sendPacket() {
        TrainDecoder x = new TrainDecoder();
        Check.equal("first", 1, x.sendPacket(0, 0, 255));
        Check.equal("second", 2, x.sendPacket(255, 255, 0));
        Check.equal("its address", 255, x.packetAddress(1));
        Check.equal("its command", 255, x.packetCommand(1));
        Check.equal("it is intact", true, x.isIntact(1));
        Check.equal("the first is not", false, x.isIntact(0));
        for (int wrong : new int[] {-1, 256, Integer.MAX_VALUE, Integer.MIN_VALUE}) {
            Check.unfit(x, "wrong address", () -> x.sendPacket(wrong, 0, 0));
            Check.unfit(x, "wrong command", () -> x.sendPacket(0, wrong, 0));
            Check.unfit(x, "wrong check", () -> x.sendPacket(0, 0, wrong));
        }
    }

    private static void setSpeed() {
        TrainDecoder x = new TrainDecoder();
        Check.equal("first", 1, x.setSpeed(127, 28));
        Check.equal("second", 2, x.setSpeed(0, 0));
        Check.equal("command", 28, x.packetCommand(0));
        Check.equal("address", 127, x.packetAddress(0));
        Check.equal("intact", true, x.isIntact(0));
        Check.equal("command of the last", 0, x.packetCommand(1));
        for (int wrong : new int[] {-1, 128, 256, Integer.MAX_VALUE, Integer.MIN_VALUE}) {
            Check.unfit(x, "wrong address", () -> x.setSpeed(wrong, 0));
            Check.unfit(x, "wrong step", () -> x.setSpeed(0, wrong));
        }
        Check.unfit(x, "step 29", () -> x.setSpeed(0, 29));
    }

    private static void setLamp() {
        TrainDecoder x = new TrainDecoder();
        Check.equal("first", 1, x.setLamp(127, 15));
        Check.equal("second", 2, x.setLamp(0, 0));
        Check.equal("command", 79, x.packetCommand(0));
        Check.equal("address", 127, x.packetAddress(0));
        Check.equal("intact", true, x.isIntact(0));
        Check.equal("command of the last", 64, x.packetCommand(1));
        for (int wrong : new int[] {-1, 128, Integer.MAX_VALUE, Integer.MIN_VALUE}) {
            Check.unfit(x, "wrong address", () -> x.setLamp(wrong, 0));
            Check.unfit(x, "wrong duty", () -> x.setLamp(0, wrong));
        }
        Check.unfit(x, "duty 16", () -> x.setLamp(0, 16));
    }

    private static void stop() {
        TrainDecoder x = new TrainDecoder();
        Check.equal("first", 1, x.stop(127));
        Check.equal("second", 2, x.stop(0));
        Check.equal("the latest is in front", 0, x.packetAddress(0));
        Check.equal("the one before it", 127, x.packetAddress(1));
        Check.equal("command", 128, x.packetCommand(1));
        Check.equal("intact", true, x.isIntact(1));
        for (int wrong : new int[] {-1, 128, Integer.MAX_VALUE, Integer.MIN_VALUE}) {
            Check.unfit(x, "wrong address", () -> x.stop(wrong));
        }
    }

    private static void fullQueue() {
        TrainDecoder x = new TrainDecoder();
        for (int packets = 1; packets <= 11; packets++) {
            Check.equal("packets", packets, x.setSpeed(1, packets));
        }
        Check.equal("the twelfth", 12, x.stop(9));
        Check.equal("it is in front", 9, x.packetAddress(0));
        Check.equal("the last one", 11, x.packetCommand(11));
        Check.untimely(x, "sendPacket", () -> x.sendPacket(0, 0, 0));
        Check.untimely(x, "setSpeed", () -> x.setSpeed(0, 0));
        Check.untimely(x, "setLamp", () -> x.setLamp(0, 0));
        Check.untimely(x, "stop", () -> x.stop(0));
        Check.unfit(x, "sendPacket of both", () -> x.sendPacket(0, 0, 256));
        Check.unfit(x, "setSpeed of both", () -> x.setSpeed(0, 29));
        Check.unfit(x, "setLamp of both", () -> x.setLamp(128, 0));
        Check.unfit(x, "stop of both", () -> x.stop(-1));
        x.passTicks(1);
        for (int packet = 0; packet < 11; packet++) {
            Check.equal("packet " + packet + " then", packet + 1, x.packetCommand(packet));
        }
        Check.equal("room again", 12, x.setLamp(0, 0));
    }

    private static void setShort() {
        TrainDecoder x = new TrainDecoder();
        Check.equal("made in 0", 2, x.setShort(0, true));
        Check.equal("made in 7", 3, x.setShort(7, true));
        Check.equal("made again", 3, x.setShort(7, true));
        Check.equal("mended", 2, x.setShort(6, false));
        Check.equal("mended again", 2, x.setShort(6, false));
        Check.equal("the others", "true true false", x.hasShort(0) + " " + x.hasShort(7) + " " + x.hasShort(6));
        for (int section : new int[] {-1, 8, 24, 32, Integer.MAX_VALUE, Integer.MIN_VALUE}) {
            Check.outside(x, "setShort(" + section + ", true)", () -> x.setShort(section, true));
            Check.outside(x, "setShort(" + section + ", false)", () -> x.setShort(section, false));
        }
    }

    private static void clearQueue() {
        TrainDecoder x = new TrainDecoder();
        Check.equal("of an empty queue", 0, x.clearQueue());
        x.setSpeed(3, 28);
        x.setLamp(3, 9);
        Check.equal("of two", 2, x.clearQueue());
        Check.equal("none is left", 0, x.queueLength());
        Check.equal("none is sent", 0, x.passTicks(3));
        Check.equal("none was obeyed", 0, x.obeyed(0));
        Check.equal("all were changes", 5, x.undoableCount());
    }

    private static void readdress() {
        TrainDecoder x = new TrainDecoder();
        Check.equal("address before", 3, x.readdress(0, 127));
        Check.equal("address then", 127, x.address(0));
        Check.equal("and back", 127, x.readdress(0, 1));
        Check.equal("the other one", 5, x.readdress(1, 3));
        Check.equal("found", 1, x.trainWith(3));
        Check.equal("not found", -1, x.trainWith(5));
        Check.outside(x, "no train -1", () -> x.readdress(-1, 9));
        Check.outside(x, "no train 2", () -> x.readdress(2, 9));
        Check.outside(x, "no train 2 and a wrong address", () -> x.readdress(2, 128));
        Check.unfit(x, "address 0", () -> x.readdress(0, 0));
        Check.unfit(x, "address 128", () -> x.readdress(0, 128));
        Check.unfit(x, "address -1", () -> x.readdress(0, -1));
        Check.untimely(x, "the address of the other one", () -> x.readdress(0, 3));
        Check.untimely(x, "its own address", () -> x.readdress(0, 1));
        x.setSpeed(1, 1);
        x.passTicks(1);
        Check.untimely(x, "a train that runs", () -> x.readdress(0, 9));
        Check.unfit(x, "a train that runs and a wrong address", () -> x.readdress(0, 0));
        x.setSpeed(9, 28);
        x.stop(1);
        x.passTicks(1);
        Check.equal("it stands again", 1, x.readdress(0, 9));
        x.passTicks(1);
        Check.equal("it obeys its new address", 28, x.targetSpeed(0));
    }

    private static void passTicks() {
        TrainDecoder x = new TrainDecoder();
        for (int wrong : new int[] {0, -1, 61, Integer.MAX_VALUE, Integer.MIN_VALUE}) {
            Check.unfit(x, "passTicks(" + wrong + ")", () -> x.passTicks(wrong));
        }
        x.setSpeed(3, 1);
        x.setSpeed(99, 1);
        x.setSpeed(3, 1);
        Check.equal("sent in 2", 2, x.passTicks(2));
        Check.equal("sent in 58", 1, x.passTicks(58));
        Check.equal("tick", 60, x.tick());
        Ask.pass(x, 9881);
        Check.equal("tick then", 9941, x.tick());
        Check.untimely(x, "passTicks(60) of 59", () -> x.passTicks(60));
        Check.unfit(x, "passTicks(61) of 59", () -> x.passTicks(61));
        x.passTicks(58);
        Check.untimely(x, "passTicks(2) of 1", () -> x.passTicks(2));
        x.setSpeed(3, 1);
        Check.equal("the last one", 1, x.passTicks(1));
        Check.equal("all have passed", 10000, x.tick());
        Check.untimely(x, "passTicks(1) of none", () -> x.passTicks(1));
    }

    private static void eachIsOneChange() {
        TrainDecoder x = new TrainDecoder();
        x.sendPacket(9, 9, 9);
        Check.equal("sendPacket", 1, x.undoableCount());
        x.setSpeed(9, 9);
        Check.equal("setSpeed", 2, x.undoableCount());
        x.setLamp(9, 9);
        Check.equal("setLamp", 3, x.undoableCount());
        x.stop(9);
        Check.equal("stop", 4, x.undoableCount());
        x.setShort(6, true);
        Check.equal("setShort that makes no difference", 5, x.undoableCount());
        x.readdress(0, 9);
        Check.equal("readdress", 6, x.undoableCount());
        x.passTicks(60);
        Check.equal("passTicks", 7, x.undoableCount());
        x.clearQueue();
        Check.equal("clearQueue of an empty queue", 8, x.undoableCount());
    }
}
