/** Promises 34 to 41. */
final class PacketsTest {
    public static void main(String[] args) {
        queue();
        packetsFor();
        sentPackets();
        checkOf();
        gap();
        wrongPackets();
        Check.end();
    }

    private static void queue() {
        TrainDecoder x = new TrainDecoder();
        x.sendPacket(255, 254, 1);
        x.sendPacket(0, 0, 0);
        x.sendPacket(170, 85, 254);
        x.sendPacket(128, 127, 255);
        Check.equal("length", 4, x.queueLength());
        packet(x, 0, 255, 254, true);
        packet(x, 1, 0, 0, true);
        packet(x, 2, 170, 85, false);
        packet(x, 3, 128, 127, true);
        x.stop(9);
        packet(x, 0, 9, 128, true);
        packet(x, 1, 255, 254, true);
        packet(x, 4, 128, 127, true);
        x.passTicks(2);
        Check.equal("length then", 3, x.queueLength());
        packet(x, 0, 0, 0, true);
        packet(x, 2, 128, 127, true);
        x.passTicks(5);
        Check.equal("length at last", 0, x.queueLength());
    }

    private static void packet(TrainDecoder x, int packet, int address, int command, boolean isIntact) {
        Check.equal("address of " + packet, address, x.packetAddress(packet));
        Check.equal("command of " + packet, command, x.packetCommand(packet));
        Check.equal("isIntact(" + packet + ")", isIntact, x.isIntact(packet));
    }

    private static void packetsFor() {
        TrainDecoder x = new TrainDecoder();
        Check.equal("none", 0, x.packetsFor(0));
        x.setSpeed(3, 1);
        x.setSpeed(0, 1);
        x.setSpeed(4, 1);
        x.sendPacket(3, 3, 3);
        x.sendPacket(131, 3, 3);
        Check.equal("for train 0", 3, x.packetsFor(0));
        Check.equal("for train 1", 1, x.packetsFor(1));
        x.clearQueue();
        Check.equal("none any more", 0, x.packetsFor(0));
        Check.outside(x, "packetsFor(-1)", () -> x.packetsFor(-1));
        Check.outside(x, "packetsFor(2)", () -> x.packetsFor(2));
    }

    private static void sentPackets() {
        TrainDecoder x = new TrainDecoder();
        x.setSpeed(3, 1);
        x.setSpeed(99, 1);
        x.setSpeed(3, 1);
        Check.equal("none sent", 0, x.sentPackets());
        x.passTicks(2);
        Check.equal("two sent", 2, x.sentPackets());
        x.clearQueue();
        x.passTicks(2);
        Check.equal("a cleared one is not sent", 2, x.sentPackets());
    }

    private static void checkOf() {
        TrainDecoder x = new TrainDecoder();
        Check.equal("checkOf(0, 0)", 0, x.checkOf(0, 0));
        Check.equal("checkOf(255, 255)", 0, x.checkOf(255, 255));
        Check.equal("checkOf(255, 0)", 255, x.checkOf(255, 0));
        Check.equal("checkOf(12, 10)", 6, x.checkOf(12, 10));
        Check.unfit(x, "checkOf(-1, 0)", () -> x.checkOf(-1, 0));
        Check.unfit(x, "checkOf(256, 0)", () -> x.checkOf(256, 0));
        Check.unfit(x, "checkOf(0, -1)", () -> x.checkOf(0, -1));
        Check.unfit(x, "checkOf(0, 256)", () -> x.checkOf(0, 256));
    }

    private static void gap() {
        TrainDecoder x = new TrainDecoder();
        x.setSpeed(0, 28);
        x.setSpeed(3, 28);
        x.setSpeed(5, 1);
        Check.equal("in the queue", 0, x.gap());
        x.passTicks(2);
        Check.equal("sent", 0, x.gap());
        x.clearQueue();
        Check.equal("cleared", 0, x.gap());
        x.undo();
        Check.equal("undone", 0, x.gap());
        x.stop(0);
        x.passTicks(60);
        Check.equal("all trains", 0, x.gap());
    }

    private static void wrongPackets() {
        TrainDecoder x = new TrainDecoder();
        Check.outside(x, "packetAddress(0) of none", () -> x.packetAddress(0));
        x.setSpeed(1, 1);
        x.setSpeed(1, 1);
        x.passTicks(1);
        for (int packet : new int[] {-1, 1, 12, Integer.MAX_VALUE, Integer.MIN_VALUE}) {
            Check.outside(x, "packetAddress(" + packet + ")", () -> x.packetAddress(packet));
            Check.outside(x, "packetCommand(" + packet + ")", () -> x.packetCommand(packet));
            Check.outside(x, "isIntact(" + packet + ")", () -> x.isIntact(packet));
        }
        for (int more = 0; more < 11; more++) {
            x.setSpeed(2, more);
        }
        Check.equal("the twelfth", 10, x.packetCommand(11));
        Check.outside(x, "packetCommand(12) of a full queue", () -> x.packetCommand(12));
    }
}
