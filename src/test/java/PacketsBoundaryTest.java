/** The boundary sentences of the promises 34 to 46, on packets and forecasts. */
final class PacketsBoundaryTest {
    private static final String TICKS_END = "Ticks beyond tick 9999 do not pass.";
    private static final String WRONG_TICKS = "Throws IllegalArgumentException if ticks is out of range";

    interface Forecast {
        int of(TrainDecoder x, int train, int ticks);
    }

    interface Now {
        int of(TrainDecoder x, int train);
    }

    public static void main(String[] args) {
        queueLength(Sentences.of("Promise 34"));
        packetBytes(Sentences.of("Promise 35"), (x, packet) -> x.packetAddress(packet), true);
        packetBytes(Sentences.of("Promise 36"), (x, packet) -> x.packetCommand(packet), false);
        isIntact(Sentences.of("Promise 37"));
        packetsFor(Sentences.of("Promise 38"));
        sentPackets(Sentences.of("Promise 39"));
        checkOf(Sentences.of("Promise 40"));
        gap(Sentences.of("Promise 41"));
        brakingTicks(Sentences.of("Promise 42"));
        brakingDistance(Sentences.of("Promise 43"));
        Sentences section = Sentences.of("Promise 44");
        forecast(section, "section", (x, train, ticks) -> x.sectionAfter(train, ticks), (x, train) -> x.sectionOf(train));
        section.end();
        Sentences speed = Sentences.of("Promise 45");
        forecast(speed, "speed", (x, train, ticks) -> x.speedAfter(train, ticks), (x, train) -> x.speed(train));
        speed.end();
        ticksToCutoff(Sentences.of("Promise 46"));
        Check.end();
    }

    private static void queueLength(Sentences s) {
        s.holds("Returns 0 to 12.", () -> {
            TrainDecoder x = new TrainDecoder();
            Check.equal("empty", 0, x.queueLength());
            for (int packets = 1; packets <= 12; packets++) {
                x.setSpeed(9, 1);
                Check.equal("packets", packets, x.queueLength());
            }
            Check.untimely(x, "the thirteenth", () -> x.stop(9));
            Check.equal("full", 12, x.queueLength());
            x.passTicks(11);
            Check.equal("one is left", 1, x.queueLength());
            x.passTicks(2);
            Check.equal("empty again", 0, x.queueLength());
        });
        s.end();
    }

    private static void packetBytes(Sentences s, NoSuch.Numbered call, boolean isAddress) {
        NoSuch.packet(s, call);
        s.holds("packet: 0 for the packet that is sent next, 1 for the one after it, and so on", () -> {
            TrainDecoder x = new TrainDecoder();
            for (int packet = 0; packet < 12; packet++) {
                x.sendPacket(10 + packet, 20 + packet, 0);
            }
            int more = isAddress ? 10 : 20;
            for (int sent = 0; sent < 12; sent++) {
                for (int packet = 0; packet + sent < 12; packet++) {
                    Check.equal("packet " + packet, more + sent + packet, byteOf(x, packet, isAddress));
                }
                x.passTicks(1);
            }
        });
        s.holds("Returns 0 to 255.", () -> {
            TrainDecoder x = new TrainDecoder();
            int[] bytes = {0, 1, 127, 128, 254, 255};
            for (int packet = 0; packet < 6; packet++) {
                x.sendPacket(isAddress ? bytes[packet] : 255, isAddress ? 255 : bytes[packet], 255);
            }
            for (int packet = 0; packet < 6; packet++) {
                Check.equal("byte", bytes[packet], byteOf(x, packet, isAddress));
            }
        });
        s.end();
    }

    private static int byteOf(TrainDecoder x, int packet, boolean isAddress) {
        return isAddress ? x.packetAddress(packet) : x.packetCommand(packet);
    }

    private static void isIntact(Sentences s) {
        NoSuch.packet(s, (x, packet) -> x.isIntact(packet));
        s.holds("packet: 0 for the packet that is sent next, 1 for the one after it, and so on", () -> {
            TrainDecoder x = new TrainDecoder();
            for (int packet = 0; packet < 12; packet++) {
                x.sendPacket(255, packet, packet % 3 == 0 ? 255 ^ packet : packet);
            }
            for (int packet = 0; packet < 12; packet++) {
                Check.equal("packet " + packet, packet % 3 == 0, x.isIntact(packet));
            }
            x.passTicks(1);
            for (int packet = 0; packet < 11; packet++) {
                Check.equal("packet " + packet + " then", packet % 3 == 2, x.isIntact(packet));
            }
        });
        s.end();
    }

    private static void packetsFor(Sentences s) {
        NoSuch.train(s, (x, train) -> x.packetsFor(train));
        s.holds("Returns the number of packets with its address or the address 0.", () -> {
            TrainDecoder x = new TrainDecoder();
            Check.equal("of an empty queue", "0 0", x.packetsFor(0) + " " + x.packetsFor(1));
            for (int packets = 1; packets <= 12; packets++) {
                x.sendPacket(packets % 2 == 0 ? 0 : 3, 1, packets);
                Check.equal("packets", packets + " " + packets / 2, x.packetsFor(0) + " " + x.packetsFor(1));
            }
            x.clearQueue();
            x.sendPacket(131, 1, 130);
            x.sendPacket(255, 1, 254);
            x.sendPacket(128, 1, 129);
            Check.equal("for nobody", "0 0", x.packetsFor(0) + " " + x.packetsFor(1));
            x.setSpeed(3, 1);
            x.readdress(0, 9);
            Check.equal("with the address of before", 0, x.packetsFor(0));
            x.readdress(1, 3);
            Check.equal("with the address of now", 1, x.packetsFor(1));
        });
        s.end();
    }

    private static void sentPackets(Sentences s) {
        s.holds("Returns the number since the railway was loaded.", () -> {
            TrainDecoder x = new TrainDecoder();
            Check.equal("none", 0, x.sentPackets());
            x.passTicks(3);
            Check.equal("none of an empty queue", 0, x.sentPackets());
            x.setSpeed(99, 1);
            x.sendPacket(3, 1, 1);
            x.setSpeed(3, 1);
            x.passTicks(1);
            Check.equal("one for nobody", 1, x.sentPackets());
            x.passTicks(1);
            Check.equal("one that is broken", 2, x.sentPackets());
            x.clearQueue();
            x.passTicks(1);
            Check.equal("none that is cleared", 2, x.sentPackets());
            Ask.load(x, "track 4 1;train 1 1 1 0;");
            Check.equal("loaded anew", 0, x.sentPackets());
        });
        s.end();
    }

    private static void checkOf(Sentences s) {
        TrainDecoder x = new TrainDecoder();
        Check.Call bytes = () -> {
            for (int address : new int[] {0, 1, 127, 128, 170, 255}) {
                for (int command : new int[] {0, 1, 85, 128, 254, 255}) {
                    Check.equal("checkOf " + address + " " + command, (address | command) - (address & command),
                            x.checkOf(address, command));
                }
            }
        };
        s.holds("address: 0 to 255", bytes);
        s.holds("command: 0 to 255", bytes);
        s.holds("Throws IllegalArgumentException if address or command is out of range", () -> {
            for (int wrong : new int[] {-1, 256, -256, 511, Integer.MAX_VALUE, Integer.MIN_VALUE}) {
                Check.unfit(x, "address " + wrong, () -> x.checkOf(wrong, 0));
                Check.unfit(x, "command " + wrong, () -> x.checkOf(255, wrong));
                Check.unfit(x, "both " + wrong, () -> x.checkOf(wrong, wrong));
            }
        });
        s.end();
    }

    private static void gap(Sentences s) {
        s.holds("Returns the absolute difference between the number of packets that were put into the queue and those that"
                + " were sent, cleared or are in the queue, plus the number of pairs of trains in the same section;"
                + " always 0.", () -> {
            TrainDecoder x = new TrainDecoder();
            Check.Call[] calls = {
                () -> x.setSpeed(0, 28), () -> x.stop(9), () -> x.passTicks(1), () -> x.saveSnapshot(), () -> x.clearQueue(),
                () -> x.clearQueue(), () -> x.undo(), () -> Ask.run(x, "repeat 5(repeat 5(stop 1;););"), () -> x.passTicks(60),
                () -> Check.untimely(x, "two trains of one address", () -> x.readdress(0, 5)), () -> x.undo(), () -> x.undo(),
                () -> x.clearQueue(), () -> x.restoreSnapshot(), () -> x.passTicks(2), () -> x.setLamp(0, 1),
                () -> Ask.load(x, "track 4 1;train 1 5 1 0;train 2 1 1 1;"), () -> x.setSpeed(0, 28), () -> x.passTicks(60),
            };
            Check.equal("at first", 0, x.gap());
            for (Check.Call call : calls) {
                call.run();
                Check.equal("afterwards", 0, x.gap());
            }
        });
        s.end();
    }

    /** The speeds that the document's brake curve goes through, from the one after this speed down to 0. */
    private static int[] curve(int speed, int divisor) {
        int[] speeds = new int[speed];
        int count = 0;
        for (int left = speed; left > 0; count++) {
            left -= left >= divisor ? left / divisor : 1;
            speeds[count] = left;
        }
        return java.util.Arrays.copyOf(speeds, count);
    }

    private static TrainDecoder running(int speed, int divisor) {
        TrainDecoder x = Ask.with("track 9 5;train 1 1 1 4;train 2 5 " + divisor + " 5;");
        x.setSpeed(2, speed);
        x.passTicks(6);
        Check.equal("it runs", speed, x.speed(1));
        return x;
    }

    private static void brakingTicks(Sentences s) {
        NoSuch.train(s, (x, train) -> x.brakingTicks(train));
        s.holds("Returns the number of times that its speed has to decrease along its brake curve, by the brake divisor,"
                + " until it is 0.", () -> {
            for (int divisor = 1; divisor <= 9; divisor++) {
                for (int speed : new int[] {0, 1, 2, divisor - 1, divisor, divisor + 1, 2 * divisor, 27, 28}) {
                    TrainDecoder x = running(speed, divisor);
                    Check.equal("from " + speed + " by " + divisor, curve(speed, divisor).length, x.brakingTicks(1));
                    Check.equal("of the standing one", 0, x.brakingTicks(0));
                }
            }
            Check.equal("from 28 by 9", 22, running(28, 9).brakingTicks(1));
            Check.equal("from 28 by 1", 1, running(28, 1).brakingTicks(1));
        });
        s.end();
    }

    private static void brakingDistance(Sentences s) {
        NoSuch.train(s, (x, train) -> x.brakingDistance(train));
        s.holds("Returns the sum of the speeds after each of these decreases.", () -> {
            for (int divisor = 1; divisor <= 9; divisor++) {
                for (int speed : new int[] {0, 1, 2, divisor - 1, divisor, divisor + 1, 2 * divisor, 27, 28}) {
                    TrainDecoder x = running(speed, divisor);
                    Check.equal("from " + speed + " by " + divisor, java.util.Arrays.stream(curve(speed, divisor)).sum(),
                            x.brakingDistance(1));
                }
            }
            Check.equal("from 28 by 2", 14 + 7 + 4 + 2 + 1, running(28, 2).brakingDistance(1));
            Check.equal("from 28 by 1", 0, running(28, 1).brakingDistance(1));
            Check.equal("from 1 by 9", 0, running(1, 9).brakingDistance(1));
        });
        s.end();
    }

    private static void forecast(Sentences s, String what, Forecast forecast, Now now) {
        NoSuch.train(s, (x, train) -> forecast.of(x, train, 0));
        NoSuch.train(s, (x, train) -> forecast.of(x, train, 200));
        s.holds("Returns the " + what + " of a train after some ticks, if nothing but ticks happens.", () -> {
            TrainDecoder x = Ask.with("track 5 9;tunnel 3;short 4;train 1 3 4 0;train 2 5 7 2;");
            Ask.run(x, "speed 0 28;wait 1;speed 1 9;lamp 0 3;stop 2;speed 2 27;speed 9 1;speed 1 28;");
            String before = Ask.all(x);
            int[] told = new int[402];
            for (int i = 0; i < 402; i++) {
                told[i] = forecast.of(x, i % 2, i / 2);
            }
            Check.equal("nothing is changed", before, Ask.all(x));
            for (int i = 0; i < 402; i++) {
                Check.equal("in " + i / 2 + " ticks", now.of(x, i % 2), told[i]);
                if (i % 2 == 1) {
                    x.passTicks(1);
                }
            }
        });
        s.holds(TICKS_END, () -> {
            TrainDecoder x = Ask.with("track 5 9;train 1 5 4 4;");
            Ask.pass(x, 9990);
            x.setSpeed(1, 25);
            int[] told = new int[201];
            for (int ticks = 0; ticks <= 200; ticks++) {
                told[ticks] = forecast.of(x, 0, ticks);
            }
            for (int ticks = 0; ticks <= 200; ticks++) {
                Check.equal("in " + ticks + " ticks", now.of(x, 0), told[ticks]);
                if (x.tick() < 10000) {
                    x.passTicks(1);
                }
            }
            Check.equal("it still runs", 25, x.speed(0));
            Check.equal("when no tick is left", now.of(x, 0), forecast.of(x, 0, 1));
            Check.equal("when no tick is left", now.of(x, 0), forecast.of(x, 0, 200));
        });
        s.holds("ticks: 0 to 200", () -> {
            TrainDecoder x = Ask.with("track 24 9;train 1 5 9 3;");
            Ask.pass(x, 9700);
            x.setSpeed(1, 28);
            Check.equal("in 0 ticks", now.of(x, 0), forecast.of(x, 0, 0));
            int in200 = forecast.of(x, 0, 200);
            int in1 = forecast.of(x, 0, 1);
            x.passTicks(1);
            Check.equal("in 1 tick", now.of(x, 0), in1);
            Ask.pass(x, 199);
            Check.equal("in 200 ticks", now.of(x, 0), in200);
        });
        s.holds(WRONG_TICKS, () -> {
            TrainDecoder x = new TrainDecoder();
            for (int ticks : new int[] {-1, 201, 256, Integer.MAX_VALUE, Integer.MIN_VALUE}) {
                Check.unfit(x, "ticks " + ticks, () -> forecast.of(x, 0, ticks));
                Check.unfit(x, "ticks " + ticks, () -> forecast.of(x, 1, ticks));
                Check.outside(x, "no such train first", () -> forecast.of(x, 2, ticks));
                Check.outside(x, "no such train first", () -> forecast.of(x, -1, ticks));
            }
            Ask.pass(x, 10000);
            Check.unfit(x, "201 when no tick is left", () -> forecast.of(x, 0, 201));
        });
    }

    private static void ticksToCutoff(Sentences s) {
        s.holds("Counts the ticks until the next cutoff, if nothing but ticks happens.", () -> {
            TrainDecoder x = Ask.with("track 24 20;short 0;short 13;train 1 5 9 0;");
            x.passTicks(1);
            x.setShort(0, false);
            for (int packets = 0; packets < 11; packets++) {
                x.setSpeed(9, 1);
            }
            x.setSpeed(1, 28);
            Check.equal("it does not come so far", -1, x.ticksToCutoff());
            x.setShort(12, true);
            String before = Ask.all(x);
            int told = x.ticksToCutoff();
            Check.equal("nothing is changed", before, Ask.all(x));
            Check.equal("after all packets and a long way", true, told > 20 + 12 + 40);
            Ask.pass(x, told - 1);
            Check.equal("not yet", 1, x.cutoffs());
            Check.equal("the next tick", 1, x.ticksToCutoff());
            x.passTicks(1);
            Check.equal("now", 2, x.cutoffs());
        });
        s.holds("Returns the smallest number of ticks, 1 to 200, in the last of which the power is cut off; -1 if there is"
                + " none.", () -> {
            TrainDecoder x = Ask.with("track 4 20;short 1;train 1 1 1 0;");
            Check.equal("none", -1, x.ticksToCutoff());
            x.setShort(0, true);
            Check.equal("in the next tick", 1, x.ticksToCutoff());
            x.passTicks(1);
            Check.equal("twenty without power come first", 21, x.ticksToCutoff());
            x.passTicks(19);
            Check.equal("one without power comes first", 2, x.ticksToCutoff());
            x.passTicks(1);
            Check.equal("the power has just come back", 1, x.ticksToCutoff());
            x.setShort(0, false);
            Check.equal("none any more", -1, x.ticksToCutoff());
        });
        s.holds(TICKS_END, () -> {
            TrainDecoder x = Ask.with("track 4 20;short 0;train 1 5 1 3;");
            Ask.pass(x, 9993);
            x.setSpeed(1, 25);
            Check.equal("six of seven", 6, x.ticksToCutoff());
            x.undo();
            x.passTicks(1);
            x.setSpeed(1, 25);
            Check.equal("six of six", 6, x.ticksToCutoff());
            x.undo();
            x.passTicks(1);
            x.setSpeed(1, 25);
            Check.equal("six of five", -1, x.ticksToCutoff());
            x.setShort(3, true);
            Check.equal("the first of five", 1, x.ticksToCutoff());
            x.setShort(3, false);
            x.passTicks(5);
            x.setShort(3, true);
            Check.equal("when no tick is left", -1, x.ticksToCutoff());
        });
        s.end();
    }
}
