/** The boundary sentences of the document's terms on track, trains, packets and power. */
final class TermsBoundaryTest {
    public static void main(String[] args) {
        track(Sentences.of("Track"));
        trains(Sentences.of("Trains"));
        Sentences packets = Sentences.of("Packets");
        packets(packets);
        kinds(packets);
        packets.end();
        Sentences power = Sentences.of("Power");
        cutoff(power);
        receiving(power);
        silence(power);
        speeds(power);
        lamps(power);
        moves(power);
        power.end();
        Check.end();
    }

    private static TrainDecoder one(int divisor) {
        return Ask.with("track 9 5;train 1 5 " + divisor + " 0;");
    }

    /** The only train, whose acceleration is 5, runs at this speed. */
    private static TrainDecoder running(int divisor, int speed) {
        TrainDecoder x = one(divisor);
        x.setSpeed(1, speed);
        x.passTicks(6);
        Check.equal("it runs", speed, x.speed(0));
        return x;
    }

    private static void obey(TrainDecoder x, int command) {
        x.sendPacket(1, command, 1 ^ command);
        x.passTicks(1);
    }

    private static String place(TrainDecoder x, int train) {
        return x.sectionOf(train) + "+" + x.advance(train);
    }

    private static void track(Sentences s) {
        s.holds("The track is a ring of 4 to 24 sections, numbered from 0; behind the last one comes section 0.", () -> {
            TrainDecoder x = new TrainDecoder();
            Check.equal("three sections", -1, Ask.load(x, "track 3 1;train 1 5 1 0;"));
            Check.equal("25 sections", -1, Ask.load(x, "track 25 1;train 1 5 1 0;"));
            for (int sections : new int[] {4, 8, 24}) {
                int last = sections - 1;
                Check.equal("a ring", 1, Ask.load(x, "track " + sections + " 1;train 1 5 1 " + last + ";"));
                Check.equal("sections", sections, x.sectionCount());
                Check.equal("in the last one", 0, x.trainIn(last));
                x.setSpeed(1, 25);
                x.passTicks(6);
                Check.equal("in section 0 behind it", "0+0", place(x, 0));
                Check.equal("train in section 0", 0, x.trainIn(0));
                Check.equal("free up to itself", last, x.freeAhead(0));
            }
        });
        s.holds("Each section is a tunnel or not, and has a short circuit or not.", () -> {
            TrainDecoder x = Ask.with("track 4 1;tunnel 1;tunnel 3;short 2;short 3;train 1 1 1 0;");
            StringBuilder all = new StringBuilder();
            for (int section = 0; section < 4; section++) {
                all.append(x.isTunnel(section) ? "T" : "-").append(x.hasShort(section) ? "S " : "- ");
            }
            Check.equal("all four kinds", "-- T- -S TS ", all.toString());
        });
        s.holds("All trains run in the direction of increasing numbers.", () -> {
            TrainDecoder x = Ask.with("track 4 1;train 1 5 1 1;");
            x.setSpeed(1, 25);
            x.passTicks(2);
            StringBuilder way = new StringBuilder();
            for (int section = 0; section < 6; section++) {
                x.passTicks(4);
                way.append(x.sectionOf(0));
            }
            Check.equal("way", "230123", way.toString());
        });
        s.end();
    }

    private static void trains(Sentences s) {
        String six = "track 9 1;train 1 1 1 1;train 2 1 1 2;train 3 1 1 3;train 4 1 1 4;train 5 1 1 5;train 6 1 1 6;";
        s.holds("There are 1 to 6 trains, numbered from 0.", () -> {
            TrainDecoder x = new TrainDecoder();
            Check.equal("no train", -1, Ask.load(x, "track 9 1;"));
            Check.equal("seven trains", -1, Ask.load(x, six + "train 7 1 1 7;"));
            Check.equal("the railway stays", 2, x.trainCount());
            Check.equal("one train", 1, Ask.load(x, "track 9 1;train 9 1 1 0;"));
            Check.equal("its address", 9, x.address(0));
            Check.equal("six trains", 6, Ask.load(x, six));
            Check.equal("the first", 1, x.address(0));
            Check.equal("the last", 6, x.address(5));
        });
        s.holds("No two trains are in the same section.", () -> {
            Check.equal("loaded so", -1, Ask.load(new TrainDecoder(), "track 4 1;train 1 5 1 3;train 2 1 1 3;"));
            TrainDecoder x = Ask.with("track 4 1;train 1 5 1 0;train 2 1 1 1;train 3 3 1 3;");
            for (int tick = 0; tick < 120; tick++) {
                if (tick % 20 == 0) {
                    x.setSpeed(0, 28);
                    x.setSpeed(2, tick / 20);
                }
                x.passTicks(1);
                for (int train = 0; train < 3; train++) {
                    Check.equal("alone", train, x.trainIn(x.sectionOf(train)));
                }
            }
            Check.equal("they met", true, x.blockedTicks(0) > 0 && x.blockedTicks(2) > 0);
        });
        s.holds("A train has an address from 1 to 127, different from those of all other trains, an acceleration from 1"
                + " to 5, a brake divisor from 1 to 9, a section, an advance from 0 to 99 in it, a speed and a target"
                + " speed from 0 to 28, a lamp with a brightness and a duty from 0 to 15, and a silence: the number of"
                + " ticks since it obeyed a packet.", () -> {
            for (String fits : new String[] {"1 1 1 0", "127 5 9 8", "64 3 5 4"}) {
                Check.equal("train " + fits, 1, Ask.load(new TrainDecoder(), "track 9 1;train " + fits + ";"));
            }
            for (String not : new String[] {"0 1 1 0", "128 1 1 0", "1 0 1 0", "1 6 1 0", "1 1 0 0", "1 1 10 0", "1 1 1 9"}) {
                Check.equal("train " + not, -1, Ask.load(new TrainDecoder(), "track 9 1;train " + not + ";"));
            }
            Check.equal("twice the address 127", -1,
                    Ask.load(new TrainDecoder(), "track 9 1;train 127 1 1 0;train 127 1 1 1;"));
        });
        s.end();
    }

    private static void packets(Sentences s) {
        s.holds("A packet consists of three bytes from 0 to 255: an address, a command, and a check.", () -> {
            TrainDecoder x = new TrainDecoder();
            Check.equal("the least bytes", 1, x.sendPacket(0, 0, 0));
            Check.equal("the greatest bytes", 2, x.sendPacket(255, 255, 255));
            Check.equal("the greatest address", 255, x.packetAddress(1));
            Check.equal("the greatest command", 255, x.packetCommand(1));
            for (int wrong : new int[] {-1, 256}) {
                Check.unfit(x, "address " + wrong, () -> x.sendPacket(wrong, 0, 0));
                Check.unfit(x, "command " + wrong, () -> x.sendPacket(0, wrong, 0));
                Check.unfit(x, "check " + wrong, () -> x.sendPacket(0, 0, wrong));
            }
        });
        s.holds("It is intact if the check is the bitwise exclusive or of the address and the command.", () -> {
            TrainDecoder x = new TrainDecoder();
            x.sendPacket(0b10101100, 0b11001010, 0b01100110);
            Check.equal("exclusive or", true, x.isIntact(0));
            for (int bit = 0; bit < 8; bit++) {
                x.sendPacket(0b10101100, 0b11001010, 0b01100110 ^ 1 << bit);
                Check.equal("bit " + bit + " is wrong", false, x.isIntact(bit + 1));
            }
        });
        s.holds("There is a queue of at most 12 packets.", () -> {
            TrainDecoder x = new TrainDecoder();
            for (int packets = 1; packets <= 12; packets++) {
                Check.equal("packets", packets, x.sendPacket(9, packets, 0));
            }
            Check.untimely(x, "the thirteenth", () -> x.sendPacket(9, 13, 0));
            Check.equal("still twelve", 12, x.queueLength());
            x.passTicks(1);
            Check.equal("one was sent", 12, x.sendPacket(9, 13, 0));
            Check.untimely(x, "full again", () -> x.sendPacket(9, 14, 0));
        });
        s.holds("A packet with the address 0 is for all trains; any other packet is for the train with its address.", () -> {
            TrainDecoder x = Ask.with("track 9 1;train 1 1 1 0;train 127 1 1 3;train 64 1 1 6;");
            x.setSpeed(0, 7);
            x.passTicks(1);
            Check.equal("for all", "7 7 7", x.targetSpeed(0) + " " + x.targetSpeed(1) + " " + x.targetSpeed(2));
            x.setSpeed(127, 9);
            x.passTicks(1);
            Check.equal("for one", "7 9 7", x.targetSpeed(0) + " " + x.targetSpeed(1) + " " + x.targetSpeed(2));
            for (int address : new int[] {2, 63, 126, 128, 129, 192, 255}) {
                x.sendPacket(address, 1, address ^ 1);
                x.sendPacket(address, 1, address);
                Check.equal("sent all the same", 2, x.passTicks(2));
            }
            for (int train = 0; train < 3; train++) {
                Check.equal("for none", train == 1 ? "2 0 0" : "1 0 0",
                        x.obeyed(train) + " " + x.rejected(train) + " " + x.unheard(train));
            }
        });
    }

    private static void kinds(Sentences s) {
        s.holds("The two highest bits of the command tell its kind, and the other bits are its argument, from 0 to 63.", () -> {
            TrainDecoder x = running(2, 20);
            obey(x, 63);
            Check.equal("the last one of kind 0", 28, x.targetSpeed(0));
            obey(x, 64);
            Check.equal("the first one of kind 1", "28 0", x.targetSpeed(0) + " " + x.duty(0));
            obey(x, 127);
            Check.equal("the last one of kind 1", "28 15", x.targetSpeed(0) + " " + x.duty(0));
            obey(x, 192);
            obey(x, 255);
            Check.equal("kind 3", "28 15", x.targetSpeed(0) + " " + x.duty(0));
            obey(x, 128);
            Check.equal("the first one of kind 2", "0 15", x.speed(0) + " " + x.duty(0));
            obey(x, 9);
            obey(x, 191);
            Check.equal("the last one of kind 2", "0 15", x.speed(0) + " " + x.duty(0));
        });
        s.holds("Kind 0: the target speed becomes the argument, but at most 28.", () -> {
            TrainDecoder x = one(1);
            for (int argument = 0; argument < 64; argument++) {
                obey(x, argument);
                Check.equal("target of " + argument, Math.min(argument, 28), x.targetSpeed(0));
            }
            obey(x, 0);
            Check.equal("target of 0 again", 0, x.targetSpeed(0));
        });
        s.holds("Kind 1: the duty of the lamp becomes the remainder of the argument divided by 16.", () -> {
            TrainDecoder x = one(1);
            for (int argument = 0; argument < 64; argument++) {
                obey(x, 64 + argument);
                Check.equal("duty of " + argument, argument % 16, x.duty(0));
            }
        });
        s.holds("Kind 2: the speed and the target speed become 0, whatever the argument is.", () -> {
            for (int argument = 0; argument < 64; argument++) {
                TrainDecoder x = running(9, 28);
                obey(x, 128 + argument);
                Check.equal("stopped by " + argument, "0 0", x.speed(0) + " " + x.targetSpeed(0));
            }
        });
        s.holds("Kind 3: nothing happens, but the packet is obeyed all the same.", () -> {
            TrainDecoder x = running(9, 20);
            x.setLamp(1, 2);
            x.passTicks(3);
            for (int argument = 0; argument < 64; argument++) {
                obey(x, 192 + argument);
                Check.equal("nothing", "20 20 2 2", x.speed(0) + " " + x.targetSpeed(0) + " " + x.duty(0) + " "
                        + x.brightness(0));
                Check.equal("obeyed", 3 + argument, x.obeyed(0));
                Check.equal("silence", 0, x.silence(0));
            }
        });
    }

    private static void cutoff(Sentences s) {
        s.holds("The power is on at first.", () -> {
            Check.equal("new", true, new TrainDecoder().isPowerOn());
            TrainDecoder x = Ask.with("track 4 20;short 0;train 1 1 1 0;");
            Check.equal("with a train in a short circuit", true, x.isPowerOn());
            x.passTicks(1);
            Check.equal("cut off", false, x.isPowerOn());
            Ask.load(x, "track 4 20;short 0;train 1 1 1 0;");
            Check.equal("loaded", true, x.isPowerOn());
        });
        s.holds("If it is cut off, it stays off for as many ticks as the cutoff time of the railway says.", () -> {
            for (int time : new int[] {1, 2, 19, 20}) {
                TrainDecoder x = Ask.with("track 4 " + time + ";short 0;train 1 1 1 0;");
                x.passTicks(1);
                x.setShort(0, false);
                int off = 0;
                while (!x.isPowerOn() && off < 30) {
                    Check.equal("remaining", time - off, x.remainingCutoff());
                    x.passTicks(1);
                    off++;
                }
                Check.equal("ticks without power", time, off);
            }
        });
        s.holds("If the power is off, the remaining cutoff decreases by 1, and if it is 0 then, the power is on again.", () -> {
            TrainDecoder x = Ask.with("track 4 2;short 0;train 1 1 1 0;");
            x.passTicks(1);
            Check.equal("at the cutoff", "2 false", x.remainingCutoff() + " " + x.isPowerOn());
            x.passTicks(1);
            Check.equal("a tick later", "1 false", x.remainingCutoff() + " " + x.isPowerOn());
            x.passTicks(1);
            Check.equal("on again, on a short circuit", "0 true", x.remainingCutoff() + " " + x.isPowerOn());
            Check.equal("one cutoff", 1, x.cutoffs());
        });
        s.holds("Otherwise, if a train is in a section with a short circuit, the power is cut off.", () -> {
            TrainDecoder none = Ask.with("track 4 2;short 0;short 2;short 3;train 1 1 1 1;");
            none.passTicks(60);
            Check.equal("no train is in one", 0, none.cutoffs());
            TrainDecoder two = Ask.with("track 4 2;short 0;short 2;train 1 1 1 0;train 2 1 1 2;");
            two.passTicks(1);
            Check.equal("two trains are in one", "1 2", two.cutoffs() + " " + two.remainingCutoff());
            two.passTicks(2);
            Check.equal("none while it is off", "1 0", two.cutoffs() + " " + two.remainingCutoff());
            two.passTicks(1);
            Check.equal("the next one", "2 2", two.cutoffs() + " " + two.remainingCutoff());
            TrainDecoder enters = Ask.with("track 4 2;short 0;train 1 5 1 3;");
            enters.setSpeed(1, 25);
            enters.passTicks(5);
            Check.equal("right before it", "3+75 0", place(enters, 0) + " " + enters.cutoffs());
            enters.passTicks(1);
            Check.equal("in the tick in which it enters", "0+0 1", place(enters, 0) + " " + enters.cutoffs());
        });
        s.holds("Ticks are numbered from 0 to 9999.", () -> {
            TrainDecoder x = new TrainDecoder();
            Check.equal("the first", 0, x.tick());
            Ask.pass(x, 9999);
            Check.equal("the last", 9999, x.tick());
            x.passTicks(1);
            Check.equal("all have passed", 10000, x.tick());
            Check.untimely(x, "one more", () -> x.passTicks(1));
        });
    }

    private static void receiving(Sentences s) {
        s.holds("If the power is on and the queue is not empty, its first packet is sent and removed from the queue.", () -> {
            TrainDecoder x = Ask.with("track 4 2;train 1 5 1 0;");
            Check.equal("an empty queue", 0, x.passTicks(5));
            Check.equal("none sent", 0, x.sentPackets());
            x.setSpeed(1, 3);
            x.setSpeed(1, 4);
            x.setSpeed(1, 5);
            x.setShort(0, true);
            Check.equal("in the tick of the cutoff", 1, x.passTicks(1));
            Check.equal("it was the first", 3, x.targetSpeed(0));
            Check.equal("the next one", 4, x.packetCommand(0));
            x.setShort(0, false);
            Check.equal("none without power", 0, x.passTicks(2));
            Check.equal("it is on again", true, x.isPowerOn());
            Check.equal("the others are kept", 2, x.queueLength());
            Check.equal("the next tick sends", 1, x.passTicks(1));
            Check.equal("one a tick", 4, x.targetSpeed(0));
            Check.equal("only the last one is left", 1, x.passTicks(10));
            Check.equal("all sent", "3 0", x.sentPackets() + " " + x.queueLength());
        });
        s.holds("Each train, in ascending order, for which it is, receives it: if the train is in a tunnel, it does not"
                + " hear it; otherwise, if the packet is not intact, the train rejects it; otherwise the train obeys it.", () -> {
            TrainDecoder x = Ask.with("track 9 2;tunnel 0;tunnel 4;train 1 5 1 0;train 2 5 1 3;train 3 5 1 7;");
            x.sendPacket(0, 9, 8);
            x.passTicks(1);
            Check.equal("broken, in a tunnel", "0 0 1", counts(x, 0));
            Check.equal("broken, outside", "0 1 0", counts(x, 1));
            x.setSpeed(0, 25);
            x.passTicks(1);
            Check.equal("intact, in a tunnel", "0 0 2", counts(x, 0));
            Check.equal("its target", 0, x.targetSpeed(0));
            Check.equal("intact, outside", "1 1 0", counts(x, 1));
            Check.equal("for both", "1 1 0", counts(x, 2));
            x.sendPacket(3, 1, 3);
            x.passTicks(1);
            Check.equal("for the others it is nothing", "0 0 2 1 1 0 1 2 0",
                    counts(x, 0) + " " + counts(x, 1) + " " + counts(x, 2));
        });
        s.holds("If the power is on and the queue is not empty, its first packet is sent and removed from the queue.", () -> {
            TrainDecoder x = Ask.with("track 4 2;tunnel 1;train 1 5 1 0;");
            x.setSpeed(1, 25);
            x.passTicks(5);
            x.setLamp(1, 3);
            x.passTicks(1);
            Check.equal("sent before the train enters the tunnel", "1 3", x.sectionOf(0) + " " + x.duty(0));
            x.passTicks(3);
            x.setLamp(1, 4);
            x.passTicks(1);
            Check.equal("sent before the train leaves the tunnel", "2 3", x.sectionOf(0) + " " + x.duty(0));
        });
    }

    private static String counts(TrainDecoder x, int train) {
        return x.obeyed(train) + " " + x.rejected(train) + " " + x.unheard(train);
    }

    private static void silence(Sentences s) {
        String sentence = "Each train: if it obeyed a packet in this tick, its silence becomes 0; otherwise its silence"
                + " increases by 1, and if it is 40 or more then, its target speed becomes 0.";
        s.holds(sentence, () -> {
            TrainDecoder x = running(1, 20);
            x.passTicks(34);
            Check.equal("at 39", "39 20 20", x.silence(0) + " " + x.targetSpeed(0) + " " + x.speed(0));
            x.passTicks(1);
            Check.equal("at 40", "40 0 0", x.silence(0) + " " + x.targetSpeed(0) + " " + x.speed(0));
            x.passTicks(1);
            Check.equal("at 41", "41 0 0", x.silence(0) + " " + x.targetSpeed(0) + " " + x.speed(0));
        });
        s.holds(sentence, () -> {
            TrainDecoder x = running(1, 20);
            x.passTicks(34);
            x.sendPacket(1, 192, 193);
            x.passTicks(1);
            Check.equal("obeyed in the fortieth tick", "0 20", x.silence(0) + " " + x.targetSpeed(0));
            x.passTicks(38);
            x.sendPacket(1, 20, 0);
            x.passTicks(1);
            Check.equal("one rejected", "39 20", x.silence(0) + " " + x.targetSpeed(0));
            x.setSpeed(2, 20);
            x.passTicks(1);
            Check.equal("one for another train", "40 0", x.silence(0) + " " + x.targetSpeed(0));
            x.setSpeed(1, 20);
            x.passTicks(1);
            Check.equal("a later one", "0 20 5", x.silence(0) + " " + x.targetSpeed(0) + " " + x.speed(0));
            TrainDecoder y = Ask.with("track 9 5;tunnel 0;train 1 5 1 0;");
            y.setSpeed(1, 20);
            y.passTicks(1);
            Check.equal("one not heard", 1, y.silence(0));
        });
    }

    private static void speeds(Sentences s) {
        s.holds("If the power is off, the speed decreases by 5, but not below 0.", () -> {
            for (int speed : new int[] {0, 1, 4, 5, 6, 28}) {
                TrainDecoder x = running(9, speed);
                int section = x.sectionOf(0);
                x.setShort(section, true);
                x.passTicks(1);
                x.setShort(section, false);
                Check.equal("in the tick of the cutoff", speed, x.speed(0));
                x.passTicks(1);
                Check.equal("without power from " + speed, Math.max(0, speed - 5), x.speed(0));
            }
        });
        String sentence = "Otherwise, if the speed is less than the target speed, it increases by the acceleration, but"
                + " not above the target speed; if it is greater than the target speed, it decreases by the speed"
                + " divided by the brake divisor, rounded down, but at least by 1, and not below the target speed.";
        s.holds(sentence, () -> {
            for (int acceleration = 1; acceleration <= 5; acceleration++) {
                for (int target = 0; target <= 28; target++) {
                    TrainDecoder x = Ask.with("track 9 5;train 1 " + acceleration + " 1 0;");
                    x.setSpeed(1, target);
                    for (int tick = 1; tick <= 30; tick++) {
                        x.passTicks(1);
                        Check.equal("faster by " + acceleration + " to " + target, Math.min(tick * acceleration, target),
                                x.speed(0));
                    }
                }
            }
        });
        s.holds(sentence, () -> {
            slower(9, 28, 0, "25 23 21 19 17 16 15 14 13 12 11 10 9 8 7 6 5 4 3 2 1 0 0 ");
            slower(9, 18, 0, "16 15 14 ");
            slower(9, 17, 0, "16 15 ");
            slower(9, 8, 0, "7 6 ");
            slower(1, 28, 27, "27 27 ");
            slower(1, 28, 0, "0 0 ");
            slower(2, 28, 14, "14 14 ");
            slower(2, 28, 15, "15 15 ");
            slower(2, 28, 13, "14 13 13 ");
            slower(2, 5, 0, "3 2 1 0 0 ");
            slower(3, 28, 18, "19 18 18 ");
            slower(9, 1, 0, "0 0 ");
        });
    }

    private static void slower(int divisor, int from, int target, String due) {
        TrainDecoder x = running(divisor, from);
        x.setSpeed(1, target);
        StringBuilder speeds = new StringBuilder();
        for (int i = 0; i < due.length(); i++) {
            if (due.charAt(i) == ' ') {
                x.passTicks(1);
                speeds.append(x.speed(0)).append(' ');
            }
        }
        Check.equal("from " + from + " by " + divisor + " to " + target, due, speeds.toString());
    }

    private static void lamps(Sentences s) {
        s.holds("Each lamp: if the power is off, its brightness becomes 0; otherwise its brightness moves by 1 toward"
                + " its duty, if they differ.", () -> {
            TrainDecoder x = Ask.with("track 9 2;train 1 5 9 0;");
            x.passTicks(1);
            Check.equal("both are 0", 0, x.brightness(0));
            x.setLamp(1, 15);
            for (int tick = 1; tick <= 17; tick++) {
                x.passTicks(1);
                Check.equal("up to 15", Math.min(tick, 15), x.brightness(0));
            }
            x.setLamp(1, 12);
            for (int tick = 1; tick <= 5; tick++) {
                x.passTicks(1);
                Check.equal("down to 12", Math.max(15 - tick, 12), x.brightness(0));
            }
            x.setShort(0, true);
            x.passTicks(1);
            x.setShort(0, false);
            Check.equal("in the tick of the cutoff", 12, x.brightness(0));
            x.passTicks(1);
            Check.equal("without power at once", 0, x.brightness(0));
            x.passTicks(1);
            Check.equal("in the tick that ends the cutoff", "0 true", x.brightness(0) + " " + x.isPowerOn());
            x.passTicks(1);
            Check.equal("with power again", "1 12", x.brightness(0) + " " + x.duty(0));
        });
    }

    private static void moves(Sentences s) {
        s.holds("Each train, in ascending order, moves: its advance increases by its speed.", () -> {
            TrainDecoder x = Ask.with("track 4 5;train 1 5 1 0;train 2 5 1 1;");
            TrainDecoder y = Ask.with("track 4 5;train 1 5 1 1;train 2 5 1 0;");
            x.setSpeed(0, 25);
            y.setSpeed(0, 25);
            x.passTicks(6);
            y.passTicks(6);
            Check.equal("the one behind moves first", "0+99 2+0", place(x, 0) + " " + place(x, 1));
            Check.equal("the one ahead moves first", "2+0 1+0", place(y, 0) + " " + place(y, 1));
        });
        s.holds("If it is 100 or more then, and no train is in the next section, the train is in the next section, and its"
                + " advance decreases by 100.", () -> {
            Check.equal("at 98", "0+98", placeAfter98(0));
            Check.equal("at 99", "0+99", placeAfter98(1));
            Check.equal("at 100", "1+0", placeAfter98(2));
            Check.equal("at 101", "1+1", placeAfter98(3));
            TrainDecoder x = running(1, 28);
            x.passTicks(1);
            Check.equal("at 131", "1+31", place(x, 0));
        });
        s.holds("If there is a train in the next section, the train is blocked: its advance becomes 99 and its speed 0.", () -> {
            TrainDecoder x = Ask.with("track 4 5;train 1 5 1 3;train 2 1 1 0;");
            x.setSpeed(1, 20);
            x.passTicks(6);
            Check.equal("at 90", "3+90 20 0", place(x, 0) + " " + x.speed(0) + " " + x.blockedTicks(0));
            x.passTicks(1);
            Check.equal("at 110", "3+99 0 1", place(x, 0) + " " + x.speed(0) + " " + x.blockedTicks(0));
            Check.equal("the target stays", 20, x.targetSpeed(0));
            x.passTicks(1);
            Check.equal("at 104", "3+99 0 2", place(x, 0) + " " + x.speed(0) + " " + x.blockedTicks(0));
            TrainDecoder y = Ask.with("track 4 5;train 1 5 1 3;train 2 1 1 0;");
            y.setSpeed(1, 25);
            y.passTicks(5);
            Check.equal("at 75", "3+75 25 0", place(y, 0) + " " + y.speed(0) + " " + y.blockedTicks(0));
            y.passTicks(1);
            Check.equal("at 100", "3+99 0 1", place(y, 0) + " " + y.speed(0) + " " + y.blockedTicks(0));
            TrainDecoder z = Ask.with("track 4 5;train 1 1 1 3;train 2 1 1 0;");
            z.setSpeed(1, 1);
            z.passTicks(39);
            Check.equal("at 39", "3+39 1 0", place(z, 0) + " " + z.speed(0) + " " + z.blockedTicks(0));
        });
    }

    /** Where a train is that goes to the advance 98 by small steps and then makes this step. */
    private static String placeAfter98(int lastStep) {
        TrainDecoder x = one(1);
        for (int steps = 0; steps < 19; steps++) {
            step(x, 5);
        }
        step(x, 3);
        Check.equal("before it", "0+98", place(x, 0));
        step(x, lastStep);
        return place(x, 0);
    }

    private static void step(TrainDecoder x, int speed) {
        x.setSpeed(1, speed);
        x.passTicks(1);
        x.stop(1);
        x.passTicks(1);
    }
}
