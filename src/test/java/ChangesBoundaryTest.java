/** The boundary sentences of the terms on changes and of the promises 47 to 54. */
final class ChangesBoundaryTest {
    private static final String FULL = "Throws IllegalStateException if the queue contains 12 packets";
    private static final String BOTH = "If several exceptions apply, the one listed first in the documentation of the"
            + " method is thrown.";
    private static final int[] FAR = {Integer.MAX_VALUE, Integer.MIN_VALUE, -1};

    interface Made {
        int call(TrainDecoder x);
    }

    public static void main(String[] args) {
        Sentences changes = Sentences.of("Changes");
        whatIsAChange(changes);
        latestChanges(changes);
        exceptions(changes);
        changes.end();
        sendPacket(Sentences.of("Promise 47"));
        setSpeed(Sentences.of("Promise 48"));
        setLamp(Sentences.of("Promise 49"));
        stop(Sentences.of("Promise 50"));
        setShort(Sentences.of("Promise 51"));
        clearQueue(Sentences.of("Promise 52"));
        readdress(Sentences.of("Promise 53"));
        passTicks(Sentences.of("Promise 54"));
        Check.end();
    }

    private static void isChange(TrainDecoder x, String what, Made change) {
        String before = Ask.all(x);
        int undoable = x.undoableCount();
        change.call(x);
        Check.equal(what + " is one change", undoable + 1, x.undoableCount());
        Check.equal(what + " can be undone", undoable, x.undo());
        Check.equal(what + " is undone", before, Ask.all(x));
    }

    private static void whatIsAChange(Sentences s) {
        s.holds("The methods sendPacket, setSpeed, setLamp, stop, setShort, clearQueue, readdress, passTicks and runScript"
                + " change the railway.", () -> {
            TrainDecoder x = new TrainDecoder();
            x.setSpeed(5, 9);
            isChange(x, "sendPacket", y -> y.sendPacket(3, 2, 1));
            isChange(x, "setSpeed", y -> y.setSpeed(3, 28));
            isChange(x, "setLamp", y -> y.setLamp(3, 15));
            isChange(x, "stop", y -> y.stop(3));
            isChange(x, "setShort", y -> y.setShort(0, true));
            isChange(x, "clearQueue", y -> y.clearQueue());
            isChange(x, "readdress", y -> y.readdress(0, 9));
            isChange(x, "passTicks", y -> y.passTicks(60));
            isChange(x, "runScript", y -> Ask.run(y, "speed 0 28;wait 60;"));
        });
        s.holds("Each call of one of them that returns normally is a change, even if nothing is different afterwards.", () -> {
            TrainDecoder x = new TrainDecoder();
            isChange(x, "setShort where one is", y -> y.setShort(6, true));
            isChange(x, "setShort where none is", y -> y.setShort(0, false));
            isChange(x, "clearQueue of an empty queue", y -> y.clearQueue());
            isChange(x, "runScript of nothing", y -> y.runScript(0));
        });
        s.holds("A call of runScript that reports a parse error is not a change.", () -> {
            TrainDecoder x = new TrainDecoder();
            x.setSpeed(3, 28);
            Check.equal("a parse error", -1, Ask.run(x, "speed 3 29;"));
            Check.equal("no change", 1, x.undoableCount());
            Check.equal("the one before it is undone", 0, x.undo());
            Check.equal("no packet is left", 0, x.queueLength());
            Check.equal("a parse error again", -1, Ask.run(x, "wait"));
            Check.untimely(x, "nothing to undo", () -> x.undo());
        });
        s.holds("A script is one change, even if none of its commands is executed.", () -> {
            TrainDecoder x = new TrainDecoder();
            isChange(x, "a script of many commands", y -> Ask.run(y, "repeat 5(speed 3 9;wait 3;);short 0;mend 6;stop 0;"));
            isChange(x, "a script that is stopped at once", y -> Ask.run(y, "short 8;wait 1;"));
            isChange(x, "an empty script", y -> Ask.run(y, ""));
            isChange(x, "an empty repeat", y -> Ask.run(y, "repeat 5();"));
            Check.equal("one that is stopped", 0, Ask.run(x, "mend 23;"));
            Check.equal("counts", 1, x.undoableCount());
        });
    }

    private static void latestChanges(Sentences s) {
        s.holds("The latest 8 changes can be undone, the latest one first.", () -> {
            for (int changes = 0; changes <= 20; changes++) {
                TrainDecoder x = new TrainDecoder();
                String[] before = changesOf(x, changes);
                int undoable = Math.min(changes, 8);
                Check.equal("undoable of " + changes, undoable, x.undoableCount());
                for (int undone = 1; undone <= undoable; undone++) {
                    Check.equal("left", undoable - undone, x.undo());
                    Check.equal("before change " + (changes - undone), before[changes - undone], Ask.railway(x));
                }
            }
        });
        s.holds("An older change cannot be undone any more.", () -> {
            for (int changes : new int[] {8, 9, 10, 16, 17}) {
                TrainDecoder x = new TrainDecoder();
                String[] before = changesOf(x, changes);
                for (int undone = 0; undone < 8; undone++) {
                    x.undo();
                }
                Check.untimely(x, "the ninth of " + changes, () -> x.undo());
                Check.equal("it stays", before[changes - 8], Ask.railway(x));
            }
            TrainDecoder x = new TrainDecoder();
            changesOf(x, 8);
            x.undo();
            x.undo();
            changesOf(x, 3);
            Check.equal("six of the old ones are too many", 8, x.undoableCount());
            for (int undone = 0; undone < 8; undone++) {
                x.undo();
            }
            Check.equal("the oldest is left", 1, x.sentPackets() + x.queueLength());
            Check.untimely(x, "it cannot be undone", () -> x.undo());
        });
    }

    /** Each change makes a railway of its own; what it was before each is returned. */
    private static String[] changesOf(TrainDecoder x, int changes) {
        String[] before = new String[changes];
        for (int change = 0; change < changes; change++) {
            before[change] = Ask.railway(x);
            if (change % 3 == 2) {
                x.passTicks(change);
            } else {
                x.sendPacket(3, change, 0);
            }
        }
        return before;
    }

    private static void exceptions(Sentences s) {
        s.holds("A method that throws an exception changes nothing.", () -> {
            // Check.untimely and its like compare all that can be asked before the call and after it.
            TrainDecoder x = full();
            Ask.append(x, "wait 1;");
            Check.untimely(x, "sendPacket", () -> x.sendPacket(0, 0, 0));
            Check.untimely(x, "setSpeed", () -> x.setSpeed(0, 0));
            Check.untimely(x, "setLamp", () -> x.setLamp(0, 0));
            Check.untimely(x, "stop", () -> x.stop(0));
            Check.outside(x, "setShort", () -> x.setShort(8, true));
            Check.untimely(x, "readdress", () -> x.readdress(0, 5));
            Check.unfit(x, "passTicks", () -> x.passTicks(61));
            Check.unfit(x, "runScript", () -> x.runScript(21));
            Check.unfit(x, "loadRailway", () -> x.loadRailway(21));
            Check.untimely(x, "restoreSnapshot", () -> x.restoreSnapshot());
            Check.outside(x, "outputByte", () -> x.outputByte(0));
            Check.equal("the input", 1, x.runScript(20));
            for (int undone = 0; undone < 8; undone++) {
                x.undo();
            }
            Check.equal("the history", "0 5", x.undoableCount() + " " + x.queueLength());
            Check.untimely(x, "undo", () -> x.undo());
        });
        s.holds(BOTH, () -> {
            TrainDecoder x = full();
            Check.unfit(x, "sendPacket", () -> x.sendPacket(256, 0, 0));
            Check.unfit(x, "setSpeed", () -> x.setSpeed(0, 29));
            Check.unfit(x, "setLamp", () -> x.setLamp(128, 0));
            Check.unfit(x, "stop", () -> x.stop(128));
            Check.outside(x, "sectionAfter", () -> x.sectionAfter(2, 201));
            Check.outside(x, "speedAfter", () -> x.speedAfter(-1, -1));
            Check.outside(x, "readdress of no train", () -> x.readdress(2, 128));
            x.clearQueue();
            x.setSpeed(0, 9);
            x.passTicks(1);
            Check.outside(x, "readdress of no train to an address that one has", () -> x.readdress(2, 5));
            Check.unfit(x, "readdress of a train that runs", () -> x.readdress(0, 128));
            Ask.pass(x, 9999);
            Check.unfit(x, "passTicks", () -> x.passTicks(61));
            Check.unfit(x, "passTicks", () -> x.passTicks(0));
        });
    }

    private static TrainDecoder full() {
        TrainDecoder x = new TrainDecoder();
        for (int packets = 0; packets < 12; packets++) {
            x.sendPacket(9, packets, 0);
        }
        return x;
    }

    /** The call is refused by a queue of 12 packets, and by it alone. */
    private static void refusedByAFullQueue(Sentences s, Made made) {
        s.holds("Returns the number of packets in the queue afterwards.", () -> {
            TrainDecoder x = new TrainDecoder();
            for (int packets = 1; packets <= 12; packets++) {
                Check.equal("packets", packets, made.call(x));
                Check.equal("length", packets, x.queueLength());
            }
            x.passTicks(11);
            Check.equal("one was left", 2, made.call(x));
        });
        s.holds(FULL, () -> {
            TrainDecoder x = new TrainDecoder();
            for (int packets = 1; packets <= 12; packets++) {
                Check.equal("packets", packets, made.call(x));
            }
            Check.untimely(x, "the thirteenth", () -> made.call(x));
            Check.untimely(x, "the thirteenth again", () -> made.call(x));
            x.passTicks(1);
            Check.equal("one was sent", 12, made.call(x));
            Check.untimely(x, "full again", () -> made.call(x));
            x.undo();
            Check.equal("one was undone", 12, made.call(x));
            x.clearQueue();
            Check.equal("all were cleared", 1, made.call(x));
        });
    }

    private static void sendPacket(Sentences s) {
        refusedByAFullQueue(s, x -> x.sendPacket(3, 1, 0));
        s.holds("A packet is put at the end of the queue.", () -> {
            TrainDecoder x = new TrainDecoder();
            for (int packet = 0; packet < 12; packet++) {
                x.sendPacket(3, packet, 0);
                Check.equal("at the end", packet, x.packetCommand(packet));
            }
        });
        Check.Call bytes = () -> {
            int[] edges = {0, 255};
            for (int address : edges) {
                for (int command : edges) {
                    for (int check : edges) {
                        TrainDecoder x = new TrainDecoder();
                        Check.equal("packets", 1, x.sendPacket(address, command, check));
                        Check.equal("packet", address + " " + command + " " + ((address ^ command) == check),
                                x.packetAddress(0) + " " + x.packetCommand(0) + " " + x.isIntact(0));
                    }
                }
            }
        };
        s.holds("address: 0 to 255", bytes);
        s.holds("command: 0 to 255", bytes);
        s.holds("check: 0 to 255", bytes);
        s.holds("Throws IllegalArgumentException if a byte is out of range", () -> {
            for (TrainDecoder x : new TrainDecoder[] {new TrainDecoder(), full()}) {
                for (int wrong : new int[] {-1, 256, 257, 511, -255, Integer.MAX_VALUE, Integer.MIN_VALUE}) {
                    Check.unfit(x, "address " + wrong, () -> x.sendPacket(wrong, 1, 1));
                    Check.unfit(x, "command " + wrong, () -> x.sendPacket(1, wrong, 1));
                    Check.unfit(x, "check " + wrong, () -> x.sendPacket(1, 1, wrong));
                }
            }
        });
        s.end();
    }

    private static void setSpeed(Sentences s) {
        refusedByAFullQueue(s, x -> x.setSpeed(3, 1));
        s.holds("An intact packet that sets the target speed is put at the end of the queue.", () -> {
            TrainDecoder x = new TrainDecoder();
            for (int packet = 0; packet < 12; packet++) {
                x.setSpeed(3, packet);
                Check.equal("at the end", "3 " + packet + " true", lastOf(x));
            }
        });
        s.holds("address: 0 to 127", () -> {
            for (int address : new int[] {0, 1, 126, 127}) {
                packet(address, 9, x -> x.setSpeed(address, 9));
            }
        });
        s.holds("step: 0 to 28", () -> {
            for (int step : new int[] {0, 1, 27, 28}) {
                packet(3, step, x -> x.setSpeed(3, step));
            }
        });
        s.holds("Throws IllegalArgumentException if address or step is out of range", () -> {
            for (TrainDecoder x : new TrainDecoder[] {new TrainDecoder(), full()}) {
                refusesAbove(127, wrong -> Check.unfit(x, "address " + wrong, () -> x.setSpeed(wrong, 0)));
                refusesAbove(28, wrong -> Check.unfit(x, "step " + wrong, () -> x.setSpeed(127, wrong)));
            }
        });
        s.end();
    }

    private static void setLamp(Sentences s) {
        refusedByAFullQueue(s, x -> x.setLamp(3, 1));
        s.holds("An intact packet that sets the duty of the lamp, with the duty as its argument, is put at the end of the"
                + " queue.", () -> {
            TrainDecoder x = new TrainDecoder();
            for (int packet = 0; packet < 12; packet++) {
                x.setLamp(3, packet);
                Check.equal("at the end", "3 " + (64 + packet) + " true", lastOf(x));
            }
        });
        s.holds("address: 0 to 127", () -> {
            for (int address : new int[] {0, 1, 126, 127}) {
                packet(address, 64 + 9, x -> x.setLamp(address, 9));
            }
        });
        s.holds("duty: 0 to 15", () -> {
            for (int duty : new int[] {0, 1, 14, 15}) {
                packet(3, 64 + duty, x -> x.setLamp(3, duty));
            }
        });
        s.holds("Throws IllegalArgumentException if address or duty is out of range", () -> {
            for (TrainDecoder x : new TrainDecoder[] {new TrainDecoder(), full()}) {
                refusesAbove(127, wrong -> Check.unfit(x, "address " + wrong, () -> x.setLamp(wrong, 0)));
                refusesAbove(15, wrong -> Check.unfit(x, "duty " + wrong, () -> x.setLamp(127, wrong)));
            }
        });
        s.end();
    }

    private static void stop(Sentences s) {
        refusedByAFullQueue(s, x -> x.stop(3));
        s.holds("An intact packet of kind 2 with the argument 0 is put at the beginning of the queue.", () -> {
            TrainDecoder x = new TrainDecoder();
            for (int packet = 0; packet < 11; packet++) {
                x.sendPacket(3, packet, 255);
            }
            x.stop(127);
            Check.equal("in front", "127 128 true", x.packetAddress(0) + " " + x.packetCommand(0) + " " + x.isIntact(0));
            for (int packet = 1; packet < 12; packet++) {
                Check.equal("behind it", "3 " + (packet - 1) + " false",
                        x.packetAddress(packet) + " " + x.packetCommand(packet) + " " + x.isIntact(packet));
            }
        });
        s.holds("address: 0 to 127", () -> {
            for (int address : new int[] {0, 1, 126, 127}) {
                packet(address, 128, x -> x.stop(address));
            }
        });
        s.holds("Throws IllegalArgumentException if address is out of range", () -> {
            for (TrainDecoder x : new TrainDecoder[] {new TrainDecoder(), full()}) {
                refusesAbove(127, wrong -> Check.unfit(x, "address " + wrong, () -> x.stop(wrong)));
            }
        });
        s.end();
    }

    private static String lastOf(TrainDecoder x) {
        int last = x.queueLength() - 1;
        return x.packetAddress(last) + " " + x.packetCommand(last) + " " + x.isIntact(last);
    }

    /** The call puts this intact packet into an empty queue. */
    private static void packet(int address, int command, Made made) {
        TrainDecoder x = new TrainDecoder();
        Check.equal("packets", 1, made.call(x));
        Check.equal("packet", address + " " + command + " true",
                x.packetAddress(0) + " " + x.packetCommand(0) + " " + x.isIntact(0));
    }

    interface Wrong {
        void call(int wrong);
    }

    private static void refusesAbove(int most, Wrong refusal) {
        refusal.call(most + 1);
        refusal.call(most + 256);
        for (int wrong : FAR) {
            refusal.call(wrong);
        }
    }

    private static void setShort(Sentences s) {
        NoSuch.section(s, (x, section) -> {
            x.setShort(section, true);
        });
        NoSuch.section(s, (x, section) -> {
            x.setShort(section, false);
        });
        s.holds("Returns the number of sections with a short circuit afterwards.", () -> {
            TrainDecoder x = Ask.with("track 24 1;train 1 1 1 0;");
            for (int section = 23; section >= 0; section--) {
                Check.equal("made", 24 - section, x.setShort(section, true));
                Check.equal("made again", 24 - section, x.setShort(section, true));
            }
            for (int section = 0; section < 24; section++) {
                Check.equal("mended", 23 - section, x.setShort(section, false));
                Check.equal("mended again", 23 - section, x.setShort(section, false));
            }
        });
        s.end();
    }

    private static void clearQueue(Sentences s) {
        s.holds("Returns the number of packets that were in the queue.", () -> {
            TrainDecoder x = new TrainDecoder();
            Check.equal("of an empty one", 0, x.clearQueue());
            Check.equal("of a full one", 12, full().clearQueue());
            x.setSpeed(3, 9);
            Check.equal("of one", 1, x.clearQueue());
            Check.equal("none is left", 0, x.clearQueue());
        });
        s.holds("The queue is cleared.", () -> {
            TrainDecoder x = full();
            x.clearQueue();
            Check.equal("length", 0, x.queueLength());
            Check.outside(x, "packet 0", () -> x.packetAddress(0));
            Check.equal("none is sent", 0, x.passTicks(12));
        });
        s.end();
    }

    private static void readdress(Sentences s) {
        NoSuch.train(s, (x, train) -> x.readdress(train, 100 + x.tick() + x.undoableCount()));
        s.holds("A train that does not run gets another address.", () -> {
            TrainDecoder x = new TrainDecoder();
            x.readdress(0, 9);
            Check.equal("it has it", 9, x.address(0));
            Check.equal("the other train has its own", 5, x.address(1));
            x.setSpeed(0, 4);
            x.passTicks(1);
            Check.untimely(x, "a train that runs", () -> x.readdress(0, 3));
        });
        s.holds("address: 1 to 127", () -> {
            TrainDecoder x = new TrainDecoder();
            Check.equal("the least", 3, x.readdress(0, 1));
            Check.equal("the greatest", 1, x.readdress(0, 127));
            Check.equal("one between them", 127, x.readdress(0, 64));
        });
        s.holds("Throws IllegalArgumentException if address is out of range", () -> {
            TrainDecoder x = new TrainDecoder();
            Check.unfit(x, "address 0", () -> x.readdress(0, 0));
            refusesAbove(127, wrong -> Check.unfit(x, "address " + wrong, () -> x.readdress(0, wrong)));
            refusesAbove(127, wrong -> Check.outside(x, "no train first", () -> x.readdress(2, wrong)));
            x.setSpeed(0, 28);
            x.passTicks(1);
            refusesAbove(127, wrong -> Check.unfit(x, "before the speed " + wrong, () -> x.readdress(0, wrong)));
        });
        s.holds("Throws IllegalStateException if the speed of the train is not 0, or a train has this address", () -> {
            TrainDecoder x = new TrainDecoder();
            Check.untimely(x, "the other train's address", () -> x.readdress(0, 5));
            Check.untimely(x, "its own address", () -> x.readdress(0, 3));
            x.setSpeed(0, 1);
            Check.equal("a target alone is none", 5, x.readdress(1, 6));
            x.passTicks(1);
            Check.equal("speeds", "1 1", x.speed(0) + " " + x.speed(1));
            Check.untimely(x, "the least speed", () -> x.readdress(1, 7));
            x.stop(6);
            x.passTicks(1);
            Check.equal("it stands, the other one runs", 6, x.readdress(1, 7));
            Check.equal("the address of before is free", 7, x.readdress(1, 6));
        });
        s.end();
    }

    private static void passTicks(Sentences s) {
        s.holds("ticks: 1 to 60", () -> {
            TrainDecoder x = new TrainDecoder();
            x.passTicks(1);
            Check.equal("the least", 1, x.tick());
            x.passTicks(60);
            Check.equal("the greatest", 61, x.tick());
        });
        s.holds("Throws IllegalArgumentException if ticks is out of range", () -> {
            TrainDecoder x = new TrainDecoder();
            Check.unfit(x, "none", () -> x.passTicks(0));
            refusesAbove(60, wrong -> Check.unfit(x, "ticks " + wrong, () -> x.passTicks(wrong)));
            Ask.pass(x, 10000);
            Check.unfit(x, "none of none", () -> x.passTicks(0));
            refusesAbove(60, wrong -> Check.unfit(x, "when none is left " + wrong, () -> x.passTicks(wrong)));
        });
        s.holds("Throws IllegalStateException if a tick beyond 9999 would pass", () -> {
            for (int left : new int[] {0, 1, 2, 30, 59}) {
                TrainDecoder x = new TrainDecoder();
                Ask.pass(x, 10000 - left);
                Check.untimely(x, "one more than " + left, () -> x.passTicks(left + 1));
                Check.untimely(x, "60 of " + left, () -> x.passTicks(60));
                if (left > 0) {
                    x.passTicks(left);
                }
                Check.equal("all of them", 10000, x.tick());
            }
            TrainDecoder y = new TrainDecoder();
            Ask.pass(y, 9940);
            Check.equal("60 of 60", 0, y.passTicks(60));
        });
        s.holds("Returns the number of packets that are sent in them.", () -> {
            TrainDecoder x = new TrainDecoder();
            Check.equal("none of an empty queue", 0, x.passTicks(60));
            TrainDecoder y = full();
            Check.equal("one a tick", 1, y.passTicks(1));
            Check.equal("not more than are there", 11, y.passTicks(60));
        });
        s.end();
    }
}
