/** The boundary sentences of the promises 55 to 61, on scripts, output and history. */
final class HistoryBoundaryTest {
    public static void main(String[] args) {
        Sentences script = Sentences.of("Promise 55");
        runScript(script);
        scriptsThatStop(script);
        scriptsAndTheBuffer(script);
        script.end();
        writeTrack(Sentences.of("Promise 56"));
        outputByte(Sentences.of("Promise 57"));
        undoableCount(Sentences.of("Promise 58"));
        undo(Sentences.of("Promise 59"));
        saveSnapshot(Sentences.of("Promise 60"));
        restoreSnapshot(Sentences.of("Promise 61"));
        Check.end();
    }

    private static void runScript(Sentences s) {
        s.holds("Parses the first bytes of the input buffer as a script and, if there is no error, executes its commands in"
                + " order: packet, speed, lamp, stop and wait do what sendPacket, setSpeed, setLamp, stop and passTicks do,"
                + " short and mend do what setShort does with true and with false.", () -> {
            TrainDecoder x = new TrainDecoder();
            TrainDecoder y = new TrainDecoder();
            String[] commands = {"packet 255 0 255", "packet 0 255 254", "speed 0 28", "speed 127 0", "lamp 0 15", "lamp 127 0",
                "stop 127", "stop 0", "wait 60", "wait 1", "short 0", "short 7", "mend 7", "mend 6"};
            Check.Call[] calls = {() -> y.sendPacket(255, 0, 255), () -> y.sendPacket(0, 255, 254), () -> y.setSpeed(0, 28),
                () -> y.setSpeed(127, 0), () -> y.setLamp(0, 15), () -> y.setLamp(127, 0), () -> y.stop(127), () -> y.stop(0),
                () -> y.passTicks(60), () -> y.passTicks(1), () -> y.setShort(0, true), () -> y.setShort(7, true),
                () -> y.setShort(7, false), () -> y.setShort(6, false)};
            for (int i = 0; i < commands.length; i++) {
                Check.equal(commands[i], 1, Ask.run(x, commands[i] + ";"));
                calls[i].run();
                Check.equal("after " + commands[i], Ask.railway(y), Ask.railway(x));
            }
            Ask.append(x, "wait 1;wait 2;wait 4;");
            Check.equal("of the first 14 bytes", 2, x.runScript(14));
            Check.equal("ticks", 61 + 3, x.tick());
            Ask.append(x, "wait 1;wait 2;wait 4;");
            Check.equal("of none", 0, x.runScript(0));
        });
        s.holds("A repeat executes the commands inside it in order, all of them as many times as it says.", () -> {
            for (int times = 2; times <= 5; times++) {
                TrainDecoder x = new TrainDecoder();
                Check.equal("twice " + times, 2 * times, Ask.run(x, "repeat " + times + "(packet 9 1 0;packet 9 2 0;);"));
                for (int packet = 0; packet < 2 * times; packet++) {
                    Check.equal("packet " + packet, 1 + packet % 2, x.packetCommand(packet));
                }
                Check.equal("one in another", times * times, Ask.run(x, "repeat " + times + "(repeat " + times + "(wait 1;););"));
                Check.equal("ticks", times * times, x.tick());
                Check.equal("none", 0, Ask.run(x, "repeat " + times + "();"));
            }
        });
        s.holds("Returns the number of commands that were executed, where a command inside a repeat counts each time, and a"
                + " repeat itself does not count; -1 if there is a parse error.", () -> {
            executes(0, "");
            executes(0, "repeat 5();");
            executes(0, "repeat 5(repeat 5(););");
            executes(1, "mend 0;");
            executes(2, "repeat 2(mend 0;);");
            executes(5, "mend 0;repeat 2(mend 0;);repeat 2();mend 0;mend 0;");
            executes(2 * (3 * 2 + 1), "repeat 2(repeat 3(mend 0;short 0;);mend 1;);");
            executes(25 * 18, "repeat 5(repeat 5(" + "mend 0;".repeat(18) + "););");
            executes(-1, "mend 0;mend 0");
            executes(-1, "mend 24;");
            executes(-1, "mend 0;".repeat(21));
        });
    }

    private static void executes(int due, String script) {
        Check.equal(script, due, Ask.run(new TrainDecoder(), script));
    }

    private static void scriptsThatStop(Sentences s) {
        String sentence = "Execution of the whole script stops at the first command whose method would throw an exception;"
                + " runScript itself does not throw then.";
        s.holds(sentence, () -> {
            for (String command : new String[] {"packet 9 9 9;", "speed 9 9;", "lamp 9 9;", "stop 9;"}) {
                TrainDecoder x = new TrainDecoder();
                Check.equal("the thirteenth packet", 12, Ask.run(x, "repeat 4(repeat 4(" + command + "););wait 60;"));
                Check.equal("twelve packets, no tick", "12 0", x.queueLength() + " " + x.tick());
                Check.equal("as the first command", 0, Ask.run(x, command + "wait 1;"));
                Check.equal("no tick", 0, x.tick());
                Check.equal("no error", "0 -1", x.errorCode() + " " + x.errorOffset());
                Check.equal("when there is room", 2, Ask.run(x, "wait 1;" + command));
            }
        });
        s.holds(sentence, () -> {
            for (String command : new String[] {"short", "mend"}) {
                TrainDecoder x = new TrainDecoder();
                Check.equal("the last section", 2, Ask.run(x, command + " 7;wait 1;"));
                Check.equal("none behind it", 1, Ask.run(x, "wait 1;" + command + " 8;wait 1;"));
                Check.equal("the greatest number", 0, Ask.run(x, command + " 23;wait 1;"));
                Check.equal("ticks", 2, x.tick());
                TrainDecoder all = Ask.with("track 24 1;train 1 1 1 0;");
                Check.equal("section 23 of 24", 2, Ask.run(all, command + " 23;wait 1;"));
            }
        });
        s.holds(sentence, () -> {
            TrainDecoder x = new TrainDecoder();
            Ask.pass(x, 9940);
            Check.equal("59 and 2 of 60", 1, Ask.run(x, "wait 59;wait 2;wait 1;short 0;"));
            Check.equal("no part of them", 9999, x.tick());
            Check.equal("one short circuit", false, x.hasShort(0));
            Check.equal("the last one", 1, Ask.run(x, "wait 1;wait 1;"));
            Check.equal("all have passed", 10000, x.tick());
            Check.equal("other commands are still executed", 3, Ask.run(x, "stop 3;short 1;mend 1;wait 60;mend 1;"));
        });
        s.holds(sentence, () -> {
            TrainDecoder x = new TrainDecoder();
            Check.equal("out of two repeats", 1 + 2,
                    Ask.run(x, "wait 1;repeat 5(repeat 5(wait 1;lamp 0 1;mend 8;);wait 1;);wait 1;"));
            Check.equal("ticks", 2, x.tick());
            TrainDecoder y = new TrainDecoder();
            Check.equal("in the fourth round", 3 * (4 + 1) + 3, Ask.run(y, "repeat 5(repeat 4(speed 9 9;);wait 1;);wait 60;"));
            Check.equal("ticks and packets", "3 12", y.tick() + " " + y.queueLength());
        });
    }

    private static void scriptsAndTheBuffer(Sentences s) {
        s.holds("The buffer is emptied.", () -> {
            for (String script : new String[] {"", "wait 1;", "waits", "short 8;wait 1;", "wait 61;wait 1;"}) {
                TrainDecoder x = new TrainDecoder();
                Ask.append(x, "                    " + script);
                x.runScript(script.isEmpty() ? 0 : 20 + script.length());
                Check.unfit(x, "no byte after " + script, () -> x.runScript(1));
                Check.unfit(x, "nor any to load", () -> x.loadRailway(1));
                Check.equal("first bytes after " + script, 20, x.appendText(0, 0, 0, 0, 0));
            }
            TrainDecoder x = new TrainDecoder();
            Ask.append(x, "wait 1;wait 1;");
            x.runScript(7);
            Check.unfit(x, "nor the bytes that were not parsed", () -> x.runScript(1));
        });
        s.holds("Throws IllegalArgumentException if length is negative or greater than the number of bytes in the buffer;"
                + " the buffer is not emptied then", () -> {
            TrainDecoder x = new TrainDecoder();
            Check.unfit(x, "one of no byte", () -> x.runScript(1));
            Ask.append(x, "wait 1;wait 1;wait 1;");
            for (int length : new int[] {-1, 41, 500, 501, Integer.MAX_VALUE, Integer.MIN_VALUE}) {
                Check.unfit(x, "length " + length, () -> x.runScript(length));
            }
            Check.equal("all bytes", 3, x.runScript(40));
        });
    }

    private static void writeTrack(Sentences s) {
        s.holds("For each section, in ascending order, one byte: the digit of the train in it; if there is none, ! (33) if it"
                + " has a short circuit; otherwise n (110) if it is a tunnel, otherwise - (45).", () -> {
            TrainDecoder x = Ask.with("track 8 1;tunnel 1;tunnel 3;tunnel 5;tunnel 7;short 2;short 3;short 6;short 7;"
                    + "train 1 1 1 7;train 2 1 1 6;train 3 1 1 5;train 4 1 1 4;");
            x.writeTrack();
            Check.equal("all kinds", "-n!!3210", Ask.output(x));
            Check.equal("bytes", "45 110 33 33 51 50 49 48", x.outputByte(0) + " " + x.outputByte(1) + " " + x.outputByte(2)
                    + " " + x.outputByte(3) + " " + x.outputByte(4) + " " + x.outputByte(5) + " " + x.outputByte(6) + " "
                    + x.outputByte(7));
            TrainDecoder six = Ask.with("track 6 1;train 1 1 1 5;train 2 1 1 4;train 3 1 1 3;train 4 1 1 2;train 5 1 1 1;"
                    + "train 6 1 1 0;");
            six.writeTrack();
            Check.equal("the greatest digit", "543210", Ask.output(six));
        });
        s.holds("Writes the track to the output, which is replaced.", () -> {
            TrainDecoder x = Ask.with("track 24 1;train 1 1 1 23;");
            x.writeTrack();
            Check.equal("long", "-".repeat(23) + "0", Ask.output(x));
            Ask.load(x, "track 4 1;tunnel 3;train 1 1 1 0;");
            Check.equal("shorter", 4, x.writeTrack());
            Check.equal("nothing is left of the long one", "0--n", Ask.output(x));
            Check.outside(x, "byte 4", () -> x.outputByte(4));
        });
        s.holds("Returns the number of bytes of the output, which is the number of sections.", () -> {
            for (int sections : new int[] {4, 5, 23, 24}) {
                TrainDecoder x = Ask.with("track " + sections + " 1;train 1 1 1 0;");
                Check.equal("bytes", sections, x.writeTrack());
                Check.equal("bytes that are there", sections, Ask.output(x).length());
            }
        });
        s.end();
    }

    private static void outputByte(Sentences s) {
        s.holds("The output changes in writeTrack only.", () -> {
            TrainDecoder x = Ask.with("track 5 1;train 1 5 1 0;");
            Check.equal("before it", "", Ask.output(x));
            x.writeTrack();
            Check.Call[] calls = {
                () -> x.saveSnapshot(), () -> x.readdress(0, 9), () -> x.setShort(3, true), () -> x.setSpeed(0, 28),
                () -> x.passTicks(30), () -> Ask.run(x, "short 4;"), () -> x.undo(), () -> x.restoreSnapshot(),
                () -> Ask.load(x, "track"), () -> Ask.load(x, "track 9 1;train 1 1 1 8;"), () -> x.clearQueue(),
            };
            for (Check.Call call : calls) {
                call.run();
                Check.equal("output", "0----", Ask.output(x));
            }
            x.writeTrack();
            Check.equal("written anew", "--------0", Ask.output(x));
        });
        s.holds("Throws IndexOutOfBoundsException if there is no such byte", () -> {
            TrainDecoder x = Ask.with("track 24 1;train 1 1 1 23;");
            Check.outside(x, "byte 0 of an empty output", () -> x.outputByte(0));
            x.writeTrack();
            Check.equal("the first", 45, x.outputByte(0));
            Check.equal("the last", 48, x.outputByte(23));
            for (int index : new int[] {-1, 24, 25, Integer.MAX_VALUE, Integer.MIN_VALUE}) {
                Check.outside(x, "byte " + index, () -> x.outputByte(index));
            }
            Ask.load(x, "track 4 1;train 1 1 1 0;");
            Check.equal("still the last", 48, x.outputByte(23));
            x.writeTrack();
            for (int index : new int[] {-1, 4, 23, 24}) {
                Check.outside(x, "byte " + index + " of 4", () -> x.outputByte(index));
            }
        });
        s.end();
    }

    private static void undoableCount(Sentences s) {
        s.holds("Returns 0 to 8.", () -> {
            TrainDecoder x = new TrainDecoder();
            Check.equal("none", 0, x.undoableCount());
            for (int changes = 1; changes <= 20; changes++) {
                x.setSpeed(9, 1);
                x.clearQueue();
                Check.equal("changes", Math.min(2 * changes, 8), x.undoableCount());
            }
            for (int left = 7; left >= 0; left--) {
                x.undo();
                Check.equal("left", left, x.undoableCount());
            }
            Check.untimely(x, "one more", () -> x.undo());
            Check.equal("none again", 0, x.undoableCount());
        });
        s.end();
    }

    private static void undo(Sentences s) {
        s.holds("Undoes the latest change: the railway becomes as it was before it, including all counts.", () -> {
            TrainDecoder x = Ask.with("track 5 3;tunnel 4;train 1 5 1 0;train 2 5 2 1;train 3 5 3 4;");
            String first = Ask.railway(x);
            Ask.run(x, "packet 0 5 6;speed 0 28;lamp 0 9;wait 20;short 0;short 1;short 2;short 3;wait 1;");
            String second = Ask.railway(x);
            x.passTicks(60);
            Check.equal("counts", true, x.blockedTicks(0) > 0 && x.rejected(1) > 0 && x.unheard(2) > 0 && x.obeyed(0) > 0
                    && x.sectionsEntered(1) > 0 && x.cutoffs() > 1 && x.sentPackets() > 0 && x.silence(2) > 0);
            x.undo();
            Check.equal("before the latest", second, Ask.railway(x));
            x.undo();
            Check.equal("before the first", first, Ask.railway(x));
        });
        s.holds("The input buffer, the parse error, the output and the snapshot are not affected.", () -> {
            TrainDecoder x = new TrainDecoder();
            x.saveSnapshot();
            x.setSpeed(0, 28);
            x.passTicks(60);
            x.writeTrack();
            String output = Ask.output(x);
            Ask.run(x, "wait 5;wait 61;");
            Ask.append(x, "wait 7;");
            x.undo();
            x.undo();
            Check.equal("output", output, Ask.output(x));
            Check.equal("error", "2 12", x.errorCode() + " " + x.errorOffset());
            Check.equal("bytes", 40, Ask.append(x, "wait 8;"));
            Check.equal("the buffer", 2, x.runScript(40));
            Check.equal("ticks of it", 15, x.tick());
            Check.equal("the snapshot", 0, x.restoreSnapshot());
            TrainDecoder y = new TrainDecoder();
            y.setSpeed(0, 28);
            y.undo();
            Check.untimely(y, "no snapshot comes into being", () -> y.restoreSnapshot());
        });
        s.holds("Returns the number of changes that can still be undone.", () -> {
            TrainDecoder x = new TrainDecoder();
            for (int changes = 0; changes < 9; changes++) {
                x.clearQueue();
            }
            for (int left = 7; left >= 0; left--) {
                Check.equal("left", left, x.undo());
            }
        });
        s.holds("Throws IllegalStateException if there is nothing to undo", () -> {
            TrainDecoder x = new TrainDecoder();
            Check.untimely(x, "at first", () -> x.undo());
            x.saveSnapshot();
            x.writeTrack();
            x.ticksToCutoff();
            Ask.run(x, "wait");
            Check.untimely(x, "after calls that are no changes", () -> x.undo());
            x.clearQueue();
            x.undo();
            Check.untimely(x, "after the only one", () -> x.undo());
            x.clearQueue();
            Ask.load(x, "track 4 1;train 1 1 1 0;");
            Check.untimely(x, "after loading", () -> x.undo());
            x.saveSnapshot();
            x.clearQueue();
            x.restoreSnapshot();
            Check.untimely(x, "after restoring", () -> x.undo());
        });
        s.end();
    }

    private static void saveSnapshot(Sentences s) {
        s.holds("Saves a snapshot of the railway, including all counts.", () -> {
            TrainDecoder x = Ask.with("track 5 3;tunnel 4;train 1 5 1 0;train 2 5 2 1;train 3 5 3 4;");
            Ask.run(x, "packet 0 5 6;speed 0 28;lamp 0 9;wait 20;short 0;short 1;short 2;short 3;wait 1;stop 9;");
            String saved = Ask.railway(x);
            x.saveSnapshot();
            Check.equal("saving changes nothing", saved, Ask.railway(x));
            Check.equal("saving is no change", 1, x.undoableCount());
            Ask.run(x, "mend 0;mend 1;mend 2;mend 3;packet 0 5 6;speed 0 28;wait 60;");
            x.stop(0);
            x.passTicks(1);
            x.readdress(2, 77);
            x.restoreSnapshot();
            Check.equal("all of it", saved, Ask.railway(x));
        });
        s.holds("An earlier snapshot is replaced.", () -> {
            TrainDecoder x = new TrainDecoder();
            x.saveSnapshot();
            x.passTicks(5);
            x.saveSnapshot();
            Check.equal("the later one", 5, x.restoreSnapshot());
            x.passTicks(1);
            x.saveSnapshot();
            x.undo();
            Check.equal("the latest one", 6, x.restoreSnapshot());
        });
        s.end();
    }

    private static void restoreSnapshot(Sentences s) {
        s.holds("Restores the snapshot, which is kept.", () -> {
            TrainDecoder x = new TrainDecoder();
            x.setSpeed(3, 28);
            x.saveSnapshot();
            String saved = Ask.railway(x);
            for (int times = 1; times <= 3; times++) {
                x.passTicks(times);
                x.setShort(times, true);
                Check.equal("tick", 0, x.restoreSnapshot());
                Check.equal("restored", saved, Ask.railway(x));
            }
            Check.equal("twice in a row", 0, x.restoreSnapshot());
            x.passTicks(1);
            x.undo();
            Check.equal("a change behind it is undone", saved, Ask.railway(x));
        });
        s.holds("The undo history is cleared.", () -> {
            TrainDecoder x = new TrainDecoder();
            x.clearQueue();
            x.saveSnapshot();
            x.clearQueue();
            x.restoreSnapshot();
            Check.equal("undoable", 0, x.undoableCount());
            Check.untimely(x, "undo", () -> x.undo());
        });
        s.holds("Returns the value of tick() afterwards.", () -> {
            TrainDecoder x = new TrainDecoder();
            x.saveSnapshot();
            Ask.pass(x, 10000);
            Check.equal("the first one", 0, x.restoreSnapshot());
            Ask.pass(x, 10000);
            x.saveSnapshot();
            Check.equal("the last one", 10000, x.restoreSnapshot());
            Check.untimely(x, "no tick is left", () -> x.passTicks(1));
        });
        s.holds("Throws IllegalStateException if there is no snapshot", () -> {
            TrainDecoder x = new TrainDecoder();
            Check.untimely(x, "at first", () -> x.restoreSnapshot());
            x.setSpeed(0, 1);
            x.undo();
            Check.untimely(x, "after an undo", () -> x.restoreSnapshot());
            x.saveSnapshot();
            Ask.load(x, "track 4 1;");
            Check.equal("a wrong railway does not discard it", 0, x.restoreSnapshot());
            Ask.load(x, "track 4 1;train 1 1 1 0;");
            Check.untimely(x, "a new railway does", () -> x.restoreSnapshot());
        });
        s.end();
    }
}
