/** Promises 56 to 61. */
final class OutputHistoryTest {
    public static void main(String[] args) {
        output();
        wrongIndexes();
        undoEachKindOfChange();
        eightChanges();
        undoLeavesTheRestAlone();
        undoBringsBackAllCounts();
        snapshots();
        Check.end();
    }

    private static void output() {
        TrainDecoder x = Ask.with("track 12 5;tunnel 3;tunnel 4;tunnel 5;tunnel 0;short 5;short 7;short 0;short 11;"
                + "train 1 1 1 0;train 2 1 1 2;train 3 1 1 1;train 4 1 1 3;train 5 1 1 11;train 6 1 1 8;");
        Check.equal("no output", "", Ask.output(x));
        Check.equal("bytes", 12, x.writeTrack());
        Check.equal("track", "0213n!-!5--4", Ask.output(x));
        Ask.load(x, "track 4 1;tunnel 1;train 1 5 1 3;");
        Check.equal("the old output", "0213n!-!5--4", Ask.output(x));
        Check.equal("fewer bytes", 4, x.writeTrack());
        Check.equal("the new track", "-n-0", Ask.output(x));
        x.setSpeed(1, 28);
        x.passTicks(20);
        Check.equal("not written yet", "-n-0", Ask.output(x));
        x.writeTrack();
        Check.equal("the train has run", "-n-0".length(), Ask.output(x).length());
        Check.equal("it is where it is", '0', x.outputByte(x.sectionOf(0)));
        Check.equal("writing is no change", 2, x.undoableCount());
    }

    private static void wrongIndexes() {
        TrainDecoder x = new TrainDecoder();
        Check.outside(x, "outputByte(0) of none", () -> x.outputByte(0));
        x.writeTrack();
        Check.equal("the last byte", 45, x.outputByte(7));
        for (int index : new int[] {-1, 8, 23, 24, Integer.MAX_VALUE, Integer.MIN_VALUE}) {
            Check.outside(x, "outputByte(" + index + ")", () -> x.outputByte(index));
        }
    }

    private static TrainDecoder busy() {
        TrainDecoder x = new TrainDecoder();
        Ask.run(x, "speed 0 28;lamp 0 9;packet 3 1 1;wait 9;speed 3 5;lamp 5 3;stop 9;short 1;");
        return x;
    }

    private static void undoEachKindOfChange() {
        TrainDecoder x = busy();
        undoes(x, "sendPacket", () -> x.sendPacket(1, 2, 3));
        undoes(x, "setSpeed", () -> x.setSpeed(3, 28));
        undoes(x, "setLamp", () -> x.setLamp(0, 1));
        undoes(x, "stop", () -> x.stop(0));
        undoes(x, "setShort that makes", () -> x.setShort(0, true));
        undoes(x, "setShort that mends", () -> x.setShort(1, false));
        undoes(x, "clearQueue", () -> x.clearQueue());
        undoes(x, "passTicks", () -> x.passTicks(60));
        undoes(x, "runScript", () -> Ask.run(x, "repeat 5(short 0;wait 9;packet 3 3 3;);"));
        TrainDecoder y = new TrainDecoder();
        y.setSpeed(5, 3);
        undoes(y, "readdress", () -> y.readdress(1, 77));
    }

    private static void undoes(TrainDecoder x, String what, Check.Call change) {
        String before = Ask.all(x);
        int count = x.undoableCount();
        change.run();
        Check.equal(what + " counts", count + 1, x.undoableCount());
        Check.equal("undo of " + what, count, x.undo());
        Check.equal("after undo of " + what, before, Ask.all(x));
    }

    private static void eightChanges() {
        TrainDecoder x = new TrainDecoder();
        String[] before = new String[30];
        for (int i = 0; i < 30; i++) {
            before[i] = Ask.railway(x);
            x.setSpeed(i % 2 * 2 + 3, i % 29);
            Check.equal("undoable", Math.min(i + 1, 8), x.undoableCount());
            i++;
            before[i] = Ask.railway(x);
            x.passTicks(7);
            Check.equal("undoable", Math.min(i + 1, 8), x.undoableCount());
        }
        for (int left = 7; left >= 4; left--) {
            Check.equal("left", left, x.undo());
            Check.equal("railway " + left, before[22 + left], Ask.railway(x));
        }
        x.setShort(0, true);
        Check.equal("a new change", 5, x.undoableCount());
        Check.equal("undone", 4, x.undo());
        for (int left = 3; left >= 0; left--) {
            Check.equal("left", left, x.undo());
            Check.equal("railway " + left, before[22 + left], Ask.railway(x));
        }
        Check.untimely(x, "the ninth", () -> x.undo());
    }

    private static void undoLeavesTheRestAlone() {
        TrainDecoder x = new TrainDecoder();
        x.saveSnapshot();
        x.setSpeed(0, 28);
        x.passTicks(10);
        Ask.run(x, "wait 0;");
        x.writeTrack();
        Ask.append(x, "wait 5;");
        String output = Ask.output(x);
        x.undo();
        x.undo();
        Check.equal("output", output, Ask.output(x));
        Check.equal("code", 2, x.errorCode());
        Check.equal("offset", 5, x.errorOffset());
        Check.equal("input", 1, x.runScript(20));
        Check.equal("snapshot", 0, x.restoreSnapshot());
    }

    private static void undoBringsBackAllCounts() {
        TrainDecoder x = Ask.with("track 8 4;tunnel 4;train 3 2 4 0;train 5 1 2 2;train 7 1 1 4;");
        String before = Ask.railway(x);
        Ask.run(x, "speed 0 28;packet 5 5 5;lamp 3 3;wait 60;short 2;wait 60;");
        Check.equal("cutoffs", true, x.cutoffs() > 0);
        Check.equal("blocked", true, x.blockedTicks(0) > 0);
        Check.equal("entered", true, x.sectionsEntered(0) > 0);
        Check.equal("rejected", true, x.rejected(1) > 0);
        Check.equal("unheard", true, x.unheard(2) > 0);
        Check.equal("sent", 3, x.sentPackets());
        x.undo();
        Check.equal("all counts", before, Ask.railway(x));
    }

    private static void snapshots() {
        TrainDecoder x = busy();
        String saved = Ask.railway(x);
        x.saveSnapshot();
        Check.equal("saving is no change", 1, x.undoableCount());
        x.passTicks(33);
        x.clearQueue();
        x.setShort(4, true);
        Check.equal("tick", 9, x.restoreSnapshot());
        Check.equal("restored", saved, Ask.railway(x));
        Check.equal("no history", 0, x.undoableCount());
        Check.untimely(x, "undo", () -> x.undo());
        x.passTicks(5);
        x.undo();
        x.passTicks(6);
        Check.equal("it is kept", 9, x.restoreSnapshot());
        Check.equal("restored again", saved, Ask.railway(x));
        x.passTicks(5);
        String later = Ask.railway(x);
        x.saveSnapshot();
        x.passTicks(5);
        Check.equal("replaced", 14, x.restoreSnapshot());
        Check.equal("the later one", later, Ask.railway(x));
        Check.equal("the input is not touched", 1, inputAcrossRestoring());
    }

    private static int inputAcrossRestoring() {
        TrainDecoder x = new TrainDecoder();
        x.saveSnapshot();
        Ask.append(x, "wait 5;");
        x.restoreSnapshot();
        return x.runScript(7);
    }
}
