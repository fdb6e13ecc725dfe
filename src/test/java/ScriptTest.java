/** Promise 55 and the grammar of a script. */
final class ScriptTest {
    public static void main(String[] args) {
        commands();
        repeats();
        executionStops();
        isOneChange();
        limits();
        errorsOfCommands();
        errorsOfRepeats();
        errorsOfCounts();
        wrongLengths();
        Check.end();
    }

    private static void commands() {
        TrainDecoder x = new TrainDecoder();
        TrainDecoder y = new TrainDecoder();
        x.sendPacket(255, 255, 255);
        x.sendPacket(0, 0, 0);
        x.setSpeed(127, 28);
        x.setSpeed(3, 7);
        x.setLamp(127, 15);
        x.setLamp(0, 4);
        x.stop(127);
        x.setShort(7, true);
        x.setShort(6, false);
        x.passTicks(4);
        x.passTicks(1);
        int executed = Ask.run(y, "packet 255 255 255; packet 0 0 0; speed 127 28; speed 3 7; lamp 127 15; lamp 0 4;"
                + "stop 127; short 7; mend 6; wait 4; wait 1;");
        Check.equal("executed", 11, executed);
        Check.equal("the same", Ask.railway(x), Ask.railway(y));
        Check.equal("stop in a script", 2, Ask.run(y, "speed 3 4;stop 99;"));
        Check.equal("its packet", "99 128 true", y.packetAddress(0) + " " + y.packetCommand(0) + " " + y.isIntact(0));
        Check.equal("an empty script", 0, Ask.run(x, ""));
        Check.equal("spaces", 0, Ask.run(x, " \n "));
        Check.equal("the longest wait", 1, Ask.run(x, "wait 60;"));
        Check.equal("tick", 65, x.tick());
        Check.equal("no separators", 2, Ask.run(x, "speed3 4;packet1 2 3;"));
        Check.equal("the only bytes that count", 1, firstBytes(x));
    }

    private static int firstBytes(TrainDecoder x) {
        Ask.append(x, "wait 1;wait 1;wait 1;");
        int executed = x.runScript(7);
        Check.equal("the rest is gone", 20, x.appendText(0, 0, 0, 0, 0));
        return executed;
    }

    private static void repeats() {
        TrainDecoder x = new TrainDecoder();
        Check.equal("an empty repeat", 0, Ask.run(x, "repeat 5 ();"));
        Check.equal("two waits five times", 10, Ask.run(x, "repeat 5 (wait 1;wait 2;);"));
        Check.equal("tick", 15, x.tick());
        Check.equal("nested", 1 + 2 * (1 + 3 + 1) + 1, Ask.run(x,
                "wait 1;repeat 2 (wait 1;repeat 3 (wait 1;);wait 1;);wait 1;"));
        Check.equal("tick then", 27, x.tick());
        Check.equal("side by side", 2 + 3 + 2 * (2 + 1), Ask.run(x,
                "repeat 2(wait 1;);repeat 3(wait 1;);repeat 2(repeat 2(wait 1;);wait 1;);"));
        Check.equal("nested and empty", 0, Ask.run(x, "repeat 5(repeat 5(););"));
        Check.equal("in order", 4, Ask.run(x, "repeat 2(packet 1 2 3;packet 4 5 6;);"));
        Check.equal("packets", "1 4 1 4", x.packetAddress(0) + " " + x.packetAddress(1) + " "
                + x.packetAddress(2) + " " + x.packetAddress(3));
    }

    private static void executionStops() {
        TrainDecoder x = new TrainDecoder();
        Check.equal("at a full queue", 1 + 3 * (4 + 1), Ask.run(x,
                "wait 1;repeat 5(repeat 4(speed 9 1;);short 0;);wait 9;short 1;"));
        Check.equal("twelve packets", 12, x.queueLength());
        Check.equal("nothing after it", 1, x.tick());
        Check.equal("no short circuit", false, x.hasShort(1));
        stopsAt("packet 1 1 1;");
        stopsAt("speed 1 1;");
        stopsAt("lamp 1 1;");
        stopsAt("stop 1;");
        TrainDecoder y = new TrainDecoder();
        Check.equal("at a section that is not there", 1, Ask.run(y, "short 7;short 8;wait 1;"));
        Check.equal("at one to mend", 1, Ask.run(y, "mend 7;mend 23;wait 1;"));
        Check.equal("no error", 0, y.errorCode());
        Check.equal("tick 0", 0, y.tick());
        Check.equal("short circuits", 1, y.setShort(0, false));
        Ask.pass(y, 9950);
        Check.equal("at the last tick", 2, Ask.run(y, "wait 30;short 1;wait 21;wait 1;"));
        Check.equal("not even a part of the wait", 9980, y.tick());
        Check.equal("in a repeat", 4, Ask.run(y, "repeat 3(wait 5;);repeat 2(wait 5;wait 1;);wait 1;"));
        Check.equal("all ticks", 10000, y.tick());
        Check.equal("at the first command", 0, Ask.run(y, "wait 1;"));
    }

    private static void stopsAt(String command) {
        TrainDecoder x = new TrainDecoder();
        Check.equal("twelve times " + command, 12, Ask.run(x, "repeat 5(repeat 5(" + command + "););wait 1;"));
        Check.equal("queue", 12, x.queueLength());
        Check.equal("tick", 0, x.tick());
        Check.equal("as the first command", 0, Ask.run(x, command));
    }

    private static void isOneChange() {
        TrainDecoder x = new TrainDecoder();
        String before = Ask.railway(x);
        Ask.run(x, "speed 3 28;speed 5 28;repeat 5(wait 3;short 0;mend 6;);");
        Check.equal("one change", 1, x.undoableCount());
        x.undo();
        Check.equal("undone as one", before, Ask.railway(x));
        Ask.run(x, "");
        Check.equal("an empty one is a change", 1, x.undoableCount());
        Ask.run(x, "short 23;");
        Check.equal("one that executes nothing is a change", 2, x.undoableCount());
        Ask.run(x, "speed 3 28;shorts 1;");
        Check.equal("one with an error is not", 2, x.undoableCount());
        Check.equal("nothing of it is executed", before, Ask.railway(x));
        Ask.append(x, "wait 1;");
        Check.unfit(x, "one that throws", () -> x.runScript(21));
        Check.equal("is not either", 2, x.undoableCount());
    }

    private static void limits() {
        error("packet 256 0 0;", 2, 7);
        error("packet 0 256 0;", 2, 9);
        error("packet 0 0 256;", 2, 11);
        error("speed 128 0;", 2, 6);
        error("speed 0 29;", 2, 8);
        error("lamp 128 0;", 2, 5);
        error("lamp 0 16;", 2, 7);
        error("stop 128;", 2, 5);
        error("short 24;", 2, 6);
        error("mend 24;", 2, 5);
        error("wait 0;", 2, 5);
        error("wait 61;", 2, 5);
        error("repeat 1 ();", 2, 7);
        error("repeat 6 ();", 2, 7);
        error("stop 4294967296;", 2, 5);
        error("wait 18446744073709551617;", 2, 5);
        TrainDecoder x = new TrainDecoder();
        Check.equal("the greatest ones", 7, Ask.run(x,
                "packet 255 255 255;speed 127 28;lamp 127 15;stop 127;repeat 2(wait 60;);mend 0;short 23;"));
        Check.equal("the greatest section to mend", 0, Ask.run(x, "mend 23;"));
        Check.equal("the least ones", 10, Ask.run(x,
                "packet 0 0 0;speed 0 0;lamp 0 0;stop 0;repeat 2(wait 1;);repeat 2(mend 0;);short 0;mend 0;"));
    }

    private static void errorsOfCommands() {
        error(";", 1, 0);
        error("wait", 1, 4);
        error("wait ", 1, 5);
        error("wait 1", 1, 6);
        error("wait 1 1;", 1, 7);
        error("wait 1;;", 1, 7);
        error("wait 1;wait", 1, 11);
        error("waits 1;", 1, 0);
        error("wai 1;", 1, 0);
        error("xait 1;", 1, 0);
        error("waitz 1;", 1, 0);
        error("zwait 1;", 1, 0);
        error("wait 1;short 1;xhort 1;", 1, 15);
        error("train 1 1 1 1;", 1, 0);
        error("Wait 1;", 1, 0);
        error("5;", 1, 0);
        error("wait 1;5", 1, 7);
        error("wait wait", 1, 5);
        error("packet 1 2;", 1, 10);
        error("packet 1 2 3 4;", 1, 13);
        error("speed 1;", 1, 7);
        error("lamp 1;", 1, 6);
        error("stop 1 1;", 1, 7);
        error("stop (", 1, 5);
        error("stop #", 1, 5);
        error("stop " + (char) 200 + ";", 1, 5);
        error("wait 60x;", 1, 7);
        error("wait 61x;", 2, 5);
        error("wait 1;)", 1, 7);
        error("(wait 1;);", 1, 0);
        error("wait\t1;", 1, 4);
    }

    private static void errorsOfRepeats() {
        error("repeat", 1, 6);
        error("repeat ();", 1, 7);
        error("repeat 2;", 1, 8);
        error("repeat 2 wait 1;", 1, 9);
        error("repeat 2 (", 1, 10);
        error("repeat 2 (wait 1;", 1, 17);
        error("repeat 2 (wait 1)", 1, 16);
        error("repeat 2 (wait 1;)", 1, 18);
        error("repeat 2 ()wait 1;", 1, 11);
        error("repeat 2 (););", 1, 12);
        error("repeat 2 (;);", 1, 10);
        error("repeat 2 (1);", 1, 10);
        error("repeat 2 (foo 1;);", 1, 10);
        error("repeat 2 ((", 1, 10);
        error("repeat 2 (repeat 2 (repeat 2 ();););", 4, 20);
        error("repeat 2 (repeat 2 (repeat", 4, 20);
        error("repeat 2 (repeat 2 (repeats", 1, 20);
        error("repeat 2 (wait 1;repeat 2 (wait 1;repeat 6", 4, 34);
        Check.equal("two side by side inside one", 4 + 6, Ask.run(new TrainDecoder(),
                "repeat 2(repeat 2(wait 1;);repeat 3(wait 1;););"));
        Check.equal("after two", 5, Ask.run(new TrainDecoder(), "repeat 2(repeat 2(wait 1;););repeat 2(repeat 2(););wait 1;"));
    }

    private static void errorsOfCounts() {
        String twenty = "wait 1;".repeat(20);
        Check.equal("twenty", 20, Ask.run(new TrainDecoder(), twenty));
        error(twenty + "wait 1;", 4, 140);
        error(twenty + "repeat 2();", 4, 140);
        error(twenty + "waits 1;", 1, 140);
        error(twenty + ";", 1, 140);
        error(twenty + "7", 1, 140);
        error(twenty + "stop", 4, 140);
        String nineteen = "wait 1;".repeat(19);
        Check.equal("a repeat is the twentieth", 19, Ask.run(new TrainDecoder(), nineteen + "repeat 2();"));
        error(nineteen + "repeat 2(wait 1;);", 4, 133 + 9);
        error("repeat 2(" + nineteen + "wait 1;);", 4, 9 + 133);
        Check.equal("nineteen inside a repeat", 38, Ask.run(new TrainDecoder(), "repeat 2(" + nineteen + ");"));
        error("repeat 2(" + nineteen + ");repeat 2();", 4, 9 + 133 + 2);
        String two = "repeat 2(repeat 2(" + "wait 1;".repeat(18);
        Check.equal("eighteen inside two", 72, Ask.run(new TrainDecoder(), two + "););"));
        error(two + "repeat 2", 4, two.length());
        error(two + ");stop 1", 4, two.length() + 2);
        Check.equal("the count begins anew", 20, twice(twenty));
    }

    private static int twice(String script) {
        TrainDecoder x = new TrainDecoder();
        Ask.run(x, script);
        return Ask.run(x, script);
    }

    private static void wrongLengths() {
        TrainDecoder x = new TrainDecoder();
        Ask.append(x, "wait 3;");
        Check.unfit(x, "length -1", () -> x.runScript(-1));
        Check.unfit(x, "the least length", () -> x.runScript(Integer.MIN_VALUE));
        Check.unfit(x, "length 21", () -> x.runScript(21));
        Check.unfit(x, "the greatest length", () -> x.runScript(Integer.MAX_VALUE));
        Check.equal("the buffer is as before", 1, x.runScript(20));
        Check.equal("tick", 3, x.tick());
        Check.equal("empty now", 0, x.runScript(0));
    }

    private static void error(String text, int code, int offset) {
        TrainDecoder x = new TrainDecoder();
        String before = Ask.railway(x);
        Check.equal("'" + text + "'", -1, Ask.run(x, text));
        Check.equal("code of '" + text + "'", code, x.errorCode());
        Check.equal("offset of '" + text + "'", offset, x.errorOffset());
        Check.equal("railway after '" + text + "'", before, Ask.railway(x));
        Check.equal("undoable after '" + text + "'", 0, x.undoableCount());
        Check.equal("the buffer after '" + text + "'", 20, x.appendText(0, 0, 0, 0, 0));
    }
}
