/** The boundary sentences of the text input and of the promises 1 to 5. */
final class TextBoundaryTest {
    private static final String BLANKS = "                    ";

    public static void main(String[] args) {
        newObject(Sentences.of("Promise 1"));
        appendText(Sentences.of("Promise 2"));
        loadRailway(Sentences.of("Promise 3"));
        errorCode(Sentences.of("Promise 4"));
        errorOffset(Sentences.of("Promise 5"));
        Sentences s = Sentences.of("Text input");
        tokens(s);
        railways(s);
        scripts(s);
        errors(s);
        codes(s);
        s.end();
        Check.end();
    }

    /** Loading the text into a new object answers so. */
    private static void loads(String text, int trains) {
        Check.equal("loading " + text, trains, Ask.load(new TrainDecoder(), text));
    }

    /** Running the text on a new object answers so. */
    private static void runs(String text, int executed) {
        Check.equal("running " + text, executed, Ask.run(new TrainDecoder(), text));
    }

    private static void wrongRailway(String text, int code, int offset) {
        TrainDecoder x = new TrainDecoder();
        int answer = Ask.load(x, text);
        Check.equal("railway " + text, "-1 " + code + " " + offset, answer + " " + x.errorCode() + " " + x.errorOffset());
    }

    private static void wrongScript(String text, int code, int offset) {
        TrainDecoder x = new TrainDecoder();
        int answer = Ask.run(x, text);
        Check.equal("script " + text, "-1 " + code + " " + offset, answer + " " + x.errorCode() + " " + x.errorOffset());
    }

    private static void newObject(Sentences s) {
        s.holds("Creates the railway \"track 8 4;tunnel 3;tunnel 4;short 6;train 3 2 4 0;train 5 1 2 2;\", with an empty"
                + " input buffer and an empty output.", () -> {
            TrainDecoder x = new TrainDecoder();
            TrainDecoder y = Ask.with("track 8 4;tunnel 3;tunnel 4;short 6;train 3 2 4 0;train 5 1 2 2;");
            Check.equal("that railway", Ask.all(y), Ask.all(x));
            Check.unfit(x, "no byte to load", () -> x.loadRailway(1));
            Check.unfit(x, "no byte to run", () -> x.runScript(1));
            Check.outside(x, "no byte of output", () -> x.outputByte(0));
            Check.equal("first bytes", 20, x.appendText(0, 0, 0, 0, 0));
            String script = "speed 0 28;wait 19;lamp 0 9;speed 3 2;wait 9;speed 5 1;wait 30;short 0;short 4;wait 20;";
            TrainDecoder z = new TrainDecoder();
            Ask.run(z, script);
            Ask.run(y, script);
            Check.equal("it behaves as that railway", Ask.railway(y), Ask.railway(z));
        });
        s.holds("It is tick 0, the power is on, the queue is empty, all speeds, targets, advances, duties, brightnesses"
                + " and silences are 0, and nothing can be undone.", () -> {
            TrainDecoder x = new TrainDecoder();
            Check.equal("tick, power, queue", "0 true 0", x.tick() + " " + x.isPowerOn() + " " + x.queueLength());
            for (int t = 0; t < 2; t++) {
                Check.equal("train " + t, "0 0 0 0 0 0", x.speed(t) + " " + x.targetSpeed(t) + " " + x.advance(t) + " "
                        + x.duty(t) + " " + x.brightness(t) + " " + x.silence(t));
            }
            Check.equal("undoable", 0, x.undoableCount());
            Check.untimely(x, "undo", () -> x.undo());
        });
        s.end();
    }

    private static void appendText(Sentences s) {
        s.holds("Appends 20 bytes to the input buffer: the four bytes of each parameter, the most significant byte first.",
                () -> appendsAt(0, 19));
        s.holds("a: bytes 0 to 3", () -> appendsAt(0, 3));
        s.holds("b: bytes 4 to 7", () -> appendsAt(4, 7));
        s.holds("c: bytes 8 to 11", () -> appendsAt(8, 11));
        s.holds("d: bytes 12 to 15", () -> appendsAt(12, 15));
        s.holds("e: bytes 16 to 19", () -> appendsAt(16, 19));
        s.holds("Returns the new number of bytes in the buffer; -1 if it would exceed 500, in which case nothing is"
                + " appended.", () -> {
            TrainDecoder x = new TrainDecoder();
            Ask.append(x, "track 4 1;train 1 1 1 0;");
            for (int bytes = 60; bytes <= 500; bytes += 20) {
                Check.equal("bytes", bytes, x.appendText(0x20202020, 0x20202020, 0x20202020, 0x20202020, 0x20202020));
            }
            Check.equal("more than 500", -1, x.appendText(-1, -1, -1, -1, -1));
            Check.equal("still more than 500", -1, x.appendText(0x3b3b3b3b, -1, -1, -1, -1));
            Check.unfit(x, "501 bytes", () -> x.loadRailway(501));
            Check.unfit(x, "520 bytes", () -> x.loadRailway(520));
            Check.equal("500 bytes as they were", 1, x.loadRailway(500));
            Check.equal("room again", 20, x.appendText(-1, -1, -1, -1, -1));
        });
        s.end();
    }

    /** At each of these places of the 20 bytes an invalid byte of either sign is found, and the others are blank. */
    private static void appendsAt(int first, int last) {
        for (int place = first; place <= last; place++) {
            for (int invalid : new int[] {1, 127, 128, 255}) {
                int[] fours = {0x20202020, 0x20202020, 0x20202020, 0x20202020, 0x20202020};
                int shift = 24 - place % 4 * 8;
                fours[place / 4] = 0x20202020 & ~(255 << shift) | invalid << shift;
                TrainDecoder x = new TrainDecoder();
                Check.equal("bytes", 20, x.appendText(fours[0], fours[1], fours[2], fours[3], fours[4]));
                Check.equal("an error", -1, x.runScript(20));
                Check.equal("its place", place, x.errorOffset());
            }
        }
    }

    private static void loadRailway(Sentences s) {
        s.holds("Parses the first bytes of the input buffer as a railway.", () -> {
            String text = "track 9 1;train 12 1 1 0;train 3 1 1 1;";
            for (int length : new int[] {25, 39, 40}) {
                TrainDecoder x = new TrainDecoder();
                Ask.append(x, text);
                Check.equal("of the first " + length, length == 25 ? 1 : 2, x.loadRailway(length));
            }
            TrainDecoder x = new TrainDecoder();
            Ask.append(x, text);
            Check.equal("of the first 24", -1, x.loadRailway(24));
            Check.equal("it ends too early", "1 24", x.errorCode() + " " + x.errorOffset());
            Check.equal("of none", -1, x.loadRailway(0));
            Check.equal("it ends at once", "1 0", x.errorCode() + " " + x.errorOffset());
        });
        s.holds("If there is no error, a new railway replaces the old one: it is tick 0, the power is on, the queue is"
                + " empty, all speeds, targets, advances, duties, brightnesses, silences and counts are 0, the undo"
                + " history is cleared, and the snapshot is discarded.", () -> {
            String[] texts = {"track 4 1;train 9 1 1 3;", "track 5 5;tunnel 4;short 1;train 1 1 1 0;train 2 1 1 1;"};
            for (String text : texts) {
                TrainDecoder x = busy();
                Ask.load(x, text);
                Check.equal("all but the error and the output", Ask.railway(Ask.with(text)), Ask.railway(x));
                Check.equal("no history", 0, x.undoableCount());
                Check.untimely(x, "undo", () -> x.undo());
                Check.untimely(x, "restoreSnapshot", () -> x.restoreSnapshot());
            }
        });
        s.holds("The buffer is emptied in any case.", () -> {
            TrainDecoder x = new TrainDecoder();
            Check.equal("a good text", 1, Ask.load(x, "track 4 1;train 1 1 1 0;"));
            Check.unfit(x, "nothing to load", () -> x.loadRailway(1));
            Ask.append(x, "track 4 1;train 1 1 1 0;");
            Check.equal("the rest of the bytes is not parsed", -1, x.loadRailway(3));
            Check.unfit(x, "nothing to load", () -> x.loadRailway(1));
            Ask.append(x, "wait 1;");
            Check.equal("a text of no byte", -1, x.loadRailway(0));
            Check.unfit(x, "nothing to run", () -> x.runScript(1));
            Check.equal("first bytes", 20, Ask.append(x, "wait 1;"));
        });
        s.holds("Returns the number of trains; -1 if there is a parse error, in which case the railway stays as it is.", () -> {
            loads("track 4 1;train 1 1 1 0;", 1);
            loads("track 6 1;train 1 1 1 0;train 2 1 1 1;train 3 1 1 2;train 4 1 1 3;train 5 1 1 4;train 6 1 1 5;", 6);
            for (String wrong : new String[] {"", "track 4 1;", "track 4 1;train 1 1 1 0;;", "track 4 1;train 1 1 1 4;"}) {
                TrainDecoder x = busy();
                String before = Ask.railway(x);
                Check.equal("a parse error", -1, Ask.load(x, wrong));
                Check.equal("the railway", before, Ask.railway(x));
                Check.equal("the history", 5, x.undoableCount());
                Check.equal("four are left", 4, x.undo());
                Check.equal("the snapshot", 21, x.restoreSnapshot());
            }
        });
        s.holds("Throws IllegalArgumentException if length is negative or greater than the number of bytes in the buffer;"
                + " the buffer is not emptied then", () -> {
            TrainDecoder x = new TrainDecoder();
            Check.unfit(x, "one of no byte", () -> x.loadRailway(1));
            Ask.append(x, "track 4 1;train 1 1 1 0;");
            for (int length : new int[] {-1, 41, 500, 501, Integer.MAX_VALUE, Integer.MIN_VALUE}) {
                Check.unfit(x, "length " + length, () -> x.loadRailway(length));
            }
            Check.equal("the buffer is not emptied", 60, x.appendText(0x20202020, 0x20202020, 0x20202020, 0x20202020, -1));
            Check.equal("all but one of the bytes", 1, x.loadRailway(56));
        });
        s.end();
    }

    /** Much is different from what a new railway has. */
    private static TrainDecoder busy() {
        TrainDecoder x = Ask.with("track 5 20;tunnel 4;train 1 5 1 0;train 2 5 1 1;train 3 5 1 4;");
        Ask.run(x, "packet 0 5 6;speed 0 28;lamp 0 9;wait 20;short 0;short 1;short 2;wait 1;");
        x.saveSnapshot();
        x.stop(0);
        x.clearQueue();
        x.stop(0);
        x.setSpeed(1, 28);
        // A forecast works on a railway of its own, which loading may use again.
        x.speedAfter(0, 0);
        Check.equal("power is off", false, x.isPowerOn());
        Check.equal("counts", true, x.blockedTicks(0) > 0 && x.rejected(1) > 0 && x.unheard(2) > 0 && x.obeyed(0) > 0
                && x.sectionsEntered(1) + x.sectionsEntered(2) > 0 && x.cutoffs() > 0 && x.sentPackets() > 0);
        return x;
    }

    private static void errorCode(Sentences s) {
        s.holds("Returns the code of the parse error of the latest call of loadRailway or runScript that did not throw.", () -> {
            TrainDecoder x = new TrainDecoder();
            Ask.load(x, "track 3");
            Check.unfit(x, "a call that throws", () -> x.loadRailway(1));
            Check.unfit(x, "a script that throws", () -> x.runScript(-1));
            Check.equal("of loadRailway", 2, x.errorCode());
            Ask.run(x, "waits");
            Check.equal("of runScript", 1, x.errorCode());
            Ask.load(x, "track 4 1;train 1 1 1 1;train 1");
            Check.equal("of the latest", 3, x.errorCode());
        });
        s.holds("Returns 1 to 4; 0 if that call found no error or there was no such call.", () -> {
            TrainDecoder x = new TrainDecoder();
            Check.equal("no call", 0, x.errorCode());
            Check.unfit(x, "a call that throws", () -> x.loadRailway(-1));
            Check.unfit(x, "a script that throws", () -> x.runScript(1));
            Check.equal("no call but those", 0, x.errorCode());
            Ask.run(x, "wait 1;".repeat(20) + "wait");
            Check.equal("the greatest code", 4, x.errorCode());
            Ask.run(x, "wait 1;");
            Check.equal("a script without an error", 0, x.errorCode());
            Ask.load(x, "");
            Check.equal("the least code", 1, x.errorCode());
            Ask.load(x, "track 4 1;train 1 1 1 1;");
            Check.equal("a railway without an error", 0, x.errorCode());
        });
        s.end();
    }

    private static void errorOffset(Sentences s) {
        s.holds("Returns the offset of the parse error of the latest call of loadRailway or runScript that did not throw.", () -> {
            TrainDecoder x = new TrainDecoder();
            Ask.load(x, "track 3");
            Check.unfit(x, "a call that throws", () -> x.loadRailway(1));
            Check.unfit(x, "a script that throws", () -> x.runScript(-1));
            Check.equal("of loadRailway", 6, x.errorOffset());
            Ask.run(x, "wait 1;waits");
            Check.equal("of runScript", 7, x.errorOffset());
            Ask.load(x, "rack");
            Check.equal("of the latest", 0, x.errorOffset());
        });
        s.holds("Returns the offset; -1 if that call found no error or there was no such call.", () -> {
            TrainDecoder x = new TrainDecoder();
            Check.equal("no call", -1, x.errorOffset());
            Check.unfit(x, "a call that throws", () -> x.loadRailway(-1));
            Check.equal("no call but that", -1, x.errorOffset());
            Ask.run(x, " ".repeat(499) + "x");
            Check.equal("the last of 500 bytes", 499, x.errorOffset());
            Ask.load(x, " ".repeat(500));
            Check.equal("the end of 500 bytes", 500, x.errorOffset());
            Ask.run(x, "");
            Check.equal("a script without an error", -1, x.errorOffset());
            Ask.run(x, "x");
            Check.equal("the first byte", 0, x.errorOffset());
            Ask.load(x, "track 4 1;train 1 1 1 1;");
            Check.equal("a railway without an error", -1, x.errorOffset());
        });
        s.end();
    }

    private static void tokens(Sentences s) {
        s.holds("Texts are read from an input buffer of at most 500 bytes.", () -> {
            String railway = "track 4 1;train 1 1 1 0;";
            loads(" ".repeat(500 - railway.length()) + railway, 1);
            TrainDecoder x = new TrainDecoder();
            Ask.append(x, railway + " ".repeat(500 - railway.length()));
            Check.equal("a 501st byte", -1, Ask.append(x, ";"));
            Check.unfit(x, "501 bytes", () -> x.runScript(501));
            Check.equal("500 bytes", 1, x.loadRailway(500));
        });
        s.holds("A word is a maximal run of the letters a to z.", () -> {
            loads("track4 1;train1 1 1 0;", 1);
            runs("stop9;packet1 2 3;", 2);
            for (String wrong : new String[] {"tra ck 4 1;", "trac 4 1;", "track\tt 4 1;", "trackk 4 1;", "tracktrack 4 1;"}) {
                loads(wrong + "train 1 1 1 0;", -1);
            }
            wrongRailway("tra ck 4 1;", 1, 0);
            for (String letter : new String[] {"a", "k", "m", "z"}) {
                wrongRailway("track" + letter + " 4 1;", 1, 0);
                wrongRailway(letter + "track 4 1;", 1, 0);
                wrongRailway(letter + "rack 4 1;", 1, 0);
                wrongRailway("trac" + letter + letter + " 4 1;", 1, 0);
            }
            wrongRailway("track a", 1, 6);
            wrongRailway("track z", 1, 6);
            wrongRailway("track 4 1;trai`n 1 1 1 0;", 1, 10);
            wrongRailway("track 4 1;train{1 1 1 0;", 1, 15);
            wrongRailway("trackA 4 1;", 1, 5);
        });
        s.holds("A number is a maximal run of decimal digits of any length.", () -> {
            loads("track 0000000000000000000000000008 01;train 0000127 05 09 07;", 1);
            loads("track " + "0".repeat(470) + "8 1;train 127 5 9 7;", 1);
            String[] beyondPowersOfTwo = {"264", "65544", "2147483656", "4294967304", "18446744073709551624",
                "340282366920938463463374607431768211464"};
            for (String number : beyondPowersOfTwo) {
                wrongRailway("track " + number + " 1;", 2, 6);
            }
            for (int zeros = 0; zeros < 40; zeros++) {
                wrongRailway("track 1" + "0".repeat(zeros) + "8 ", zeros == 0 ? 1 : 2, zeros == 0 ? 9 : 6);
            }
            wrongRailway("track " + "9".repeat(480) + " 1;", 2, 6);
            wrongRailway("track 8 " + "1".repeat(490), 2, 8);
            wrongRailway("track 1 0;", 2, 6);
            wrongRailway("track 8 1 0;", 1, 10);
            wrongRailway("track 8/1;", 1, 7);
            wrongRailway("track 8:1;", 1, 7);
            wrongScript("wait -1;", 1, 5);
            wrongScript("wait +1;", 1, 5);
            wrongScript("wait 1.0;", 1, 6);
            TrainDecoder x = new TrainDecoder();
            Ask.run(x, "wait 009;wait 0;");
            Check.equal("the second one", "2 14", x.errorCode() + " " + x.errorOffset());
            Ask.run(x, "wait 019;");
            Check.equal("the digits 0 and 9", 19, x.tick());
        });
        s.holds("The characters ; and ( and ) are tokens.", () -> {
            runs("repeat 2(repeat 2(stop 1;);wait 1;);", 6);
            runs("repeat 2 ( repeat 2 ( stop 1 ; ) ; wait 1 ; ) ;", 6);
            wrongScript(";;", 1, 0);
            wrongScript("((", 1, 0);
            wrongScript("))", 1, 0);
            wrongScript("stop 1;;", 1, 7);
            wrongScript("stop 1(", 1, 6);
            wrongScript("stop 1)", 1, 6);
            wrongScript("repeat 2;", 1, 8);
            wrongScript("repeat 2)", 1, 8);
            wrongScript("repeat 2(;", 1, 9);
            wrongScript("repeat 2((", 1, 9);
            wrongScript("repeat 2())", 1, 10);
        });
        s.holds("Spaces (byte 32) and line feeds (byte 10) separate tokens and have no other meaning.", () -> {
            loads("\n \ntrack\n4 \n 1\n;\n\ntrain 1\n1  1 0 ; \n", 1);
            loads("track4 1;train1 1 1 0;", 1);
            loads("track 41;train 1 1 1 0;", -1);
            runs("\n\n", 0);
            runs(" \nstop\n1\n;\n", 1);
            wrongScript("stop 1 2;", 1, 7);
            wrongScript("stop\n1\n2;", 1, 7);
            wrongScript("st\nop 1;", 1, 0);
        });
        s.holds("Every other byte is an invalid token.", () -> {
            for (int sign = 0; sign < 256; sign++) {
                boolean isOther = !(sign >= 'a' && sign <= 'z' || sign >= '0' && sign <= '9' || sign == ';' || sign == '('
                        || sign == ')' || sign == ' ' || sign == '\n');
                if (isOther) {
                    wrongRailway("track 4 1" + (char) sign + ";", 1, 9);
                    wrongScript((char) sign + "wait 1;", 1, 0);
                    wrongScript("wai" + (char) sign + "t 1;", 1, 0);
                    wrongScript("wait 1;" + (char) sign, 1, 7);
                }
            }
        });
    }

    private static void railways(Sentences s) {
        s.holds("The grammar of a railway, where quotes enclose literal tokens and braces enclose what may occur any number"
                + " of times (also not at all):", () -> {
            loads("track 4 1;train 1 1 1 0;", 1);
            loads("track 4 1;tunnel 1;train 1 1 1 0;", 1);
            loads("track 4 1;short 1;tunnel 1;short 2;train 1 1 1 0;train 2 1 1 1;", 2);
            loads("track 9 1;" + "short 8;".repeat(58) + "train 1 1 1 0;", 1);
            loads("track 9 1;" + "tunnel 8;".repeat(52) + "train 1 1 1 0;", 1);
            runs("", 0);
            runs("repeat 2();", 0);
        });
        s.holds("railway = \"track\" sections cutoff \";\" { \"tunnel\" section \";\" | \"short\" section \";\" } train { train }",
                () -> {
            wrongRailway("", 1, 0);
            wrongRailway("track 4 1;", 1, 10);
            wrongRailway("track 4 1;tunnel 1;", 1, 19);
            wrongRailway("train 1 1 1 0;", 1, 0);
            wrongRailway("track 4 1;train 1 1 1 0;tunnel 1;", 1, 24);
            wrongRailway("track 4 1;train 1 1 1 0;short 1;", 1, 24);
            wrongRailway("track 4 1;track 4 1;", 1, 10);
            wrongRailway("track 4 1;train 1 1 1 0;track 4 1;", 1, 24);
        });
        s.holds("train = \"train\" address acceleration divisor section \";\"", () -> {
            String[] shorter = {"train", "train 1", "train 1 1", "train 1 1 1", "train 1 1 1 1"};
            for (String text : shorter) {
                wrongRailway("track 4 1;" + text, 1, 10 + text.length());
                wrongRailway("track 4 1;" + text + " x", 1, 11 + text.length());
            }
            wrongRailway("track 4 1;train;", 1, 15);
            wrongRailway("track 4 1;train 1 1 1 1 1;", 1, 24);
        });
        s.holds("All of these are numbers: sections 4 to 24; cutoff 1 to 20; section 0 to sections minus 1; the others as"
                + " above.", () -> {
            String rest = " 1;train 1 1 1 3;";
            inRange("track %;", 4, 24, "track %" + rest);
            inRange("cutoff", 1, 20, "track 4 %;train 1 1 1 3;");
            for (int sections : new int[] {4, 13, 24}) {
                String track = "track " + sections + " 1;";
                inRange("tunnel of " + sections, 0, sections - 1, track + "tunnel %;train 1 1 1 3;");
                inRange("short of " + sections, 0, sections - 1, track + "short %;train 1 1 1 3;");
                inRange("train in one of " + sections, 0, sections - 1, track + "train 1 1 1 %;");
            }
            inRange("address", 1, 127, "track 4 1;train % 1 1 3;");
            inRange("acceleration", 1, 5, "track 4 1;train 1 % 1 3;");
            inRange("divisor", 1, 9, "track 4 1;train 1 1 % 3;");
        });
        s.holds("A section may be named several times as a tunnel or as a short circuit.", () -> {
            TrainDecoder x = Ask.with("track 9 1;tunnel 3;tunnel 3;short 3;short 3;tunnel 3;short 8;short 8;train 1 1 1 3;");
            Check.equal("tunnels", 1, x.tunnelCount());
            Check.equal("both", "true true", x.isTunnel(3) + " " + x.hasShort(3));
            Check.equal("short circuits", 1, x.setShort(3, false));
            Check.equal("named twice, mended once", false, x.hasShort(3));
        });
    }

    /** The number may be from least to most where the per cent sign stands, and neither less nor more. */
    private static void inRange(String what, int least, int most, String text) {
        int offset = text.indexOf('%');
        for (int number : new int[] {least - 1, least, least + 1, most - 1, most, most + 1, most + 256}) {
            TrainDecoder x = new TrainDecoder();
            int trains = Ask.load(x, text.replace("%", Integer.toString(number)));
            if (number >= least && number <= most) {
                Check.equal(what + " " + number, "1 0 -1", trains + " " + x.errorCode() + " " + x.errorOffset());
            } else {
                int code = number < 0 ? 1 : 2;
                Check.equal(what + " " + number, "-1 " + code + " " + offset,
                        trains + " " + x.errorCode() + " " + x.errorOffset());
            }
        }
    }

    private static void scripts(Sentences s) {
        s.holds("script = { command \";\" }", () -> {
            runs("", 0);
            runs("mend 1;", 1);
            runs("mend 1;mend 1;", 2);
            wrongScript(";", 1, 0);
            wrongScript("mend 1", 1, 6);
            wrongScript("mend 1;mend 1", 1, 13);
            wrongScript("mend 1 mend 1;", 1, 7);
        });
        s.holds("command = \"packet\" byte byte byte | \"speed\" address step | \"lamp\" address duty | \"stop\" address |"
                + " \"short\" section | \"mend\" section | \"wait\" count | \"repeat\" times \"(\" { command \";\" } \")\"", () -> {
            String[] whole = {"packet 1 1 1", "speed 1 1", "lamp 1 1", "stop 1", "short 1", "mend 1", "wait 1"};
            for (String command : whole) {
                runs(command + ";", 1);
                wrongScript(command, 1, command.length());
                wrongScript(command + " 1;", 1, command.length() + 1);
                String one = command.substring(0, command.length() - 2);
                wrongScript(one + ";", 1, one.length());
                wrongScript(one, 1, one.length());
            }
            runs("repeat 2 (stop 1;);", 2);
            wrongScript("repeat 2 stop 1;", 1, 9);
            wrongScript("repeat (stop 1;);", 1, 7);
            wrongScript("repeat 2 (stop 1);", 1, 16);
            wrongScript("repeat 2 (stop 1;)", 1, 18);
            wrongScript("repeat 2 (stop 1;;", 1, 17);
            wrongScript("repeat 2 (stop 1;", 1, 17);
        });
        s.holds("All of these are numbers: byte 0 to 255; address 0 to 127; step 0 to 28; duty 0 to 15; section 0 to 23;"
                + " count 1 to 60; times 2 to 5.", () -> {
            takesFrom(0, 255, "packet % 0 0;", 1);
            takesFrom(0, 255, "packet 0 % 0;", 1);
            takesFrom(0, 255, "packet 0 0 %;", 1);
            takesFrom(0, 127, "speed % 0;", 1);
            takesFrom(0, 28, "speed 0 %;", 1);
            takesFrom(0, 127, "lamp % 0;", 1);
            takesFrom(0, 15, "lamp 0 %;", 1);
            takesFrom(0, 127, "stop %;", 1);
            takesFrom(0, 23, "short %;", 1);
            takesFrom(0, 23, "mend %;", 1);
            takesFrom(1, 60, "wait %;", 1);
            takesFrom(2, 5, "repeat % ();", 0);
        });
        s.holds("A script has at most 20 commands; a repeat and the commands inside it all count for this limit.", () -> {
            runs("stop 1;".repeat(2) + "mend 1;".repeat(18), 20);
            wrongScript("mend 1;".repeat(21), 4, 140);
            runs("repeat 2(" + "mend 1;".repeat(19) + ");", 38);
            wrongScript("repeat 2(" + "mend 1;".repeat(20) + ");", 4, 9 + 133);
            wrongScript("repeat 2(" + "mend 1;".repeat(19) + ");mend 1;", 4, 9 + 133 + 2);
            runs("repeat 2();".repeat(20), 0);
            wrongScript("repeat 2();".repeat(21), 4, 220);
            runs("repeat 5(repeat 5(" + "mend 1;".repeat(18) + "););", 450);
            wrongScript("repeat 5(repeat 5(" + "mend 1;".repeat(18) + ");mend 1;);", 4, 18 + 126 + 2);
        });
        s.holds("A repeat may be inside another repeat, but not inside two other repeats.", () -> {
            runs("repeat 2(repeat 3(mend 1;););", 6);
            runs("repeat 2(repeat 2(mend 1;);repeat 3(mend 1;););repeat 2(repeat 2(mend 1;););", 14);
            wrongScript("repeat 2(repeat 3(repeat 2(mend 1;);););", 4, 18);
            wrongScript("repeat 2(repeat 3(mend 1;repeat 2(););););", 4, 25);
            wrongScript("repeat 2(repeat 2(mend 1;);repeat 2(repeat 2();););", 4, 36);
        });
        s.holds("A script is parsed completely before its first command is executed.", () -> {
            TrainDecoder x = new TrainDecoder();
            String before = Ask.railway(x);
            Check.equal("an error at the end", -1, Ask.run(x, "speed 3 28;wait 60;short 0;stop 5;wait 61;"));
            Check.equal("nothing is executed", before, Ask.railway(x));
            Check.equal("an error behind a command that cannot be executed", -1, Ask.run(x, "short 23;mend 24;"));
            Check.equal("its code", 2, x.errorCode());
        });
    }

    private static void takesFrom(int least, int most, String text, int executed) {
        int offset = text.indexOf('%');
        for (int number : new int[] {least - 1, least, least + 1, most - 1, most, most + 1, most + 256}) {
            // There, section 23 can be executed too.
            TrainDecoder x = Ask.with("track 24 1;train 1 1 1 0;");
            int answer = Ask.run(x, text.replace("%", Integer.toString(number)));
            if (number >= least && number <= most) {
                Check.equal(text + " of " + number, executed + " 0", answer + " " + x.errorCode());
            } else {
                int code = number < 0 ? 1 : 2;
                Check.equal(text + " of " + number, "-1 " + code + " " + offset,
                        answer + " " + x.errorCode() + " " + x.errorOffset());
            }
        }
    }

    private static void errors(Sentences s) {
        s.holds("Parsing stops at the first token that causes an error.", () -> {
            wrongRailway("track 3 21;tunnel 99;train 0 6 10 4;", 2, 6);
            wrongRailway("track 4 21;tunnel 99;train 0 6 10 4;", 2, 8);
            wrongRailway("track 4 1 tunnel 99;train 0 6 10 4;", 1, 10);
            wrongRailway("track 4 1;tunnel 99 train 0 6 10 4;", 2, 17);
            wrongRailway("track 4 1;tunnel 3;train 0 6 10 4;", 2, 25);
            wrongRailway("track 4 1;train 1 1 1 0;train 1 6 1 0;", 3, 30);
            wrongRailway("track 4 1;train 1 1 1 0;train 2 6 1 0;", 2, 32);
            wrongScript("wait 61;waits", 2, 5);
            wrongScript("waits 61;", 1, 0);
            wrongScript("packet 0 256 256;", 2, 9);
        });
        s.holds("The error offset is the offset of the first byte of this token, or the length of the text if the text ends"
                + " too early.", () -> {
            wrongScript("wait 12345;", 2, 5);
            wrongScript("  \n waits 1;", 1, 4);
            wrongScript("wait 1;\n\n\nfoo", 1, 10);
            wrongScript("wait 1", 1, 6);
            wrongScript("wait 1  \n", 1, 9);
            wrongScript("wait", 1, 4);
            wrongRailway("", 1, 0);
            wrongRailway(" ", 1, 1);
            TrainDecoder x = new TrainDecoder();
            Ask.append(x, "wait 1;wait 1;");
            Check.equal("a text that the length ends", -1, x.runScript(12));
            Check.equal("is as long as this length", "1 12", x.errorCode() + " " + x.errorOffset());
        });
        s.holds("If several errors apply to the same token, the one with the smallest code is reported.", () -> {
            String twenty = "mend 1;".repeat(20);
            wrongScript(twenty + "mends 1;", 1, 140);
            wrongScript(twenty + "track 1;", 1, 140);
            wrongScript(twenty + ";", 1, 140);
            wrongScript(twenty + "20", 1, 140);
            wrongScript(twenty + "#", 1, 140);
            wrongScript("repeat 2(repeat 2(repeats 2(", 1, 18);
            String six = "track 6 1;train 1 1 1 0;train 2 1 1 1;train 3 1 1 2;train 4 1 1 3;train 5 1 1 4;train 6 1 1 5;";
            wrongRailway(six + "trains 7 1 1 6;", 1, six.length());
            wrongRailway(six + "tunnel 1;", 1, six.length());
            wrongRailway(six + "short 1;", 1, six.length());
            wrongRailway(six + "7", 1, six.length());
        });
    }

    private static void codes(Sentences s) {
        s.holds("Code 1: the token is not allowed at this place, it is invalid, or the text ends too early.", () -> {
            wrongRailway("track 4 1;train 1 1 1 0;)", 1, 24);
            wrongRailway("track 4 1;train 1 1 1 0;!", 1, 24);
            wrongRailway("track 4 1;train 1 1 1 0", 1, 23);
            wrongScript("stop stop", 1, 5);
            wrongScript("stop !", 1, 5);
            wrongScript("stop", 1, 4);
        });
        s.holds("Code 2: a number is out of range.", () -> {
            wrongRailway("track 25 1;", 2, 6);
            wrongScript("stop 128;", 2, 5);
            wrongScript("stop 128", 2, 5);
        });
        s.holds("Code 3: the address of a train that an earlier train has, or the section of a train in which an earlier"
                + " train is.", () -> {
            String two = "track 9 1;train 7 1 1 0;train 8 1 1 1;";
            wrongRailway(two + "train 7 1 1 2;", 3, two.length() + 6);
            wrongRailway(two + "train 8 1 1 2;", 3, two.length() + 6);
            wrongRailway(two + "train 9 1 1 0;", 3, two.length() + 12);
            wrongRailway(two + "train 9 1 1 1;", 3, two.length() + 12);
            wrongRailway(two + "train 007", 3, two.length() + 6);
            loads(two + "train 9 1 1 2;", 3);
            loads(two + "train 1 1 1 7;", 3);
        });
        s.holds("Code 4: the first word of the 7th train of a railway, the first word of the 21st command of a script, or"
                + " the word repeat of a repeat inside two other repeats.", () -> {
            String six = "track 7 1;train 1 1 1 0;train 2 1 1 1;train 3 1 1 2;train 4 1 1 3;train 5 1 1 4;train 6 1 1 5;";
            loads(six, 6);
            wrongRailway(six + "\ntrain 7 1 1 6;", 4, six.length() + 1);
            wrongRailway(six + "train", 4, six.length());
            String[] words = {"packet", "speed", "lamp", "stop", "short", "mend", "wait", "repeat"};
            for (String word : words) {
                wrongScript("mend 1;".repeat(20) + " " + word, 4, 141);
            }
            wrongScript("repeat 2(repeat 2( repeat", 4, 19);
            wrongScript("repeat 2(repeat 2(" + "mend 1;".repeat(18) + "repeat", 4, 144);
        });
    }
}
