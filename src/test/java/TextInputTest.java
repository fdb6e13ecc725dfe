/** Promises 2 to 5 and the grammar of a railway. */
final class TextInputTest {
    private static final String TRACK = "track 10 4;";

    public static void main(String[] args) {
        appendText();
        loadRailway();
        loadingBeginsAnew();
        wrongLengths();
        parseErrorsAreKept();
        errorsOfTheHeader();
        errorsOfTunnelsAndShorts();
        errorsOfTrains();
        tokens();
        Check.end();
    }

    private static void appendText() {
        TrainDecoder x = new TrainDecoder();
        Check.equal("first 20 bytes", 20, x.appendText(0x74726163, 0x6b203520, 0x313b7472, 0x61696e20, 0x37203120));
        Check.equal("next 20 bytes", 40, x.appendText(0x3220333b, 0x20202020, 0x20202020, 0x20202020, 0x20202020));
        Check.equal("its train", 1, x.loadRailway(24));
        Check.equal("its sections", 5, x.sectionCount());
        Check.equal("its address", 7, x.address(0));
        Check.equal("its section", 3, x.sectionOf(0));
        for (int calls = 1; calls <= 25; calls++) {
            Check.equal("bytes after " + calls + " calls", 20 * calls, x.appendText(-1, -1, -1, -1, -1));
        }
        Check.equal("too many bytes", -1, x.appendText(0, 0, 0, 0, 0));
        Check.equal("still too many", -1, x.appendText(0, 0, 0, 0, 0));
        Check.unfit(x, "501 bytes", () -> x.loadRailway(501));
        Check.equal("500 bytes", -1, x.loadRailway(500));
        Check.equal("a full buffer is empty afterwards", 20, x.appendText(0, 0, 0, 0, 0));
        bytesKeepTheirOrder();
    }

    /** Each place of the 20 bytes is the one that breaks the text. */
    private static void bytesKeepTheirOrder() {
        for (int place = 0; place < 20; place++) {
            TrainDecoder x = new TrainDecoder();
            StringBuilder text = new StringBuilder("                    ");
            text.setCharAt(place, (char) 255);
            Check.equal("an invalid byte", -1, Ask.run(x, text.toString()));
            Check.equal("its offset", place, x.errorOffset());
        }
    }

    private static void loadRailway() {
        TrainDecoder x = new TrainDecoder();
        String text = "track 24 20;tunnel 0;short 0;tunnel 23;tunnel 0;short 23;short 23;"
                + "train 127 5 9 23;train 1 1 1 0;train 2 2 2 1;train 3 3 3 2;train 4 4 4 3;train 5 5 5 4;";
        Check.equal("six trains", 6, Ask.load(x, text));
        Check.equal("error", 0, x.errorCode());
        Check.equal("offset", -1, x.errorOffset());
        Check.equal("sections", 24, x.sectionCount());
        Check.equal("tunnels", 2, x.tunnelCount());
        Check.equal("short 0", true, x.hasShort(0));
        Check.equal("short 23", true, x.hasShort(23));
        Check.equal("short 1", false, x.hasShort(1));
        Check.equal("addresses", "127 1 2 3 4 5", x.address(0) + " " + x.address(1) + " " + x.address(2) + " "
                + x.address(3) + " " + x.address(4) + " " + x.address(5));
        Check.equal("sections", "23 0 1 2 3 4", x.sectionOf(0) + " " + x.sectionOf(1) + " " + x.sectionOf(2) + " "
                + x.sectionOf(3) + " " + x.sectionOf(4) + " " + x.sectionOf(5));
        Check.equal("the least railway", 1, Ask.load(x, "track 4 1;train 1 1 1 0;"));
        Check.equal("its sections", 4, x.sectionCount());
        Check.equal("its trains", 1, x.trainCount());
        Check.equal("its tunnels", 0, x.tunnelCount());
        Ask.append(x, "track 9 9;train 9 1 1 8;train 8 1 1 8;");
        Check.equal("only the first bytes", 1, x.loadRailway(24));
        Check.equal("the rest is gone", 20, x.appendText(0, 0, 0, 0, 0));
    }

    private static void loadingBeginsAnew() {
        TrainDecoder x = new TrainDecoder();
        String fresh = Ask.railway(Ask.with(TRACK + "train 1 1 1 0;train 2 1 1 2;"));
        x.setSpeed(0, 20);
        x.sendPacket(0, 1, 2);
        x.setLamp(0, 15);
        x.passTicks(60);
        x.setShort(2, true);
        x.passTicks(1);
        x.stop(3);
        x.saveSnapshot();
        x.ticksToCutoff();
        x.writeTrack();
        String output = Ask.output(x);
        String before = Ask.railway(x);
        Check.equal("a wrong text", -1, Ask.load(x, TRACK));
        Check.equal("the railway stays", before, Ask.railway(x));
        Check.equal("the history stays", 7, x.undoableCount());
        x.clearQueue();
        Check.equal("the snapshot stays", 61, x.restoreSnapshot());
        Check.equal("it was that railway", before, Ask.railway(x));
        x.clearQueue();
        x.setSpeed(0, 9);
        x.speedAfter(0, 0);
        Check.equal("a good text", 2, Ask.load(x, TRACK + "train 1 1 1 0;train 2 1 1 2;"));
        Check.equal("all is new", fresh, Ask.railway(x));
        Check.equal("no history", 0, x.undoableCount());
        Check.untimely(x, "restoreSnapshot after loading", () -> x.restoreSnapshot());
        Check.equal("the output stays", output, Ask.output(x));
    }

    private static void wrongLengths() {
        TrainDecoder x = new TrainDecoder();
        Check.equal("no error yet", 0, x.errorCode());
        Check.equal("no offset yet", -1, x.errorOffset());
        Ask.append(x, "track 5 5;train 1 1 1 1;");
        Check.unfit(x, "length -1", () -> x.loadRailway(-1));
        Check.unfit(x, "the least length", () -> x.loadRailway(Integer.MIN_VALUE));
        Check.unfit(x, "length 41", () -> x.loadRailway(41));
        Check.unfit(x, "the greatest length", () -> x.loadRailway(Integer.MAX_VALUE));
        Check.equal("the buffer is as before", 60, x.appendText(0x20202020, 0x20202020, 0x20202020, 0x20202020, 0x20202020));
        Check.equal("all bytes", 1, x.loadRailway(60));
        Check.equal("no bytes", -1, x.loadRailway(0));
        Check.equal("code of an empty text", 1, x.errorCode());
        Check.equal("offset of an empty text", 0, x.errorOffset());
    }

    private static void parseErrorsAreKept() {
        TrainDecoder x = new TrainDecoder();
        Ask.load(x, "track 3");
        Check.equal("code", 2, x.errorCode());
        Check.equal("offset", 6, x.errorOffset());
        Check.unfit(x, "a call that throws", () -> x.loadRailway(1));
        Check.unfit(x, "a script that throws", () -> x.runScript(1));
        x.setSpeed(0, 1);
        x.undo();
        x.saveSnapshot();
        x.restoreSnapshot();
        Check.equal("the code stays", 2, x.errorCode());
        Check.equal("the offset stays", 6, x.errorOffset());
        Ask.run(x, " stop 128;");
        Check.equal("code of a script", 2, x.errorCode());
        Check.equal("offset of a script", 6, x.errorOffset());
        Ask.run(x, "stop 127;");
        Check.equal("no code", 0, x.errorCode());
        Check.equal("no offset", -1, x.errorOffset());
        Ask.load(x, "tracks");
        Check.equal("a new code", 1, x.errorCode());
        Check.equal("a new offset", 0, x.errorOffset());
        Ask.load(x, "track 4 1;train 1 1 1 0;");
        Check.equal("no code any more", 0, x.errorCode());
        Check.equal("no offset any more", -1, x.errorOffset());
    }

    private static void errorsOfTheHeader() {
        error("", 1, 0);
        error("   \n ", 1, 5);
        error("train 1 1 1 1;", 1, 0);
        error("trac 4 1;", 1, 0);
        error("trackk 4 1;", 1, 0);
        error("xrack 4 1;", 1, 0);
        error("trackz 4 1;", 1, 0);
        error("Track 4 1;", 1, 0);
        error("track", 1, 5);
        error("track ;", 1, 6);
        error("track four", 1, 6);
        error("track -4", 1, 6);
        error("track 3 1;", 2, 6);
        error("track 25 1;", 2, 6);
        error("track 4 0;", 2, 8);
        error("track 4 21;", 2, 8);
        error("track 4;", 1, 7);
        error("track 4 1", 1, 9);
        error("track 4 1 1;", 1, 10);
        error("track 4 1;", 1, 10);
        error("track 4 1; ", 1, 11);
        error("track 4 1;;", 1, 10);
        error("track 4 1;train", 1, 15);
        error("track 4 1;track", 1, 10);
        error("track 4 1;(", 1, 10);
        error("track 4 1;9", 1, 10);
    }

    private static void errorsOfTunnelsAndShorts() {
        error(TRACK + "tunnel 10;", 2, 18);
        error(TRACK + "tunnel;", 1, 17);
        error(TRACK + "tunnel 9", 1, 19);
        error(TRACK + "tunnel 9 9", 1, 20);
        error(TRACK + "tunnel 9;", 1, 20);
        error(TRACK + "short 10;", 2, 17);
        error(TRACK + "short 9)", 1, 18);
        error(TRACK + "short x", 1, 17);
        error(TRACK + "tunnels 1;", 1, 11);
        error(TRACK + "mend 1;", 1, 11);
        error("track 24 1;short 24;", 2, 17);
        error(TRACK + "train 1 1 1 0;tunnel 1;", 1, 25);
        error(TRACK + "train 1 1 1 0;short 1;", 1, 25);
    }

    private static void errorsOfTrains() {
        error(TRACK + "train 0 1 1 0;", 2, 17);
        error(TRACK + "train 128 1 1 0;", 2, 17);
        error(TRACK + "train 1 0 1 0;", 2, 19);
        error(TRACK + "train 1 6 1 0;", 2, 19);
        error(TRACK + "train 1 1 0 0;", 2, 21);
        error(TRACK + "train 1 1 10 0;", 2, 21);
        error(TRACK + "train 1 1 1 10;", 2, 23);
        error(TRACK + "train 1 1 1;", 1, 22);
        error(TRACK + "train 1 1 1 0", 1, 24);
        error(TRACK + "train 1 1 1 0 0", 1, 25);
        error(TRACK + "train 1 1 1 0;;", 1, 25);
        error(TRACK + "train 1 1 1 0;trains", 1, 25);
        error(TRACK + "train 1 1 1 0;train 1 1 1 1;", 3, 31);
        error(TRACK + "train 1 1 1 0;train 2 1 1 0;", 3, 37);
        error(TRACK + "train 1 1 1 0;train 2 1 1 00", 3, 37);
        error(TRACK + "train 1 1 1 0;train 128 1 1 0;", 2, 31);
        error(TRACK + "train 1 1 1 0;train 2 1 1 0x", 3, 37);
        error(TRACK + "train 1 1 1 0;train 2 6 1 0;", 2, 33);
        error(TRACK + "train 5 1 1 5;train 6 1 1 6;train 5 1 1 6;", 3, 45);
        String six = "track 9 1;train 1 1 1 1;train 2 1 1 2;train 3 1 1 3;train 4 1 1 4;train 5 1 1 5;train 6 1 1 6;";
        Check.equal("six trains", 6, Ask.load(new TrainDecoder(), six));
        error(six + "train 7 1 1 7;", 4, six.length());
        error(six + " train", 4, six.length() + 1);
        error(six + "trains", 1, six.length());
        error(six + "tunnel 1;", 1, six.length());
        error(six + ";", 1, six.length());
        error(six + "7", 1, six.length());
    }

    private static void tokens() {
        TrainDecoder x = new TrainDecoder();
        Check.equal("no separators", 2, Ask.load(x, "track4 1;train1 1 1 1;train2 1 1 2;"));
        Check.equal("separators", 1, Ask.load(x, "\n\n track\n4 1 ;\n train 1\n1 1\n1 ;\n "));
        Check.equal("leading zeros", 1, Ask.load(x,
                "track 00000000000000000000000000000000000008 0001;train 007 01 01 0000;"));
        Check.equal("sections", 8, x.sectionCount());
        Check.equal("address", 7, x.address(0));
        error("track 4294967300 1;", 2, 6);
        error("track 18446744073709551620 1;", 2, 6);
        error("track 99999999999999999999999999999999999999999999999999999999999999999999999999 1;", 2, 6);
        error("track 1 1x", 2, 6);
        error("track 4x 1;", 1, 7);
        error("track\t4 1;", 1, 5);
        error("track\r4 1;", 1, 5);
        error("track " + (char) 0 + "4 1;", 1, 6);
        error("track 4" + (char) 255 + "1;", 1, 7);
        error("track 4 1;train`1 1 1 0;", 1, 15);
        error("track 4 1;train{1 1 1 0;", 1, 15);
        error("track 4/1;", 1, 7);
        error("track 4:1;", 1, 7);
        error("track 4 1;traiN 1 1 1 0;", 1, 10);
        error("track 4 1;train 1 1 1 0.", 1, 23);
        Ask.append(x, "track 4 1;train 1 1 1 0;train 2 1 1 1;");
        Check.equal("a word that the length cuts", -1, x.loadRailway(28));
        Check.equal("its code", 1, x.errorCode());
        Check.equal("its offset", 24, x.errorOffset());
        Ask.append(x, "track 24 1;");
        Check.equal("a number that the length cuts", -1, x.loadRailway(7));
        Check.equal("its code", 2, x.errorCode());
    }

    private static void error(String text, int code, int offset) {
        TrainDecoder x = new TrainDecoder();
        String before = Ask.railway(x);
        Check.equal("'" + text + "'", -1, Ask.load(x, text));
        Check.equal("code of '" + text + "'", code, x.errorCode());
        Check.equal("offset of '" + text + "'", offset, x.errorOffset());
        Check.equal("railway after '" + text + "'", before, Ask.railway(x));
        Check.equal("undoable after '" + text + "'", 0, x.undoableCount());
        Check.equal("the buffer after '" + text + "'", 20, x.appendText(0, 0, 0, 0, 0));
    }
}
