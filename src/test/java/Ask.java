/** Asks an object for all that it tells, as one text. */
final class Ask {
    private Ask() {
    }

    /** The railway, and all that undo leaves as it is, but for the input buffer and the snapshot. */
    static String all(TrainDecoder x) {
        return railway(x) + "error " + x.errorCode() + " at " + x.errorOffset()
                + "; undoable " + x.undoableCount() + "; output " + output(x);
    }

    /** What a change changes and undo brings back. */
    static String railway(TrainDecoder x) {
        StringBuilder text = new StringBuilder();
        text.append("tick ").append(x.tick()).append(", power ").append(x.isPowerOn())
                .append(' ').append(x.remainingCutoff()).append(' ').append(x.cutoffs()).append('\n');
        for (int s = 0; s < x.sectionCount(); s++) {
            text.append(x.isTunnel(s) ? "T" : "").append(x.hasShort(s) ? "S" : "")
                    .append(x.trainIn(s)).append(' ');
        }
        text.append(x.tunnelCount()).append(" tunnels\n");
        for (int t = 0; t < x.trainCount(); t++) {
            train(text, x, t);
        }
        text.append("fastest ").append(x.fastestTrain()).append(", mean ").append(x.meanSpeed())
                .append(", share ").append(x.obeyedShare()).append('\n');
        for (int p = 0; p < x.queueLength(); p++) {
            text.append(x.packetAddress(p)).append('.').append(x.packetCommand(p)).append('.')
                    .append(x.isIntact(p)).append(' ');
        }
        text.append("sent ").append(x.sentPackets()).append(", gap ").append(x.gap()).append('\n');
        return text.toString();
    }

    private static void train(StringBuilder text, TrainDecoder x, int t) {
        int[] numbers = {
            x.address(t), x.sectionOf(t), x.advance(t), x.speed(t), x.targetSpeed(t), x.brightness(t), x.duty(t),
            x.silence(t), x.sectionsEntered(t), x.obeyed(t), x.rejected(t), x.unheard(t), x.blockedTicks(t),
            x.freeAhead(t), x.packetsFor(t), x.brakingTicks(t), x.brakingDistance(t),
        };
        text.append("train ").append(t).append(':');
        for (int number : numbers) {
            text.append(' ').append(number);
        }
        text.append('\n');
    }

    static String output(TrainDecoder x) {
        StringBuilder text = new StringBuilder();
        try {
            for (int i = 0; i < 1000; i++) {
                text.append((char) x.outputByte(i));
            }
        } catch (IndexOutOfBoundsException e) {
            return text.toString();
        }
        return "no end";
    }

    /** Appends the text, filled up with spaces to a multiple of 20 bytes; returns the last call's answer. */
    static int append(TrainDecoder x, String text) {
        int answer = 0;
        for (int i = 0; i < text.length(); i += 20) {
            answer = x.appendText(four(text, i), four(text, i + 4), four(text, i + 8), four(text, i + 12),
                    four(text, i + 16));
        }
        return answer;
    }

    private static int four(String text, int from) {
        int four = 0;
        for (int i = from; i < from + 4; i++) {
            four = four << 8 | (i < text.length() ? text.charAt(i) : ' ');
        }
        return four;
    }

    static int load(TrainDecoder x, String text) {
        append(x, text);
        return x.loadRailway(text.length());
    }

    static int run(TrainDecoder x, String text) {
        append(x, text);
        return x.runScript(text.length());
    }

    /** A new object with this railway. */
    static TrainDecoder with(String text) {
        TrainDecoder x = new TrainDecoder();
        int trains = load(x, text);
        if (trains < 1) {
            Check.equal("trains of " + text, 1, trains);
        }
        return x;
    }

    /** More ticks than one call lets pass. */
    static void pass(TrainDecoder x, int ticks) {
        for (int left = ticks; left > 0; left -= 60) {
            x.passTicks(Math.min(left, 60));
        }
    }
}
