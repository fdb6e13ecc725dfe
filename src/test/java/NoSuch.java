/** The sentences on sections, trains and packets that are not there, which many promises share. */
final class NoSuch {
    interface Numbered {
        void of(TrainDecoder x, int number);
    }

    private static final String THROWS = "Throws IndexOutOfBoundsException if there is no such ";
    private static final int[] NEVER = {-1, -2, 256, Integer.MAX_VALUE, Integer.MIN_VALUE};

    private NoSuch() {
    }

    static void section(Sentences s, Numbered call) {
        s.holds(THROWS + "section", () -> {
            for (int sections : new int[] {4, 8, 23, 24}) {
                TrainDecoder x = Ask.with("track " + sections + " 1;train 1 1 1 0;");
                takesAllBelow(x, sections, call);
                refuses(x, sections, call);
            }
            TrainDecoder smaller = Ask.with("track 24 1;train 1 1 1 23;");
            Ask.load(smaller, "track 5 1;train 1 1 1 4;");
            refuses(smaller, 5, call);
            refuses(smaller, 23, call);
        });
    }

    static void train(Sentences s, Numbered call) {
        s.holds(THROWS + "train", () -> {
            for (int trains : new int[] {1, 2, 6}) {
                TrainDecoder x = withTrains(trains);
                takesAllBelow(x, trains, call);
                refuses(x, trains, call);
            }
            TrainDecoder fewer = withTrains(6);
            Ask.load(fewer, "track 5 1;train 1 1 1 4;");
            refuses(fewer, 1, call);
            refuses(fewer, 5, call);
        });
    }

    static void packet(Sentences s, Numbered call) {
        s.holds(THROWS + "packet", () -> {
            TrainDecoder x = new TrainDecoder();
            refuses(x, 0, call);
            for (int packets = 1; packets <= 12; packets++) {
                x.setSpeed(9, packets);
                takesAllBelow(x, packets, call);
                refuses(x, packets, call);
            }
            x.passTicks(3);
            takesAllBelow(x, 9, call);
            refuses(x, 9, call);
            x.clearQueue();
            refuses(x, 0, call);
            x.undo();
            takesAllBelow(x, 9, call);
        });
    }

    private static TrainDecoder withTrains(int trains) {
        StringBuilder text = new StringBuilder("track 9 1;");
        for (int t = 0; t < trains; t++) {
            text.append("train ").append(t + 1).append(" 1 1 ").append(t).append(';');
        }
        return Ask.with(text.toString());
    }

    private static void takesAllBelow(TrainDecoder x, int count, Numbered call) {
        for (int number = 0; number < count; number++) {
            int present = number;
            Check.takes("number " + number + " of " + count, () -> call.of(x, present));
        }
    }

    private static void refuses(TrainDecoder x, int count, Numbered call) {
        Check.outside(x, "number " + count, () -> call.of(x, count));
        Check.outside(x, "number " + (count + 1), () -> call.of(x, count + 1));
        for (int number : NEVER) {
            Check.outside(x, "number " + number, () -> call.of(x, number));
        }
    }
}
