/** The boundary sentences of the promises 6 to 33, on the track, the power and the trains. */
final class TrainsBoundaryTest {
    interface Count {
        int of(TrainDecoder x);
    }

    public static void main(String[] args) {
        tick(Sentences.of("Promise 6"));
        sections();
        power();
        trainCount(Sentences.of("Promise 15"));
        addresses();
        sectionOf(Sentences.of("Promise 18"));
        numbersOfATrain();
        silence(Sentences.of("Promise 24"));
        counts();
        fastestTrain(Sentences.of("Promise 30"));
        freeAhead(Sentences.of("Promise 31"));
        meanSpeed(Sentences.of("Promise 32"));
        obeyedShare(Sentences.of("Promise 33"));
        Check.end();
    }

    private static void tick(Sentences s) {
        s.holds("Returns 0 to 10000 (10000 if all ticks have passed).", () -> {
            TrainDecoder x = new TrainDecoder();
            Check.equal("at first", 0, x.tick());
            x.passTicks(1);
            Check.equal("after one", 1, x.tick());
            Ask.pass(x, 9998);
            Check.equal("before the last one", 9999, x.tick());
            x.passTicks(1);
            Check.equal("after the last one", 10000, x.tick());
            Check.untimely(x, "one more", () -> x.passTicks(1));
            Check.equal("no more in a script", 0, Ask.run(x, "wait 1;"));
            Check.equal("still", 10000, x.tick());
        });
        s.end();
    }

    private static void sections() {
        Sentences count = Sentences.of("Promise 7");
        count.holds("Returns 4 to 24.", () -> {
            for (int sections = 4; sections <= 24; sections++) {
                Check.equal("sections", sections, Ask.with("track " + sections + " 1;train 1 1 1 0;").sectionCount());
            }
        });
        count.end();
        Sentences tunnel = Sentences.of("Promise 8");
        NoSuch.section(tunnel, (x, section) -> x.isTunnel(section));
        tunnel.holds("Returns whether it is a tunnel.", () -> {
            TrainDecoder x = Ask.with("track 24 1;tunnel 0;tunnel 23;short 1;short 22;train 1 1 1 0;");
            for (int section = 0; section < 24; section++) {
                Check.equal("section " + section, section == 0 || section == 23, x.isTunnel(section));
            }
        });
        tunnel.end();
        Sentences shortCircuit = Sentences.of("Promise 9");
        NoSuch.section(shortCircuit, (x, section) -> x.hasShort(section));
        shortCircuit.holds("Returns whether it has one.", () -> {
            TrainDecoder x = Ask.with("track 24 1;short 0;short 23;tunnel 1;tunnel 22;train 1 1 1 0;");
            x.setShort(23, false);
            x.setShort(12, true);
            for (int section = 0; section < 24; section++) {
                Check.equal("section " + section, section == 0 || section == 12, x.hasShort(section));
            }
        });
        shortCircuit.end();
        Sentences train = Sentences.of("Promise 10");
        NoSuch.section(train, (x, section) -> x.trainIn(section));
        train.holds("Returns the number of the train; -1 if there is none.", () -> {
            TrainDecoder x = Ask.with("track 4 1;tunnel 1;short 2;train 1 5 1 0;train 2 5 1 3;");
            Check.equal("trains", "0 -1 -1 1", inAll(x));
            x.setSpeed(1, 25);
            x.passTicks(6);
            Check.equal("one has gone on", "-1 0 -1 1", inAll(x));
        });
        train.end();
        Sentences tunnels = Sentences.of("Promise 11");
        tunnels.holds("Returns the number of sections that are tunnels.", () -> {
            Check.equal("none", 0, Ask.with("track 4 1;short 1;train 1 1 1 0;").tunnelCount());
            Check.equal("all", 4, Ask.with("track 4 1;tunnel 3;tunnel 0;tunnel 1;tunnel 2;train 1 1 1 0;").tunnelCount());
        });
        tunnels.end();
    }

    private static String inAll(TrainDecoder x) {
        return x.trainIn(0) + " " + x.trainIn(1) + " " + x.trainIn(2) + " " + x.trainIn(3);
    }

    private static void power() {
        Sentences on = Sentences.of("Promise 12");
        on.holds("Returns whether it is on.", () -> {
            TrainDecoder x = Ask.with("track 4 1;short 0;train 1 1 1 0;");
            Check.equal("at first", true, x.isPowerOn());
            x.passTicks(1);
            Check.equal("cut off", false, x.isPowerOn());
            x.passTicks(1);
            Check.equal("on again", true, x.isPowerOn());
        });
        on.end();
        Sentences remaining = Sentences.of("Promise 13");
        remaining.holds("Returns the number of ticks after which the power is on again; 0 if it is on.", () -> {
            TrainDecoder x = Ask.with("track 4 20;train 1 1 1 0;");
            Check.equal("on", 0, x.remainingCutoff());
            x.setShort(0, true);
            Check.equal("a short circuit alone", 0, x.remainingCutoff());
            x.passTicks(1);
            x.setShort(0, false);
            for (int left = 20; left > 0; left--) {
                Check.equal("off", left + " false", x.remainingCutoff() + " " + x.isPowerOn());
                x.passTicks(1);
            }
            Check.equal("on again", "0 true", x.remainingCutoff() + " " + x.isPowerOn());
            x.passTicks(1);
            Check.equal("still on", "0 true", x.remainingCutoff() + " " + x.isPowerOn());
        });
        remaining.end();
        Sentences cutoffs = Sentences.of("Promise 14");
        cutoffs.holds("Returns the number of times that the power was cut off since the railway was loaded.", () -> {
            TrainDecoder x = Ask.with("track 4 3;short 0;train 1 1 1 0;");
            Check.equal("none", 0, x.cutoffs());
            x.passTicks(1);
            Check.equal("one", 1, x.cutoffs());
            x.passTicks(3);
            Check.equal("none while it is off", 1, x.cutoffs());
            x.passTicks(1);
            Check.equal("two", 2, x.cutoffs());
            x.setShort(0, false);
            x.passTicks(60);
            Check.equal("still two", 2, x.cutoffs());
            Ask.load(x, "track 4 3;train 1 1 1 0;");
            Check.equal("loaded anew", 0, x.cutoffs());
        });
        cutoffs.end();
    }

    private static void trainCount(Sentences s) {
        s.holds("Returns 1 to 6.", () -> {
            StringBuilder text = new StringBuilder("track 6 1;");
            for (int trains = 1; trains <= 6; trains++) {
                text.append("train ").append(trains).append(" 1 1 ").append(trains - 1).append(';');
                Check.equal("trains", trains, Ask.with(text.toString()).trainCount());
            }
        });
        s.end();
    }

    private static void addresses() {
        Sentences address = Sentences.of("Promise 16");
        NoSuch.train(address, (x, train) -> x.address(train));
        address.holds("Returns 1 to 127.", () -> {
            TrainDecoder x = Ask.with("track 4 1;train 127 1 1 0;train 1 1 1 1;");
            Check.equal("the greatest", 127, x.address(0));
            Check.equal("the least", 1, x.address(1));
        });
        address.end();
        Sentences with = Sentences.of("Promise 17");
        with.holds("address: any number", () -> {
            TrainDecoder x = new TrainDecoder();
            int[] others = {0, 1, 2, 4, 6, 127, 128, 131, 255, 259, -3, -1, Integer.MAX_VALUE, Integer.MIN_VALUE,
                Integer.MIN_VALUE + 3};
            for (int other : others) {
                Check.takes("address " + other, () -> x.trainWith(other));
                Check.equal("address " + other, -1, x.trainWith(other));
            }
        });
        with.holds("Returns the number of the train; -1 if there is none.", () -> {
            TrainDecoder x = Ask.with("track 4 1;train 127 1 1 0;train 1 1 1 1;");
            Check.equal("the first one", 0, x.trainWith(127));
            Check.equal("the last one", 1, x.trainWith(1));
            Check.equal("none", -1, x.trainWith(2));
            x.readdress(1, 2);
            Check.equal("no longer", -1, x.trainWith(1));
            Check.equal("from now on", 1, x.trainWith(2));
        });
        with.end();
    }

    private static void sectionOf(Sentences s) {
        NoSuch.train(s, (x, train) -> x.sectionOf(train));
        s.holds("Returns the number of the section.", () -> {
            TrainDecoder x = Ask.with("track 24 1;train 1 5 1 23;train 2 5 1 22;");
            Check.equal("the last one", 23, x.sectionOf(0));
            x.setSpeed(0, 28);
            x.passTicks(6);
            Check.equal("the first one behind it", 0, x.sectionOf(0));
            Check.equal("the last one", 23, x.sectionOf(1));
        });
        s.end();
    }

    /** The answer is in this range in all ticks of a run that brings it to both ends. */
    private static void range(String promise, String sentence, int most, Count count, NoSuch.Numbered call) {
        Sentences s = Sentences.of(promise);
        NoSuch.train(s, call);
        s.holds(sentence, () -> {
            TrainDecoder x = Ask.with("track 4 3;train 1 5 9 0;train 2 5 2 1;train 3 1 1 3;");
            int least = Integer.MAX_VALUE;
            int greatest = Integer.MIN_VALUE;
            for (int tick = 0; tick < 200; tick++) {
                if (tick == 0 || tick == 100) {
                    x.setLamp(0, 15);
                    x.sendPacket(1, 63, 62);
                    x.setSpeed(2, 28);
                } else if (tick == 20) {
                    x.setLamp(0, 0);
                } else if (tick == 120) {
                    x.setShort(x.sectionOf(0), true);
                }
                least = Math.min(least, count.of(x));
                greatest = Math.max(greatest, count.of(x));
                x.passTicks(1);
            }
            Check.equal("range", "0 to " + most, least + " to " + greatest);
        });
        s.end();
    }

    private static void numbersOfATrain() {
        range("Promise 19", "Returns 0 to 99.", 99, x -> x.advance(0), (x, train) -> x.advance(train));
        range("Promise 20", "Returns 0 to 28.", 28, x -> Math.max(x.speed(0), x.speed(1)), (x, train) -> x.speed(train));
        range("Promise 21", "Returns 0 to 28.", 28, x -> x.targetSpeed(0), (x, train) -> x.targetSpeed(train));
        range("Promise 22", "Returns 0 to 15.", 15, x -> x.brightness(0), (x, train) -> x.brightness(train));
        range("Promise 23", "Returns 0 to 15.", 15, x -> x.duty(0), (x, train) -> x.duty(train));
    }

    private static void silence(Sentences s) {
        NoSuch.train(s, (x, train) -> x.silence(train));
        s.holds("Returns the number of ticks since it obeyed a packet, or since the railway was loaded.", () -> {
            TrainDecoder x = new TrainDecoder();
            Check.equal("at first", 0, x.silence(0));
            x.passTicks(40);
            Check.equal("since loading", 40, x.silence(0));
            x.setLamp(3, 0);
            x.passTicks(1);
            Check.equal("in the tick of the packet", 0, x.silence(0));
            Check.equal("of the other train", 41, x.silence(1));
            x.passTicks(1);
            Check.equal("a tick later", 1, x.silence(0));
            Ask.pass(x, 9958);
            Check.equal("to the last tick", "9959 10000", x.silence(0) + " " + x.silence(1));
            Ask.load(x, "track 4 1;train 3 1 1 0;");
            Check.equal("loaded anew", 0, x.silence(0));
        });
        s.end();
    }

    private static void counts() {
        count(Sentences.of("Promise 25"), "Returns the number of sections that a train has entered.",
                "track 4 1;train 1 5 1 3;", (x, train) -> x.sectionsEntered(train), (x, event) -> {
            x.setSpeed(1, 25);
            x.passTicks(event == 1 ? 6 : 4);
        });
        count(Sentences.of("Promise 26"), "Returns the number of packets that a train has obeyed.",
                "track 4 1;tunnel 1;train 2 5 1 1;train 1 5 1 3;", (x, train) -> x.obeyed(train), (x, event) -> {
            x.sendPacket(event % 2, 192, 192 ^ event % 2);
            x.sendPacket(1, 192, 192);
            x.passTicks(2);
        });
        count(Sentences.of("Promise 27"), "Returns the number of packets that a train has rejected.",
                "track 4 1;tunnel 1;train 2 5 1 1;train 1 5 1 3;", (x, train) -> x.rejected(train), (x, event) -> {
            x.sendPacket(event % 2, 192, 193 ^ event % 2);
            x.sendPacket(1, 192, 193);
            x.passTicks(2);
        });
        count(Sentences.of("Promise 28"), "Returns the number of packets that a train did not hear.",
                "track 4 1;tunnel 3;train 2 5 1 1;train 1 5 1 3;", (x, train) -> x.unheard(train), (x, event) -> {
            x.sendPacket(event % 2, 192, 193);
            x.sendPacket(2, 192, 194);
            x.passTicks(2);
        });
        count(Sentences.of("Promise 29"), "Returns the number of ticks in which a train was blocked.",
                "track 4 1;train 2 1 1 0;train 1 5 1 3;", (x, train) -> x.blockedTicks(train), (x, event) -> {
            x.setSpeed(1, 25);
            x.passTicks(event == 1 ? 6 : 1);
        });
    }

    interface Counted {
        int of(TrainDecoder x, int train);
    }

    /** At each event the count grows by one for the train with the address 1; loading makes it 0 again. */
    private static void count(Sentences s, String sentence, String railway, Counted count, NoSuch.Numbered event) {
        NoSuch.train(s, (x, train) -> count.of(x, train));
        s.holds(sentence, () -> {
            TrainDecoder x = Ask.with(railway);
            event.of(x, 1);
            for (int train = 0; train < x.trainCount(); train++) {
                Check.equal("of train " + train, x.address(train) == 1 ? 1 : 0, count.of(x, train));
            }
        });
        s.holds("Returns the number since the railway was loaded.", () -> {
            TrainDecoder x = Ask.with(railway);
            int train = x.trainWith(1);
            Check.equal("none", 0, count.of(x, train));
            for (int times = 1; times <= 9; times++) {
                event.of(x, times);
                Check.equal("times", times, count.of(x, train));
            }
            Ask.load(x, railway);
            Check.equal("loaded anew", 0, count.of(x, train));
        });
        s.end();
    }

    private static void fastestTrain(Sentences s) {
        s.holds("Returns the number of the train with the greatest speed; the smallest number if several are equal.", () -> {
            String three = "track 24 1;train 1 5 1 0;train 2 5 1 8;train 3 5 1 16;";
            Check.equal("all stand", 0, Ask.with(three).fastestTrain());
            int[][] cases = {{1, 1, 1, 0}, {1, 2, 2, 1}, {2, 1, 2, 0}, {2, 2, 1, 0}, {0, 0, 1, 2}, {3, 4, 5, 2}, {5, 4, 3, 0},
                {4, 5, 3, 1}, {0, 1, 0, 1}};
            for (int[] speeds : cases) {
                TrainDecoder x = Ask.with(three);
                for (int train = 0; train < 3; train++) {
                    x.setSpeed(train + 1, speeds[train]);
                }
                x.passTicks(3);
                Check.equal("of " + speeds[0] + speeds[1] + speeds[2], speeds[3], x.fastestTrain());
            }
            Check.equal("the only one", 0, Ask.with("track 4 1;train 1 1 1 0;").fastestTrain());
        });
        s.end();
    }

    private static void freeAhead(Sentences s) {
        NoSuch.train(s, (x, train) -> x.freeAhead(train));
        s.holds("Returns the number of sections behind its own one, in its direction, up to the next section with a train,"
                + " which may be its own one.", () -> {
            for (int sections : new int[] {4, 24}) {
                for (int section = 0; section < sections; section++) {
                    TrainDecoder alone = Ask.with("track " + sections + " 1;train 1 1 1 " + section + ";");
                    Check.equal("up to its own one", sections - 1, alone.freeAhead(0));
                    int other = (section + 1) % sections;
                    TrainDecoder two = Ask.with("track " + sections + " 1;train 1 1 1 " + section + ";train 2 1 1 " + other + ";");
                    Check.equal("none", 0, two.freeAhead(0));
                    Check.equal("all others", sections - 2, two.freeAhead(1));
                }
            }
            TrainDecoder around = Ask.with("track 9 1;train 1 1 1 7;train 2 1 1 2;");
            Check.equal("across the ring's end", 3, around.freeAhead(0));
            Check.equal("before the ring's end", 4, around.freeAhead(1));
        });
        s.end();
    }

    private static void meanSpeed(Sentences s) {
        s.holds("Returns the sum of the speeds divided by the number of trains, both converted to double.", () -> {
            TrainDecoder x = Ask.with("track 24 1;train 1 5 1 0;train 2 5 1 8;train 3 5 1 16;");
            Check.equal("all stand", 0.0, x.meanSpeed());
            x.setSpeed(3, 1);
            x.passTicks(1);
            Check.equal("a third", 1.0 / 3.0, x.meanSpeed());
            x.setSpeed(2, 4);
            x.passTicks(1);
            Check.equal("five thirds", 5.0 / 3.0, x.meanSpeed());
            x.setSpeed(0, 28);
            x.passTicks(6);
            Check.equal("the greatest", 28.0, x.meanSpeed());
            TrainDecoder alone = Ask.with("track 4 1;train 1 5 1 0;");
            alone.setSpeed(1, 5);
            alone.passTicks(1);
            Check.equal("of one train", 5.0, alone.meanSpeed());
            TrainDecoder six = Ask.with("track 24 1;train 1 5 1 0;train 2 5 1 4;train 3 5 1 8;train 4 5 1 12;train 5 5 1 16;"
                    + "train 6 5 1 20;");
            six.setSpeed(6, 5);
            six.passTicks(1);
            Check.equal("of six trains", 5.0 / 6.0, six.meanSpeed());
        });
        s.end();
    }

    private static void obeyedShare(Sentences s) {
        s.holds("Returns the packets obeyed by all trains divided by those obeyed, rejected or not heard by all trains, both"
                + " converted to float; 0.0 if there were none.", () -> {
            TrainDecoder x = Ask.with("track 9 1;tunnel 4;train 1 5 1 0;train 2 5 1 4;");
            Check.equal("none", 0.0, x.obeyedShare());
            x.setSpeed(9, 1);
            x.passTicks(1);
            Check.equal("none for a train", 0.0, x.obeyedShare());
            x.setLamp(1, 1);
            x.passTicks(1);
            Check.equal("one of one", 1.0, x.obeyedShare());
            x.setLamp(2, 1);
            x.passTicks(1);
            Check.equal("one not heard", 0.5, x.obeyedShare());
            x.sendPacket(1, 1, 1);
            x.passTicks(1);
            Check.equal("one rejected", (double) (1f / 3f), x.obeyedShare());
            x.setLamp(0, 2);
            x.passTicks(1);
            Check.equal("two of five", (double) (2f / 5f), x.obeyedShare());
            TrainDecoder y = Ask.with("track 9 1;train 1 5 1 0;");
            y.sendPacket(0, 1, 0);
            y.passTicks(1);
            Check.equal("none of one", 0.0, y.obeyedShare());
        });
        s.end();
    }
}
