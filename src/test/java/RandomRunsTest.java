import java.util.Random;

/** Random runs of calls, each answer compared with that of the model; the seeds are fixed. */
final class RandomRunsTest {
    private static final int RUNS = 400;
    private static final int CALLS = 512;
    private static final String[] WORDS = {
        "track", "tunnel", "short", "train", "packet", "speed", "lamp", "stop", "mend", "wait", "repeat", "waits", "x",
        ";", "(", ")", " ", "\n", "\t", "A", "" + (char) 233, "0", "4", "23", "24", "255", "256", "00001",
        "99999999999999999999",
    };

    private interface Answer {
        Object give();
    }

    private final Random random;
    private final TrainDecoder x = new TrainDecoder();
    private final Model model = new Model();

    private RandomRunsTest(int seed) {
        random = new Random(seed);
    }

    public static void main(String[] args) {
        for (int seed = 0; seed < RUNS; seed++) {
            new RandomRunsTest(seed).run(seed);
        }
        Check.end();
    }

    private void run(int seed) {
        if (random.nextInt(4) > 0) {
            text(railway(), true);
        }
        if (random.nextInt(8) == 0) {
            for (int i = 0; i < 166; i++) {
                both("passTicks(60)", () -> x.passTicks(60), () -> model.passTicks(60));
            }
        }
        for (int call = 0; call < CALLS; call++) {
            if (random.nextInt(3) == 0) {
                ask();
            } else {
                change();
            }
            Check.equal("railway in run " + seed, model.railway(), Ask.railway(x));
            Check.equal("code in run " + seed, model.code, x.errorCode());
            Check.equal("offset in run " + seed, model.offset, x.errorOffset());
            Check.equal("undoable in run " + seed, model.undoable(), x.undoableCount());
        }
    }

    private void both(String what, Answer ours, Answer due) {
        Check.equal(what, answer(due), answer(ours));
    }

    private static String answer(Answer answer) {
        try {
            return String.valueOf(answer.give());
        } catch (RuntimeException e) {
            return "throws." + e.getClass().getName();
        }
    }

    private int upTo(int most) {
        return random.nextInt(40) == 0 ? random.nextBoolean() ? -1 : most + 1 : random.nextInt(most + 1);
    }

    /** Mostly a train's address. */
    private int address(int most) {
        int train = random.nextInt(model.now.trains.size());
        int kind = random.nextInt(6);
        return kind == 0 ? upTo(most) : kind < 3 ? 0 : model.of(train, "address");
    }

    private void change() {
        switch (random.nextInt(17)) {
            case 0, 1 -> {
                int address = address(127);
                int step = upTo(28);
                both("setSpeed", () -> x.setSpeed(address, step), () -> model.setSpeed(address, step));
            }
            case 2, 3 -> {
                int address = address(127);
                both("setSpeed", () -> x.setSpeed(address, 28), () -> model.setSpeed(address, 28));
            }
            case 4 -> {
                int address = address(127);
                int duty = upTo(15);
                both("setLamp", () -> x.setLamp(address, duty), () -> model.setLamp(address, duty));
            }
            case 5 -> {
                int address = address(255);
                int command = upTo(255);
                int check = random.nextBoolean() ? address ^ command : upTo(255);
                both("sendPacket", () -> x.sendPacket(address, command, check),
                        () -> model.sendPacket(address, command, check));
            }
            case 6 -> {
                int address = address(127);
                both("stop", () -> x.stop(address), () -> model.stop(address));
            }
            case 7 -> {
                int section = upTo(model.now.get("sections") - 1);
                boolean hasShort = random.nextInt(4) == 0;
                both("setShort", () -> x.setShort(section, hasShort), () -> model.setShort(section, hasShort));
            }
            case 8 -> {
                if (random.nextInt(4) == 0) {
                    both("clearQueue", () -> x.clearQueue(), () -> model.clearQueue());
                }
            }
            case 9 -> {
                int train = upTo(model.now.trains.size() - 1);
                int address = upTo(127);
                both("readdress", () -> x.readdress(train, address), () -> model.readdress(train, address));
            }
            case 10, 11, 12 -> {
                int ticks = random.nextBoolean() ? upTo(60) : random.nextInt(9);
                both("passTicks", () -> x.passTicks(ticks), () -> model.passTicks(ticks));
            }
            case 13 -> text(random.nextInt(20) == 0 ? railway() : script(), false);
            case 14 -> {
                if (random.nextInt(10) == 0) {
                    text(rubbish(railway()), true);
                } else {
                    text(rubbish(script()), false);
                }
            }
            case 15 -> both("undo", () -> x.undo(), () -> model.undo());
            default -> snapshots();
        }
    }

    private void snapshots() {
        if (random.nextInt(3) == 0) {
            x.saveSnapshot();
            model.snapshot = model.now.copy();
        } else if (random.nextInt(3) == 0) {
            both("restoreSnapshot", () -> x.restoreSnapshot(), () -> model.restoreSnapshot());
        }
    }

    private void ask() {
        int train = upTo(model.now.trains.size() - 1);
        int ticks = upTo(200);
        if (train >= 0 && train < model.now.trains.size() && ticks >= 0 && ticks <= 200) {
            Model.State later = model.later(ticks);
            Check.equal("sectionAfter", later.trains.get(train).get("section"), x.sectionAfter(train, ticks));
            Check.equal("speedAfter", Model.get(later.trains.get(train), "speed"), x.speedAfter(train, ticks));
        }
        Check.equal("ticksToCutoff", model.ticksToCutoff(), x.ticksToCutoff());
        x.writeTrack();
        Check.equal("track", model.track(), Ask.output(x));
    }

    private void text(String text, boolean isRailway) {
        for (int i = 0; i < text.length() && i < 520; i += 20) {
            String twenty = (text + "                    ").substring(i, i + 20);
            Check.equal("appendText", model.append(twenty), Ask.append(x, twenty));
        }
        int length = random.nextInt(30) == 0 ? random.nextInt(600) - 20 : text.length();
        if (isRailway) {
            both("loadRailway", () -> x.loadRailway(length), () -> model.loadRailway(length));
        } else {
            both("runScript of " + text, () -> x.runScript(length), () -> model.runScript(length));
        }
    }

    private String railway() {
        int sections = 4 + random.nextInt(21);
        StringBuilder text = new StringBuilder("track ").append(sections).append(' ').append(upTo(19) + 1).append(';');
        for (int i = random.nextInt(6); i > 0; i--) {
            text.append(random.nextInt(3) > 0 ? "tunnel " : "short ").append(random.nextInt(sections)).append(";\n");
        }
        for (int i = 0; i <= random.nextInt(7); i++) {
            text.append("train ").append(random.nextInt(4) == 0 ? upTo(127) : i + 10).append(' ')
                    .append(1 + random.nextInt(5)).append(' ').append(1 + random.nextInt(9)).append(' ')
                    .append(random.nextInt(4) == 0 ? upTo(sections) : i).append(';');
        }
        return text.toString();
    }

    private String script() {
        StringBuilder text = new StringBuilder();
        commands(text, 0, 1 + random.nextInt(8));
        return text.toString();
    }

    private void commands(StringBuilder text, int depth, int count) {
        for (int i = 0; i < count; i++) {
            switch (random.nextInt(9)) {
                case 0 -> text.append("packet ").append(address(255)).append(' ').append(upTo(255)).append(' ')
                        .append(upTo(255));
                case 1, 2 -> text.append("speed ").append(address(127)).append(' ').append(upTo(28));
                case 3 -> text.append("lamp ").append(address(127)).append(' ').append(upTo(15));
                case 4 -> text.append("stop ").append(address(127));
                case 5 -> text.append(random.nextInt(4) == 0 ? "short " : "mend ").append(upTo(15));
                case 6 -> {
                    text.append("repeat ").append(2 + random.nextInt(3)).append('(');
                    commands(text, depth + 1, depth > 2 ? 0 : random.nextInt(4));
                    text.append(')');
                }
                default -> text.append("wait ").append(1 + random.nextInt(12));
            }
            text.append(';');
        }
    }

    /** A text with one place gone wrong. */
    private String rubbish(String text) {
        int from = random.nextInt(text.length());
        int to = from + random.nextInt(Math.min(4, text.length() - from) + 1);
        return text.substring(0, from) + WORDS[random.nextInt(WORDS.length)] + text.substring(to);
    }
}
