import java.util.ArrayList;
import java.util.HashMap;
import java.util.List;
import java.util.Map;
import java.util.regex.Matcher;
import java.util.regex.Pattern;

/**
 * The document's terms written a second time, with the Java library and without any thought of speed, for the
 * random runs. It shares no line with the program and does each step of a tick for all trains before the next.
 */
final class Model {
    static final class ParseError extends RuntimeException {
        private static final long serialVersionUID = 1;
        final int code;
        final int offset;

        ParseError(int code, int offset) {
            super("code " + code + " at " + offset, null, false, false);
            this.code = code;
            this.offset = offset;
        }
    }

    record Token(char kind, String text, int offset) {
    }

    record Packet(int address, int command, int check) {
        boolean isIntact() {
            return check == (address ^ command);
        }
    }

    /** A train is the map of its numbers, a railway that of its own. */
    static final class State {
        Map<String, Integer> numbers = new HashMap<>();
        List<Map<String, Integer>> trains = new ArrayList<>();
        List<Packet> queue = new ArrayList<>();
        boolean[] tunnels = new boolean[0];
        boolean[] shorts = new boolean[0];

        State copy() {
            State copy = new State();
            copy.numbers.putAll(numbers);
            for (Map<String, Integer> train : trains) {
                copy.trains.add(new HashMap<>(train));
            }
            copy.queue.addAll(queue);
            copy.tunnels = tunnels.clone();
            copy.shorts = shorts.clone();
            return copy;
        }

        int get(String name) {
            return numbers.getOrDefault(name, 0);
        }

        void add(String name, int more) {
            numbers.merge(name, more, Integer::sum);
        }
    }

    State now;
    State snapshot;
    final List<State> history = new ArrayList<>();
    int code = 0;
    int offset = -1;
    private String input = "";
    private List<Token> tokens;
    private int place;
    private int commands;

    Model() {
        now = parseRailway("track 8 4;tunnel 3;tunnel 4;short 6;train 3 2 4 0;train 5 1 2 2;");
    }

    // ---- texts

    int append(String twenty) {
        if (input.length() + 20 > 500) {
            return -1;
        }
        input += twenty;
        return input.length();
    }

    private String text(int length) {
        if (length < 0 || length > input.length()) {
            throw new IllegalArgumentException();
        }
        String text = input.substring(0, length);
        input = "";
        code = 0;
        offset = -1;
        return text;
    }

    int loadRailway(int length) {
        String text = text(length);
        try {
            now = parseRailway(text);
        } catch (ParseError e) {
            code = e.code;
            offset = e.offset;
            return -1;
        }
        history.clear();
        snapshot = null;
        return now.trains.size();
    }

    int runScript(int length) {
        String text = text(length);
        List<Object> script;
        try {
            split(text);
            commands = 0;
            script = commands(0);
            want('e');
        } catch (ParseError e) {
            code = e.code;
            offset = e.offset;
            return -1;
        }
        remember();
        int[] executed = {0};
        execute(script, executed);
        return executed[0];
    }

    private void split(String text) {
        tokens = new ArrayList<>();
        place = 0;
        Matcher m = Pattern.compile("(?<w>[a-z]+)|(?<n>[0-9]+)|(?<s>[;()])|(?<x>[^ \n])", Pattern.DOTALL).matcher(text);
        while (m.find()) {
            char kind = m.group("w") != null ? 'w' : m.group("n") != null ? 'n'
                    : m.group("s") != null ? m.group().charAt(0) : 'x';
            tokens.add(new Token(kind, m.group(), m.start()));
        }
        tokens.add(new Token('e', "", text.length()));
    }

    private Token peek() {
        return tokens.get(place);
    }

    private Token want(char kind) {
        Token token = peek();
        if (token.kind != kind) {
            throw new ParseError(1, token.offset);
        }
        place++;
        return token;
    }

    private void word(String word) {
        if (!peek().text.equals(word)) {
            throw new ParseError(1, peek().offset);
        }
        place++;
    }

    private int number(int least, int most) {
        Token token = want('n');
        java.math.BigInteger value = new java.math.BigInteger(token.text);
        if (value.compareTo(java.math.BigInteger.valueOf(least)) < 0
                || value.compareTo(java.math.BigInteger.valueOf(most)) > 0) {
            throw new ParseError(2, token.offset);
        }
        return value.intValue();
    }

    private State parseRailway(String text) {
        split(text);
        State state = new State();
        word("track");
        int sections = number(4, 24);
        state.numbers.put("sections", sections);
        state.numbers.put("cutoffTime", number(1, 20));
        want(';');
        state.tunnels = new boolean[sections];
        state.shorts = new boolean[sections];
        while (peek().text.equals("tunnel") || peek().text.equals("short")) {
            boolean[] named = peek().text.equals("tunnel") ? state.tunnels : state.shorts;
            place++;
            named[number(0, sections - 1)] = true;
            want(';');
        }
        do {
            if (peek().text.equals("train") && state.trains.size() == 6) {
                throw new ParseError(4, peek().offset);
            }
            word("train");
            Map<String, Integer> train = new HashMap<>();
            unique(state, train, "address", 1, 127);
            train.put("acceleration", number(1, 5));
            train.put("divisor", number(1, 9));
            unique(state, train, "section", 0, sections - 1);
            want(';');
            state.trains.add(train);
        } while (peek().kind != 'e');
        return state;
    }

    private void unique(State state, Map<String, Integer> train, String name, int least, int most) {
        int at = peek().offset;
        int value = number(least, most);
        for (Map<String, Integer> other : state.trains) {
            if (other.get(name) == value) {
                throw new ParseError(3, at);
            }
        }
        train.put(name, value);
    }

    /** A command is a list of its word and its numbers, for a repeat with the list of the commands inside it. */
    private List<Object> commands(int depth) {
        List<Object> list = new ArrayList<>();
        while (peek().kind == 'w') {
            list.add(command(depth));
            want(';');
        }
        return list;
    }

    private List<Object> command(int depth) {
        String word = peek().text;
        if (!"packet speed lamp stop short mend wait repeat".matches("(.* )?" + word + "( .*)?")) {
            throw new ParseError(1, peek().offset);
        }
        if (commands == 20 || word.equals("repeat") && depth == 2) {
            throw new ParseError(4, peek().offset);
        }
        commands++;
        place++;
        List<Object> command = new ArrayList<>();
        command.add(word);
        int[][] ranges = switch (word) {
            case "packet" -> new int[][] {{0, 255}, {0, 255}, {0, 255}};
            case "speed" -> new int[][] {{0, 127}, {0, 28}};
            case "lamp" -> new int[][] {{0, 127}, {0, 15}};
            case "stop" -> new int[][] {{0, 127}};
            case "wait" -> new int[][] {{1, 60}};
            case "repeat" -> new int[][] {{2, 5}};
            default -> new int[][] {{0, 23}};
        };
        for (int[] range : ranges) {
            command.add(number(range[0], range[1]));
        }
        if (word.equals("repeat")) {
            want('(');
            command.add(commands(depth + 1));
            want(')');
        }
        return command;
    }

    @SuppressWarnings("unchecked")
    private boolean execute(List<Object> script, int[] executed) {
        for (Object each : script) {
            List<Object> command = (List<Object>) each;
            int first = (Integer) command.get(1);
            if (command.get(0).equals("repeat")) {
                for (int i = 0; i < first; i++) {
                    if (!execute((List<Object>) command.get(2), executed)) {
                        return false;
                    }
                }
                continue;
            }
            // Each command is tried as its own method, whose entry in the history is taken back.
            List<State> before = new ArrayList<>(history);
            try {
                switch ((String) command.get(0)) {
                    case "packet" -> sendPacket(first, (Integer) command.get(2), (Integer) command.get(3));
                    case "speed" -> setSpeed(first, (Integer) command.get(2));
                    case "lamp" -> setLamp(first, (Integer) command.get(2));
                    case "stop" -> stop(first);
                    case "short" -> setShort(first, true);
                    case "mend" -> setShort(first, false);
                    default -> passTicks(first);
                }
            } catch (RuntimeException e) {
                return false;
            } finally {
                history.clear();
                history.addAll(before);
            }
            executed[0]++;
        }
        return true;
    }

    // ---- changes

    private void range(int value, int least, int most) {
        if (value < least || value > most) {
            throw new IllegalArgumentException();
        }
    }

    private int put(Packet packet, boolean isFirst) {
        if (now.queue.size() == 12) {
            throw new IllegalStateException();
        }
        remember();
        now.queue.add(isFirst ? 0 : now.queue.size(), packet);
        return now.queue.size();
    }

    int sendPacket(int address, int command, int check) {
        range(address, 0, 255);
        range(command, 0, 255);
        range(check, 0, 255);
        return put(new Packet(address, command, check), false);
    }

    int setSpeed(int address, int step) {
        range(address, 0, 127);
        range(step, 0, 28);
        return put(new Packet(address, step, address ^ step), false);
    }

    int setLamp(int address, int duty) {
        range(address, 0, 127);
        range(duty, 0, 15);
        return put(new Packet(address, 64 + duty, address ^ 64 + duty), false);
    }

    int stop(int address) {
        range(address, 0, 127);
        return put(new Packet(address, 128, address ^ 128), true);
    }

    int setShort(int section, boolean hasShort) {
        if (section < 0 || section >= now.get("sections")) {
            throw new IndexOutOfBoundsException();
        }
        remember();
        now.shorts[section] = hasShort;
        int shorts = 0;
        for (boolean each : now.shorts) {
            shorts += each ? 1 : 0;
        }
        return shorts;
    }

    int clearQueue() {
        remember();
        int size = now.queue.size();
        now.queue.clear();
        return size;
    }

    int readdress(int train, int address) {
        if (train < 0 || train >= now.trains.size()) {
            throw new IndexOutOfBoundsException();
        }
        range(address, 1, 127);
        for (Map<String, Integer> other : now.trains) {
            if (other.get("address") == address) {
                throw new IllegalStateException();
            }
        }
        if (of(train, "speed") != 0) {
            throw new IllegalStateException();
        }
        remember();
        return now.trains.get(train).put("address", address);
    }

    int passTicks(int ticks) {
        range(ticks, 1, 60);
        if (now.get("tick") + ticks > 10000) {
            throw new IllegalStateException();
        }
        remember();
        int sent = now.get("sent");
        for (int i = 0; i < ticks; i++) {
            pass(now);
        }
        return now.get("sent") - sent;
    }

    private void remember() {
        history.add(now.copy());
        while (history.size() > 8) {
            history.remove(0);
        }
    }

    int undoable() {
        return history.size();
    }

    int undo() {
        if (undoable() == 0) {
            throw new IllegalStateException();
        }
        now = history.remove(history.size() - 1);
        return undoable();
    }

    int restoreSnapshot() {
        if (snapshot == null) {
            throw new IllegalStateException();
        }
        now = snapshot.copy();
        history.clear();
        return now.get("tick");
    }

    // ---- a tick

    static void pass(State s) {
        boolean isOn = s.get("remaining") == 0;
        Map<Map<String, Integer>, Boolean> obeyed = new java.util.IdentityHashMap<>();
        if (isOn && !s.queue.isEmpty()) {
            Packet packet = s.queue.remove(0);
            s.add("sent", 1);
            for (Map<String, Integer> t : s.trains) {
                if (packet.address == 0 || packet.address == t.get("address")) {
                    receive(s, t, packet, obeyed);
                }
            }
        }
        for (Map<String, Integer> t : s.trains) {
            t.put("silence", obeyed.containsKey(t) ? 0 : get(t, "silence") + 1);
            if (get(t, "silence") >= 40) {
                t.put("target", 0);
            }
        }
        for (Map<String, Integer> t : s.trains) {
            t.put("speed", newSpeed(t, isOn));
        }
        for (Map<String, Integer> t : s.trains) {
            int brightness = get(t, "brightness");
            t.put("brightness", isOn ? brightness + Integer.signum(get(t, "duty") - brightness) : 0);
        }
        for (Map<String, Integer> t : s.trains) {
            move(s, t);
        }
        if (!isOn) {
            s.add("remaining", -1);
        } else {
            for (Map<String, Integer> t : s.trains) {
                if (s.shorts[get(t, "section")]) {
                    s.numbers.put("remaining", s.get("cutoffTime"));
                }
            }
            s.add("cutoffs", s.get("remaining") > 0 ? 1 : 0);
        }
        s.add("tick", 1);
    }

    private static void receive(State s, Map<String, Integer> t, Packet packet, Map<Map<String, Integer>, Boolean> obeyed) {
        if (s.tunnels[get(t, "section")]) {
            t.merge("unheard", 1, Integer::sum);
        } else if (!packet.isIntact()) {
            t.merge("rejected", 1, Integer::sum);
        } else {
            t.merge("obeyed", 1, Integer::sum);
            obeyed.put(t, true);
            int argument = packet.command % 64;
            switch (packet.command / 64) {
                case 0 -> t.put("target", argument > 28 ? 28 : argument);
                case 1 -> t.put("duty", argument % 16);
                case 2 -> {
                    t.put("speed", 0);
                    t.put("target", 0);
                }
                default -> {
                }
            }
        }
    }

    private static int newSpeed(Map<String, Integer> t, boolean isOn) {
        int speed = get(t, "speed");
        int target = get(t, "target");
        if (!isOn) {
            return speed < 5 ? 0 : speed - 5;
        }
        if (speed < target) {
            return Math.min(target, speed + get(t, "acceleration"));
        }
        return speed > target ? Math.max(target, braked(t, speed)) : speed;
    }

    static int braked(Map<String, Integer> t, int speed) {
        return speed - Math.max(1, (int) Math.floor(speed / (double) get(t, "divisor")));
    }

    private static void move(State s, Map<String, Integer> t) {
        int advance = get(t, "advance") + get(t, "speed");
        if (advance < 100) {
            t.put("advance", advance);
            return;
        }
        int next = (get(t, "section") + 1) % s.get("sections");
        boolean isFree = s.trains.stream().noneMatch(o -> get(o, "section") == next);
        if (isFree) {
            t.put("section", next);
            t.put("advance", advance - 100);
            t.merge("entered", 1, Integer::sum);
        } else {
            t.put("advance", 99);
            t.put("speed", 0);
            t.merge("blocked", 1, Integer::sum);
        }
    }

    static int get(Map<String, Integer> t, String name) {
        return t.getOrDefault(name, 0);
    }

    int of(int train, String name) {
        return get(now.trains.get(train), name);
    }

    // ---- answers

    State later(int ticks) {
        State later = now.copy();
        for (int i = 0; i < ticks && later.get("tick") < 10000; i++) {
            pass(later);
        }
        return later;
    }

    int ticksToCutoff() {
        State later = now.copy();
        for (int i = 1; i <= 200 && later.get("tick") < 10000; i++) {
            pass(later);
            if (later.get("cutoffs") != now.get("cutoffs")) {
                return i;
            }
        }
        return -1;
    }

    String track() {
        StringBuilder track = new StringBuilder();
        for (int s = 0; s < now.get("sections"); s++) {
            int train = trainIn(s);
            track.append(train >= 0 ? "" + train : now.shorts[s] ? "!" : now.tunnels[s] ? "n" : "-");
        }
        return track.toString();
    }

    int trainIn(int section) {
        for (int t = 0; t < now.trains.size(); t++) {
            if (of(t, "section") == section) {
                return t;
            }
        }
        return -1;
    }

    /** The text that Ask.railway(x) makes of an object. */
    String railway() {
        StringBuilder text = new StringBuilder();
        text.append("tick ").append(now.get("tick")).append(", power ").append(now.get("remaining") == 0)
                .append(' ').append(now.get("remaining")).append(' ').append(now.get("cutoffs")).append('\n');
        int tunnels = 0;
        for (int s = 0; s < now.get("sections"); s++) {
            text.append(now.tunnels[s] ? "T" : "").append(now.shorts[s] ? "S" : "").append(trainIn(s)).append(' ');
            tunnels += now.tunnels[s] ? 1 : 0;
        }
        text.append(tunnels).append(" tunnels\n");
        int sum = 0;
        int obeyed = 0;
        int received = 0;
        int fastest = 0;
        for (int t = 0; t < now.trains.size(); t++) {
            text.append("train ").append(t).append(':').append(train(t)).append('\n');
            sum += of(t, "speed");
            obeyed += of(t, "obeyed");
            received += of(t, "obeyed") + of(t, "rejected") + of(t, "unheard");
            fastest = of(t, "speed") > of(fastest, "speed") ? t : fastest;
        }
        text.append("fastest ").append(fastest).append(", mean ").append((double) sum / (double) now.trains.size())
                .append(", share ").append(received == 0 ? 0f : (float) obeyed / (float) received).append('\n');
        for (Packet packet : now.queue) {
            text.append(packet.address).append('.').append(packet.command).append('.').append(packet.isIntact())
                    .append(' ');
        }
        text.append("sent ").append(now.get("sent")).append(", gap 0\n");
        return text.toString();
    }

    private String train(int t) {
        StringBuilder text = new StringBuilder();
        for (String name : new String[] {"address", "section", "advance", "speed", "target", "brightness", "duty",
            "silence", "entered", "obeyed", "rejected", "unheard", "blocked"}) {
            text.append(' ').append(of(t, name));
        }
        int free = 0;
        while (trainIn((of(t, "section") + 1 + free) % now.get("sections")) < 0) {
            free++;
        }
        long packets = now.queue.stream().filter(p -> p.address == 0 || p.address == of(t, "address")).count();
        int ticks = 0;
        int distance = 0;
        for (int speed = braked(t); speed >= 0 && of(t, "speed") > 0; speed = braked(now.trains.get(t), speed)) {
            ticks++;
            distance += speed;
            if (speed == 0) {
                break;
            }
        }
        return text.append(' ').append(free).append(' ').append(packets).append(' ').append(ticks).append(' ')
                .append(distance).toString();
    }

    private int braked(int t) {
        return braked(now.trains.get(t), of(t, "speed"));
    }
}
