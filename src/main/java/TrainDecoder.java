/** A toy railway whose trains are driven by decoders. The document's promises say what each call does. */
public final class TrainDecoder {
    private static final int MAX_SECTIONS = 24;
    private static final int MAX_TRAINS = 6;
    private static final int MAX_ADDRESS = 127;
    private static final int MAX_BYTE = 255;
    private static final int MAX_SPEED = 28;
    private static final int MAX_DUTY = 15;
    private static final int MAX_WAIT = 60;
    private static final int MAX_FORECAST = 200;
    private static final int ALL_TICKS = 10000;
    /** Instead of the greatest number that a script's command takes, where it takes none. */
    private static final int NO_NUMBER = -1;

    private final Railway railway = new Railway();
    /** Stands in where the railway itself must stay as it is: in forecasts and while a text is parsed. */
    private final Railway scratch = new Railway();
    private final Railway snapshot = new Railway();
    private boolean hasSnapshot;
    private final History history = new History();
    private final Input input = new Input();
    private final Parser parser = new Parser(input);
    private final ScriptRunner runner = new ScriptRunner(railway);
    private final int[] output = new int[MAX_SECTIONS];
    private int outputLength;

    public TrainDecoder() {
        railway.lay(8, 4);
        railway.digTunnel(3);
        railway.digTunnel(4);
        railway.changeShort(6, true);
        railway.addTrain(3, 2, 4, 0);
        railway.addTrain(5, 1, 2, 2);
    }

    // ---- text input

    public int appendText(int a, int b, int c, int d, int e) {
        if (!input.hasRoomFor(20)) {
            return -1;
        }
        input.appendFourBytes(a);
        input.appendFourBytes(b);
        input.appendFourBytes(c);
        input.appendFourBytes(d);
        input.appendFourBytes(e);
        return input.length;
    }

    public int loadRailway(int length) throws IllegalArgumentException {
        requireText(length);
        boolean isParsed = parser.parseRailway(length, scratch);
        input.clear();
        if (!isParsed) {
            return -1;
        }
        railway.copyFrom(scratch);
        history.clear();
        hasSnapshot = false;
        return railway.trains.length;
    }

    public int errorCode() {
        return parser.code;
    }

    public int errorOffset() {
        return parser.offset;
    }

    // ---- track and power

    public int tick() {
        return railway.tick;
    }

    public int sectionCount() {
        return railway.sections;
    }

    public boolean isTunnel(int section) throws IndexOutOfBoundsException {
        requireSection(section);
        return railway.isDug(section);
    }

    public boolean hasShort(int section) throws IndexOutOfBoundsException {
        requireSection(section);
        return railway.isShorted(section);
    }

    public int trainIn(int section) throws IndexOutOfBoundsException {
        requireSection(section);
        return railway.numberIn(section);
    }

    public int tunnelCount() {
        return Integer.bitCount(railway.tunnels);
    }

    public boolean isPowerOn() {
        return railway.isPowered();
    }

    public int remainingCutoff() {
        return railway.remainingCutoff;
    }

    public int cutoffs() {
        return railway.cutoffs;
    }

    // ---- trains

    public int trainCount() {
        return railway.trains.length;
    }

    public int address(int train) throws IndexOutOfBoundsException {
        return requireTrain(train).address;
    }

    public int trainWith(int address) {
        return railway.numberWith(address);
    }

    public int sectionOf(int train) throws IndexOutOfBoundsException {
        return requireTrain(train).section;
    }

    public int advance(int train) throws IndexOutOfBoundsException {
        return requireTrain(train).advance;
    }

    public int speed(int train) throws IndexOutOfBoundsException {
        return requireTrain(train).speed;
    }

    public int targetSpeed(int train) throws IndexOutOfBoundsException {
        return requireTrain(train).target;
    }

    public int brightness(int train) throws IndexOutOfBoundsException {
        return requireTrain(train).brightness;
    }

    public int duty(int train) throws IndexOutOfBoundsException {
        return requireTrain(train).duty;
    }

    public int silence(int train) throws IndexOutOfBoundsException {
        return requireTrain(train).silence;
    }

    public int sectionsEntered(int train) throws IndexOutOfBoundsException {
        return requireTrain(train).entered;
    }

    public int obeyed(int train) throws IndexOutOfBoundsException {
        return requireTrain(train).obeyed;
    }

    public int rejected(int train) throws IndexOutOfBoundsException {
        return requireTrain(train).rejected;
    }

    public int unheard(int train) throws IndexOutOfBoundsException {
        return requireTrain(train).unheard;
    }

    public int blockedTicks(int train) throws IndexOutOfBoundsException {
        return requireTrain(train).blocked;
    }

    public int fastestTrain() {
        return railway.numberOfFastest();
    }

    public int freeAhead(int train) throws IndexOutOfBoundsException {
        return railway.freeBehind(requireTrain(train).section);
    }

    public double meanSpeed() {
        int trains = railway.trains.length;
        return trains == 0 ? 0.0 : (double) railway.sumOfSpeeds() / (double) trains;
    }

    public float obeyedShare() {
        int received = railway.sumOfReceived();
        return received == 0 ? 0.0f : (float) railway.sumOfObeyed() / (float) received;
    }

    // ---- packets

    public int queueLength() {
        return railway.queue.length;
    }

    public int packetAddress(int packet) throws IndexOutOfBoundsException {
        return Packet.addressOf(requirePacket(packet));
    }

    public int packetCommand(int packet) throws IndexOutOfBoundsException {
        return Packet.commandOf(requirePacket(packet));
    }

    public boolean isIntact(int packet) throws IndexOutOfBoundsException {
        return Packet.isWhole(requirePacket(packet));
    }

    public int packetsFor(int train) throws IndexOutOfBoundsException {
        return railway.queue.numberFor(requireTrain(train).address);
    }

    public int sentPackets() {
        return railway.queue.sent;
    }

    public int checkOf(int address, int command) throws IllegalArgumentException {
        requireRange(address, 0, MAX_BYTE);
        requireRange(command, 0, MAX_BYTE);
        return Packet.checkFor(address, command);
    }

    public int gap() {
        return Math.abs(railway.queue.surplus()) + railway.pairsInOneSection();
    }

    // ---- forecasts

    public int brakingTicks(int train) throws IndexOutOfBoundsException {
        return requireTrain(train).decreasesToStop();
    }

    public int brakingDistance(int train) throws IndexOutOfBoundsException {
        return requireTrain(train).distanceToStop();
    }

    public int sectionAfter(int train, int ticks) throws IndexOutOfBoundsException, IllegalArgumentException {
        return trainAfter(train, ticks).section;
    }

    public int speedAfter(int train, int ticks) throws IndexOutOfBoundsException, IllegalArgumentException {
        return trainAfter(train, ticks).speed;
    }

    public int ticksToCutoff() {
        scratch.copyFrom(railway);
        for (int ticks = 1; ticks <= MAX_FORECAST && scratch.pass(1); ticks++) {
            if (scratch.cutoffs > railway.cutoffs) {
                return ticks;
            }
        }
        return -1;
    }

    private Train trainAfter(int train, int ticks) {
        Train now = requireTrain(train);
        requireRange(ticks, 0, MAX_FORECAST);
        scratch.copyFrom(railway);
        scratch.pass(Math.min(ticks, ALL_TICKS - scratch.tick));
        Train later = scratch.trainAt(train);
        return later == null ? now : later;
    }

    // ---- changes

    public int sendPacket(int address, int command, int check)
            throws IllegalArgumentException, IllegalStateException {
        requireRange(address, 0, MAX_BYTE);
        requireRange(command, 0, MAX_BYTE);
        requireRange(check, 0, MAX_BYTE);
        return enqueue(Packet.of(address, command, check));
    }

    public int setSpeed(int address, int step) throws IllegalArgumentException, IllegalStateException {
        requireRange(address, 0, MAX_ADDRESS);
        requireRange(step, 0, MAX_SPEED);
        return enqueue(Packet.intact(address, Packet.KIND_SPEED, step));
    }

    public int setLamp(int address, int duty) throws IllegalArgumentException, IllegalStateException {
        requireRange(address, 0, MAX_ADDRESS);
        requireRange(duty, 0, MAX_DUTY);
        return enqueue(Packet.intact(address, Packet.KIND_LAMP, duty));
    }

    public int stop(int address) throws IllegalArgumentException, IllegalStateException {
        requireRange(address, 0, MAX_ADDRESS);
        requireRoomInQueue();
        history.remember(railway);
        railway.queue.putFirst(Packet.intact(address, Packet.KIND_STOP, 0));
        return railway.queue.length;
    }

    public int setShort(int section, boolean hasShort) throws IndexOutOfBoundsException {
        requireSection(section);
        history.remember(railway);
        railway.changeShort(section, hasShort);
        return Integer.bitCount(railway.shorts);
    }

    public int clearQueue() {
        history.remember(railway);
        return railway.queue.clear();
    }

    public int readdress(int train, int address)
            throws IndexOutOfBoundsException, IllegalArgumentException, IllegalStateException {
        Train found = requireTrain(train);
        requireRange(address, 1, MAX_ADDRESS);
        if (found.speed != 0) {
            throw new IllegalStateException("the train runs");
        }
        if (railway.numberWith(address) >= 0) {
            throw new IllegalStateException("a train has this address");
        }
        history.remember(railway);
        int before = found.address;
        found.address = address;
        return before;
    }

    public int passTicks(int ticks) throws IllegalArgumentException, IllegalStateException {
        requireRange(ticks, 1, MAX_WAIT);
        if (!railway.hasTicksLeft(ticks)) {
            throw new IllegalStateException("a tick beyond the last one would pass");
        }
        history.remember(railway);
        int sentBefore = railway.queue.sent;
        railway.pass(ticks);
        return railway.queue.sent - sentBefore;
    }

    public int runScript(int length) throws IllegalArgumentException {
        requireText(length);
        Command first = parser.parseScript(length);
        input.clear();
        if (parser.hasFailed()) {
            return -1;
        }
        history.remember(railway);
        runner.executed = 0;
        runner.runChain(first, 0);
        return runner.executed;
    }

    private int enqueue(int packet) {
        requireRoomInQueue();
        history.remember(railway);
        railway.queue.putLast(packet);
        return railway.queue.length;
    }

    // ---- output and history

    public int writeTrack() {
        outputLength = Math.min(railway.sections, output.length);
        for (int section = 0; section < outputLength && section < output.length; section++) {
            output[section] = railway.signOf(section);
        }
        return outputLength;
    }

    public int outputByte(int index) throws IndexOutOfBoundsException {
        if (index < 0 || index >= outputLength || index >= output.length) {
            throw new IndexOutOfBoundsException("no such byte");
        }
        return output[index];
    }

    public int undoableCount() {
        return history.count;
    }

    public int undo() throws IllegalStateException {
        if (history.count == 0) {
            throw new IllegalStateException("nothing to undo");
        }
        history.takeBack(railway);
        return history.count;
    }

    public void saveSnapshot() {
        snapshot.copyFrom(railway);
        hasSnapshot = true;
    }

    public int restoreSnapshot() throws IllegalStateException {
        if (!hasSnapshot) {
            throw new IllegalStateException("no snapshot");
        }
        railway.copyFrom(snapshot);
        history.clear();
        return railway.tick;
    }

    // ---- what a call wants of its arguments

    private void requireText(int length) {
        if (length < 0 || length > input.length) {
            throw new IllegalArgumentException("the buffer holds no text of this length");
        }
    }

    private void requireSection(int section) {
        if (!railway.hasSection(section)) {
            throw new IndexOutOfBoundsException("no such section");
        }
    }

    private Train requireTrain(int train) {
        Train found = railway.trainAt(train);
        if (found == null) {
            throw new IndexOutOfBoundsException("no such train");
        }
        return found;
    }

    private int requirePacket(int packet) {
        int found = railway.queue.packetAt(packet);
        if (found == Packet.NONE) {
            throw new IndexOutOfBoundsException("no such packet");
        }
        return found;
    }

    private void requireRoomInQueue() {
        if (railway.queue.isFull()) {
            throw new IllegalStateException("the queue is full");
        }
    }

    private static void requireRange(int value, int least, int most) {
        if (value < least || value > most) {
            throw new IllegalArgumentException("a number is out of range");
        }
    }

    /** A packet's three bytes lie in one number, so that a queue is a row of numbers. */
    private static final class Packet {
        static final int NONE = -1;
        static final int KIND_SPEED = 0;
        static final int KIND_LAMP = 1;
        static final int KIND_STOP = 2;

        static int of(int address, int command, int check) {
            return address << 16 | command << 8 | check;
        }

        static int intact(int address, int kind, int argument) {
            int command = kind << 6 | argument;
            return of(address, command, checkFor(address, command));
        }

        static int checkFor(int address, int command) {
            return address ^ command;
        }

        static int addressOf(int packet) {
            return packet >> 16;
        }

        static int commandOf(int packet) {
            return packet >> 8 & MAX_BYTE;
        }

        static boolean isWhole(int packet) {
            // Equal bytes cancel each other out.
            return ((packet >> 16 ^ packet >> 8 ^ packet) & MAX_BYTE) == 0;
        }

        static boolean isFor(int packet, int trainAddress) {
            int address = packet >> 16;
            return address == 0 || address == trainAddress;
        }
    }

    /** The packets that wait, the next one first, and the counts of those that came and went. */
    private static final class PacketQueue {
        private static final int CAPACITY = 12;

        private final int[] packets = new int[CAPACITY];
        private int length;
        private int put;
        private int sent;
        private int cleared;

        boolean isFull() {
            return length >= CAPACITY;
        }

        int packetAt(int index) {
            if (index < 0 || index >= length || index >= packets.length) {
                return Packet.NONE;
            }
            return packets[index];
        }

        /** Returns whether there was room for the packet. */
        boolean putLast(int packet) {
            if (length < 0 || length >= packets.length) {
                return false;
            }
            packets[length] = packet;
            length++;
            put++;
            return true;
        }

        /** Returns whether there was room for the packet. */
        boolean putFirst(int packet) {
            if (isFull()) {
                return false;
            }
            System.arraycopy(packets, 0, packets, 1, CAPACITY - 1);
            packets[0] = packet;
            length++;
            put++;
            return true;
        }

        int sendFirst() {
            if (length == 0) {
                return Packet.NONE;
            }
            int first = packets[0];
            System.arraycopy(packets, 1, packets, 0, CAPACITY - 1);
            length--;
            sent++;
            return first;
        }

        int clear() {
            int dropped = length;
            cleared += dropped;
            length = 0;
            return dropped;
        }

        void reset() {
            length = 0;
            put = 0;
            sent = 0;
            cleared = 0;
        }

        int numberFor(int trainAddress) {
            int number = 0;
            for (int i = 0; i < length && i < packets.length; i++) {
                if (Packet.isFor(packets[i], trainAddress)) {
                    number++;
                }
            }
            return number;
        }

        /** How many more packets were put into the queue than left it or are in it. */
        int surplus() {
            return put - sent - cleared - length;
        }

        void copyFrom(PacketQueue other) {
            System.arraycopy(other.packets, 0, packets, 0, CAPACITY);
            length = other.length;
            put = other.put;
            sent = other.sent;
            cleared = other.cleared;
        }
    }

    private static final class Train {
        private static final int SECTION_END = 100;
        private static final int LONG_SILENCE = 40;
        private static final int POWERLESS_DECREASE = 5;

        private int address;
        private int acceleration;
        private int divisor;
        private int section;
        private int advance;
        private int speed;
        private int target;
        private int brightness;
        private int duty;
        private int silence;
        private int entered;
        private int obeyed;
        private int rejected;
        private int unheard;
        private int blocked;

        /** Returns whether the train obeys the packet; one that is for others does not concern it. */
        boolean receive(int packet, boolean isInTunnel) {
            if (!Packet.isFor(packet, address)) {
                return false;
            }
            if (isInTunnel) {
                unheard++;
                return false;
            }
            if (!Packet.isWhole(packet)) {
                rejected++;
                return false;
            }
            obeyed++;
            obey(Packet.commandOf(packet));
            return true;
        }

        private void obey(int command) {
            int kind = command >> 6;
            int argument = command & 63;
            if (kind == Packet.KIND_SPEED) {
                target = argument < MAX_SPEED ? argument : MAX_SPEED;
            } else if (kind == Packet.KIND_LAMP) {
                duty = argument % 16;
            } else if (kind == Packet.KIND_STOP) {
                speed = 0;
                target = 0;
            }
        }

        void countSilence(boolean hasObeyed) {
            if (hasObeyed) {
                silence = 0;
                return;
            }
            silence++;
            if (silence >= LONG_SILENCE) {
                target = 0;
            }
        }

        void changeSpeed(boolean isPowered) {
            if (!isPowered) {
                speed = Math.max(speed - POWERLESS_DECREASE, 0);
            } else if (speed < target) {
                speed = Math.min(speed + acceleration, target);
            } else if (speed > target) {
                speed = Math.max(afterBraking(speed), target);
            }
        }

        void changeBrightness(boolean isPowered) {
            if (!isPowered) {
                brightness = 0;
            } else if (brightness < duty) {
                brightness++;
            } else if (brightness > duty) {
                brightness--;
            }
        }

        boolean isAtSectionEnd() {
            return advance >= SECTION_END;
        }

        void enter(int nextSection) {
            section = nextSection;
            advance -= SECTION_END;
            entered++;
        }

        void block() {
            advance = SECTION_END - 1;
            speed = 0;
            blocked++;
        }

        private int afterBraking(int before) {
            int decrease = divisor < 1 ? 0 : before / divisor;
            return decrease < 1 ? before - 1 : before - decrease;
        }

        int decreasesToStop() {
            int decreases = 0;
            for (int left = speed; left > 0 && decreases < MAX_SPEED; left = afterBraking(left)) {
                decreases++;
            }
            return decreases;
        }

        int distanceToStop() {
            int distance = 0;
            int left = speed;
            for (int decreases = 0; left > 0 && decreases < MAX_SPEED; decreases++) {
                left = afterBraking(left);
                distance += left;
            }
            return distance;
        }

        int received() {
            return obeyed + rejected + unheard;
        }

        void copyFrom(Train other) {
            address = other.address;
            acceleration = other.acceleration;
            divisor = other.divisor;
            section = other.section;
            advance = other.advance;
            speed = other.speed;
            target = other.target;
            brightness = other.brightness;
            duty = other.duty;
            silence = other.silence;
            entered = other.entered;
            obeyed = other.obeyed;
            rejected = other.rejected;
            unheard = other.unheard;
            blocked = other.blocked;
        }
    }

    /** All that undo and snapshots bring back: the track, the power, the trains, the queue, the counts. */
    private static final class Railway {
        private int sections;
        private int cutoffTime;
        /** Bit n stands for section n. */
        private int tunnels;
        private int shorts;
        private int tick;
        private int remainingCutoff;
        private int cutoffs;
        private Train[] trains = new Train[0];
        private final PacketQueue queue = new PacketQueue();

        /** Begins a railway without trains at tick 0. */
        void lay(int sectionNumber, int cutoffTicks) {
            sections = sectionNumber;
            cutoffTime = cutoffTicks;
            tunnels = 0;
            shorts = 0;
            tick = 0;
            remainingCutoff = 0;
            cutoffs = 0;
            trains = new Train[0];
            queue.reset();
        }

        void digTunnel(int section) {
            tunnels |= 1 << section;
        }

        void addTrain(int address, int acceleration, int divisor, int section) {
            Train[] more = new Train[trains.length + 1];
            for (int i = 0; i < trains.length; i++) {
                more[i] = trains[i];
            }
            Train added = new Train();
            added.address = address;
            added.acceleration = acceleration;
            added.divisor = divisor;
            added.section = section;
            more[trains.length] = added;
            trains = more;
        }

        boolean hasSection(int section) {
            return section >= 0 && section < sections;
        }

        boolean isDug(int section) {
            return (tunnels >> section & 1) == 1;
        }

        boolean isShorted(int section) {
            return (shorts >> section & 1) == 1;
        }

        /** Returns whether there is such a section. */
        boolean changeShort(int section, boolean isMade) {
            if (!hasSection(section)) {
                return false;
            }
            int bit = 1 << section;
            shorts = isMade ? shorts | bit : shorts & ~bit;
            return true;
        }

        boolean isPowered() {
            return remainingCutoff == 0;
        }

        boolean hasTicksLeft(int ticks) {
            return tick + ticks <= ALL_TICKS;
        }

        Train trainAt(int number) {
            return number < 0 || number >= trains.length ? null : trains[number];
        }

        int numberIn(int section) {
            for (int i = 0; i < trains.length; i++) {
                if (trains[i].section == section) {
                    return i;
                }
            }
            return -1;
        }

        int numberWith(int address) {
            for (int i = 0; i < trains.length; i++) {
                if (trains[i].address == address) {
                    return i;
                }
            }
            return -1;
        }

        int numberOfFastest() {
            int fastest = 0;
            int greatest = -1;
            for (int i = 0; i < trains.length; i++) {
                if (trains[i].speed > greatest) {
                    greatest = trains[i].speed;
                    fastest = i;
                }
            }
            return fastest;
        }

        int freeBehind(int section) {
            int free = 0;
            int next = sectionBehind(section);
            while (free < sections && numberIn(next) < 0) {
                free++;
                next = sectionBehind(next);
            }
            return free;
        }

        private int sectionBehind(int section) {
            return section + 1 < sections ? section + 1 : 0;
        }

        int sumOfSpeeds() {
            int sum = 0;
            for (Train train : trains) {
                sum += train.speed;
            }
            return sum;
        }

        int sumOfObeyed() {
            int sum = 0;
            for (Train train : trains) {
                sum += train.obeyed;
            }
            return sum;
        }

        int sumOfReceived() {
            int sum = 0;
            for (Train train : trains) {
                sum += train.received();
            }
            return sum;
        }

        int pairsInOneSection() {
            int pairs = 0;
            for (int i = 0; i < trains.length; i++) {
                for (int j = i + 1; j < trains.length; j++) {
                    if (trains[i].section == trains[j].section) {
                        pairs++;
                    }
                }
            }
            return pairs;
        }

        int signOf(int section) {
            int number = numberIn(section);
            if (number >= 0) {
                return '0' + number;
            }
            if (isShorted(section)) {
                return '!';
            }
            return isDug(section) ? 'n' : '-';
        }

        /** Returns whether as many ticks are left; none passes if not. */
        boolean pass(int ticks) {
            if (!hasTicksLeft(ticks)) {
                return false;
            }
            for (int passed = 0; passed < ticks; passed++) {
                driveTrains(isPowered() ? queue.sendFirst() : Packet.NONE);
                for (Train train : trains) {
                    move(train);
                }
                changePower();
                tick++;
            }
            return true;
        }

        /**
         * All that happens to the trains in a tick before they move. Until then the power stays as it is
         * and no train bears on another, so each train goes through its steps at one go.
         */
        private void driveTrains(int packet) {
            boolean isSent = packet != Packet.NONE;
            boolean isPowered = isPowered();
            for (Train train : trains) {
                boolean hasObeyed = isSent && train.receive(packet, isDug(train.section));
                train.countSilence(hasObeyed);
                train.changeSpeed(isPowered);
                train.changeBrightness(isPowered);
            }
        }

        private void move(Train train) {
            train.advance += train.speed;
            if (!train.isAtSectionEnd()) {
                return;
            }
            int next = sectionBehind(train.section);
            if (numberIn(next) < 0) {
                train.enter(next);
            } else {
                train.block();
            }
        }

        private void changePower() {
            if (!isPowered()) {
                remainingCutoff--;
            } else if (isShortMet()) {
                remainingCutoff = cutoffTime;
                cutoffs++;
            }
        }

        private boolean isShortMet() {
            for (Train train : trains) {
                if (isShorted(train.section)) {
                    return true;
                }
            }
            return false;
        }

        void copyFrom(Railway other) {
            sections = other.sections;
            cutoffTime = other.cutoffTime;
            tunnels = other.tunnels;
            shorts = other.shorts;
            tick = other.tick;
            remainingCutoff = other.remainingCutoff;
            cutoffs = other.cutoffs;
            copyTrains(other.trains);
            queue.copyFrom(other.queue);
        }

        private void copyTrains(Train[] others) {
            if (trains.length != others.length) {
                trains = new Train[others.length];
                for (int i = 0; i < trains.length; i++) {
                    trains[i] = new Train();
                }
            }
            for (int i = 0; i < trains.length && i < others.length; i++) {
                trains[i].copyFrom(others[i]);
            }
        }
    }

    /** The railways before the latest changes, the latest one first; their objects are used again. */
    private static final class History {
        private static final int CAPACITY = 8;

        private final Railway[] saved = new Railway[CAPACITY];
        private int count;

        History() {
            for (int i = 0; i < CAPACITY; i++) {
                saved[i] = new Railway();
            }
        }

        void remember(Railway railway) {
            Railway oldest = saved[CAPACITY - 1];
            for (int i = CAPACITY - 1; i > 0; i--) {
                saved[i] = saved[i - 1];
            }
            saved[0] = oldest;
            oldest.copyFrom(railway);
            count = Math.min(count + 1, CAPACITY);
        }

        void takeBack(Railway railway) {
            if (count == 0) {
                return;
            }
            Railway latest = saved[0];
            railway.copyFrom(latest);
            for (int i = 1; i < CAPACITY; i++) {
                saved[i - 1] = saved[i];
            }
            saved[CAPACITY - 1] = latest;
            count--;
        }

        void clear() {
            count = 0;
        }
    }

    private static final class Input {
        private static final int CAPACITY = 500;

        private final int[] bytes = new int[CAPACITY];
        private int length;

        boolean hasRoomFor(int more) {
            return length + more <= CAPACITY;
        }

        void appendFourBytes(int four) {
            for (int shift = 24; shift >= 0; shift -= 8) {
                appendByte(four >> shift & MAX_BYTE);
            }
        }

        private void appendByte(int value) {
            if (length < 0 || length >= bytes.length) {
                return;
            }
            bytes[length] = value;
            length++;
        }

        void clear() {
            length = 0;
        }
    }

    /** Splits the first bytes of the input into tokens and shows one of them at a time. */
    private static final class Tokens {
        static final int END = 0;
        static final int WORD = 1;
        static final int NUMBER = 2;
        static final int SEMICOLON = 3;
        static final int OPEN = 4;
        static final int CLOSE = 5;
        static final int INVALID = 6;
        /** Above every range of the grammars; greater numbers are cut down to it so that none overflows. */
        private static final int HUGE = 1000;

        private final Input input;
        private int textLength;
        private int kind;
        private int start;
        /** The offset behind the token. */
        private int end;
        private int value;

        Tokens(Input input) {
            this.input = input;
        }

        void begin(int length) {
            textLength = length;
            end = 0;
            step();
        }

        void step() {
            start = end;
            while (start < textLength && isSeparator(byteAt(start))) {
                start++;
            }
            end = start;
            value = 0;
            kind = kindOf(byteAt(start));
            if (kind == WORD) {
                while (end < textLength && isLetter(byteAt(end))) {
                    end++;
                }
            } else if (kind == NUMBER) {
                while (end < textLength && isDigit(byteAt(end))) {
                    value = Math.min(value * 10 + byteAt(end) - '0', HUGE);
                    end++;
                }
            } else if (kind != END) {
                end++;
            }
        }

        boolean isWord(String word) {
            if (kind != WORD || word.length() != end - start) {
                return false;
            }
            for (int i = 0; i < word.length(); i++) {
                if (word.charAt(i) != byteAt(start + i)) {
                    return false;
                }
            }
            return true;
        }

        /** Returns -1 behind the end of the text. */
        private int byteAt(int index) {
            return index >= 0 && index < textLength && index < input.bytes.length ? input.bytes[index] : -1;
        }

        private static int kindOf(int firstByte) {
            if (isLetter(firstByte)) {
                return WORD;
            }
            if (isDigit(firstByte)) {
                return NUMBER;
            }
            switch (firstByte) {
                case -1:
                    return END;
                case ';':
                    return SEMICOLON;
                case '(':
                    return OPEN;
                case ')':
                    return CLOSE;
                default:
                    return INVALID;
            }
        }

        private static boolean isSeparator(int sign) {
            return sign == ' ' || sign == '\n';
        }

        private static boolean isLetter(int sign) {
            return sign >= 'a' && sign <= 'z';
        }

        private static boolean isDigit(int sign) {
            return sign >= '0' && sign <= '9';
        }
    }

    /**
     * Reads both grammars. The first error is kept and makes all later steps do nothing, so that the
     * functions below can be written straight on.
     */
    private static final class Parser {
        private static final int NO_ERROR = 0;
        private static final int NOT_ALLOWED = 1;
        private static final int OUT_OF_RANGE = 2;
        private static final int NOT_UNIQUE = 3;
        private static final int TOO_MANY = 4;
        private static final int MAX_COMMANDS = 20;
        private static final int MAX_NESTING = 2;
        private static final CommandKind[] KINDS = CommandKind.values();

        private final Tokens tokens;
        private int code = NO_ERROR;
        private int offset = -1;
        private int commandCount;

        Parser(Input input) {
            tokens = new Tokens(input);
        }

        boolean hasFailed() {
            return code != NO_ERROR;
        }

        /** Returns whether there is no error; otherwise what the railway holds is of no use. */
        boolean parseRailway(int length, Railway railway) {
            begin(length);
            takeWord("track");
            int sections = takeNumber(4, MAX_SECTIONS);
            int cutoffTime = takeNumber(1, 20);
            take(Tokens.SEMICOLON);
            railway.lay(sections, cutoffTime);
            takeTunnelsAndShorts(railway);
            takeTrain(railway);
            for (int trains = 1; trains <= MAX_TRAINS && !isDone(); trains++) {
                takeTrain(railway);
            }
            return !hasFailed();
        }

        private void takeTunnelsAndShorts(Railway railway) {
            for (int named = 0; named < Input.CAPACITY && !isDone(); named++) {
                boolean isTunnel = tokens.isWord("tunnel");
                if (!isTunnel && !tokens.isWord("short")) {
                    return;
                }
                tokens.step();
                int section = takeNumber(0, railway.sections - 1);
                take(Tokens.SEMICOLON);
                if (isTunnel) {
                    railway.digTunnel(section);
                } else {
                    railway.changeShort(section, true);
                }
            }
        }

        private void takeTrain(Railway railway) {
            if (tokens.isWord("train") && railway.trains.length >= MAX_TRAINS) {
                fail(TOO_MANY, tokens.start);
            }
            takeWord("train");
            int addressOffset = tokens.start;
            int address = takeNumber(1, MAX_ADDRESS);
            if (railway.numberWith(address) >= 0) {
                fail(NOT_UNIQUE, addressOffset);
            }
            int acceleration = takeNumber(1, 5);
            int divisor = takeNumber(1, 9);
            int sectionOffset = tokens.start;
            int section = takeNumber(0, railway.sections - 1);
            if (railway.numberIn(section) >= 0) {
                fail(NOT_UNIQUE, sectionOffset);
            }
            take(Tokens.SEMICOLON);
            if (!hasFailed()) {
                railway.addTrain(address, acceleration, divisor, section);
            }
        }

        /** Returns the first command of the chain; null for an empty script. */
        Command parseScript(int length) {
            begin(length);
            commandCount = 0;
            Command first = takeCommands(0);
            if (tokens.kind != Tokens.END) {
                fail(NOT_ALLOWED, tokens.start);
            }
            return first;
        }

        private Command takeCommands(int repeatsAround) {
            Command first = null;
            Command last = null;
            for (int taken = 0; taken <= MAX_COMMANDS && tokens.kind == Tokens.WORD && !hasFailed(); taken++) {
                Command command = takeCommand(repeatsAround);
                if (command == null) {
                    return first;
                }
                if (last == null) {
                    first = command;
                } else {
                    last.next = command;
                }
                last = command;
            }
            return first;
        }

        /** Returns null if the command cannot begin here. */
        private Command takeCommand(int repeatsAround) {
            CommandKind kind = kindOfWord();
            if (kind == null) {
                fail(NOT_ALLOWED, tokens.start);
                return null;
            }
            boolean isRepeat = kind == CommandKind.REPEAT;
            if (commandCount >= MAX_COMMANDS || isRepeat && repeatsAround >= MAX_NESTING) {
                fail(TOO_MANY, tokens.start);
                return null;
            }
            commandCount++;
            tokens.step();
            Command command = new Command(kind);
            command.first = takeNumber(kind.leastFirst, kind.mostFirst);
            if (kind.mostSecond != NO_NUMBER) {
                command.second = takeNumber(0, kind.mostSecond);
            }
            if (kind.mostThird != NO_NUMBER) {
                command.third = takeNumber(0, kind.mostThird);
            }
            if (isRepeat) {
                take(Tokens.OPEN);
                command.inside = takeCommands(repeatsAround + 1);
                take(Tokens.CLOSE);
            }
            take(Tokens.SEMICOLON);
            return command;
        }

        private CommandKind kindOfWord() {
            for (CommandKind kind : KINDS) {
                if (tokens.isWord(kind.word)) {
                    return kind;
                }
            }
            return null;
        }

        private void begin(int length) {
            code = NO_ERROR;
            offset = -1;
            tokens.begin(length);
        }

        private boolean isDone() {
            return hasFailed() || tokens.kind == Tokens.END;
        }

        private void takeWord(String word) {
            if (!tokens.isWord(word)) {
                fail(NOT_ALLOWED, tokens.start);
            }
            take(Tokens.WORD);
        }

        private void take(int kind) {
            if (tokens.kind != kind) {
                fail(NOT_ALLOWED, tokens.start);
            }
            if (!hasFailed()) {
                tokens.step();
            }
        }

        /** Returns the least number after an error, so that nothing out of range is ever used. */
        private int takeNumber(int least, int most) {
            int value = tokens.value;
            if (tokens.kind != Tokens.NUMBER) {
                fail(NOT_ALLOWED, tokens.start);
            } else if (value < least || value > most) {
                fail(OUT_OF_RANGE, tokens.start);
            }
            if (hasFailed()) {
                return least;
            }
            tokens.step();
            return value;
        }

        private void fail(int newCode, int newOffset) {
            if (!hasFailed()) {
                code = newCode;
                offset = newOffset;
            }
        }
    }

    /** The commands of a script, with what each wants of its numbers. */
    private enum CommandKind {
        PACKET("packet", 0, MAX_BYTE, MAX_BYTE, MAX_BYTE),
        SPEED("speed", 0, MAX_ADDRESS, MAX_SPEED, NO_NUMBER),
        LAMP("lamp", 0, MAX_ADDRESS, MAX_DUTY, NO_NUMBER),
        STOP("stop", 0, MAX_ADDRESS, NO_NUMBER, NO_NUMBER),
        SHORT("short", 0, MAX_SECTIONS - 1, NO_NUMBER, NO_NUMBER),
        MEND("mend", 0, MAX_SECTIONS - 1, NO_NUMBER, NO_NUMBER),
        WAIT("wait", 1, MAX_WAIT, NO_NUMBER, NO_NUMBER),
        REPEAT("repeat", 2, 5, NO_NUMBER, NO_NUMBER);

        private final String word;
        private final int leastFirst;
        private final int mostFirst;
        private final int mostSecond;
        private final int mostThird;

        CommandKind(String word, int leastFirst, int mostFirst, int mostSecond, int mostThird) {
            this.word = word;
            this.leastFirst = leastFirst;
            this.mostFirst = mostFirst;
            this.mostSecond = mostSecond;
            this.mostThird = mostThird;
        }
    }

    private static final class Command {
        private final CommandKind kind;
        private int first;
        private int second;
        private int third;
        /** The first of the commands inside a repeat. */
        private Command inside;
        private Command next;

        Command(CommandKind kind) {
            this.kind = kind;
        }
    }

    private static final class ScriptRunner {
        private final Railway railway;
        private int executed;

        ScriptRunner(Railway railway) {
            this.railway = railway;
        }

        /** Returns whether execution goes on. */
        private boolean runChain(Command first, int repeatsAround) {
            if (repeatsAround > Parser.MAX_NESTING) {
                return false;
            }
            for (Command command = first; command != null; command = command.next) {
                if (!runCommand(command, repeatsAround)) {
                    return false;
                }
            }
            return true;
        }

        private boolean runCommand(Command command, int repeatsAround) {
            if (command.kind == CommandKind.REPEAT) {
                for (int round = 0; round < command.first; round++) {
                    if (!runChain(command.inside, repeatsAround + 1)) {
                        return false;
                    }
                }
                return true;
            }
            boolean isExecuted = execute(command);
            if (isExecuted) {
                executed++;
            }
            return isExecuted;
        }

        /** Returns false, and changes nothing, where the method of the command would throw. */
        private boolean execute(Command command) {
            CommandKind kind = command.kind;
            if (kind == null) {
                return false;
            }
            int first = command.first;
            int second = command.second;
            switch (kind) {
                case PACKET:
                    return railway.queue.putLast(Packet.of(first, second, command.third));
                case SPEED:
                    return railway.queue.putLast(Packet.intact(first, Packet.KIND_SPEED, second));
                case LAMP:
                    return railway.queue.putLast(Packet.intact(first, Packet.KIND_LAMP, second));
                case STOP:
                    return railway.queue.putFirst(Packet.intact(first, Packet.KIND_STOP, 0));
                case SHORT:
                    return railway.changeShort(first, true);
                case MEND:
                    return railway.changeShort(first, false);
                case WAIT:
                    return railway.pass(first);
                default:
                    return false;
            }
        }
    }
}
