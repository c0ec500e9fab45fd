import java.util.NoSuchElementException;

/** Gateways that send flows to backends by tables all alike; the document's promises tell each call. */
public final class FlowGates {
    public static final int NONE = -1;

    private static final int REFUSED = -2;
    private static final int MOST_BACKENDS = 8;
    private static final int MOST_WEIGHT = 9;
    private static final int MOST_NUMBER = 9999;
    private static final int GATEWAYS = 4;
    private static final int MOST_SLOTS = 97;
    private static final int MOST_ROOM = 16;
    private static final int MOST_AGE = 99;
    private static final int MOST_TICKS = 999;
    private static final int MOST_BYTES = 400;
    private static final int BYTES_A_FEED = 20;
    private static final int DOWN = 0;
    private static final int UP = 1;
    private static final int DRAINING = 2;
    private static final int[] SIZES = {
        3, 5, 7, 11, 13, 17, 19, 23, 29, 31, 37, 41, 43, 47, 53, 59, 61, 67, 71, 73, 79, 83, 89, 97
    };

    private final Tape tape = new Tape();
    private final Tables tables = new Tables();
    private World world = new World(tables);
    private World spare = new World(tables);
    private final Teller teller = new Teller(tape);

    public FlowGates() {
    }

    // ---- what is told

    public int feed(int a, int b, int c, int d, int e) {
        if (tape.length + BYTES_A_FEED > MOST_BYTES) {
            return NONE;
        }
        tape.add(a);
        tape.add(b);
        tape.add(c);
        tape.add(d);
        tape.add(e);
        return tape.length;
    }

    public boolean end(int n) {
        if (n < 0 || n > tape.length) {
            return false;
        }
        tape.length = n;
        return true;
    }

    public int tell() {
        int told = 0;
        spare.copyFrom(world);
        teller.begin();
        // a statement has a byte at least, so there are no more statements than bytes
        for (int i = 0; i < MOST_BYTES && teller.hasMore(); i++) {
            if (teller.reads(spare)) {
                spare.perform(teller.verb, teller.numbers);
                told++;
            }
        }
        tape.length = 0;
        if (teller.found != 0) {
            return NONE;
        }
        World before = world;
        world = spare;
        spare = before;
        return told;
    }

    public int fault() {
        return teller.found;
    }

    public boolean size(int n) {
        if (n == world.slots || !isSize(n)) {
            return false;
        }
        world.resize(n);
        return true;
    }

    public int back(int key, int weight) {
        if (!isWithin(key, 0, MOST_NUMBER) || !isWithin(weight, 1, MOST_WEIGHT) || world.hasKey(key)) {
            return NONE;
        }
        if (world.backends >= MOST_BACKENDS) {
            return REFUSED;
        }
        world.addBackend(key, weight);
        return world.backends - 1;
    }

    public boolean weigh(int backend, int weight) {
        if (!world.isBackend(backend) || !isWithin(weight, 1, MOST_WEIGHT) || world.weights[backend] == weight) {
            return false;
        }
        world.weights[backend] = weight;
        return true;
    }

    public int see(int gate, int backend, int state) {
        if (gate != NONE && !isGate(gate) || !world.isBackend(backend) || !isState(state)) {
            return NONE;
        }
        return world.show(gate, backend, state);
    }

    public boolean set(int what, int v) {
        if (what == 0 && isWithin(v, 1, MOST_ROOM) && v != world.room) {
            world.changeRoom(v);
            return true;
        }
        if (what == 1 && isWithin(v, 0, MOST_AGE) && v != world.age) {
            world.changeAge(v);
            return true;
        }
        return false;
    }

    public int tick(int n) {
        if (!isWithin(n, 1, MOST_TICKS)) {
            return NONE;
        }
        world.passTicks(n);
        return world.clock;
    }

    public int pack(int gate, int flow) {
        if (!isGate(gate) || !isFlow(flow)) {
            return REFUSED;
        }
        return world.send(gate, flow);
    }

    public boolean keep(int gate) {
        if (!isGate(gate)) {
            return false;
        }
        Gate keeper = world.gates[gate];
        makeTable(keeper.kept, keeper.ups());
        keeper.hasKept = true;
        return true;
    }

    public int count(int what) {
        switch (what) {
            case 0:
                return world.slots;
            case 1:
                return world.backends;
            case 2:
                return world.clock;
            case 3:
                return world.room;
            case 4:
                return world.age;
            case 5:
                return tape.length;
            default:
                return NONE;
        }
    }

    // ---- what there is

    public int of(int backend, int what) throws NoSuchElementException {
        if (!world.isBackend(backend)) {
            throw new NoSuchElementException("no such backend");
        }
        if (what >= 10 && isGate(what - 10)) {
            return world.gates[what - 10].states[backend];
        }
        switch (what) {
            case 0:
                return world.keys[backend];
            case 1:
                return world.weights[backend];
            case 2:
                return offsetOf(world.keys[backend], world.slots);
            case 3:
                return skipOf(world.keys[backend], world.slots);
            default:
                throw new NoSuchElementException("nothing such of a backend");
        }
    }

    public int slot(int backend, int j) {
        if (!world.isBackend(backend) || !world.isSlot(j)) {
            return NONE;
        }
        int key = world.keys[backend];
        return modulo(offsetOf(key, world.slots) + j * skipOf(key, world.slots), world.slots);
    }

    public int table(int gate, int slot) {
        if (!isGate(gate) || !world.isSlot(slot)) {
            return NONE;
        }
        makeTable(tables.first, world.gates[gate].ups());
        return tables.first[slot];
    }

    public int share(int gate, int backend) {
        if (!isGate(gate) || !world.isBackend(backend)) {
            return NONE;
        }
        makeTable(tables.first, world.gates[gate].ups());
        return slotsOf(tables.first, world.slots, backend);
    }

    public int shareBits(int gate, int backend) {
        int slots = share(gate, backend);
        return slots == NONE ? NONE : bitsOf((float) slots / (float) world.slots);
    }

    public int uneven(int gate) {
        if (!isGate(gate) || world.gates[gate].ups() == 0) {
            return NONE;
        }
        return unevenAt(world.gates[gate].ups(), world.slots);
    }

    public int evenest(int gate) {
        if (!isGate(gate) || world.gates[gate].ups() == 0) {
            return NONE;
        }
        int ups = world.gates[gate].ups();
        int best = SIZES[0];
        int least = unevenAt(ups, best);
        for (int i = 1; i < SIZES.length; i++) {
            int uneven = unevenAt(ups, SIZES[i]);
            // the two quotients told apart by their cross products, so that nothing is rounded
            if (uneven * best < least * SIZES[i]) {
                best = SIZES[i];
                least = uneven;
            }
        }
        return best;
    }

    // ---- tables beside one another

    public int changed(int gate, int what) {
        if (!isGate(gate) || !world.gates[gate].hasKept) {
            return NONE;
        }
        Gate keeper = world.gates[gate];
        if (what >= 10 && world.isSlot(what - 10)) {
            return keeper.kept[what - 10];
        }
        if (what != 0 && what != 1) {
            return NONE;
        }
        makeTable(tables.first, keeper.ups());
        return changes(keeper.kept, tables.first, keeper.ups(), what == 1);
    }

    public int alike(int gate, int other) {
        if (!isGate(gate) || !isGate(other)) {
            return NONE;
        }
        makeTable(tables.first, world.gates[gate].ups());
        makeTable(tables.second, world.gates[other].ups());
        return world.slots - changes(tables.first, tables.second, 0, false);
    }

    public int were(int gate, int backend, int state, boolean needless) {
        if (!isGate(gate) || !world.isBackend(backend) || !isState(state)) {
            return NONE;
        }
        int ups = world.gates[gate].ups();
        int upsThen = state == UP ? ups | 1 << backend : ups & ~(1 << backend);
        makeTable(tables.first, ups);
        makeTable(tables.second, upsThen);
        return changes(tables.first, tables.second, upsThen, needless);
    }

    public int roughest(int gate) {
        if (!isGate(gate)) {
            return NONE;
        }
        int ups = world.gates[gate].ups();
        int rough = NONE;
        int most = NONE;
        makeTable(tables.first, ups);
        for (int b = 0; b < world.backends; b++) {
            if (isAmong(ups, b)) {
                int upsThen = ups & ~(1 << b);
                makeTable(tables.second, upsThen);
                int needless = changes(tables.first, tables.second, upsThen, true);
                if (needless > most) {
                    most = needless;
                    rough = b;
                }
            }
        }
        return rough;
    }

    // ---- flows

    public int flow(int flow) {
        return isFlow(flow) ? slotOfFlow(flow, world.slots) : NONE;
    }

    public int remembers(int gate, int flow, int what) {
        if (!isGate(gate) || !isFlow(flow)) {
            return NONE;
        }
        Memory memory = world.gates[gate].memory;
        int at = memory.find(flow);
        if (at == NONE) {
            return NONE;
        }
        if (what == 0) {
            return memory.goals[at];
        }
        return what == 1 ? memory.ticks[at] : NONE;
    }

    public int flows(int gate, int backend) {
        if (!isGate(gate)) {
            return NONE;
        }
        Memory memory = world.gates[gate].memory;
        if (backend == NONE) {
            return memory.held;
        }
        return world.isBackend(backend) ? memory.countTo(backend) : NONE;
    }

    public int flowAt(int gate, int k) {
        if (!isGate(gate) || k < 0 || k >= world.gates[gate].memory.held) {
            return NONE;
        }
        return world.gates[gate].memory.flowIds[k];
    }

    public int astray(int gate, int other) {
        if (!isGate(gate) || !isGate(other)) {
            return NONE;
        }
        Memory memory = world.gates[gate].memory;
        Gate target = world.gates[other];
        int strays = 0;
        makeTable(tables.first, target.ups());
        for (int i = 0; i < memory.held; i++) {
            int id = memory.flowIds[i];
            int goal = target.knownGoal(id);
            if (goal == NONE) {
                goal = tables.first[slotOfFlow(id, world.slots)];
            }
            // a lost packet's NONE is never a remembered backend, so it counts as well
            if (goal != memory.goals[i]) {
                strays++;
            }
        }
        return strays;
    }

    public int idle(int gate, int backend) {
        if (!isGate(gate) || !world.isBackend(backend)) {
            return NONE;
        }
        int latest = world.gates[gate].memory.latestTo(backend);
        return latest == NONE ? world.clock : latest + world.age + 1;
    }

    // ---- what the calls share

    private void makeTable(int[] owners, int ups) {
        tables.make(owners, world, ups, world.slots);
    }

    private int changes(int[] before, int[] after, int upsAfter, boolean needless) {
        int others = 0;
        for (int s = 0; s < world.slots; s++) {
            if (before[s] != after[s] && (!needless || isAmong(upsAfter, before[s]))) {
                others++;
            }
        }
        return others;
    }

    private int unevenAt(int ups, int size) {
        tables.make(tables.first, world, ups, size);
        int together = 0;
        for (int b = 0; b < world.backends; b++) {
            if (isAmong(ups, b)) {
                together += world.weights[b];
            }
        }
        int greatest = 0;
        for (int b = 0; b < world.backends; b++) {
            if (isAmong(ups, b)) {
                int apart = size * world.weights[b] - slotsOf(tables.first, size, b) * together;
                greatest = Math.max(greatest, Math.abs(apart));
            }
        }
        return greatest;
    }

    private static int slotsOf(int[] owners, int size, int backend) {
        int slots = 0;
        for (int s = 0; s < size; s++) {
            if (owners[s] == backend) {
                slots++;
            }
        }
        return slots;
    }

    /** Bits of a float from 0 to 1, by exact doublings, as the library's own way is not to be used. */
    private static int bitsOf(float part) {
        if (part <= 0.0f) {
            return 0;
        }
        int exponent = 127;
        float scaled = part;
        for (int i = 0; i < 126 && scaled < 1.0f; i++) {
            scaled = scaled * 2.0f;
            exponent--;
        }
        return (exponent << 23) + (int) (scaled * 8388608.0f) - 8388608;
    }

    private static int mix(int v, int a) {
        int mixed = v * a;
        mixed = mixed ^ mixed >>> 15;
        mixed = mixed * -2048144789;
        mixed = mixed ^ mixed >>> 13;
        return mixed >>> 1;
    }

    private static int modulo(int v, int divisor) {
        return divisor > 0 ? v % divisor : 0;
    }

    private static int offsetOf(int key, int size) {
        return modulo(mix(key, -1640531535), size);
    }

    private static int skipOf(int key, int size) {
        return modulo(mix(key, -2048144777), size - 1) + 1;
    }

    private static int slotOfFlow(int flow, int size) {
        return modulo(mix(flow, 668265263), size);
    }

    private static boolean isWithin(int v, int least, int most) {
        return v >= least && v <= most;
    }

    private static boolean isGate(int gate) {
        return isWithin(gate, 0, GATEWAYS - 1);
    }

    private static boolean isState(int state) {
        return isWithin(state, DOWN, DRAINING);
    }

    private static boolean isFlow(int flow) {
        return isWithin(flow, 0, MOST_NUMBER);
    }

    private static boolean isSize(int n) {
        for (int i = 0; i < SIZES.length; i++) {
            if (SIZES[i] == n) {
                return true;
            }
        }
        return false;
    }

    /** Backends that are up are held as the bits of one number, so that "were it down" needs no copy. */
    private static boolean isAmong(int ups, int backend) {
        return backend >= 0 && (ups >> backend & 1) == 1;
    }

    /** The bytes that have come and are not told yet. */
    private static final class Tape {
        final int[] bytes = new int[MOST_BYTES];
        int length = 0;

        void add(int number) {
            for (int shift = 24; shift >= 0 && length < bytes.length; shift -= 8) {
                bytes[length] = number >>> shift & 255;
                length++;
            }
        }
    }

    /** Makes tables, in rows made once, as all calls of a run share one room. */
    private static final class Tables {
        final int[] first = new int[MOST_SLOTS];
        final int[] second = new int[MOST_SLOTS];
        private final int[] places = new int[MOST_BACKENDS];
        private final int[] skips = new int[MOST_BACKENDS];
        private final int[] credits = new int[MOST_BACKENDS];

        void make(int[] owners, World world, int ups, int size) {
            int heaviest = start(owners, world, ups, size);
            int free = heaviest == 0 ? 0 : size;
            // the heaviest takes a slot in each round, so there are at most as many rounds as slots
            for (int round = 0; round < size && free > 0; round++) {
                for (int b = 0; b < world.backends && free > 0; b++) {
                    if (isAmong(ups, b)) {
                        credits[b] += world.weights[b];
                        if (credits[b] >= heaviest) {
                            credits[b] -= heaviest;
                            take(owners, b, size);
                            free--;
                        }
                    }
                }
            }
        }

        /** Frees all slots, puts each backend at its row's start: the greatest weight, 0 without any. */
        private int start(int[] owners, World world, int ups, int size) {
            for (int s = 0; s < size; s++) {
                owners[s] = NONE;
            }
            int heaviest = 0;
            for (int b = 0; b < world.backends; b++) {
                if (isAmong(ups, b)) {
                    places[b] = offsetOf(world.keys[b], size);
                    skips[b] = skipOf(world.keys[b], size);
                    credits[b] = 0;
                    heaviest = Math.max(heaviest, world.weights[b]);
                }
            }
            return heaviest;
        }

        private void take(int[] owners, int backend, int size) {
            int place = places[backend];
            for (int step = 0; step < size && owners[place] != NONE; step++) {
                place = modulo(place + skips[backend], size);
            }
            owners[place] = backend;
            places[backend] = place;
        }
    }

    /** The flows that a gateway remembers, rising. */
    private static final class Memory {
        final int[] flowIds = new int[MOST_ROOM];
        final int[] goals = new int[MOST_ROOM];
        final int[] ticks = new int[MOST_ROOM];
        int held = 0;

        void copyFrom(Memory from) {
            System.arraycopy(from.flowIds, 0, flowIds, 0, MOST_ROOM);
            System.arraycopy(from.goals, 0, goals, 0, MOST_ROOM);
            System.arraycopy(from.ticks, 0, ticks, 0, MOST_ROOM);
            held = from.held;
        }

        int find(int id) {
            for (int i = 0; i < held; i++) {
                if (flowIds[i] == id) {
                    return i;
                }
            }
            return NONE;
        }

        void put(int id, int goal, int now, int room) {
            int at = find(id);
            if (at == NONE) {
                shrinkTo(room - 1);
                at = openAt(id);
            }
            goals[at] = goal;
            ticks[at] = now;
        }

        /** Makes a place for a flow that is not here yet, so that the row goes on rising. */
        private int openAt(int id) {
            int at = held;
            for (int i = held; i > 0 && flowIds[i - 1] > id; i--) {
                move(i - 1, i);
                at = i - 1;
            }
            flowIds[at] = id;
            held++;
            return at;
        }

        void drop(int at) {
            for (int i = at + 1; i < held; i++) {
                move(i, i - 1);
            }
            held--;
        }

        private void move(int from, int to) {
            flowIds[to] = flowIds[from];
            goals[to] = goals[from];
            ticks[to] = ticks[from];
        }

        void shrinkTo(int most) {
            for (int i = 0; i < MOST_ROOM && held > most; i++) {
                drop(eldest());
            }
        }

        private int eldest() {
            int eldest = 0;
            for (int i = 1; i < held; i++) {
                if (ticks[i] < ticks[eldest]) {
                    eldest = i;
                }
            }
            return eldest;
        }

        void dropBefore(int tick) {
            for (int i = held - 1; i >= 0; i--) {
                if (ticks[i] < tick) {
                    drop(i);
                }
            }
        }

        int countTo(int goal) {
            int flows = 0;
            for (int i = 0; i < held; i++) {
                if (goals[i] == goal) {
                    flows++;
                }
            }
            return flows;
        }

        int latestTo(int goal) {
            int latest = NONE;
            for (int i = 0; i < held; i++) {
                if (goals[i] == goal) {
                    latest = Math.max(latest, ticks[i]);
                }
            }
            return latest;
        }
    }

    /** What one gateway sees, remembers and has kept. */
    private static final class Gate {
        final int[] states = new int[MOST_BACKENDS];
        final int[] kept = new int[MOST_SLOTS];
        final Memory memory = new Memory();
        boolean hasKept = false;

        void copyFrom(Gate from) {
            System.arraycopy(from.states, 0, states, 0, MOST_BACKENDS);
            System.arraycopy(from.kept, 0, kept, 0, MOST_SLOTS);
            memory.copyFrom(from.memory);
            hasKept = from.hasKept;
        }

        /** The backends it sees up, as bits; those that have not come yet are down here. */
        int ups() {
            int ups = 0;
            for (int b = 0; b < MOST_BACKENDS; b++) {
                if (states[b] == UP) {
                    ups |= 1 << b;
                }
            }
            return ups;
        }

        /** Where it sends a flow by what it remembers alone. */
        int knownGoal(int id) {
            int at = memory.find(id);
            if (at == NONE || states[memory.goals[at]] == DOWN) {
                return NONE;
            }
            return memory.goals[at];
        }
    }

    /** All that a text may change, so that it can be tried on a copy. */
    private static final class World {
        final int[] keys = new int[MOST_BACKENDS];
        final int[] weights = new int[MOST_BACKENDS];
        final Gate[] gates = {new Gate(), new Gate(), new Gate(), new Gate()};
        int slots = 7;
        int backends = 0;
        int clock = 0;
        int room = 8;
        int age = 20;
        private final Tables tables;

        World(Tables tables) {
            this.tables = tables;
        }

        void copyFrom(World from) {
            System.arraycopy(from.keys, 0, keys, 0, MOST_BACKENDS);
            System.arraycopy(from.weights, 0, weights, 0, MOST_BACKENDS);
            for (int g = 0; g < GATEWAYS; g++) {
                gates[g].copyFrom(from.gates[g]);
            }
            slots = from.slots;
            backends = from.backends;
            clock = from.clock;
            room = from.room;
            age = from.age;
        }

        boolean isBackend(int backend) {
            return backend >= 0 && backend < backends;
        }

        boolean isSlot(int slot) {
            return slot >= 0 && slot < slots;
        }

        boolean hasKey(int key) {
            for (int b = 0; b < backends; b++) {
                if (keys[b] == key) {
                    return true;
                }
            }
            return false;
        }

        void resize(int n) {
            slots = n;
            for (int g = 0; g < GATEWAYS; g++) {
                gates[g].hasKept = false;
            }
        }

        void addBackend(int key, int weight) {
            if (backends < MOST_BACKENDS) {
                keys[backends] = key;
                weights[backends] = weight;
                backends++;
                show(NONE, backends - 1, UP);
            }
        }

        /** One gateway, or all by NONE, sees a state: how many did not see it so. */
        int show(int gate, int backend, int state) {
            int others = 0;
            for (int g = 0; g < GATEWAYS; g++) {
                if ((gate == NONE || gate == g) && gates[g].states[backend] != state) {
                    gates[g].states[backend] = state;
                    others++;
                }
            }
            return others;
        }

        void changeRoom(int most) {
            room = most;
            for (int g = 0; g < GATEWAYS; g++) {
                gates[g].memory.shrinkTo(room);
            }
        }

        void changeAge(int most) {
            age = most;
            forgetAged();
        }

        void passTicks(int n) {
            clock += n;
            forgetAged();
        }

        private void forgetAged() {
            for (int g = 0; g < GATEWAYS; g++) {
                gates[g].memory.dropBefore(clock - age);
            }
        }

        /** A packet at a gateway: its backend, or NONE if it is lost. */
        int send(int gate, int id) {
            Gate sender = gates[gate];
            int goal = sender.knownGoal(id);
            if (goal == NONE) {
                tables.make(tables.first, this, sender.ups(), slots);
                goal = tables.first[slotOfFlow(id, slots)];
            }
            if (goal != NONE) {
                sender.memory.put(id, goal, clock, room);
                return goal;
            }
            int at = sender.memory.find(id);
            if (at != NONE) {
                sender.memory.drop(at);
            }
            return NONE;
        }

        /** Does a statement that the teller has looked through. */
        void perform(Verb verb, int[] numbers) {
            switch (verb) {
                case SIZE:
                    resize(numbers[0]);
                    break;
                case BACK:
                    addBackend(numbers[0], numbers[1]);
                    break;
                case WEIGH:
                    weights[numbers[0]] = numbers[1];
                    break;
                case SEE:
                    show(numbers[0], numbers[1], numbers[2]);
                    break;
                case TICK:
                    passTicks(numbers[0]);
                    break;
                case ROOM:
                    changeRoom(numbers[0]);
                    break;
                case AGE:
                    changeAge(numbers[0]);
                    break;
                default:
                    for (int g = 0; g < GATEWAYS; g++) {
                        if (numbers[0] == NONE || numbers[0] == g) {
                            send(g, numbers[1]);
                        }
                    }
                    break;
            }
        }
    }

    /** What a statement begins with, and the sorts of what stands behind it. */
    private enum Verb {
        SIZE("size", "S"),
        BACK("back", "KW"),
        WEIGH("weigh", "BW"),
        SEE("see", "GBH"),
        TICK("tick", "T"),
        ROOM("room", "R"),
        AGE("age", "A"),
        PACK("pack", "GF");

        private final String word;
        private final String sorts;

        Verb(String word, String sorts) {
            this.word = word;
            this.sorts = sorts;
        }
    }

    /** Reads a text from left to right, so that the first fault met is the one to tell. */
    private static final class Teller {
        private static final Verb[] VERBS = Verb.values();
        private static final int MOST_DIGITS = 4;

        private static final int END = 0;
        private static final int BLANK = 1;
        private static final int WORD = 2;
        private static final int NUMBER = 3;
        private static final int CLOSE = 4;
        private static final int OTHER = 5;

        private static final int MISPLACED = 1;
        private static final int IMPOSSIBLE = 2;
        private static final int TOO_MANY = 3;

        /** The fault of the latest text, 0 without. */
        int found = 0;
        Verb verb = Verb.SIZE;
        final int[] numbers = new int[3];
        private final Tape tape;
        private int kind = END;
        private int place = 0;
        private int till = 0;

        Teller(Tape tape) {
            this.tape = tape;
        }

        void begin() {
            found = 0;
            till = 0;
            advance();
        }

        boolean hasMore() {
            return found == 0 && kind != END;
        }

        /** Whether the next statement can be done in a world as it is now. */
        boolean reads(World world) {
            int start = place;
            if (!takesVerb()) {
                fail(MISPLACED, start);
            } else if (verb == Verb.BACK && world.backends >= MOST_BACKENDS) {
                fail(TOO_MANY, start);
            }
            for (int i = 0; i < verb.sorts.length() && i < numbers.length && found == 0; i++) {
                numbers[i] = readNext(world, verb.sorts.charAt(i));
            }
            if (kind != CLOSE) {
                fail(MISPLACED, place);
            }
            advance();
            return found == 0;
        }

        private boolean takesVerb() {
            for (int i = 0; i < VERBS.length; i++) {
                if (takes(VERBS[i].word)) {
                    verb = VERBS[i];
                    return true;
                }
            }
            return false;
        }

        private int readNext(World world, char sort) {
            if (sort == 'H') {
                return readHow();
            }
            if (sort == 'G' && takes("all")) {
                return NONE;
            }
            if (kind != NUMBER) {
                fail(MISPLACED, place);
                return 0;
            }
            int number = numberHere();
            if (!canBe(world, sort, number)) {
                fail(IMPOSSIBLE, place);
            }
            advance();
            return number;
        }

        private int readHow() {
            if (takes("up")) {
                return UP;
            }
            if (takes("down")) {
                return DOWN;
            }
            if (!takes("drain")) {
                fail(MISPLACED, place);
            }
            return DRAINING;
        }

        private int numberHere() {
            int number = 0;
            for (int at = place; at < till && at < tape.length; at++) {
                number = number * 10 + tape.bytes[at] - '0';
            }
            return number;
        }

        private static boolean canBe(World world, char sort, int number) {
            if (sort == 'S') {
                return isSize(number);
            }
            if (sort == 'K') {
                return !world.hasKey(number);
            }
            if (sort == 'W') {
                return isWithin(number, 1, MOST_WEIGHT);
            }
            if (sort == 'B') {
                return world.isBackend(number);
            }
            if (sort == 'G') {
                return isGate(number);
            }
            if (sort == 'T') {
                return isWithin(number, 1, MOST_TICKS);
            }
            if (sort == 'R') {
                return isWithin(number, 1, MOST_ROOM);
            }
            return sort == 'A' ? isWithin(number, 0, MOST_AGE) : isFlow(number);
        }

        private boolean takes(String word) {
            if (kind != WORD || till - place != word.length()) {
                return false;
            }
            for (int i = 0; i < word.length(); i++) {
                if (tape.bytes[place + i] != word.charAt(i)) {
                    return false;
                }
            }
            advance();
            return true;
        }

        private void fail(int sort, int where) {
            if (found == 0) {
                found = sort + 8 * where;
            }
        }

        private void advance() {
            place = till;
            while (place < tape.length && kindAt(place) == BLANK) {
                place++;
            }
            kind = kindAt(place);
            till = kind == END ? place : place + 1;
            if (kind == WORD || kind == NUMBER) {
                while (till < tape.length && kindAt(till) == kind) {
                    till++;
                }
            }
            if (kind == NUMBER && till - place > MOST_DIGITS) {
                kind = OTHER;
            }
        }

        private int kindAt(int at) {
            if (at < 0 || at >= tape.length) {
                return END;
            }
            int sign = tape.bytes[at];
            if (sign >= 'a' && sign <= 'z') {
                return WORD;
            }
            if (sign >= '0' && sign <= '9') {
                return NUMBER;
            }
            if (sign == ' ' || sign == '\n') {
                return BLANK;
            }
            return sign == ';' ? CLOSE : OTHER;
        }
    }
}
