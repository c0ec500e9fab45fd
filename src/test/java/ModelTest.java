import java.nio.charset.StandardCharsets;
import java.util.ArrayList;
import java.util.Arrays;
import java.util.List;
import java.util.Random;
import java.util.TreeMap;

/**
 * Long runs of calls beside a model that is written another way: maps, texts as strings, every
 * row written out. The seed is fixed, so each run of this test makes the same calls.
 */
public final class ModelTest {
    private static final int NONE = -1;
    private static final int RUNS = 1500;
    private static final int CALLS = 512;

    /** What the document tells, in its plainest form. */
    private static final class Model {
        List<int[]> backends = new ArrayList<>();
        int size = 7;
        int now = 0;
        int room = 8;
        int age = 20;
        int[][] states = new int[4][8];
        int[][] kept = new int[4][];
        List<TreeMap<Integer, int[]>> memory = new ArrayList<>();

        Model() {
            for (int g = 0; g < 4; g++) {
                memory.add(new TreeMap<>());
            }
        }

        Model copy() {
            Model to = new Model();
            for (int[] b : backends) {
                to.backends.add(b.clone());
            }
            to.size = size;
            to.now = now;
            to.room = room;
            to.age = age;
            for (int g = 0; g < 4; g++) {
                to.states[g] = states[g].clone();
                to.kept[g] = kept[g] == null ? null : kept[g].clone();
                for (var e : memory.get(g).entrySet()) {
                    to.memory.get(g).put(e.getKey(), e.getValue().clone());
                }
            }
            return to;
        }

        static long mix(long v, long a) {
            long all = 0xffffffffL;
            long x = v * a & all;
            x = (x ^ x >> 15) & all;
            x = (int) x * -2048144789L & all;
            x = (x ^ x >> 13) & all;
            return x >> 1;
        }

        static int[] row(int key, int size) {
            long offset = mix(key, -1640531535L) % size;
            long skip = mix(key, -2048144777L) % (size - 1) + 1;
            int[] row = new int[size];
            for (int j = 0; j < size; j++) {
                row[j] = (int) ((offset + j * skip) % size);
            }
            return row;
        }

        static int slotOf(int flow, int size) {
            return (int) (mix(flow, 668265263L) % size);
        }

        boolean[] ups(int g) {
            boolean[] ups = new boolean[backends.size()];
            for (int b = 0; b < ups.length; b++) {
                ups[b] = states[g][b] == 1;
            }
            return ups;
        }

        static boolean any(boolean[] ups) {
            for (boolean up : ups) {
                if (up) {
                    return true;
                }
            }
            return false;
        }

        int[] table(boolean[] ups, int size) {
            int[] table = new int[size];
            Arrays.fill(table, NONE);
            int heaviest = 0;
            for (int b = 0; b < ups.length; b++) {
                heaviest = ups[b] ? Math.max(heaviest, backends.get(b)[1]) : heaviest;
            }
            int[] credit = new int[8];
            int left = any(ups) ? size : 0;
            while (left > 0) {
                for (int b = 0; b < ups.length; b++) {
                    if (!ups[b] || left == 0) {
                        continue;
                    }
                    credit[b] += backends.get(b)[1];
                    if (credit[b] < heaviest) {
                        continue;
                    }
                    credit[b] -= heaviest;
                    for (int s : row(backends.get(b)[0], size)) {
                        if (table[s] == NONE) {
                            table[s] = b;
                            left--;
                            break;
                        }
                    }
                }
            }
            return table;
        }

        int[] tableOf(int g) {
            return table(ups(g), size);
        }

        int uneven(boolean[] ups, int size) {
            int[] table = table(ups, size);
            int all = 0;
            for (int b = 0; b < ups.length; b++) {
                all += ups[b] ? backends.get(b)[1] : 0;
            }
            int most = 0;
            for (int b = 0; b < ups.length; b++) {
                if (ups[b]) {
                    int of = 0;
                    for (int s : table) {
                        of += s == b ? 1 : 0;
                    }
                    most = Math.max(most, Math.abs(size * backends.get(b)[1] - of * all));
                }
            }
            return most;
        }

        static boolean isSize(int n) {
            if (n < 3 || n > 97) {
                return false;
            }
            for (int d = 2; d < n; d++) {
                if (n % d == 0) {
                    return false;
                }
            }
            return true;
        }

        int goal(int g, int flow) {
            int[] known = memory.get(g).get(flow);
            if (known != null && states[g][known[0]] != 0) {
                return known[0];
            }
            return tableOf(g)[slotOf(flow, size)];
        }

        int pack(int g, int flow) {
            int goal = goal(g, flow);
            TreeMap<Integer, int[]> flows = memory.get(g);
            flows.remove(flow);
            if (goal != NONE) {
                shrink(flows, room - 1);
                flows.put(flow, new int[] {goal, now});
            }
            return goal;
        }

        static void shrink(TreeMap<Integer, int[]> flows, int most) {
            while (flows.size() > most) {
                int worst = NONE;
                for (int flow : flows.keySet()) {
                    if (worst == NONE || flows.get(flow)[1] < flows.get(worst)[1]) {
                        worst = flow;
                    }
                }
                flows.remove(worst);
            }
        }

        void forget() {
            for (var flows : memory) {
                flows.values().removeIf(v -> now - v[1] > age);
                shrink(flows, room);
            }
        }

        int see(int gate, int backend, int state) {
            int n = 0;
            for (int g = 0; g < 4; g++) {
                if ((gate == NONE || gate == g) && states[g][backend] != state) {
                    states[g][backend] = state;
                    n++;
                }
            }
            return n;
        }

        boolean hasKey(int key) {
            for (int[] b : backends) {
                if (b[0] == key) {
                    return true;
                }
            }
            return false;
        }

        void add(int key, int weight) {
            backends.add(new int[] {key, weight});
            see(NONE, backends.size() - 1, 1);
        }

        static int differ(int[] before, int[] after, boolean[] upsAfter, boolean needless) {
            int n = 0;
            for (int s = 0; s < before.length; s++) {
                if (before[s] != after[s] && (!needless || before[s] >= 0 && upsAfter[before[s]])) {
                    n++;
                }
            }
            return n;
        }

        int were(int g, int b, int state, boolean needless) {
            Model then = copy();
            then.states[g][b] = state;
            return differ(tableOf(g), then.tableOf(g), then.ups(g), needless);
        }
    }

    /** A text told to a model: all its tokens first, then statement by statement. */
    private static final class Text {
        final List<String> tokens = new ArrayList<>();
        final List<Integer> places = new ArrayList<>();
        final Model model;
        int at = 0;
        int fault = 0;

        Text(String text, Model model) {
            this.model = model;
            var matcher = java.util.regex.Pattern.compile("[a-z]+|[0-9]+|[ \n]+|.", java.util.regex.Pattern.DOTALL)
                .matcher(text);
            while (matcher.find()) {
                char first = matcher.group().charAt(0);
                if (first != ' ' && first != '\n') {
                    tokens.add(matcher.group());
                    places.add(matcher.start());
                }
            }
            tokens.add("");
            places.add(text.length());
        }

        int tell() {
            int statements = 0;
            while (at < tokens.size() - 1) {
                if (!statement()) {
                    return NONE;
                }
                statements++;
            }
            return statements;
        }

        boolean bad(int kind, int token) {
            fault = kind + 8 * places.get(token);
            return false;
        }

        boolean statement() {
            String shape = switch (tokens.get(at)) {
                case "size" -> "S";
                case "back" -> "KW";
                case "weigh" -> "BW";
                case "see" -> "GBH";
                case "tick" -> "T";
                case "room" -> "R";
                case "age" -> "A";
                case "pack" -> "GF";
                default -> "?";
            };
            if (shape.equals("?")) {
                return bad(1, at);
            }
            if (shape.equals("KW") && model.backends.size() == 8) {
                return bad(3, at);
            }
            int[] v = new int[3];
            for (int i = 0; i < shape.length(); i++) {
                int kind = argument(shape.charAt(i), tokens.get(at + 1 + i), v, i);
                if (kind != 0) {
                    return bad(kind, at + 1 + i);
                }
            }
            int close = at + 1 + shape.length();
            if (!tokens.get(close).equals(";")) {
                return bad(1, close);
            }
            perform(tokens.get(at), v);
            at = close + 1;
            return true;
        }

        int argument(char sort, String token, int[] v, int i) {
            if (sort == 'H') {
                v[i] = List.of("down", "up", "drain").indexOf(token);
                return v[i] < 0 ? 1 : 0;
            }
            if (sort == 'G' && token.equals("all")) {
                v[i] = NONE;
                return 0;
            }
            if (!token.matches("[0-9]{1,4}")) {
                return 1;
            }
            int n = Integer.parseInt(token);
            v[i] = n;
            boolean can = switch (sort) {
                case 'S' -> Model.isSize(n);
                case 'K' -> !model.hasKey(n);
                case 'W' -> n >= 1 && n <= 9;
                case 'B' -> n < model.backends.size();
                case 'G' -> n < 4;
                case 'T' -> n >= 1 && n <= 999;
                case 'R' -> n >= 1 && n <= 16;
                case 'A' -> n <= 99;
                default -> true;
            };
            return can ? 0 : 2;
        }

        void perform(String word, int[] v) {
            switch (word) {
                case "size" -> {
                    model.size = v[0];
                    model.kept = new int[4][];
                }
                case "back" -> model.add(v[0], v[1]);
                case "weigh" -> model.backends.get(v[0])[1] = v[1];
                case "see" -> model.see(v[0], v[1], v[2]);
                case "tick" -> model.now += v[0];
                case "room" -> model.room = v[0];
                case "age" -> model.age = v[0];
                default -> {
                    for (int g = 0; g < 4; g++) {
                        if (v[0] == NONE || v[0] == g) {
                            model.pack(g, v[1]);
                        }
                    }
                }
            }
            model.forget();
        }
    }

    private final Random random;
    private final FlowGates real = new FlowGates();
    private Model model = new Model();
    private byte[] tape = new byte[0];
    private int fault = 0;
    private int calls = 0;
    private int wrong = 0;

    private ModelTest(long seed) {
        random = new Random(seed);
    }

    private void due(String call, long got, long want) {
        calls++;
        if (got != want) {
            wrong++;
            System.out.println("call " + calls + ": " + call + " answered " + got + ", due is " + want);
        }
    }

    private void due(String call, boolean got, boolean want) {
        due(call, got ? 1 : 0, want ? 1 : 0);
    }

    private int wild() {
        int[] wilds = {Integer.MIN_VALUE, Integer.MAX_VALUE, -2, -1, 10, 14, 10000, random.nextInt()};
        return wilds[random.nextInt(wilds.length)];
    }

    private int upTo(int most) {
        return random.nextInt(40) == 0 ? wild() : random.nextInt(most + 1);
    }

    private int someGate() {
        return random.nextInt(25) == 0 ? 4 : upTo(3);
    }

    private int someBackend() {
        return random.nextInt(25) == 0 ? model.backends.size() : upTo(Math.max(0, model.backends.size() - 1));
    }

    private int someFlow() {
        return random.nextInt(10) == 0 ? upTo(9999) : upTo(24);
    }

    private int someState() {
        return random.nextInt(25) == 0 ? 3 : upTo(2);
    }

    private int someSize() {
        int[] sizes = {3, 5, 7, 11, 13, 23, 47, 97, 97};
        return random.nextInt(4) == 0 ? upTo(100) : sizes[random.nextInt(sizes.length)];
    }

    private int someKey() {
        return random.nextInt(3) == 0 ? upTo(12) : upTo(9999);
    }

    private boolean gate(int g) {
        return g >= 0 && g < 4;
    }

    private boolean backend(int b) {
        return b >= 0 && b < model.backends.size();
    }

    private boolean flow(int f) {
        return f >= 0 && f < 10000;
    }

    private void tellText() {
        byte[] bytes = someText().getBytes(StandardCharsets.ISO_8859_1);
        for (int i = 0; i < bytes.length; i += 20) {
            byte[] twenty = Arrays.copyOfRange(bytes, i, i + 20);
            feed(twenty);
        }
        int length = Math.min(tape.length, bytes.length);
        due("end", real.end(length), true);
        tape = Arrays.copyOf(tape, length);
        if (random.nextInt(12) == 0) {
            end();
        }
        tellTape();
    }

    private void feed(byte[] twenty) {
        int[] five = new int[5];
        java.nio.ByteBuffer.wrap(twenty).asIntBuffer().get(five);
        boolean fits = tape.length + 20 <= 400;
        if (fits) {
            int had = tape.length;
            tape = Arrays.copyOf(tape, had + 20);
            System.arraycopy(twenty, 0, tape, had, 20);
        }
        due("feed", real.feed(five[0], five[1], five[2], five[3], five[4]), fits ? tape.length : NONE);
    }

    private void end() {
        int n = upTo(tape.length + 1);
        boolean can = n >= 0 && n <= tape.length;
        due("end", real.end(n), can);
        tape = can ? Arrays.copyOf(tape, n) : tape;
    }

    private void tellTape() {
        String text = new String(tape, StandardCharsets.ISO_8859_1);
        Text teller = new Text(text, model.copy());
        int told = teller.tell();
        fault = teller.fault;
        model = told == NONE ? model : teller.model;
        tape = new byte[0];
        due("tell " + text, real.tell(), told);
        due("fault of " + text, real.fault(), fault);
    }

    private String someText() {
        StringBuilder text = new StringBuilder();
        int backs = model.backends.size();
        int statements = random.nextInt(12);
        for (int i = 0; i < statements; i++) {
            String word = List.of("back", "weigh", "see", "see", "tick", "pack", "pack", "pack", "room", "age", "size")
                .get(random.nextInt(11));
            String gates = random.nextInt(3) == 0 ? "all" : Integer.toString(random.nextInt(4));
            int b = random.nextInt(Math.max(1, backs));
            if (word.equals("back") && backs >= 8 && random.nextInt(6) != 0) {
                continue;
            }
            backs += word.equals("back") ? 1 : 0;
            text.append(word).append(blank()).append(switch (word) {
                case "back" -> random.nextInt(10000) + " " + (1 + random.nextInt(9));
                case "weigh" -> b + " " + (1 + random.nextInt(9));
                case "see" -> gates + " " + b + blank() + List.of("up", "down", "drain").get(random.nextInt(3));
                case "tick" -> Integer.toString(1 + random.nextInt(random.nextInt(9) == 0 ? 999 : 6));
                case "pack" -> gates + " " + random.nextInt(random.nextInt(9) == 0 ? 10000 : 25);
                case "room" -> Integer.toString(1 + random.nextInt(16));
                case "age" -> Integer.toString(random.nextInt(60));
                default -> List.of("3", "7", "13", "47", "97").get(random.nextInt(5));
            }).append(blank()).append(';').append(blank());
        }
        if (random.nextInt(3) == 0 && text.length() > 0) {
            spoil(text);
        }
        text.setLength(Math.min(text.length(), 400));
        return text.toString();
    }

    private void spoil(StringBuilder text) {
        String signs = ";; 0123456789abcdefgiklmnopqrstuwxyz\n\tA\u0000\u00e9";
        int at = random.nextInt(text.length());
        switch (random.nextInt(4)) {
            case 0 -> text.deleteCharAt(at);
            case 1 -> text.setCharAt(at, signs.charAt(random.nextInt(signs.length())));
            case 2 -> text.insert(at, signs.charAt(random.nextInt(signs.length())));
            default -> text.setLength(at);
        }
    }

    private String blank() {
        return List.of(" ", " ", "", "\n", "  ").get(random.nextInt(5));
    }

    private void change() {
        int g = someGate();
        int b = someBackend();
        switch (random.nextInt(12)) {
            case 0 -> tellText();
            case 1 -> resize(someSize());
            case 2 -> addBackend(someKey(), random.nextInt(10) == 0 ? upTo(10) : 1 + random.nextInt(9));
            case 3 -> weigh(b, upTo(10));
            case 4, 5 -> {
                int s = someState();
                int to = random.nextInt(4) == 0 ? NONE : g;
                boolean can = (to == NONE || gate(to)) && backend(b) && s >= 0 && s <= 2;
                due("see", real.see(to, b, s), can ? model.see(to, b, s) : NONE);
            }
            case 6 -> set(upTo(2), random.nextInt(3) == 0 ? upTo(100) : upTo(17));
            case 7 -> {
                int n = random.nextInt(8) == 0 ? upTo(1000) : upTo(9);
                boolean can = n >= 1 && n <= 999;
                model.now += can ? n : 0;
                model.forget();
                due("tick", real.tick(n), can ? model.now : NONE);
            }
            case 8 -> {
                boolean can = gate(g);
                if (can) {
                    model.kept[g] = model.tableOf(g);
                }
                due("keep", real.keep(g), can);
            }
            default -> {
                int f = someFlow();
                due("pack " + g + " " + f, real.pack(g, f), gate(g) && flow(f) ? model.pack(g, f) : -2);
            }
        }
    }

    private void resize(int n) {
        boolean can = n != model.size && Model.isSize(n);
        if (can) {
            model.size = n;
            model.kept = new int[4][];
        }
        due("size " + n, real.size(n), can);
    }

    private void addBackend(int key, int weight) {
        int want = model.backends.size();
        if (key < 0 || key > 9999 || weight < 1 || weight > 9 || model.hasKey(key)) {
            want = NONE;
        } else if (want == 8) {
            want = -2;
        } else {
            model.add(key, weight);
        }
        due("back " + key + " " + weight, real.back(key, weight), want);
    }

    private void weigh(int b, int weight) {
        boolean can = backend(b) && weight >= 1 && weight <= 9 && model.backends.get(b)[1] != weight;
        if (can) {
            model.backends.get(b)[1] = weight;
        }
        due("weigh", real.weigh(b, weight), can);
    }

    private void set(int what, int v) {
        boolean room = what == 0 && v >= 1 && v <= 16 && v != model.room;
        boolean age = what == 1 && v >= 0 && v <= 99 && v != model.age;
        model.room = room ? v : model.room;
        model.age = age ? v : model.age;
        model.forget();
        due("set " + what + " " + v, real.set(what, v), room || age);
    }

    private void ask() {
        int g = someGate();
        int b = someBackend();
        switch (random.nextInt(3)) {
            case 0 -> askBackends(g, b);
            case 1 -> askTables(g, b);
            default -> askFlows(g, b);
        }
    }

    private void askBackends(int g, int b) {
        int[] counts = {model.size, model.backends.size(), model.now, model.room, model.age, tape.length};
        int what = upTo(6);
        due("count", real.count(what), what >= 0 && what < 6 ? counts[what] : NONE);
        what = random.nextBoolean() ? upTo(4) : 10 + random.nextInt(5);
        due("of " + b + " " + what, ofReal(b, what), ofModel(b, what));
        int j = upTo(model.size);
        boolean can = backend(b) && j >= 0 && j < model.size;
        due("slot", real.slot(b, j), can ? Model.row(model.backends.get(b)[0], model.size)[j] : NONE);
        can = gate(g) && j >= 0 && j < model.size;
        due("table " + g + " " + j, real.table(g, j), can ? model.tableOf(g)[j] : NONE);
        int share = NONE;
        if (gate(g) && backend(b)) {
            share = (int) Arrays.stream(model.tableOf(g)).filter(owner -> owner == b).count();
        }
        due("share", real.share(g, b), share);
        int bits = share == NONE ? NONE : Float.floatToIntBits((float) share / (float) model.size);
        due("shareBits", real.shareBits(g, b), bits);
    }

    private long ofReal(int b, int what) {
        try {
            return real.of(b, what);
        } catch (java.util.NoSuchElementException none) {
            return Long.MIN_VALUE;
        }
    }

    private long ofModel(int b, int what) {
        if (!backend(b) || what < 0 || what > 13 || what > 3 && what < 10) {
            return Long.MIN_VALUE;
        }
        if (what >= 10) {
            return model.states[what - 10][b];
        }
        int[] row = Model.row(model.backends.get(b)[0], model.size);
        return switch (what) {
            case 2 -> row[0];
            case 3 -> Math.floorMod(row[1] - row[0], model.size);
            default -> model.backends.get(b)[what];
        };
    }

    private void askTables(int g, int b) {
        boolean up = gate(g) && Model.any(model.ups(g));
        due("uneven", real.uneven(g), up ? model.uneven(model.ups(g), model.size) : NONE);
        int other = someGate();
        boolean both = gate(g) && gate(other);
        int alike = both ? model.size - Model.differ(model.tableOf(g), model.tableOf(other), null, false) : NONE;
        due("alike", real.alike(g, other), alike);
        int s = someState();
        boolean needless = random.nextBoolean();
        boolean can = gate(g) && backend(b) && s >= 0 && s <= 2;
        due("were", real.were(g, b, s, needless), can ? model.were(g, b, s, needless) : NONE);
        int what = random.nextBoolean() ? upTo(2) : 10 + random.nextInt(model.size + 1);
        due("changed " + what, real.changed(g, what), changed(g, what));
        int rough = NONE;
        for (int i = 0; i < model.backends.size() && gate(g); i++) {
            boolean rougher = rough == NONE || model.were(g, i, 0, true) > model.were(g, rough, 0, true);
            rough = model.states[g][i] == 1 && rougher ? i : rough;
        }
        due("roughest", real.roughest(g), rough);
        if (random.nextInt(5) == 0) {
            due("evenest", real.evenest(g), up ? evenest(model.ups(g)) : NONE);
        }
    }

    private int changed(int g, int what) {
        if (!gate(g) || model.kept[g] == null) {
            return NONE;
        }
        if (what == 0 || what == 1) {
            return Model.differ(model.kept[g], model.tableOf(g), model.ups(g), what == 1);
        }
        return what >= 10 && what - 10 < model.size ? model.kept[g][what - 10] : NONE;
    }

    private int evenest(boolean[] ups) {
        int best = NONE;
        for (int n = 97; n >= 3; n--) {
            boolean better = Model.isSize(n)
                && (best == NONE || model.uneven(ups, n) * best <= model.uneven(ups, best) * n);
            best = better ? n : best;
        }
        return best;
    }

    private void askFlows(int g, int b) {
        int f = someFlow();
        due("flow", real.flow(f), flow(f) ? Model.slotOf(f, model.size) : NONE);
        int what = upTo(2);
        int[] known = gate(g) ? model.memory.get(g).get(f) : null;
        due("remembers", real.remembers(g, f, what), known == null || what < 0 || what > 1 ? NONE : known[what]);
        int to = random.nextInt(4) == 0 ? NONE : b;
        due("flows", real.flows(g, to), flows(g, to));
        int k = upTo(9);
        boolean can = gate(g) && k >= 0 && k < model.memory.get(g).size();
        due("flowAt", real.flowAt(g, k), can ? new ArrayList<>(model.memory.get(g).keySet()).get(k) : NONE);
        int other = someGate();
        int astray = NONE;
        if (gate(g) && gate(other)) {
            astray = (int) model.memory.get(g).entrySet().stream()
                .filter(e -> model.copy().pack(other, e.getKey()) != e.getValue()[0]).count();
        }
        due("astray", real.astray(g, other), astray);
        due("idle", real.idle(g, b), idle(g, b));
    }

    private int flows(int g, int to) {
        if (!gate(g) || to != NONE && !backend(to)) {
            return NONE;
        }
        return (int) model.memory.get(g).values().stream().filter(v -> to == NONE || v[0] == to).count();
    }

    private int idle(int g, int b) {
        if (!gate(g) || !backend(b)) {
            return NONE;
        }
        Model later = model.copy();
        while (later.memory.get(g).values().stream().anyMatch(v -> v[0] == b)) {
            later.now++;
            later.forget();
        }
        return later.now;
    }

    private void run() {
        int early = random.nextInt(9);
        for (int b = 0; b < early; b++) {
            addBackend(someKey(), 1 + random.nextInt(9));
        }
        // a round is at most some thirty calls, so the object stays within those that count
        while (calls < CALLS - 40 && wrong == 0) {
            if (random.nextInt(3) != 0) {
                change();
            } else {
                ask();
            }
        }
    }

    public static void main(String[] args) {
        int runs = args.length > 0 ? Integer.parseInt(args[0]) : RUNS;
        long calls = 0;
        for (int seed = 1; seed <= runs; seed++) {
            ModelTest test = new ModelTest(seed);
            test.run();
            calls += test.calls;
            if (test.wrong != 0) {
                System.out.println("seed " + seed + " went wrong");
                System.exit(1);
            }
        }
        System.out.println("as the model: " + calls + " calls in " + runs + " runs");
    }
}
