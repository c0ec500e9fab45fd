import java.util.NoSuchElementException;

/** Promises 1 to 31, one by one; the tables' numbers were worked out apart from the class. */
public final class PromiseTest {
    private static final int NONE = FlowGates.NONE;
    private static final int[] TABLE_7 = {1, 1, 0, 2, 0, 3, 1};
    private static final int[] TABLE_7_WITHOUT_1 = {3, 0, 0, 3, 2, 0, 3};
    private static final int[] TABLE_11 = {3, 2, 1, 0, 0, 1, 1, 0, 1, 3, 1};
    private static final int[] TABLE_11_WITHOUT_1 = {3, 2, 0, 0, 0, 2, 3, 0, 3, 0, 3};
    private static int wrong = 0;
    private static int promise = 0;

    private static void due(String what, long got, long want) {
        if (got != want) {
            wrong++;
            System.out.println("promise " + promise + ": " + what + " answered " + got + ", due is " + want);
        }
    }

    private static void due(String what, boolean got, boolean want) {
        due(what, got ? 1 : 0, want ? 1 : 0);
    }

    /** Backends 0 to 3 of keys 1 to 4 and weights 2, 3, 1, 2. */
    private static FlowGates four(int size) {
        FlowGates x = new FlowGates();
        x.size(size);
        x.back(1, 2);
        x.back(2, 3);
        x.back(3, 1);
        x.back(4, 2);
        return x;
    }

    private static void write(FlowGates x, String text) {
        int had = x.count(5);
        for (int i = 0; i < text.length(); i += 20) {
            int[] five = new int[5];
            for (int j = 0; j < 20; j++) {
                int sign = i + j < text.length() ? text.charAt(i + j) : ' ';
                five[j / 4] |= sign << 24 - j % 4 * 8;
            }
            x.feed(five[0], five[1], five[2], five[3], five[4]);
        }
        x.end(had + text.length());
    }

    private static int tell(FlowGates x, String text) {
        write(x, text);
        return x.tell();
    }

    private static void faulty(FlowGates x, String text, int kind, int place) {
        due("tell " + text, tell(x, text), NONE);
        due("fault of " + text, x.fault(), kind + 8 * place);
        due("tape behind " + text, x.count(5), 0);
    }

    private static void fine(FlowGates x, String text, int statements) {
        due("tell " + text, tell(x, text), statements);
        due("fault of " + text, x.fault(), 0);
    }

    private static void noSuch(FlowGates x, int backend, int what) {
        try {
            int got = x.of(backend, what);
            wrong++;
            System.out.println("promise 15: of " + backend + " " + what + " answered " + got);
        } catch (NoSuchElementException due) {
            return;
        }
    }

    public static void main(String[] args) {
        newObject();
        tape();
        texts();
        faultKinds();
        faultsLeaveAll();
        sizes();
        backends();
        seeing();
        settings();
        packets();
        keeping();
        ofBackends();
        tables();
        shares();
        unevenness();
        besideOneAnother();
        memories();
        strays();
        idling();
        System.out.println(wrong == 0 ? "all promises hold" : wrong + " answers are not as due");
        if (wrong != 0) {
            System.exit(1);
        }
    }

    private static void newObject() {
        promise = 1;
        FlowGates x = new FlowGates();
        due("NONE", FlowGates.NONE, -1);
        int[] counts = {7, 0, 0, 8, 20, 0};
        promise = 14;
        for (int what = 0; what < 6; what++) {
            due("count " + what, x.count(what), counts[what]);
        }
        due("count 6", x.count(6), NONE);
        due("count -1", x.count(-1), NONE);
        due("count least", x.count(Integer.MIN_VALUE), NONE);
        promise = 1;
        due("fault", x.fault(), 0);
        due("table", x.table(0, 0), NONE);
        due("uneven", x.uneven(0), NONE);
        due("evenest", x.evenest(0), NONE);
        due("roughest", x.roughest(0), NONE);
        due("pack", x.pack(0, 0), NONE);
        due("flows", x.flows(0, NONE), 0);
        due("changed", x.changed(0, 0), NONE);
    }

    private static void tape() {
        promise = 2;
        FlowGates x = new FlowGates();
        for (int i = 1; i <= 20; i++) {
            due("feed", x.feed(0, 0, 0, 0, 0), 20 * i);
        }
        due("feed to a full tape", x.feed(0, 0, 0, 0, 0), NONE);
        due("count 5", x.count(5), 400);
        promise = 3;
        due("end 401", x.end(401), false);
        due("end -1", x.end(-1), false);
        due("end 400", x.end(400), true);
        due("end 381", x.end(381), true);
        due("feed past 400", x.feed(0, 0, 0, 0, 0), NONE);
        due("count 5", x.count(5), 381);
        due("end 382", x.end(382), false);
        due("end 380", x.end(380), true);
        due("feed to 400", x.feed(0, 0, 0, 0, 0), 400);
        due("end 0", x.end(0), true);
        due("count 5", x.count(5), 0);
        promise = 2;
        // "size 11;" and blanks: the highest byte of each number comes first
        due("feed", x.feed(0x73697a65, 0x2031313b, 0x20202020, 0x20202020, 0x0a0a0a0a), 20);
        due("tell", x.tell(), 1);
        due("count 0", x.count(0), 11);
        due("feed of signed bytes", x.feed(-1, 0, 0, 0, 0), 20);
        due("tell", x.tell(), NONE);
        due("fault", x.fault(), 1);
    }

    private static void texts() {
        promise = 4;
        FlowGates x = new FlowGates();
        fine(x, "", 0);
        fine(x, " \n ", 0);
        fine(x, "size 11;back 1 2;back 2 3; back 3 1;\nback 4 2 ;", 5);
        for (int s = 0; s < 11; s++) {
            due("table " + s, x.table(3, s), TABLE_11[s]);
        }
        fine(x, "see all1down;", 1);
        for (int g = 0; g < 4; g++) {
            due("of", x.of(1, 10 + g), 0);
        }
        fine(x, "see 2 1 drain;see 3 1 up;", 2);
        due("of", x.of(1, 11), 0);
        due("of", x.of(1, 12), 2);
        due("of", x.of(1, 13), 1);
        fine(x, "weigh0 9;weigh 0 9;", 2);
        due("of", x.of(0, 1), 9);
        fine(x, "tick 999;tick 0001;room16;age 0;room 16;", 5);
        due("count 2", x.count(2), 1000);
        due("count 3", x.count(3), 16);
        due("count 4", x.count(4), 0);
        fine(x, "pack all 9999;pack 1 5;", 2);
        due("flows 0", x.flows(0, NONE), 1);
        due("flows 1", x.flows(1, NONE), 2);
        // statements are done one by one: age 0 forgets at the next tick, and a backend can be named at once
        fine(x, "pack 0 1;tick 1;back 5 1;weigh 4 2;see 0 4 down;", 5);
        due("flows 0", x.flows(0, NONE), 0);
        due("of 4", x.of(4, 1), 2);
        due("of 4", x.of(4, 10), 0);
        due("lost packets are no fault", tell(new FlowGates(), "pack all 0;"), 1);
        fine(new FlowGates(), "back 9999 9;back 0 1;", 2);
        StringBuilder full = new StringBuilder();
        for (int i = 0; i < 80; i++) {
            full.append("age1;");
        }
        fine(new FlowGates(), full.toString(), 80);
        x = four(7);
        x.keep(0);
        fine(x, "size 7;", 1);
        due("a size that is told takes the kept tables", x.changed(0, 0), NONE);
        x.keep(0);
        fine(x, "size 3;size 7;", 2);
        due("kept", x.changed(0, 0), NONE);
    }

    private static void faultKinds() {
        promise = 5;
        FlowGates x = four(7);
        faulty(x, ";", 1, 0);
        faulty(x, "size 11", 1, 7);
        faulty(x, "size 11 \n", 1, 9);
        faulty(x, "size;", 1, 4);
        faulty(x, "size up;", 1, 5);
        faulty(x, "size 11 11;", 1, 8);
        faulty(x, "sizes 11;", 1, 0);
        faulty(x, "Size 11;", 1, 0);
        faulty(x, "sizE 11;", 1, 0);
        faulty(x, "size\t11;", 1, 4);
        faulty(x, "size 11;;", 1, 8);
        faulty(x, "7 size;", 1, 0);
        faulty(x, "size 11,", 1, 7);
        faulty(x, "size 00011;", 1, 5);
        faulty(x, "size 12345;", 1, 5);
        faulty(x, "size 11;size 9;", 2, 13);
        faulty(x, "size 2;", 2, 5);
        faulty(x, "size 1;", 2, 5);
        faulty(x, "size 0;", 2, 5);
        faulty(x, "size 101;", 2, 5);
        faulty(x, "size 9 x", 2, 5);
        faulty(x, "back 1 2;", 2, 5);
        faulty(x, "back 5 0;", 2, 7);
        faulty(x, "back 5 10;", 2, 7);
        faulty(x, "back 5 1;back 5 2;", 2, 14);
        faulty(x, "back 5;", 1, 6);
        x = four(7);
        faulty(x, "weigh 4 1;", 2, 6);
        faulty(x, "weigh 0 0;", 2, 8);
        faulty(x, "weigh 0 10;", 2, 8);
        faulty(x, "weigh 0;", 1, 7);
        faulty(x, "see 4 0 up;", 2, 4);
        faulty(x, "see 0 4 up;", 2, 6);
        faulty(x, "see all 4 up;", 2, 8);
        faulty(x, "see every 0 up;", 1, 4);
        faulty(x, "see 0 0 upp;", 1, 8);
        faulty(x, "see 0 0;", 1, 7);
        faulty(x, "see 0 0 up", 1, 10);
        faulty(x, "see 0 0 up down;", 1, 11);
        faulty(x, "tick 0;", 2, 5);
        faulty(x, "tick 1000;", 2, 5);
        faulty(x, "room 0;", 2, 5);
        faulty(x, "room 17;", 2, 5);
        faulty(x, "age 100;", 2, 4);
        faulty(x, "pack 4 1;", 2, 5);
        faulty(x, "pack all 10000;", 1, 9);
        faulty(x, "pack all;", 1, 8);
        faulty(x, "keep 0;", 1, 0);
        faulty(x, "size 11;" + (char) 0, 1, 8);
        faulty(x, "size 11;" + (char) 233, 1, 8);
        faulty(new FlowGates(), "weigh 0 1;", 2, 6);
        faulty(new FlowGates(), "see all 0 up;", 2, 8);
        faulty(x, "back 5 1;back 6 1;back 7 1;back 8 1; back 9 1;", 3, 37);
        fine(x, "back 5 1;back 6 1;back 7 1;back 8 1;", 4);
        faulty(x, "back 1 0;", 3, 0);
        faulty(x, "back;", 3, 0);
        faulty(x, "age 5; back x", 3, 7);
        due("a fault stays", x.fault(), 3 + 8 * 7);
        fine(x, "", 0);
    }

    private static void faultsLeaveAll() {
        promise = 4;
        FlowGates x = four(7);
        x.keep(2);
        x.tick(3);
        x.pack(0, 17);
        x.pack(0, 16);
        faulty(x, "size 11;back 9 9;weigh 0 9;see all 1 down;room 1;age 0;tick 30;pack all 5;;", 1, 74);
        due("size", x.count(0), 7);
        due("backends", x.count(1), 4);
        due("tick", x.count(2), 3);
        due("room", x.count(3), 8);
        due("age", x.count(4), 20);
        due("weight", x.of(0, 1), 2);
        due("state", x.of(1, 12), 1);
        due("kept", x.changed(2, 0), 0);
        due("flows", x.flows(0, NONE), 2);
        due("flow", x.flowAt(0, 0), 16);
        due("tick of a flow", x.remembers(0, 17, 1), 3);
        due("flows", x.flows(1, NONE), 0);
        due("a new key may still come", x.back(9, 9), 4);
        due("it comes up", x.of(4, 13), 1);
    }

    private static void sizes() {
        promise = 6;
        FlowGates x = four(7);
        due("size 7", x.size(7), false);
        int[] cannot = {Integer.MIN_VALUE, -7, -1, 0, 1, 2, 4, 9, 91, 96, 98, 101, Integer.MAX_VALUE};
        for (int n : cannot) {
            due("size " + n, x.size(n), false);
        }
        x.keep(0);
        x.keep(3);
        x.pack(0, 5);
        due("size 7 again", x.size(7), false);
        due("kept", x.changed(0, 0), 0);
        due("size 97", x.size(97), true);
        due("kept", x.changed(0, 0), NONE);
        due("kept", x.changed(3, 10), NONE);
        due("remembered", x.remembers(0, 5, 0), 1);
        due("size 7", x.size(7), true);
        due("kept", x.changed(0, 0), NONE);
        due("size 3", x.size(3), true);
        due("count", x.count(0), 3);
        FlowGates y = new FlowGates();
        for (int n = 8; n <= 100; n++) {
            boolean prime = n % 2 * (n % 3) * (n % 5) * (n % 7) != 0;
            due("size " + n, y.size(n), prime);
        }
    }

    private static void backends() {
        promise = 7;
        FlowGates x = new FlowGates();
        due("key -1", x.back(-1, 1), NONE);
        due("key 10000", x.back(10000, 1), NONE);
        due("weight 0", x.back(1, 0), NONE);
        due("weight 10", x.back(1, 10), NONE);
        due("back", x.back(0, 1), 0);
        due("back", x.back(0, 2), NONE);
        due("back", x.back(9999, 9), 1);
        for (int b = 2; b < 8; b++) {
            due("back", x.back(b, b), b);
        }
        due("a 9th", x.back(8, 1), -2);
        due("a 9th with a key that is there", x.back(0, 1), NONE);
        due("a 9th with a weight that can't be", x.back(8, 0), NONE);
        due("count", x.count(1), 8);
        promise = 8;
        due("weigh", x.weigh(0, 1), false);
        due("weigh", x.weigh(0, 0), false);
        due("weigh", x.weigh(0, 10), false);
        due("weigh", x.weigh(8, 1), false);
        due("weigh", x.weigh(-1, 1), false);
        due("weigh", x.weigh(7, 9), true);
        due("of", x.of(7, 1), 9);
        due("weigh", x.weigh(7, 9), false);
        due("weigh", x.weigh(7, 1), true);
        x = four(11);
        due("weigh", x.weigh(3, 9), true);
        int[] table = {3, 3, 1, 1, 0, 3, 3, 3, 3, 3, 3};
        for (int s = 0; s < 11; s++) {
            due("table", x.table(0, s), table[s]);
        }
    }

    private static void seeing() {
        promise = 9;
        FlowGates x = four(7);
        due("see", x.see(0, 1, 1), 0);
        due("see", x.see(0, 1, 2), 1);
        due("see", x.see(NONE, 1, 2), 3);
        due("see", x.see(NONE, 1, 2), 0);
        due("see", x.see(3, 1, 0), 1);
        due("see", x.see(NONE, 1, 1), 4);
        due("see", x.see(4, 1, 1), NONE);
        due("see", x.see(-2, 1, 1), NONE);
        due("see", x.see(0, 4, 1), NONE);
        due("see", x.see(0, -1, 1), NONE);
        due("see", x.see(0, 0, 3), NONE);
        due("see", x.see(NONE, 0, -1), NONE);
        due("of", x.of(0, 10), 1);
    }

    private static void settings() {
        promise = 10;
        FlowGates x = four(7);
        due("room as it is", x.set(0, 8), false);
        due("age as it is", x.set(1, 20), false);
        due("room 0", x.set(0, 0), false);
        due("room 17", x.set(0, 17), false);
        due("age -1", x.set(1, -1), false);
        due("age 100", x.set(1, 100), false);
        due("what 2", x.set(2, 5), false);
        due("what -1", x.set(-1, 5), false);
        due("room 16", x.set(0, 16), true);
        due("age 99", x.set(1, 99), true);
        due("count 3", x.count(3), 16);
        due("count 4", x.count(4), 99);
        for (int f = 15; f >= 0; f--) {
            x.pack(0, f);
            if (f == 8) {
                x.tick(1);
            }
        }
        due("flows", x.flows(0, NONE), 16);
        due("room 12", x.set(0, 12), true);
        due("the least of the eldest went", x.flowAt(0, 8), 12);
        due("flows", x.flows(0, NONE), 12);
        due("flow", x.remembers(0, 11, 0), NONE);
        due("room 1", x.set(0, 1), true);
        due("flow left", x.flowAt(0, 0), 7);
        due("room 8", x.set(0, 8), true);
        due("flows do not come back", x.flows(0, NONE), 1);
        x.tick(5);
        due("age 5", x.set(1, 5), true);
        due("young enough", x.flows(0, NONE), 1);
        due("age 4", x.set(1, 4), true);
        due("too old", x.flows(0, NONE), 0);
        due("age 0", x.set(1, 0), true);
        due("age 50", x.set(1, 50), true);
        due("for ever", x.flows(0, NONE), 0);
        promise = 11;
        x = four(7);
        due("tick 0", x.tick(0), NONE);
        due("tick -1", x.tick(-1), NONE);
        due("tick 1000", x.tick(1000), NONE);
        x.pack(2, 3);
        due("tick 20", x.tick(20), 20);
        due("flows", x.flows(2, NONE), 1);
        due("tick 1", x.tick(1), 21);
        due("flows", x.flows(2, NONE), 0);
        due("tick 999", x.tick(999), 1020);
        due("count 2", x.count(2), 1020);
    }

    private static void packets() {
        promise = 12;
        FlowGates x = four(7);
        due("gate 4", x.pack(4, 0), -2);
        due("gate -1", x.pack(-1, 0), -2);
        due("flow -1", x.pack(0, -1), -2);
        due("flow 10000", x.pack(0, 10000), -2);
        due("slot 0", x.pack(0, 0), 1);
        due("slot 4", x.pack(0, 1), 0);
        due("slot 3", x.pack(0, 4), 2);
        due("slot 5", x.pack(0, 11), 3);
        due("9999", x.pack(0, 9999), 2);
        x.see(0, 1, 2);
        due("a backend that drains holds its flows", x.pack(0, 0), 1);
        due("and takes no more", x.pack(0, 3), 3);
        x.see(0, 1, 0);
        due("a backend that is down holds none", x.pack(0, 0), 3);
        x.see(0, 1, 1);
        due("the flow stays where it went", x.pack(0, 0), 3);
        due("another gateway goes by its table", x.pack(1, 0), 1);
        x.see(0, 0, 0);
        x.see(0, 1, 0);
        x.see(0, 2, 0);
        x.see(0, 3, 2);
        due("no table, but remembered", x.pack(0, 11), 3);
        due("no table: lost", x.pack(0, 1), NONE);
        due("lost is forgotten", x.remembers(0, 1, 0), NONE);
        x.see(0, 0, 1);
        due("forgotten for ever", x.remembers(0, 1, 0), NONE);
        x = four(7);
        for (int f = 8; f >= 1; f--) {
            x.pack(0, f);
            x.tick(1);
        }
        due("flows", x.flows(0, NONE), 8);
        x.pack(0, 8);
        due("one that is there needs no room", x.flows(0, NONE), 8);
        due("nor drives one out", x.remembers(0, 7, 1), 1);
        x.pack(0, 100);
        due("the eldest is forgotten", x.remembers(0, 7, 0), NONE);
        due("flows", x.flows(0, NONE), 8);
        due("one renewed stays", x.remembers(0, 8, 1), 8);
        x = four(7);
        for (int f = 20; f > 12; f--) {
            x.pack(0, f);
        }
        x.pack(0, 5);
        due("of several the least flow", x.remembers(0, 13, 0), NONE);
        due("first", x.flowAt(0, 0), 5);
        due("second", x.flowAt(0, 1), 14);
        x.pack(0, 6);
        due("even one as new as the others, if it is the least", x.remembers(0, 5, 0), NONE);
    }

    private static void keeping() {
        promise = 13;
        FlowGates x = four(11);
        due("keep 4", x.keep(4), false);
        due("keep -1", x.keep(-1), false);
        due("keep 0", x.keep(0), true);
        promise = 22;
        due("other gate", x.changed(1, 0), NONE);
        due("same", x.changed(0, 0), 0);
        due("same", x.changed(0, 1), 0);
        x.see(0, 1, 0);
        due("changed", x.changed(0, 0), 6);
        due("needlessly", x.changed(0, 1), 1);
        for (int s = 0; s < 11; s++) {
            due("kept slot", x.changed(0, 10 + s), TABLE_11[s]);
        }
        int[] others = {-1, 2, 9, 21, Integer.MAX_VALUE, Integer.MIN_VALUE};
        for (int what : others) {
            due("what " + what, x.changed(0, what), NONE);
        }
        due("gate", x.changed(4, 0), NONE);
        due("gate", x.changed(-1, 0), NONE);
        due("keep anew", x.keep(0), true);
        due("changed", x.changed(0, 0), 0);
        due("kept slot", x.changed(0, 12), 0);
        x.see(0, 1, 1);
        due("up again", x.changed(0, 0), 6);
        due("all of them needlessly", x.changed(0, 1), 6);
        x.keep(0);
        x.weigh(3, 9);
        due("by weight", x.changed(0, 0), 7);
        due("by weight", x.changed(0, 1), 7);
        x.weigh(3, 2);
        x.back(5, 1);
        due("by a backend more", x.changed(0, 0), 1);
        x = new FlowGates();
        due("keep an empty table", x.keep(2), true);
        due("same", x.changed(2, 0), 0);
        due("kept slot", x.changed(2, 10), NONE);
        x.back(0, 1);
        due("changed from none", x.changed(2, 0), 7);
        due("from none is not needless", x.changed(2, 1), 0);
        x.keep(2);
        x.see(2, 0, 2);
        due("changed to none", x.changed(2, 0), 7);
        due("of one that drains, not needless", x.changed(2, 1), 0);
    }

    private static void ofBackends() {
        promise = 15;
        FlowGates x = four(7);
        int[] offsets = {2, 1, 0, 2};
        int[] skips = {3, 6, 2, 5};
        int[] weights = {2, 3, 1, 2};
        for (int b = 0; b < 4; b++) {
            due("key", x.of(b, 0), b + 1);
            due("weight", x.of(b, 1), weights[b]);
            due("offset", x.of(b, 2), offsets[b]);
            due("skip", x.of(b, 3), skips[b]);
            for (int g = 0; g < 4; g++) {
                due("state", x.of(b, 10 + g), 1);
            }
        }
        int[] none = {-1, 4, 9, 14, Integer.MAX_VALUE, Integer.MIN_VALUE};
        for (int what : none) {
            noSuch(x, 0, what);
        }
        noSuch(x, 4, 0);
        noSuch(x, -1, 0);
        noSuch(new FlowGates(), 0, 0);
        x.back(9999, 1);
        x.size(97);
        due("offset", x.of(4, 2), 89);
        due("skip", x.of(4, 3), 94);
        x = new FlowGates();
        x.back(0, 1);
        due("offset of key 0", x.of(0, 2), 0);
        due("skip of key 0", x.of(0, 3), 1);
    }

    private static void tables() {
        promise = 16;
        FlowGates x = four(11);
        int[] row = {2, 8, 3, 9, 4, 10, 5, 0, 6, 1, 7};
        for (int j = 0; j < 11; j++) {
            due("slot " + j, x.slot(1, j), row[j]);
        }
        due("slot 11", x.slot(1, 11), NONE);
        due("slot -1", x.slot(1, -1), NONE);
        due("backend 4", x.slot(4, 0), NONE);
        due("backend -1", x.slot(-1, 0), NONE);
        promise = 17;
        x.see(2, 1, 2);
        for (int s = 0; s < 11; s++) {
            due("table", x.table(0, s), TABLE_11[s]);
            due("table", x.table(2, s), TABLE_11_WITHOUT_1[s]);
        }
        x.size(7);
        for (int s = 0; s < 7; s++) {
            due("table", x.table(3, s), TABLE_7[s]);
            due("table", x.table(2, s), TABLE_7_WITHOUT_1[s]);
        }
        due("slot 7", x.table(0, 7), NONE);
        due("slot -1", x.table(0, -1), NONE);
        due("gate 4", x.table(4, 0), NONE);
        due("gate -1", x.table(-1, 0), NONE);
        // the greatest weight is that of the backends seen up alone
        x = new FlowGates();
        x.back(10, 3);
        x.back(20, 1);
        x.back(30, 2);
        x.see(0, 0, 0);
        int[] table = {2, 2, 2, 1, 2, 2, 1};
        for (int s = 0; s < 7; s++) {
            due("table", x.table(0, s), table[s]);
        }
        promise = 26;
        int[] slots = {0, 4, 1, 0, 3, 0, 1, 4, 0, 1};
        for (int f = 0; f < 10; f++) {
            due("flow", x.flow(f), slots[f]);
        }
        due("flow", x.flow(9999), 3);
        due("flow", x.flow(10000), NONE);
        due("flow", x.flow(-1), NONE);
        x.size(97);
        due("flow", x.flow(9999), 65);
        due("flow", x.flow(1), 17);
    }

    private static void shares() {
        FlowGates x = four(7);
        int[] shares = {2, 3, 1, 1};
        for (int b = 0; b < 4; b++) {
            promise = 18;
            due("share", x.share(0, b), shares[b]);
            promise = 19;
            due("bits", x.shareBits(0, b), Float.floatToIntBits(shares[b] / 7f));
        }
        promise = 18;
        due("share", x.share(0, 4), NONE);
        due("share", x.share(0, -1), NONE);
        due("share", x.share(4, 0), NONE);
        due("share", x.share(-1, 0), NONE);
        x.see(1, 1, 2);
        due("share of one that drains", x.share(1, 1), 0);
        promise = 19;
        due("bits of one that drains", x.shareBits(1, 1), 0);
        due("bits", x.shareBits(0, 4), NONE);
        due("bits", x.shareBits(4, 0), NONE);
        due("bits", x.shareBits(-1, 0), NONE);
        due("bits of 2 by 7", x.shareBits(0, 0), 1049774373);
        due("bits of 1 by 7", x.shareBits(0, 2), 1041385765);
        FlowGates one = new FlowGates();
        one.back(77, 4);
        due("bits of all", one.shareBits(2, 0), 0x3f800000);
        for (int n = 3; n <= 97; n++) {
            FlowGates y = four(n);
            for (int b = 0; b < 4 && y.count(0) == n; b++) {
                due("bits", y.shareBits(0, b), Float.floatToIntBits((float) y.share(0, b) / (float) n));
            }
        }
    }

    private static void unevenness() {
        promise = 20;
        FlowGates x = four(7);
        due("uneven", x.uneven(0), 6);
        x.size(11);
        due("uneven", x.uneven(0), 7);
        due("uneven", x.uneven(4), NONE);
        due("uneven", x.uneven(-1), NONE);
        x.weigh(3, 9);
        due("uneven", x.uneven(0), 21);
        x.weigh(3, 2);
        // weights of backends that are not up do not count
        FlowGates y = new FlowGates();
        y.back(10, 3);
        y.back(20, 1);
        y.back(30, 2);
        due("uneven", y.uneven(0), 3);
        y.see(0, 2, 0);
        due("uneven of 0 and 1", y.uneven(0), 3);
        y.see(0, 0, 2);
        due("uneven of 1", y.uneven(0), 0);
        y.see(0, 1, 0);
        due("uneven of none", y.uneven(0), NONE);
        promise = 21;
        due("evenest of none", y.evenest(0), NONE);
        due("evenest", y.evenest(1), 97);
        y.see(1, 1, 0);
        y.see(1, 2, 0);
        due("of several the least", y.evenest(1), 3);
        due("evenest", x.evenest(0), 97);
        x.see(0, 2, 2);
        x.see(0, 3, 0);
        due("evenest", x.evenest(0), 5);
        due("the size stays", x.count(0), 11);
        due("evenest", x.evenest(4), NONE);
        due("evenest", x.evenest(-1), NONE);
        FlowGates z = new FlowGates();
        z.back(10, 9);
        z.back(20, 8);
        z.back(30, 7);
        z.back(40, 5);
        due("evenest", z.evenest(3), 29);
    }

    private static void besideOneAnother() {
        promise = 23;
        FlowGates x = four(11);
        due("alike", x.alike(0, 1), 11);
        x.see(1, 1, 0);
        due("alike", x.alike(0, 1), 5);
        due("alike", x.alike(1, 0), 5);
        due("alike itself", x.alike(1, 1), 11);
        due("alike", x.alike(4, 0), NONE);
        due("alike", x.alike(0, 4), NONE);
        due("alike", x.alike(-1, 0), NONE);
        due("alike", x.alike(0, -1), NONE);
        due("empty tables are alike", new FlowGates().alike(0, 3), 7);
        promise = 24;
        int[] change = {4, 6, 1, 4};
        int[] needless = {1, 1, 0, 2};
        for (int b = 0; b < 4; b++) {
            due("were", x.were(0, b, 0, false), change[b]);
            due("were", x.were(0, b, 2, false), change[b]);
            due("were", x.were(0, b, 0, true), needless[b]);
            due("were as it is", x.were(0, b, 1, false), 0);
        }
        due("were it up", x.were(1, 1, 1, false), 6);
        due("were it up, needless", x.were(1, 1, 1, true), 6);
        due("were it draining", x.were(1, 1, 2, false), 0);
        due("nothing has changed", x.of(0, 10), 1);
        due("were", x.were(4, 0, 0, false), NONE);
        due("were", x.were(-1, 0, 0, false), NONE);
        due("were", x.were(0, 4, 0, false), NONE);
        due("were", x.were(0, -1, 0, true), NONE);
        due("were", x.were(0, 0, 3, true), NONE);
        due("were", x.were(0, 0, -1, true), NONE);
        promise = 25;
        due("roughest", x.roughest(0), 3);
        due("roughest", x.roughest(4), NONE);
        due("roughest", x.roughest(-1), NONE);
        x.size(7);
        due("roughest", x.roughest(0), 1);
        x.size(13);
        due("roughest", x.roughest(0), 1);
        FlowGates y = new FlowGates();
        y.back(10, 3);
        y.back(20, 1);
        y.back(30, 2);
        due("of several the first", y.roughest(0), 0);
        y.see(0, 0, 2);
        y.see(0, 1, 0);
        due("the only one", y.roughest(0), 2);
        y.see(0, 2, 0);
        due("none", y.roughest(0), NONE);
    }

    private static void memories() {
        FlowGates x = four(7);
        x.tick(4);
        x.pack(1, 9999);
        x.pack(1, 0);
        x.tick(2);
        x.pack(1, 17);
        x.pack(1, 3);
        promise = 27;
        due("backend", x.remembers(1, 9999, 0), 2);
        due("tick", x.remembers(1, 9999, 1), 4);
        due("backend", x.remembers(1, 17, 0), 0);
        due("tick", x.remembers(1, 17, 1), 6);
        due("what 2", x.remembers(1, 17, 2), NONE);
        due("what -1", x.remembers(1, 17, -1), NONE);
        due("nothing", x.remembers(1, 18, 0), NONE);
        due("other gate", x.remembers(0, 17, 0), NONE);
        due("gate 4", x.remembers(4, 17, 0), NONE);
        due("gate -1", x.remembers(-1, 17, 0), NONE);
        due("flow -1", x.remembers(1, -1, 0), NONE);
        due("flow 10000", x.remembers(1, 10000, 0), NONE);
        promise = 28;
        due("all", x.flows(1, NONE), 4);
        int[] to = {1, 2, 1, 0};
        for (int b = 0; b < 4; b++) {
            due("to " + b, x.flows(1, b), to[b]);
        }
        due("to 4", x.flows(1, 4), NONE);
        due("to -2", x.flows(1, -2), NONE);
        due("gate 4", x.flows(4, NONE), NONE);
        due("gate -1", x.flows(-1, 0), NONE);
        x.see(1, 1, 0);
        due("to one that is down", x.flows(1, 1), 2);
        promise = 29;
        int[] rising = {0, 3, 17, 9999};
        for (int k = 0; k < 4; k++) {
            due("flow at", x.flowAt(1, k), rising[k]);
        }
        due("at 4", x.flowAt(1, 4), NONE);
        due("at -1", x.flowAt(1, -1), NONE);
        due("gate 4", x.flowAt(4, 0), NONE);
        due("gate -1", x.flowAt(-1, 0), NONE);
        due("gate 0", x.flowAt(0, 0), NONE);
        x.tick(19);
        due("two are forgotten", x.flowAt(1, 0), 3);
        due("two are left", x.flowAt(1, 2), NONE);
    }

    private static void strays() {
        promise = 30;
        FlowGates x = four(7);
        x.pack(0, 0);
        x.pack(0, 1);
        x.pack(0, 4);
        x.pack(0, 11);
        due("tables alike", x.astray(0, 1), 0);
        due("itself", x.astray(0, 0), 0);
        due("nothing remembered", x.astray(1, 0), 0);
        // at gate 1 without backend 1: slots 0, 4, 3, 5 are of 3, 2, 3, 0
        x.see(1, 1, 0);
        due("all of them", x.astray(0, 1), 4);
        x.see(1, 1, 2);
        due("one that drains takes no new flows", x.astray(0, 1), 4);
        x.see(1, 1, 1);
        x.pack(1, 0);
        x.see(1, 1, 2);
        due("but one that it remembers", x.astray(0, 1), 3);
        x.see(1, 1, 0);
        due("not when it is down", x.astray(0, 1), 4);
        due("no flow has moved", x.remembers(1, 0, 0), 1);
        x.see(0, 1, 0);
        due("itself", x.astray(0, 0), 1);
        for (int b = 0; b < 4; b++) {
            x.see(2, b, 0);
        }
        due("lost", x.astray(0, 2), 4);
        due("gate 4", x.astray(4, 0), NONE);
        due("gate -1", x.astray(-1, 0), NONE);
        due("other 4", x.astray(0, 4), NONE);
        due("other -1", x.astray(0, -1), NONE);
    }

    private static void idling() {
        promise = 31;
        FlowGates x = four(7);
        due("now", x.idle(0, 1), 0);
        x.tick(5);
        due("now", x.idle(0, 1), 5);
        x.pack(0, 0);
        due("when it is older than age", x.idle(0, 1), 26);
        x.tick(3);
        x.pack(0, 3);
        due("the later one", x.idle(0, 1), 29);
        due("another backend", x.idle(0, 0), 8);
        due("another gate", x.idle(1, 1), 8);
        x.set(1, 7);
        due("by the age now", x.idle(0, 1), 16);
        x.see(0, 1, 2);
        due("draining", x.idle(0, 1), 16);
        x.tick(7);
        due("not yet", x.flows(0, 1), 1);
        x.tick(1);
        due("idle", x.flows(0, 1), 0);
        due("idle now", x.idle(0, 1), 16);
        due("gate 4", x.idle(4, 0), NONE);
        due("gate -1", x.idle(-1, 0), NONE);
        due("backend 4", x.idle(0, 4), NONE);
        due("backend -1", x.idle(0, -1), NONE);
    }
}
