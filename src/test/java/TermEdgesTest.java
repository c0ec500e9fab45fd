/** The boundary cases that the document's terms 1 to 3 name, a test for each sentence. */
public final class TermEdgesTest {
    private static final int NONE = Edges.NONE;
    private static final int DOWN = Edges.DOWN;
    private static final int UP = Edges.UP;
    private static final int DRAINING = Edges.DRAINING;

    public static void main(String[] args) {
        Edges.runAll(TermEdgesTest.class);
    }

    private static void says(String words) {
        Edges.says(words);
    }

    private static void due(String call, long got, long want) {
        Edges.due(call, got, want);
    }

    private static void due(String call, boolean got, boolean want) {
        Edges.due(call, got, want);
    }

    private static boolean isPrime(int n) {
        for (int d = 2; d < n; d++) {
            if (n % d == 0) {
                return false;
            }
        }
        return n > 1;
    }

    // ---- what it is

    private static void object512Calls() {
        says("An object is used for at most 512 calls after it has been made");
        FlowGates x = Edges.twins(1, 1);
        for (int i = 1; i <= 505; i++) {
            due("tick 999", x.tick(999), 999 * i);
        }
        due("pack, the 508th", x.pack(3, 9999), 1);
        due("remembers, the 509th", x.remembers(3, 9999, 1), 504495);
        due("idle, the 510th", x.idle(3, 1), 504516);
        due("evenest, the 511th", x.evenest(3), 97);
        due("count, the 512th", x.count(2), 504495);
    }

    // ---- term 1

    private static void term1SizeIsAPrime3To97() {
        says("Term 1: SIZE: a prime 3 to 97");
        FlowGates x = new FlowGates();
        for (int n = -9; n <= 130; n++) {
            boolean can = n >= 3 && n <= 97 && n != 7 && isPrime(n);
            due("size " + n, x.size(n), can);
            if (can) {
                due("count 0", x.count(0), n);
                x.size(7);
            }
        }
        FlowGates y = new FlowGates();
        int[] squaresAndWide = {9, 25, 49, 9409, 65539, 1 << 16 | 11, Edges.LEAST, Edges.LEAST + 11, Edges.MOST};
        for (int n : squaresAndWide) {
            due("size " + n, y.size(n), false);
        }
        due("count 0", y.count(0), 7);
    }

    private static void term1SizeIs7AtFirst() {
        says("Term 1: SIZE (7 at first)");
        FlowGates x = new FlowGates();
        due("count 0", x.count(0), 7);
        due("size 7", x.size(7), false);
        x.back(0, 1);
        due("slot 6", x.slot(0, 6), 6);
        due("slot 7", x.slot(0, 7), NONE);
    }

    private static void term1SlotsAre0ToSizeLess1() {
        says("Term 1: SLOTS 0 to SIZE less 1");
        int[] sizes = {3, 7, 97};
        for (int n : sizes) {
            FlowGates x = new FlowGates();
            x.size(n);
            x.back(0, 1);
            due("table 0", x.table(0, 0), 0);
            due("table last", x.table(0, n - 1), 0);
            due("table past", x.table(0, n), NONE);
            due("table -1", x.table(0, -1), NONE);
            due("slot past", x.slot(0, n), NONE);
            x.keep(0);
            due("kept last", x.changed(0, 10 + n - 1), 0);
            due("kept past", x.changed(0, 10 + n), NONE);
        }
    }

    private static void term1BackendsAreAtMost8() {
        says("Term 1: BACKENDS, at most 8");
        FlowGates x = new FlowGates();
        for (int b = 0; b < 8; b++) {
            due("back", x.back(100 + b, 1), b);
        }
        due("a 9th", x.back(108, 1), -2);
        due("count 1", x.count(1), 8);
        due("share of the 8th", x.share(0, 7), 0);
        due("share of a 9th", x.share(0, 8), NONE);
        x.see(NONE, 3, DOWN);
        due("one that is down is there", x.back(108, 1), -2);
    }

    private static void term1BackendsAreNumberedAsTheyCame() {
        says("Term 1: BACKENDS, numbered from 0 on as they came");
        FlowGates x = new FlowGates();
        due("back 900", x.back(900, 1), 0);
        due("refused ones take no number", x.back(900, 1), NONE);
        due("back 5", x.back(5, 9), 1);
        due("back 70", x.back(70, 4), 2);
        due("of 0", x.of(0, 0), 900);
        due("of 1", x.of(1, 0), 5);
        due("of 2", x.of(2, 0), 70);
    }

    private static void term1KeysAre0To9999() {
        says("Term 1: a KEY 0 to 9999");
        FlowGates x = new FlowGates();
        due("key -1", x.back(-1, 1), NONE);
        due("key 10000", x.back(10000, 1), NONE);
        due("key 0", x.back(0, 1), 0);
        due("key 9999", x.back(9999, 1), 1);
        due("of 0", x.of(0, 0), 0);
        due("of 1", x.of(1, 0), 9999);
        due("key 65536", x.back(65536, 1), NONE);
        due("the greatest key", x.back(Edges.MOST, 1), NONE);
        due("the least key", x.back(Edges.LEAST, 1), NONE);
    }

    private static void term1NoTwoKeysAlike() {
        says("Term 1: a KEY (no two alike)");
        FlowGates x = new FlowGates();
        due("first", x.back(7, 1), 0);
        due("again", x.back(7, 1), NONE);
        due("of another weight", x.back(7, 2), NONE);
        x.see(NONE, 0, DOWN);
        due("while it is down", x.back(7, 1), NONE);
        for (int b = 1; b < 8; b++) {
            x.back(7 + b, 1);
            due("the latest again", x.back(7 + b, 3), NONE);
            due("the first again", x.back(7, 3), NONE);
        }
        due("count 1", x.count(1), 8);
    }

    private static void term1WeightsAre1To9() {
        says("Term 1: a WEIGHT 1 to 9");
        FlowGates x = new FlowGates();
        due("weight 0", x.back(1, 0), NONE);
        due("weight 10", x.back(1, 10), NONE);
        due("weight -1", x.back(1, -1), NONE);
        due("weight 1", x.back(1, 1), 0);
        due("weight 9", x.back(2, 9), 1);
        due("weigh 0", x.weigh(0, 0), false);
        due("weigh 10", x.weigh(0, 10), false);
        for (int w = 2; w <= 9; w++) {
            due("weigh " + w, x.weigh(0, w), true);
            due("of", x.of(0, 1), w);
        }
        due("the greatest", x.weigh(0, Edges.MOST), false);
        due("the least", x.weigh(0, Edges.LEAST), false);
    }

    private static void term1GatewaysAre0To3() {
        says("Term 1: GATEWAYS 0 to 3");
        FlowGates x = Edges.twins(1, 1);
        for (int g = 0; g < 4; g++) {
            due("keep " + g, x.keep(g), true);
            due("pack " + g, x.pack(g, 0), 0);
            due("table " + g, x.table(g, 1), 1);
        }
        for (int g : Edges.NO_GATES) {
            due("keep " + g, x.keep(g), false);
            due("pack " + g, x.pack(g, 0), -2);
            due("table " + g, x.table(g, 1), NONE);
        }
    }

    private static void term1EachGatewaySeesForItself() {
        says("Term 1: each SEES a STATE of each BACKEND");
        FlowGates x = Edges.twins(1, 1);
        x.see(0, 0, DOWN);
        x.see(1, 1, DRAINING);
        x.see(3, 0, DRAINING);
        int[][] states = {{DOWN, UP}, {UP, DRAINING}, {UP, UP}, {DRAINING, UP}};
        for (int g = 0; g < 4; g++) {
            due("of 0", x.of(0, 10 + g), states[g][0]);
            due("of 1", x.of(1, 10 + g), states[g][1]);
        }
        Edges.dueTable(x, 0, 1, 1, 1, 1, 1, 1, 1);
        Edges.dueTable(x, 1, 0, 0, 0, 0, 0, 0, 0);
        Edges.dueTable(x, 2, 0, 1, 0, 1, 0, 1, 0);
        Edges.dueTable(x, 3, 1, 1, 1, 1, 1, 1, 1);
    }

    private static void term1StatesAre0To2() {
        says("Term 1: a STATE of each BACKEND: 0 DOWN, 1 UP, 2 DRAINING");
        FlowGates x = Edges.twins(1, 1);
        due("state 2", x.see(0, 0, 2), 1);
        due("state 0", x.see(0, 0, 0), 1);
        due("state 1", x.see(0, 0, 1), 1);
        due("state 3", x.see(0, 0, 3), NONE);
        due("state -1", x.see(0, 0, -1), NONE);
        due("the greatest state", x.see(0, 0, Edges.MOST), NONE);
        due("the least state", x.see(0, 0, Edges.LEAST), NONE);
        due("of", x.of(0, 10), 1);
    }

    private static void term1ABackendIsUpAsItComes() {
        says("Term 1: 1 UP (as it comes)");
        FlowGates x = new FlowGates();
        x.back(1, 1);
        x.see(NONE, 0, DOWN);
        due("back", x.back(2, 1), 1);
        for (int g = 0; g < 4; g++) {
            due("of the first", x.of(0, 10 + g), DOWN);
            due("of the new one", x.of(1, 10 + g), UP);
            due("its share", x.share(g, 1), 7);
        }
    }

    private static void term1MixIsIn32Bits() {
        says("Term 1: MIX (All in 32 bits)");
        int[][] keySizeOffsetSkip = {
            {1, 7, 2, 3}, {1, 97, 54, 45}, {2, 7, 1, 6}, {2, 97, 31, 54},
            {5000, 7, 0, 5}, {5000, 97, 19, 35}, {9999, 3, 1, 2}, {9999, 7, 2, 4}, {9999, 97, 89, 94},
        };
        for (int[] known : keySizeOffsetSkip) {
            FlowGates x = new FlowGates();
            x.size(known[1]);
            x.back(known[0], 1);
            due("offset of " + known[0] + " at " + known[1], x.of(0, 2), known[2]);
            due("skip of " + known[0] + " at " + known[1], x.of(0, 3), known[3]);
        }
    }

    private static void term1MixIsMovedDownBy1() {
        says("Term 1: MIX: its bits moved down by 1 (>>> 1)");
        for (int first = 0; first < 10000; first += 8 * 97) {
            FlowGates x = new FlowGates();
            x.size(97);
            for (int b = 0; b < 8; b++) {
                x.back(Math.min(first + 97 * b, 9999), 1);
            }
            for (int b = 0; b < x.count(1); b++) {
                due("an offset from 0 on", x.of(b, 2) >= 0 && x.of(b, 2) < 97, true);
                due("a skip from 1 on", x.of(b, 3) >= 1 && x.of(b, 3) < 97, true);
            }
        }
    }

    private static void term1MixOf0Is0() {
        says("Term 1: OFFSET: MIX of its KEY, modulo SIZE; its SKIP: modulo SIZE less 1, and 1 (KEY 0)");
        int[] sizes = {3, 5, 7, 97};
        for (int n : sizes) {
            FlowGates x = new FlowGates();
            x.size(n);
            x.back(0, 1);
            due("offset", x.of(0, 2), 0);
            due("skip", x.of(0, 3), 1);
        }
    }

    private static void term1SkipIs1ToSizeLess1() {
        says("Term 1: its SKIP: MIX of its KEY, modulo SIZE less 1, and 1");
        int[][] sizeKeySkip = {{3, 1, 1}, {3, 2, 2}, {7, 49, 1}, {7, 57, 6}, {97, 71, 96}, {97, 88, 96}};
        for (int[] known : sizeKeySkip) {
            FlowGates x = new FlowGates();
            x.size(known[0]);
            x.back(known[1], 1);
            due("skip of " + known[1] + " at " + known[0], x.of(0, 3), known[2]);
        }
    }

    private static void term1ARowWrapsAround() {
        says("Term 1: the j-th SLOT is OFFSET and j times SKIP, modulo SIZE");
        FlowGates x = new FlowGates();
        x.back(54, 1);
        x.back(57, 1);
        x.back(25, 1);
        x.back(18, 1);
        int[][] rows = {
            {6, 0, 1, 2, 3, 4, 5}, {6, 5, 4, 3, 2, 1, 0}, {0, 6, 5, 4, 3, 2, 1}, {6, 3, 0, 4, 1, 5, 2},
        };
        for (int b = 0; b < 4; b++) {
            for (int j = 0; j < 7; j++) {
                due("slot " + b + " " + j, x.slot(b, j), rows[b][j]);
            }
        }
    }

    private static void term1ARowHasEachSlotOnce() {
        says("Term 1: Its ROW: the j-th SLOT (j 0 to SIZE less 1)");
        for (int n = 3; n <= 97; n++) {
            if (isPrime(n)) {
                FlowGates x = new FlowGates();
                x.size(n);
                x.back(9999, 1);
                x.back(71, 1);
                boolean[][] seen = new boolean[2][n];
                for (int j = 0; j < 2 * n; j++) {
                    int slot = x.slot(j % 2, j / 2);
                    due("a slot not met yet at " + n, slot >= 0 && slot < n && !seen[j % 2][slot], true);
                    if (slot >= 0 && slot < n) {
                        seen[j % 2][slot] = true;
                    }
                }
            }
        }
    }

    private static void term1ATableIsNoneWithoutOneUp() {
        says("Term 1: each SLOT is of a BACKEND it SEES UP (NONE without such)");
        Edges.dueTable(new FlowGates(), 3, NONE, NONE, NONE, NONE, NONE, NONE, NONE);
        FlowGates x = Edges.twins(9, 9);
        x.see(0, 0, DOWN);
        x.see(0, 1, DOWN);
        x.see(1, 0, DRAINING);
        x.see(1, 1, DRAINING);
        x.see(2, 0, DOWN);
        x.see(2, 1, DRAINING);
        for (int g = 0; g < 3; g++) {
            Edges.dueTable(x, g, NONE, NONE, NONE, NONE, NONE, NONE, NONE);
        }
        Edges.dueTable(x, 3, 0, 1, 0, 1, 0, 1, 0);
    }

    private static void term1CreditsAre0AtFirst() {
        says("Term 1: CREDITS are 0 at first");
        FlowGates x = Edges.twins(3, 2);
        for (int i = 0; i < 3; i++) {
            Edges.dueTable(x, i, 0, 0, 1, 0, 1, 0, 0);
        }
        x.see(0, 0, DOWN);
        Edges.dueTable(x, 0, 1, 1, 1, 1, 1, 1, 1);
        x.see(0, 0, UP);
        Edges.dueTable(x, 0, 0, 0, 1, 0, 1, 0, 0);
    }

    private static void term1CreditOfTheGreatestWeightIsEnough() {
        says("Term 1: if it is the greatest WEIGHT of these, or more");
        FlowGates x = new FlowGates();
        x.back(0, 9);
        x.back(25, 1);
        // 7 rounds are too few for a weight of 1 beside one of 9; the 9th round is not
        due("share at 7", x.share(0, 1), 0);
        x.size(11);
        Edges.dueTable(x, 0, 0, 0, 0, 0, 0, 0, 0, 0, 0, 0, 1);
        Edges.dueTable(Edges.twins(9, 9), 0, 0, 1, 0, 1, 0, 1, 0);
        Edges.dueTable(Edges.twins(1, 1), 0, 0, 1, 0, 1, 0, 1, 0);
    }

    private static void term1CreditIsThatLess() {
        says("Term 1: then it is that less");
        // 2, 4 less 3, 3 less 3: the light one takes in the 2nd and in the 3rd round, not in the 4th
        Edges.dueTable(Edges.twins(3, 2), 0, 0, 0, 1, 0, 1, 0, 0);
        Edges.dueTable(Edges.twins(2, 3), 0, 1, 0, 1, 0, 1, 1, 0);
    }

    private static void term1TheGreatestWeightIsOfThoseUp() {
        says("Term 1: the greatest WEIGHT of these");
        FlowGates x = new FlowGates();
        x.back(0, 3);
        x.back(49, 2);
        x.back(113, 9);
        x.see(0, 2, DOWN);
        x.see(1, 2, DRAINING);
        Edges.dueTable(x, 0, 0, 0, 1, 0, 1, 0, 0);
        Edges.dueTable(x, 1, 0, 0, 1, 0, 1, 0, 0);
    }

    private static void term1TurnsGoByNumbers() {
        says("Term 1: Round by round, each of these by numbers");
        FlowGates x = new FlowGates();
        x.back(113, 1);
        x.back(0, 1);
        x.back(49, 1);
        Edges.dueTable(x, 0, 0, 1, 2, 0, 1, 2, 0);
        x.see(0, 1, DRAINING);
        Edges.dueTable(x, 0, 0, 2, 0, 2, 0, 2, 0);
    }

    private static void term1TheFirstFreeSlotOfItsRow() {
        says("Term 1: the first SLOT of its ROW that is nobody's yet is its own");
        FlowGates x = new FlowGates();
        x.back(0, 1);
        x.back(54, 1);
        // the second goes from slot 6 round to 0 and 1, which are the first one's
        Edges.dueTable(x, 0, 0, 0, 1, 0, 1, 0, 1);
    }

    private static void term1TillAllSlotsAreSomebodys() {
        says("Term 1: till all SLOTS are somebody's");
        FlowGates x = new FlowGates();
        for (int b = 0; b < 8; b++) {
            x.back(b, 1);
        }
        x.size(3);
        Edges.dueTable(x, 0, 0, 2, 1);
        for (int b = 0; b < 8; b++) {
            due("share of " + b, x.share(0, b), b < 3 ? 1 : 0);
        }
        x.size(97);
        int together = 0;
        for (int b = 0; b < 8; b++) {
            due("share of " + b, x.share(0, b), b == 0 ? 13 : 12);
            together += x.share(0, b);
        }
        due("together", together, 97);
    }

    // ---- term 2

    private static void term2FlowsAre0To9999() {
        says("Term 2: FLOWS 0 to 9999");
        FlowGates x = Edges.twins(1, 1);
        int[] none = {-1, 10000, 65536, Edges.MOST, Edges.LEAST};
        for (int f : none) {
            due("pack " + f, x.pack(0, f), -2);
            due("flow " + f, x.flow(f), NONE);
        }
        due("pack 0", x.pack(0, 0), 0);
        due("pack 9999", x.pack(0, 9999), 1);
        Edges.dueFlows(x, 0, 0, 9999);
    }

    private static void term2SlotOfAFlow() {
        says("Term 2: SLOT of a FLOW: MIX of it by 668265263, modulo SIZE");
        int[][] flowSlots = {{0, 0, 0, 0}, {1, 2, 4, 17}, {2, 1, 1, 82}, {9998, 2, 3, 62}, {9999, 0, 3, 65}, {11, 0, 5, 96}};
        int[] sizes = {3, 7, 97};
        for (int i = 0; i < 3; i++) {
            FlowGates x = new FlowGates();
            x.size(sizes[i]);
            for (int[] known : flowSlots) {
                due("flow " + known[0] + " at " + sizes[i], x.flow(known[0]), known[1 + i]);
            }
        }
    }

    private static void term2TickIs0AtFirst() {
        says("Term 2: TICK 0 at first");
        FlowGates x = Edges.twins(1, 1);
        due("count 2", x.count(2), 0);
        x.pack(0, 0);
        due("remembers", x.remembers(0, 0, 1), 0);
        due("idle", x.idle(0, 1), 0);
        due("tick 1", x.tick(1), 1);
    }

    private static void term2RoomIs8AtFirst() {
        says("Term 2: ROOM of them (8 at first) at most");
        FlowGates x = Edges.twins(1, 1);
        due("count 3", x.count(3), 8);
        for (int f = 1; f <= 8; f++) {
            x.pack(0, f);
        }
        Edges.dueFlows(x, 0, 1, 2, 3, 4, 5, 6, 7, 8);
        x.pack(0, 9);
        Edges.dueFlows(x, 0, 2, 3, 4, 5, 6, 7, 8, 9);
    }

    private static void term2RoomIs1To16() {
        says("Term 2: ROOM of them (1 to 16) at most");
        FlowGates x = Edges.twins(1, 1);
        due("room 0", x.set(0, 0), false);
        due("room 17", x.set(0, 17), false);
        due("room 16", x.set(0, 16), true);
        for (int f = 0; f < 16; f++) {
            x.pack(0, f);
        }
        due("flows", x.flows(0, NONE), 16);
        due("the first is there", x.flowAt(0, 0), 0);
        x.pack(0, 16);
        due("flows", x.flows(0, NONE), 16);
        due("the first is gone", x.flowAt(0, 0), 1);
        due("the last", x.flowAt(0, 15), 16);
        due("room 1", x.set(0, 1), true);
        Edges.dueFlows(x, 0, 16);
        x.pack(0, 3);
        Edges.dueFlows(x, 0, 3);
    }

    private static void term2EachGatewayHasItsOwnRoom() {
        says("Term 2: A GATEWAY REMEMBERS FLOWS, ROOM of them at most");
        FlowGates x = Edges.twins(1, 1);
        x.set(0, 2);
        for (int g = 0; g < 4; g++) {
            x.pack(g, 10 * g + 1);
            x.pack(g, 10 * g + 2);
        }
        for (int g = 0; g < 4; g++) {
            Edges.dueFlows(x, g, 10 * g + 1, 10 * g + 2);
        }
        x.pack(1, 19);
        Edges.dueFlows(x, 1, 12, 19);
        Edges.dueFlows(x, 2, 21, 22);
    }

    private static void term2AgeIs20AtFirst() {
        says("Term 2: one whose TICK is more than AGE (20 at first) ahead of now is FORGOTTEN");
        FlowGates x = Edges.twins(1, 1);
        due("count 4", x.count(4), 20);
        x.tick(3);
        x.pack(0, 1);
        x.tick(20);
        due("20 ticks later", x.remembers(0, 1, 1), 3);
        x.tick(1);
        due("21 ticks later", x.remembers(0, 1, 1), NONE);
        Edges.dueFlows(x, 0);
    }

    private static void term2AgeIs0To99() {
        says("Term 2: AGE (0 to 99)");
        FlowGates x = Edges.twins(1, 1);
        due("age -1", x.set(1, -1), false);
        due("age 100", x.set(1, 100), false);
        due("age 99", x.set(1, 99), true);
        x.pack(0, 1);
        x.tick(99);
        Edges.dueFlows(x, 0, 1);
        x.tick(1);
        Edges.dueFlows(x, 0);
        due("age 0", x.set(1, 0), true);
        x.pack(0, 1);
        Edges.dueFlows(x, 0, 1);
        x.tick(1);
        Edges.dueFlows(x, 0);
    }

    private static void term2ForgottenForEverAsTicksGoBy() {
        says("Term 2: is FORGOTTEN, for ever (as TICKS go by)");
        FlowGates x = Edges.twins(1, 1);
        x.pack(0, 1);
        x.tick(999);
        due("a greater age", x.set(1, 99), true);
        Edges.dueFlows(x, 0);
        x = Edges.twins(1, 1);
        x.pack(0, 1);
        x.tick(21);
        x.set(1, 99);
        Edges.dueFlows(x, 0);
    }

    private static void term2ForgottenForEverAsAgeIsTold() {
        says("Term 2: is FORGOTTEN, for ever (as AGE is told)");
        FlowGates x = Edges.twins(1, 1);
        x.pack(0, 1);
        x.tick(10);
        x.pack(1, 2);
        due("age 10", x.set(1, 10), true);
        Edges.dueFlows(x, 0, 1);
        due("age 9", x.set(1, 9), true);
        Edges.dueFlows(x, 0);
        Edges.dueFlows(x, 1, 2);
        due("age 99", x.set(1, 99), true);
        Edges.dueFlows(x, 0);
        x.set(1, 0);
        Edges.dueFlows(x, 1, 2);
    }

    private static void term2APacketOfAFlowRememberedGoesThere() {
        says("Term 2: if it REMEMBERS it, and does not SEE that BACKEND DOWN, it goes there");
        FlowGates x = Edges.twins(1, 1);
        due("by the table", x.pack(0, 2), 1);
        x.see(0, 1, DRAINING);
        due("to one that drains", x.pack(0, 2), 1);
        x.see(0, 0, DOWN);
        due("to one that drains, with no table", x.pack(0, 2), 1);
        x.see(0, 0, UP);
        x.see(0, 1, DOWN);
        due("moved as it is down", x.pack(0, 2), 0);
        x.see(0, 1, UP);
        due("its slot is of backend 1 again", x.table(0, x.flow(2)), 1);
        due("but it stays where it went", x.pack(0, 2), 0);
    }

    private static void term2ElseByTheTable() {
        says("Term 2: Else it goes to the BACKEND of its SLOT by the TABLE");
        FlowGates x = Edges.twins(1, 1);
        due("not remembered", x.pack(0, 2), 1);
        x.see(0, 1, DOWN);
        due("its backend is down", x.pack(0, 2), 0);
        due("remembered anew", x.remembers(0, 2, 0), 0);
        x.see(1, 1, DRAINING);
        due("one that drains takes no new flow", x.pack(1, 2), 0);
        x.pack(2, 2);
        x.see(2, 0, DOWN);
        x.tick(21);
        x.see(2, 1, DRAINING);
        due("one forgotten is new", x.pack(2, 2), NONE);
    }

    private static void term2LostIsForgotten() {
        says("Term 2: if that is NONE, it is lost, and what it REMEMBERS of the FLOW is FORGOTTEN");
        FlowGates x = Edges.twins(1, 1);
        x.pack(0, 2);
        x.pack(0, 6);
        x.pack(1, 2);
        x.see(0, 0, DOWN);
        x.see(0, 1, DOWN);
        due("lost", x.pack(0, 2), NONE);
        Edges.dueFlows(x, 0, 6);
        due("lost again", x.pack(0, 2), NONE);
        due("a new one is lost", x.pack(0, 9), NONE);
        Edges.dueFlows(x, 0, 6);
        Edges.dueFlows(x, 1, 2);
        x.see(0, 1, UP);
        Edges.dueFlows(x, 0, 6);
        due("lost where nothing has come", new FlowGates().pack(3, 0), NONE);
    }

    private static void term2RemembersBackendAndTick() {
        says("Term 2: It REMEMBERS the FLOW then with that BACKEND and this TICK");
        FlowGates x = Edges.twins(1, 1);
        x.pack(0, 2);
        x.tick(20);
        due("renewed just in time", x.pack(0, 2), 1);
        due("tick", x.remembers(0, 2, 1), 20);
        x.tick(20);
        due("it is young again", x.remembers(0, 2, 0), 1);
        x.see(0, 1, DOWN);
        due("moved", x.pack(0, 2), 0);
        due("backend", x.remembers(0, 2, 0), 0);
        due("tick", x.remembers(0, 2, 1), 40);
        due("flows", x.flows(0, NONE), 1);
    }

    private static void term2TheEldestIsForgottenFirst() {
        says("Term 2: if there is no ROOM for one more, the one with the eldest TICK is FORGOTTEN first");
        FlowGates x = Edges.twins(1, 1);
        x.set(0, 3);
        x.pack(0, 30);
        x.tick(1);
        x.pack(0, 10);
        x.tick(1);
        x.pack(0, 20);
        x.pack(0, 5);
        Edges.dueFlows(x, 0, 5, 10, 20);
        x.pack(0, 10);
        x.tick(1);
        x.pack(0, 1);
        Edges.dueFlows(x, 0, 1, 10, 20);
    }

    private static void term2OfSeveralThatOfTheLeastFlow() {
        says("Term 2: the eldest TICK is FORGOTTEN first, of several that of the least FLOW");
        FlowGates x = Edges.twins(1, 1);
        x.set(0, 3);
        x.pack(0, 12);
        x.pack(0, 11);
        x.pack(0, 13);
        x.pack(0, 5);
        Edges.dueFlows(x, 0, 5, 12, 13);
        x.pack(0, 9999);
        Edges.dueFlows(x, 0, 12, 13, 9999);
        x.tick(1);
        x.pack(0, 0);
        Edges.dueFlows(x, 0, 0, 13, 9999);
        x.pack(0, 1);
        Edges.dueFlows(x, 0, 0, 1, 9999);
    }

    private static void term2OneRememberedNeedsNoMoreRoom() {
        says("Term 2: if there is no ROOM for one more (full, and the FLOW is REMEMBERED already)");
        FlowGates x = Edges.twins(1, 1);
        x.set(0, 2);
        x.pack(0, 2);
        x.tick(1);
        x.pack(0, 6);
        x.pack(0, 6);
        Edges.dueFlows(x, 0, 2, 6);
        x.see(0, 1, DOWN);
        due("moved as its backend is down", x.pack(0, 6), 0);
        Edges.dueFlows(x, 0, 2, 6);
        due("the eldest is moved", x.pack(0, 2), 0);
        Edges.dueFlows(x, 0, 2, 6);
    }

    private static void term2ALostOneTakesNoRoom() {
        says("Term 2: it is lost (full: none is FORGOTTEN for it)");
        FlowGates x = Edges.twins(1, 1);
        x.set(0, 2);
        x.pack(0, 2);
        x.pack(0, 6);
        x.see(0, 0, DOWN);
        x.see(0, 1, DOWN);
        due("lost", x.pack(0, 9), NONE);
        Edges.dueFlows(x, 0, 2, 6);
    }

    private static void term2OneForgottenLeavesItsRoom() {
        says("Term 2: ROOM of them at most (one that is too old takes none)");
        FlowGates x = Edges.twins(1, 1);
        x.set(0, 2);
        x.pack(0, 2);
        x.tick(11);
        x.pack(0, 6);
        x.tick(10);
        x.pack(0, 9);
        Edges.dueFlows(x, 0, 6, 9);
        x.pack(0, 1);
        Edges.dueFlows(x, 0, 1, 9);
    }

    // ---- term 3

    private static void term3OneOfEachIsKept() {
        says("Term 3: The TABLE of a GATEWAY may be KEPT (one of each)");
        FlowGates x = Edges.twins(1, 1);
        x.keep(0);
        x.see(1, 0, DOWN);
        x.keep(1);
        due("kept at 0", x.changed(0, 10), 0);
        due("kept at 1", x.changed(1, 10), 1);
        due("none at 2", x.changed(2, 10), NONE);
        x.see(0, 0, DRAINING);
        x.keep(0);
        due("another one at 0", x.changed(0, 10), 1);
        x.see(0, 0, UP);
        due("it stays as it was kept", x.changed(0, 10), 1);
    }

    private static void term3KeptIsOfASize() {
        says("Term 3: The TABLE of a GATEWAY may be KEPT (of a SIZE)");
        FlowGates x = Edges.twins(1, 1);
        x.keep(0);
        x.size(5);
        due("changed", x.changed(0, 0), NONE);
        x.size(7);
        due("changed, by the first size", x.changed(0, 0), NONE);
        due("slot 0", x.changed(0, 10), NONE);
    }

    private static void term3ChangedAreSlotsOfAnother() {
        says("Term 3: CHANGED are SLOTS that are not of the same BACKEND now as KEPT");
        FlowGates x = Edges.twins(1, 1);
        x.keep(0);
        due("none", x.changed(0, 0), 0);
        x.weigh(0, 9);
        x.weigh(1, 9);
        due("weights alike leave the table", x.changed(0, 0), 0);
        x.see(0, 1, DOWN);
        due("those of the one that is down", x.changed(0, 0), 3);
        x.see(0, 0, DOWN);
        due("all", x.changed(0, 0), 7);
        x.keep(0);
        due("none of nobody's", x.changed(0, 0), 0);
        x.see(0, 0, UP);
        due("all from nobody's", x.changed(0, 0), 7);
    }

    private static void term3NeedlesslyIfItIsThereAndUp() {
        says("Term 3: NEEDLESSLY, if the BACKEND of the KEPT one is there, and the GATEWAY SEES it UP");
        FlowGates x = Edges.twins(1, 1);
        x.keep(0);
        x.see(0, 1, DOWN);
        due("of one that is down", x.changed(0, 1), 0);
        x.see(0, 1, DRAINING);
        due("of one that drains", x.changed(0, 1), 0);
        x.see(0, 1, UP);
        // 0 1 0 1 0 1 0 becomes 0 0 1 0 1 0 0: slots 1, 2, 3, 4, 5 by weight alone
        x.weigh(0, 3);
        x.weigh(1, 2);
        due("changed by weight", x.changed(0, 0), 5);
        due("of ones that are up", x.changed(0, 1), 5);
        FlowGates y = new FlowGates();
        y.keep(0);
        y.back(0, 1);
        due("changed from nobody's", y.changed(0, 0), 7);
        due("nobody is there", y.changed(0, 1), 0);
        x.see(1, 0, DOWN);
        x.keep(1);
        x.see(1, 0, UP);
        x.see(1, 1, DOWN);
        due("other gateways do not count", x.changed(1, 1), 0);
    }

    private static void term3AstrayToAnotherBackend() {
        says("Term 3: FLOWS it REMEMBERS of which a PACKET now at the other one would go to another BACKEND");
        FlowGates x = Edges.twins(1, 1);
        x.pack(0, 2);
        x.pack(0, 6);
        x.pack(0, 17);
        due("tables alike", x.astray(0, 1), 0);
        x.see(1, 1, DRAINING);
        due("two of backend 1", x.astray(0, 1), 2);
        x.see(1, 1, UP);
        x.pack(1, 2);
        x.see(1, 1, DRAINING);
        due("one that the other remembers", x.astray(0, 1), 1);
        x.see(1, 1, DOWN);
        due("but not if it is down", x.astray(0, 1), 2);
        x.pack(1, 6);
        x.see(1, 1, UP);
        due("one that the other remembers elsewhere", x.astray(0, 1), 1);
        due("from the other", x.astray(1, 0), 1);
        x.tick(21);
        due("all are forgotten", x.astray(0, 1), 0);
    }

    private static void term3AstrayOrLost() {
        says("Term 3: ASTRAY: would go to another BACKEND, or be lost");
        FlowGates x = Edges.twins(1, 1);
        x.pack(0, 2);
        x.pack(0, 17);
        x.see(1, 0, DOWN);
        x.see(1, 1, DOWN);
        due("lost at the other", x.astray(0, 1), 2);
        x.see(0, 0, DOWN);
        x.see(0, 1, DOWN);
        due("lost at itself", x.astray(0, 0), 2);
        Edges.dueFlows(x, 0, 2, 17);
    }

    private static void term3UnevenIsWithoutSign() {
        says("Term 3: UNEVEN is by SIZE times WEIGHT less SLOTS times all WEIGHTS together, without sign");
        FlowGates few = new FlowGates();
        FlowGates many = new FlowGates();
        few.size(97);
        many.size(3);
        for (int b = 0; b < 8; b++) {
            few.back(b, b == 7 ? 1 : 9);
            many.back(b, 1);
        }
        due("too few slots: 97 times 9 less 13 times 64", few.uneven(0), 41);
        due("too many slots: 3 times 1 less 1 times 8", many.uneven(0), 5);
    }

    private static void term3UnevenIsTheGreatest() {
        says("Term 3: UNEVEN: of the BACKEND (it SEES UP) of which that is greatest");
        FlowGates x = Edges.twins(1, 1);
        due("7 times 1 less 4 times 2", x.uneven(0), 1);
        x.back(113, 9);
        x.see(0, 2, DRAINING);
        due("one that drains counts for nothing", x.uneven(0), 1);
        x.see(0, 2, DOWN);
        due("one that is down counts for nothing", x.uneven(0), 1);
        x.see(0, 1, DOWN);
        due("one alone has all", x.uneven(0), 0);
        FlowGates y = new FlowGates();
        y.back(0, 9);
        y.back(25, 1);
        due("one without any slot", y.uneven(0), 7);
    }

    private static void term3EvenestIsBySize() {
        says("Term 3: EVENEST: of all SIZES that of which UNEVEN by SIZE is least");
        // 1 at 3, 5 and 7 as at 97, where it is least by size
        due("two alike", Edges.twins(1, 1).evenest(0), 97);
        due("9 and 8: none uneven at 17", Edges.twins(9, 8).evenest(0), 17);
        due("3 and 2: none uneven at 5", Edges.twins(3, 2).evenest(0), 5);
        due("2 and 1: none uneven at 3", Edges.twins(2, 1).evenest(0), 3);
        due("9 and 1", Edges.twins(9, 1).evenest(0), 71);
    }

    private static void term3EvenestOfSeveralTheLeast() {
        says("Term 3: EVENEST: of several the least");
        FlowGates x = new FlowGates();
        x.size(97);
        x.back(9999, 9);
        due("one alone is even at each size", x.evenest(0), 3);
    }

    private static void term3IdleBehindATick() {
        says("Term 3: IDLE behind a TICK, if no more PACKETS came and it then REMEMBERS no FLOW to it");
        FlowGates x = Edges.twins(1, 1);
        x.tick(10);
        x.pack(0, 2);
        int tick = x.idle(0, 1);
        due("idle", tick, 31);
        x.tick(20);
        due("one tick ahead of it", x.flows(0, 1), 1);
        due("idle", x.idle(0, 1), 31);
        x.tick(1);
        due("at it", x.flows(0, 1), 0);
        due("idle", x.idle(0, 1), 31);
        x.tick(1);
        due("idle, now", x.idle(0, 1), 32);
    }
}
