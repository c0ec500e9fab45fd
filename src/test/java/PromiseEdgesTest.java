/** The boundary cases that the promises 1 and 6 to 31 name, a test for each sentence. */
public final class PromiseEdgesTest {
    private static final int NONE = Edges.NONE;
    private static final int MOST = Edges.MOST;
    private static final int LEAST = Edges.LEAST;
    private static final int DOWN = Edges.DOWN;
    private static final int UP = Edges.UP;
    private static final int DRAINING = Edges.DRAINING;
    private static final int[] NO_BACKENDS = {LEAST, -2, -1, 2, 7, 8, MOST};
    private static final int[] NO_STATES = {LEAST, -1, 3, MOST};
    private static final int[] NO_FLOWS = {LEAST, -1, 10000, MOST};

    public static void main(String[] args) {
        Edges.runAll(PromiseEdgesTest.class);
    }

    private static void says(String words) {
        Edges.says(words);
    }

    private static void due(String call, long got, long want) {
        Edges.due(call, got, want);
    }

    private static void due(String call, boolean got, boolean want) {
        Edges.due(call, got, want);
    }

    private static FlowGates twins() {
        return Edges.twins(1, 1);
    }

    private static FlowGates full() {
        FlowGates x = new FlowGates();
        for (int b = 0; b < 8; b++) {
            x.back(b, 1);
        }
        return x;
    }

    private static void downAt(FlowGates x, int gate) {
        for (int b = 0; b < x.count(1); b++) {
            x.see(gate, b, DOWN);
        }
    }

    // ---- promise 1

    private static void promise01Size7() {
        says("Promise 1: SIZE 7");
        FlowGates x = new FlowGates();
        due("count 0", x.count(0), 7);
        x.size(11);
        due("another object has its own", new FlowGates().count(0), 7);
    }

    private static void promise01NoBackends() {
        says("Promise 1: no BACKENDS");
        FlowGates x = new FlowGates();
        due("count 1", x.count(1), 0);
        Edges.noSuch(x, 0, 0);
        due("weigh", x.weigh(0, 1), false);
        due("see", x.see(0, 0, 1), NONE);
        due("slot", x.slot(0, 0), NONE);
        due("share", x.share(0, 0), NONE);
        due("shareBits", x.shareBits(0, 0), NONE);
        due("were", x.were(0, 0, 0, false), NONE);
        due("flows to it", x.flows(0, 0), NONE);
        due("idle", x.idle(0, 0), NONE);
        due("pack", x.pack(0, 0), NONE);
        due("uneven", x.uneven(0), NONE);
        due("evenest", x.evenest(0), NONE);
        due("roughest", x.roughest(0), NONE);
        due("alike", x.alike(0, 1), 7);
        due("astray", x.astray(0, 1), 0);
    }

    // ---- promise 6

    private static void promise06SizeIsAnother() {
        says("Promise 6: SIZE is another one: true");
        FlowGates x = twins();
        due("size 3", x.size(3), true);
        due("count 0", x.count(0), 3);
        due("size 97", x.size(97), true);
        due("count 0", x.count(0), 97);
        due("offset by the size", x.of(1, 2) < 97 && x.table(0, 96) != NONE, true);
    }

    private static void promise06AllKeptTablesGo() {
        says("Promise 6: SIZE is another one (all KEPT TABLES go)");
        FlowGates x = twins();
        for (int g = 0; g < 4; g++) {
            x.keep(g);
        }
        x.size(11);
        for (int g = 0; g < 4; g++) {
            due("changed 0", x.changed(g, 0), NONE);
            due("changed 1", x.changed(g, 1), NONE);
            due("changed 10", x.changed(g, 10), NONE);
        }
        x.keep(2);
        due("kept anew", x.changed(2, 0), 0);
    }

    private static void promise06WhatIsRememberedStays() {
        says("Promise 6: SIZE is another one (what is REMEMBERED stays)");
        FlowGates x = twins();
        x.tick(3);
        x.pack(1, 2);
        x.pack(1, 9999);
        x.size(97);
        Edges.dueFlows(x, 1, 2, 9999);
        due("backend", x.remembers(1, 2, 0), 1);
        due("tick", x.remembers(1, 2, 1), 3);
        due("pack", x.pack(1, 2), 1);
    }

    private static void promise06FalseItIsSo() {
        says("Promise 6: false: it is so");
        FlowGates x = Edges.furnished();
        String before = Edges.seen(x);
        due("size 7", x.size(7), false);
        Edges.same("what is seen", Edges.seen(x), before);
        x.size(11);
        due("size 11 again", x.size(11), false);
    }

    private static void promise06FalseItCantBe() {
        says("Promise 6: false: it can't be");
        FlowGates x = Edges.furnished();
        String before = Edges.seen(x);
        int[] none = {LEAST, -11, -1, 0, 1, 2, 4, 6, 8, 9, 91, 96, 98, 99, 100, 101, 103, MOST};
        for (int n : none) {
            due("size " + n, x.size(n), false);
        }
        Edges.same("what is seen", Edges.seen(x), before);
    }

    // ---- promise 7

    private static void promise07ItsNumber() {
        says("Promise 7: A BACKEND more: its number");
        FlowGates x = new FlowGates();
        for (int b = 0; b < 8; b++) {
            due("back", x.back(9999 - b, 1 + b), b);
            due("count 1", x.count(1), b + 1);
            due("key", x.of(b, 0), 9999 - b);
            due("weight", x.of(b, 1), 1 + b);
        }
    }

    private static void promise07NoneAKeyThatCantBe() {
        says("Promise 7: NONE: KEY can't be");
        FlowGates x = twins();
        int[] none = {LEAST, -1, 10000, MOST};
        for (int key : none) {
            due("key " + key, x.back(key, 1), NONE);
        }
        due("count 1", x.count(1), 2);
        due("with 8 there", full().back(10000, 1), NONE);
    }

    private static void promise07NoneAWeightThatCantBe() {
        says("Promise 7: NONE: WEIGHT can't be");
        FlowGates x = twins();
        int[] none = {LEAST, -1, 0, 10, MOST};
        for (int weight : none) {
            due("weight " + weight, x.back(5, weight), NONE);
        }
        due("count 1", x.count(1), 2);
        due("with 8 there", full().back(100, 10), NONE);
    }

    private static void promise07NoneThereIsThatKey() {
        says("Promise 7: NONE: there is that KEY");
        FlowGates x = twins();
        due("the first one's", x.back(0, 1), NONE);
        due("the last one's", x.back(49, 9), NONE);
        due("count 1", x.count(1), 2);
        due("weight", x.of(1, 1), 1);
        due("with 8 there", full().back(7, 1), NONE);
    }

    private static void promise07Minus2ThereAre8() {
        says("Promise 7: -2: there are 8");
        FlowGates x = full();
        due("a 9th", x.back(8, 1), -2);
        due("a 9th", x.back(9999, 9), -2);
        due("count 1", x.count(1), 8);
        due("the key did not come", x.back(8, 1), -2);
    }

    // ---- promise 8

    private static void promise08WeightIsAnother() {
        says("Promise 8: WEIGHT of a BACKEND is another one: true");
        FlowGates x = twins();
        due("weigh to 9", x.weigh(1, 9), true);
        due("weight", x.of(1, 1), 9);
        due("the other stays", x.of(0, 1), 1);
        due("share", x.share(0, 1), 7);
        due("weigh to 1", x.weigh(1, 1), true);
        due("share", x.share(0, 1), 3);
        x.see(NONE, 1, DOWN);
        due("of one that is down", x.weigh(1, 2), true);
    }

    private static void promise08FalseItIsSo() {
        says("Promise 8: false: it is so");
        FlowGates x = Edges.twins(9, 1);
        due("9 as it is", x.weigh(0, 9), false);
        due("1 as it is", x.weigh(1, 1), false);
    }

    private static void promise08FalseItCantBe() {
        says("Promise 8: false: it can't be");
        FlowGates x = twins();
        int[] none = {LEAST, -1, 0, 10, MOST};
        for (int weight : none) {
            due("weigh to " + weight, x.weigh(0, weight), false);
        }
        due("weight", x.of(0, 1), 1);
    }

    private static void promise08FalseNoneSuch() {
        says("Promise 8: false: there is none such");
        FlowGates x = twins();
        for (int b : NO_BACKENDS) {
            due("weigh " + b, x.weigh(b, 5), false);
        }
        FlowGates y = full();
        due("the last one", y.weigh(7, 5), true);
        due("past the last one", y.weigh(8, 5), false);
    }

    // ---- promise 9

    private static void promise09HowManyDidNotSeeItSo() {
        says("Promise 9: how many GATEWAYS did not see it so");
        FlowGates x = twins();
        due("as it is", x.see(0, 0, UP), 0);
        due("another", x.see(0, 0, DOWN), 1);
        due("as it is", x.see(0, 0, DOWN), 0);
        due("gate 3", x.see(3, 1, DRAINING), 1);
        due("gate 0 sees the other up", x.of(1, 10), UP);
    }

    private static void promise09NoneIsAll() {
        says("Promise 9: A GATEWAY (NONE: all) SEES a STATE");
        FlowGates x = twins();
        x.see(2, 0, DRAINING);
        due("three of four", x.see(NONE, 0, DRAINING), 3);
        due("none of four", x.see(NONE, 0, DRAINING), 0);
        due("four of four", x.see(NONE, 0, DOWN), 4);
        for (int g = 0; g < 4; g++) {
            due("of 0", x.of(0, 10 + g), DOWN);
            due("of 1", x.of(1, 10 + g), UP);
        }
    }

    private static void promise09NoneNoSuchGateway() {
        says("Promise 9: NONE: there are none such (GATEWAY)");
        FlowGates x = Edges.furnished();
        String before = Edges.seen(x);
        int[] none = {LEAST, -2, 4, 5, MOST};
        for (int g : none) {
            due("see " + g, x.see(g, 0, DRAINING), NONE);
        }
        Edges.same("what is seen", Edges.seen(x), before);
    }

    private static void promise09NoneNoSuchBackend() {
        says("Promise 9: NONE: there are none such (BACKEND)");
        FlowGates x = Edges.furnished();
        String before = Edges.seen(x);
        for (int b : NO_BACKENDS) {
            due("see " + b, x.see(0, b, DOWN), NONE);
            due("all see " + b, x.see(NONE, b, DOWN), NONE);
        }
        Edges.same("what is seen", Edges.seen(x), before);
        due("back", x.back(5, 1), 2);
        due("one that comes later is up", x.of(2, 10), UP);
    }

    private static void promise09NoneNoSuchState() {
        says("Promise 9: NONE: there are none such (STATE)");
        FlowGates x = Edges.furnished();
        String before = Edges.seen(x);
        for (int state : NO_STATES) {
            due("see state " + state, x.see(0, 0, state), NONE);
            due("all see state " + state, x.see(NONE, 0, state), NONE);
        }
        Edges.same("what is seen", Edges.seen(x), before);
    }

    // ---- promise 10

    private static void promise10RoomIsV() {
        says("Promise 10: ROOM (what 0) is v: true");
        FlowGates x = new FlowGates();
        due("room 1", x.set(0, 1), true);
        due("count 3", x.count(3), 1);
        due("room 16", x.set(0, 16), true);
        due("count 3", x.count(3), 16);
        due("age stays", x.count(4), 20);
    }

    private static void promise10AgeIsV() {
        says("Promise 10: AGE (1) is v: true");
        FlowGates x = new FlowGates();
        due("age 0", x.set(1, 0), true);
        due("count 4", x.count(4), 0);
        due("age 99", x.set(1, 99), true);
        due("count 4", x.count(4), 99);
        due("room stays", x.count(3), 8);
    }

    private static void promise10TheEldestAreForgotten() {
        says("Promise 10: those with the eldest TICKS are FORGOTTEN where there is no ROOM any more");
        FlowGates x = twins();
        x.pack(0, 3);
        x.tick(1);
        x.pack(0, 1);
        x.tick(1);
        x.pack(0, 2);
        x.pack(1, 7);
        due("room 3", x.set(0, 3), true);
        Edges.dueFlows(x, 0, 1, 2, 3);
        due("room 2", x.set(0, 2), true);
        Edges.dueFlows(x, 0, 1, 2);
        due("room 1", x.set(0, 1), true);
        Edges.dueFlows(x, 0, 2);
        Edges.dueFlows(x, 1, 7);
        due("room 16", x.set(0, 16), true);
        Edges.dueFlows(x, 0, 2);
    }

    private static void promise10OfSeveralTheLeastFlows() {
        says("Promise 10: those with the eldest TICKS, of several the least FLOWS, are FORGOTTEN");
        FlowGates x = twins();
        x.set(0, 16);
        for (int f = 16; f >= 1; f--) {
            x.pack(3, 10 * f);
        }
        x.tick(1);
        x.pack(3, 10);
        x.set(0, 3);
        Edges.dueFlows(x, 3, 10, 150, 160);
    }

    private static void promise10AgeToldForgets() {
        says("Promise 10: AGE (1) is v (and term 2: FORGOTTEN as AGE is told)");
        FlowGates x = twins();
        for (int g = 0; g < 4; g++) {
            x.pack(g, g);
        }
        x.tick(7);
        x.pack(3, 9);
        due("age 7", x.set(1, 7), true);
        Edges.dueFlows(x, 3, 3, 9);
        due("age 6", x.set(1, 6), true);
        for (int g = 0; g < 3; g++) {
            Edges.dueFlows(x, g);
        }
        Edges.dueFlows(x, 3, 9);
    }

    private static void promise10FalseItIsSo() {
        says("Promise 10: false: it is so");
        FlowGates x = new FlowGates();
        due("room 8", x.set(0, 8), false);
        due("age 20", x.set(1, 20), false);
        x.set(0, 3);
        x.set(1, 4);
        due("room 3", x.set(0, 3), false);
        due("age 4", x.set(1, 4), false);
    }

    private static void promise10FalseItCantBe() {
        says("Promise 10: false: it can't be");
        FlowGates x = Edges.furnished();
        String before = Edges.seen(x);
        int[] rooms = {LEAST, -1, 0, 17, MOST};
        int[] ages = {LEAST, -1, 100, MOST};
        for (int v : rooms) {
            due("room " + v, x.set(0, v), false);
        }
        for (int v : ages) {
            due("age " + v, x.set(1, v), false);
        }
        Edges.same("what is seen", Edges.seen(x), before);
    }

    private static void promise10FalseAnotherWhat() {
        says("Promise 10: false: another what");
        FlowGates x = Edges.furnished();
        String before = Edges.seen(x);
        int[] others = {LEAST, -1, 2, 3, 4, MOST};
        for (int what : others) {
            due("set " + what, x.set(what, 5), false);
        }
        Edges.same("what is seen", Edges.seen(x), before);
    }

    // ---- promise 11

    private static void promise11TickThen() {
        says("Promise 11: So many TICKS (1 to 999) go by: TICK then");
        FlowGates x = new FlowGates();
        due("tick 1", x.tick(1), 1);
        due("tick 999", x.tick(999), 1000);
        due("count 2", x.count(2), 1000);
    }

    private static void promise11NoneAnotherNumber() {
        says("Promise 11: NONE: another number");
        FlowGates x = Edges.furnished();
        String before = Edges.seen(x);
        int[] others = {LEAST, -1, 0, 1000, MOST};
        for (int n : others) {
            due("tick " + n, x.tick(n), NONE);
        }
        Edges.same("what is seen", Edges.seen(x), before);
    }

    // ---- promise 12

    private static void promise12TheBackend() {
        says("Promise 12: A PACKET: the BACKEND");
        FlowGates x = twins();
        // 0 1 0 1 0 1 0: flows 0, 2, 17, 4, 1, 11, 10 have the slots 0 to 6
        int[] flows = {0, 2, 17, 4, 1, 11, 10};
        for (int s = 0; s < 7; s++) {
            due("pack " + flows[s], x.pack(0, flows[s]), s % 2);
        }
        due("the greatest flow", x.pack(3, 9999), 1);
    }

    private static void promise12NoneItIsLost() {
        says("Promise 12: NONE: it is lost");
        FlowGates x = twins();
        x.see(0, 0, DOWN);
        x.see(0, 1, DRAINING);
        due("no backend up", x.pack(0, 0), NONE);
        Edges.dueFlows(x, 0);
        due("at another one", x.pack(1, 0), 0);
    }

    private static void promise12Minus2NoSuchGateway() {
        says("Promise 12: -2: there are none such (GATEWAY)");
        FlowGates x = Edges.furnished();
        String before = Edges.seen(x);
        for (int g : Edges.NO_GATES) {
            due("pack " + g, x.pack(g, 1), -2);
        }
        Edges.same("what is seen", Edges.seen(x), before);
        due("without backends, too", new FlowGates().pack(4, 0), -2);
    }

    private static void promise12Minus2NoSuchFlow() {
        says("Promise 12: -2: there are none such (FLOW)");
        FlowGates x = Edges.furnished();
        String before = Edges.seen(x);
        for (int f : NO_FLOWS) {
            due("pack " + f, x.pack(0, f), -2);
        }
        Edges.same("what is seen", Edges.seen(x), before);
        due("without backends, too", new FlowGates().pack(0, 10000), -2);
    }

    // ---- promise 13

    private static void promise13IsKept() {
        says("Promise 13: A GATEWAY's TABLE is KEPT: true");
        FlowGates x = twins();
        for (int g = 0; g < 4; g++) {
            due("none yet", x.changed(g, 0), NONE);
            due("keep", x.keep(g), true);
            for (int s = 0; s < 7; s++) {
                due("kept", x.changed(g, 10 + s), s % 2);
            }
        }
        due("an empty table", new FlowGates().keep(0), true);
    }

    private static void promise13InPlaceOfOneBefore() {
        says("Promise 13: is KEPT (in place of one KEPT before)");
        FlowGates x = twins();
        x.keep(0);
        x.keep(1);
        x.see(NONE, 0, DOWN);
        due("keep", x.keep(0), true);
        for (int s = 0; s < 7; s++) {
            due("kept anew", x.changed(0, 10 + s), 1);
            due("kept before", x.changed(1, 10 + s), s % 2);
        }
        x.see(NONE, 1, DOWN);
        due("keep an empty one", x.keep(0), true);
        due("changed", x.changed(0, 0), 0);
        due("kept anew", x.changed(0, 13), NONE);
    }

    private static void promise13FalseNoneSuch() {
        says("Promise 13: false: there is none such");
        FlowGates x = Edges.furnished();
        String before = Edges.seen(x);
        for (int g : Edges.NO_GATES) {
            due("keep " + g, x.keep(g), false);
        }
        Edges.same("what is seen", Edges.seen(x), before);
    }

    // ---- promise 14

    private static void promise14Counts() {
        says("Promise 14: What 0: SIZE, 1: BACKENDS, 2: TICK, 3: ROOM, 4: AGE, 5: bytes of the TAPE");
        FlowGates x = twins();
        x.size(13);
        x.tick(500);
        x.set(0, 3);
        x.set(1, 4);
        x.feed(0, 0, 0, 0, 0);
        x.end(19);
        int[] counts = {13, 2, 500, 3, 4, 19};
        for (int what = 0; what < 6; what++) {
            due("count " + what, x.count(what), counts[what]);
        }
    }

    private static void promise14NoneForAnotherWhat() {
        says("Promise 14: NONE for another what");
        int[] others = {LEAST, -1, 6, 7, 10, MOST};
        for (int what : others) {
            due("count " + what, twins().count(what), NONE);
        }
    }

    // ---- promise 15

    private static void promise15OfABackend() {
        says("Promise 15: what 0: KEY, 1: WEIGHT, 2: OFFSET, 3: SKIP");
        FlowGates x = new FlowGates();
        x.back(0, 1);
        x.back(9999, 9);
        int[][] known = {{0, 1, 0, 1}, {9999, 9, 2, 4}};
        for (int b = 0; b < 2; b++) {
            for (int what = 0; what < 4; what++) {
                due("of " + b + " " + what, x.of(b, what), known[b][what]);
            }
        }
        x.size(97);
        due("offset by the size", x.of(1, 2), 89);
        due("skip by the size", x.of(1, 3), 94);
    }

    private static void promise15StateThatAGatewaySees() {
        says("Promise 15: 10 + g: STATE that GATEWAY g SEES");
        FlowGates x = twins();
        x.see(0, 1, DOWN);
        x.see(3, 1, DRAINING);
        int[] states = {DOWN, UP, UP, DRAINING};
        for (int g = 0; g < 4; g++) {
            due("of 1 " + (10 + g), x.of(1, 10 + g), states[g]);
            due("of 0 " + (10 + g), x.of(0, 10 + g), UP);
        }
    }

    private static void promise15NoSuchElementNoneSuch() {
        says("Promise 15: NoSuchElementException: there is none such");
        FlowGates x = twins();
        for (int b : NO_BACKENDS) {
            Edges.noSuch(x, b, 0);
            Edges.noSuch(x, b, 10);
            Edges.noSuch(x, b, 99);
        }
        Edges.noSuch(x, 0, 14);
        Edges.noSuch(new FlowGates(), 0, 1);
        Edges.noSuch(full(), 8, 1);
        due("the last one", full().of(7, 0), 7);
    }

    private static void promise15NoSuchElementAnotherWhat() {
        says("Promise 15: NoSuchElementException: another what");
        FlowGates x = twins();
        int[] others = {LEAST, LEAST + 10, -1, 4, 5, 9, 14, 15, MOST};
        for (int what : others) {
            Edges.noSuch(x, 1, what);
        }
    }

    // ---- promise 16

    private static void promise16TheJthSlot() {
        says("Promise 16: The j-th SLOT of a BACKEND's ROW");
        FlowGates x = twins();
        x.back(57, 1);
        due("the first", x.slot(2, 0), 6);
        due("the last", x.slot(2, 6), 0);
        due("another row", x.slot(1, 6), 6);
        x.size(97);
        due("the last at 97", x.slot(0, 96), 96);
    }

    private static void promise16NoneNoneSuch() {
        says("Promise 16: NONE: there are none such");
        FlowGates x = twins();
        for (int b : NO_BACKENDS) {
            due("slot " + b + " 0", x.slot(b, 0), NONE);
        }
        int[] none = {LEAST, -1, 7, 8, 96, MOST};
        for (int j : none) {
            due("slot 0 " + j, x.slot(0, j), NONE);
        }
        x.size(3);
        due("past a smaller size", x.slot(0, 3), NONE);
    }

    // ---- promise 17

    private static void promise17TheBackendOfASlot() {
        says("Promise 17: The BACKEND of a SLOT in a GATEWAY's TABLE");
        FlowGates x = twins();
        x.see(3, 0, DOWN);
        Edges.dueTable(x, 0, 0, 1, 0, 1, 0, 1, 0);
        Edges.dueTable(x, 3, 1, 1, 1, 1, 1, 1, 1);
    }

    private static void promise17NoneNone() {
        says("Promise 17: NONE: none");
        FlowGates x = twins();
        downAt(x, 2);
        Edges.dueTable(x, 2, NONE, NONE, NONE, NONE, NONE, NONE, NONE);
        Edges.dueTable(new FlowGates(), 0, NONE, NONE, NONE, NONE, NONE, NONE, NONE);
    }

    private static void promise17NoneNoneSuch() {
        says("Promise 17: NONE: there are none such");
        FlowGates x = twins();
        for (int g : Edges.NO_GATES) {
            due("table " + g + " 0", x.table(g, 0), NONE);
        }
        int[] none = {LEAST, -1, 7, 8, 96, 97, MOST};
        for (int s : none) {
            due("table 0 " + s, x.table(0, s), NONE);
        }
        x.size(97);
        x.table(0, 96);
        x.size(3);
        due("past a smaller size", x.table(0, 3), NONE);
    }

    // ---- promise 18

    private static void promise18HowManySlots() {
        says("Promise 18: How many SLOTS of a GATEWAY's TABLE are of a BACKEND");
        FlowGates x = twins();
        due("share 0", x.share(0, 0), 4);
        due("share 1", x.share(0, 1), 3);
        x.see(0, 1, DRAINING);
        due("all", x.share(0, 0), 7);
        due("of one that drains", x.share(0, 1), 0);
        x.see(0, 0, DOWN);
        due("of one that is down", x.share(0, 0), 0);
        x.size(97);
        due("all of 97", x.share(1, 0) + x.share(1, 1), 97);
    }

    private static void promise18NoneNoneSuch() {
        says("Promise 18: NONE: there are none such");
        FlowGates x = twins();
        for (int g : Edges.NO_GATES) {
            due("share " + g + " 0", x.share(g, 0), NONE);
        }
        for (int b : NO_BACKENDS) {
            due("share 0 " + b, x.share(0, b), NONE);
        }
        downAt(x, 0);
        due("slots of nobody are not of NONE", x.share(0, NONE), NONE);
    }

    // ---- promise 19

    private static void promise19AsAFloatsBits() {
        says("Promise 19: That by SIZE as a float, as its bits");
        FlowGates x = twins();
        due("4 by 7", x.shareBits(0, 0), 0x3f124925);
        due("3 by 7", x.shareBits(0, 1), 0x3edb6db7);
        x.see(0, 1, DOWN);
        due("7 by 7", x.shareBits(0, 0), 0x3f800000);
        due("0 by 7", x.shareBits(0, 1), 0);
    }

    private static void promise19EachShareOfEachSize() {
        says("Promise 19: (SLOTS made a float, by SIZE made a float)");
        int[] sizes = {3, 5, 7, 11, 13, 17, 19, 23, 29, 31, 37, 41, 43, 47, 53, 59, 61, 67, 71, 73, 79, 83, 89, 97};
        for (int n : sizes) {
            FlowGates x = Edges.twins(1, 9);
            x.size(n);
            for (int w = 1; w <= 9; w++) {
                x.weigh(0, w);
                int want = Float.floatToIntBits((float) x.share(0, 0) / (float) n);
                due("bits at " + n + " of weight " + w, x.shareBits(0, 0), want);
                want = Float.floatToIntBits((float) x.share(0, 1) / (float) n);
                due("bits at " + n + " beside weight " + w, x.shareBits(0, 1), want);
            }
        }
    }

    private static void promise19NoneNoneSuch() {
        says("Promise 19: NONE: there are none such");
        FlowGates x = twins();
        for (int g : Edges.NO_GATES) {
            due("shareBits " + g + " 0", x.shareBits(g, 0), NONE);
        }
        for (int b : NO_BACKENDS) {
            due("shareBits 0 " + b, x.shareBits(0, b), NONE);
        }
    }

    // ---- promise 20

    private static void promise20Uneven() {
        says("Promise 20: UNEVEN");
        due("1 and 1", twins().uneven(3), 1);
        due("3 and 2", Edges.twins(3, 2).uneven(3), 4);
        FlowGates x = full();
        x.size(3);
        due("8 of them in 3 slots", x.uneven(0), 5);
        x.size(97);
        for (int b = 0; b < 8; b++) {
            x.weigh(b, 9);
        }
        due("8 of them in 97 slots", x.uneven(0), 63);
    }

    private static void promise20NoneNoSuchGateway() {
        says("Promise 20: NONE: no such GATEWAY");
        FlowGates x = twins();
        for (int g : Edges.NO_GATES) {
            due("uneven " + g, x.uneven(g), NONE);
        }
    }

    private static void promise20NoneNoBackendUp() {
        says("Promise 20: NONE: no BACKEND it SEES UP");
        due("without backends", new FlowGates().uneven(0), NONE);
        FlowGates x = twins();
        x.see(0, 0, DOWN);
        x.see(0, 1, DRAINING);
        due("at gate 0", x.uneven(0), NONE);
        due("at gate 1", x.uneven(1), 1);
        x.see(0, 1, UP);
        due("one alone", x.uneven(0), 0);
    }

    // ---- promise 21

    private static void promise21Evenest() {
        says("Promise 21: EVENEST for a GATEWAY");
        FlowGates x = Edges.twins(3, 2);
        x.keep(0);
        due("the least size but one", x.evenest(0), 5);
        x.weigh(0, 2);
        due("the greatest size", x.evenest(0), 97);
        x.weigh(1, 1);
        due("the least size", x.evenest(0), 3);
        x.see(1, 1, DOWN);
        due("of the others", x.evenest(1), 3);
        due("the size stays", x.count(0), 7);
        due("kept stays", x.changed(0, 10), 0);
    }

    private static void promise21NoneLikewise() {
        says("Promise 21: NONE: likewise");
        FlowGates x = twins();
        for (int g : Edges.NO_GATES) {
            due("evenest " + g, x.evenest(g), NONE);
        }
        due("without backends", new FlowGates().evenest(0), NONE);
        x.see(0, 0, DOWN);
        x.see(0, 1, DRAINING);
        due("at gate 0", x.evenest(0), NONE);
        due("at gate 1", x.evenest(1), 97);
    }

    // ---- promise 22

    private static void promise22SlotsThatAreChanged() {
        says("Promise 22: what 0: SLOTS that are CHANGED");
        FlowGates x = twins();
        x.keep(3);
        due("none", x.changed(3, 0), 0);
        x.see(3, 0, DRAINING);
        due("some", x.changed(3, 0), 4);
        downAt(x, 3);
        due("all", x.changed(3, 0), 7);
    }

    private static void promise22Needlessly() {
        says("Promise 22: 1: NEEDLESSLY");
        FlowGates x = twins();
        x.keep(3);
        due("none", x.changed(3, 1), 0);
        x.see(3, 0, DRAINING);
        due("none of one that drains", x.changed(3, 1), 0);
        x.keep(3);
        x.see(3, 0, UP);
        due("all that went to one that came up", x.changed(3, 1), 4);
    }

    private static void promise22TheBackendAsKept() {
        says("Promise 22: 10 + s: the BACKEND of SLOT s as KEPT (NONE)");
        FlowGates x = twins();
        x.keep(0);
        downAt(x, 0);
        for (int s = 0; s < 7; s++) {
            due("changed " + (10 + s), x.changed(0, 10 + s), s % 2);
        }
        x.keep(0);
        x.see(0, 0, UP);
        for (int s = 0; s < 7; s++) {
            due("changed " + (10 + s), x.changed(0, 10 + s), NONE);
        }
    }

    private static void promise22NoneNoneIsKept() {
        says("Promise 22: NONE: none is KEPT");
        FlowGates x = twins();
        x.keep(1);
        int[] whats = {0, 1, 10, 16};
        for (int what : whats) {
            due("changed 0 " + what, x.changed(0, what), NONE);
            due("changed 2 " + what, x.changed(2, what), NONE);
        }
    }

    private static void promise22NoneNoneSuch() {
        says("Promise 22: NONE: there are none such");
        FlowGates x = twins();
        x.see(NONE, 0, DOWN);
        for (int g = 0; g < 4; g++) {
            x.keep(g);
        }
        for (int g : Edges.NO_GATES) {
            due("changed " + g + " 0", x.changed(g, 0), NONE);
            due("changed " + g + " 10", x.changed(g, 10), NONE);
        }
        due("the last slot", x.changed(0, 16), 1);
        due("past the last slot", x.changed(0, 17), NONE);
        FlowGates y = twins();
        y.size(97);
        y.keep(0);
        y.size(3);
        y.keep(0);
        due("past a smaller size", y.changed(0, 13), NONE);
    }

    private static void promise22NoneAnotherWhat() {
        says("Promise 22: NONE: another what");
        FlowGates x = twins();
        x.keep(0);
        int[] others = {LEAST, LEAST + 10, -1, 2, 3, 9, 17, 107, MOST};
        for (int what : others) {
            due("changed 0 " + what, x.changed(0, what), NONE);
        }
    }

    // ---- promise 23

    private static void promise23HowManyAreAlike() {
        says("Promise 23: How many SLOTS two GATEWAYS' TABLES have alike");
        FlowGates x = twins();
        due("all", x.alike(0, 3), 7);
        x.see(3, 1, DRAINING);
        due("some", x.alike(0, 3), 4);
        due("some, the other way", x.alike(3, 0), 4);
        x.see(0, 0, DOWN);
        due("none", x.alike(0, 3), 0);
        due("with itself", x.alike(3, 3), 7);
        x.see(3, 0, DOWN);
        due("nobody's and somebody's", x.alike(0, 3), 0);
        x.see(0, 1, DOWN);
        due("nobody's both", x.alike(0, 3), 7);
    }

    private static void promise23OfThisSizeAlone() {
        says("Promise 23: How many SLOTS (those of a greater SIZE before do not count)");
        FlowGates x = twins();
        x.size(97);
        x.see(1, 0, DOWN);
        due("alike at 97", x.alike(0, 1), x.share(0, 1));
        x.size(7);
        due("alike at 7", x.alike(0, 1), 3);
        due("alike at 7", x.alike(1, 1), 7);
        due("were at 7", x.were(0, 0, DOWN, false), 4);
        x.keep(0);
        due("changed at 7", x.changed(0, 0), 0);
    }

    private static void promise23NoneNoneSuch() {
        says("Promise 23: NONE: there are none such");
        FlowGates x = twins();
        for (int g : Edges.NO_GATES) {
            due("alike " + g + " 0", x.alike(g, 0), NONE);
            due("alike 0 " + g, x.alike(0, g), NONE);
            due("alike " + g + " " + g, x.alike(g, g), NONE);
        }
    }

    // ---- promise 24

    private static void promise24HowManyWouldChange() {
        says("Promise 24: Were a GATEWAY to SEE a BACKEND in another STATE: how many SLOTS would change");
        FlowGates x = twins();
        due("down", x.were(0, 0, DOWN, false), 4);
        due("draining", x.were(0, 0, DRAINING, false), 4);
        due("as it is", x.were(0, 0, UP, false), 0);
        x.see(0, 0, DOWN);
        due("up", x.were(0, 0, UP, false), 4);
        due("draining in place of down", x.were(0, 0, DRAINING, false), 0);
        due("the last one down", x.were(0, 1, DOWN, false), 7);
        x.see(0, 1, DRAINING);
        due("the first one up", x.were(0, 1, UP, false), 7);
        due("nothing is seen otherwise", x.of(1, 10), DRAINING);
        due("at another gateway", x.were(1, 1, DOWN, false), 3);
    }

    private static void promise24Needless() {
        says("Promise 24: (needless: how many of these are now of one it would SEE UP then)");
        FlowGates x = twins();
        due("all of these are of the one that is down then", x.were(0, 0, DOWN, true), 0);
        x.see(0, 0, DOWN);
        due("all of these are of one that is up then", x.were(0, 0, UP, true), 4);
        x.see(0, 1, DOWN);
        due("all of these are nobody's now", x.were(0, 0, UP, true), 0);
        FlowGates y = new FlowGates();
        y.back(0, 1);
        y.back(49, 1);
        y.back(113, 1);
        // 0 1 2 0 1 2 0 would become 0 1 0 1 0 1 0: slots 2 to 5, of which 3 and 4 were 0's and 1's
        due("changed", y.were(0, 2, DOWN, false), 4);
        due("needlessly", y.were(0, 2, DOWN, true), 2);
    }

    private static void promise24NoneNoneSuch() {
        says("Promise 24: NONE: there are none such");
        FlowGates x = twins();
        for (int g : Edges.NO_GATES) {
            due("were " + g + " 0 0", x.were(g, 0, DOWN, false), NONE);
        }
        for (int b : NO_BACKENDS) {
            due("were 0 " + b + " 0", x.were(0, b, DOWN, true), NONE);
        }
        for (int state : NO_STATES) {
            due("were 0 0 " + state, x.were(0, 0, state, false), NONE);
        }
    }

    // ---- promise 25

    private static FlowGates four(int size) {
        FlowGates x = new FlowGates();
        x.back(1, 2);
        x.back(2, 3);
        x.back(3, 1);
        x.back(4, 2);
        x.size(size);
        return x;
    }

    private static void promise25MostNeedlessly() {
        says("Promise 25: The BACKEND it SEES UP that, were it DOWN, would change most SLOTS NEEDLESSLY");
        int[][] needless = {{7, 1, 3, 0, 2}, {11, 1, 1, 0, 2}, {13, 2, 3, 2, 1}};
        int[] roughest = {1, 3, 1};
        for (int i = 0; i < 3; i++) {
            FlowGates x = four(needless[i][0]);
            for (int b = 0; b < 4; b++) {
                due("needless without " + b, x.were(0, b, DOWN, true), needless[i][1 + b]);
            }
            // at 11 backend 1 would change 6 slots and backend 3 only 4, but more of these needlessly
            due("roughest at " + needless[i][0], x.roughest(0), roughest[i]);
            due("nothing is seen otherwise", x.of(roughest[i], 10), UP);
        }
    }

    private static void promise25OfSeveralTheFirst() {
        says("Promise 25: of several the first");
        due("none needlessly by either of two", twins().roughest(0), 0);
        FlowGates x = twins();
        x.back(113, 1);
        // 0 1 2 0 1 2 0: two needlessly without 0, without 1, without 2
        due("as many by each of three", x.roughest(0), 0);
        x = four(11);
        x.see(0, 3, DRAINING);
        due("as many by 0 and 2", x.roughest(0), 0);
    }

    private static void promise25OfThoseItSeesUp() {
        says("Promise 25: The BACKEND it SEES UP");
        FlowGates x = twins();
        x.see(0, 0, DRAINING);
        due("one alone", x.roughest(0), 1);
        x.see(0, 0, DOWN);
        due("one alone", x.roughest(0), 1);
        due("at another gateway", x.roughest(1), 0);
        x = four(11);
        x.see(0, 3, DRAINING);
        due("one that drains is not asked", x.roughest(0), 0);
        due("at another gateway it is", x.roughest(1), 3);
    }

    private static void promise25NoneThereIsNone() {
        says("Promise 25: NONE: there is none");
        due("without backends", new FlowGates().roughest(0), NONE);
        FlowGates x = twins();
        x.see(0, 0, DOWN);
        x.see(0, 1, DRAINING);
        due("at gate 0", x.roughest(0), NONE);
        due("at gate 1", x.roughest(1), 0);
    }

    private static void promise25NoneNoSuchGateway() {
        says("Promise 25: NONE: no such GATEWAY");
        FlowGates x = twins();
        for (int g : Edges.NO_GATES) {
            due("roughest " + g, x.roughest(g), NONE);
        }
    }

    // ---- promise 26

    private static void promise26SlotOfAFlow() {
        says("Promise 26: SLOT of a FLOW");
        FlowGates x = new FlowGates();
        due("flow 0", x.flow(0), 0);
        due("flow 9999", x.flow(9999), 3);
        due("the last slot", x.flow(10), 6);
        x.size(97);
        due("the last slot of 97", x.flow(11), 96);
    }

    private static void promise26NoneNoneSuch() {
        says("Promise 26: NONE: there is none such");
        for (int f : NO_FLOWS) {
            due("flow " + f, twins().flow(f), NONE);
        }
    }

    // ---- promise 27

    private static void promise27TheBackendAndTheTick() {
        says("Promise 27: what 0: the BACKEND, 1: the TICK");
        FlowGates x = twins();
        x.pack(0, 0);
        x.tick(9);
        x.pack(3, 9999);
        due("backend", x.remembers(0, 0, 0), 0);
        due("tick", x.remembers(0, 0, 1), 0);
        due("backend", x.remembers(3, 9999, 0), 1);
        due("tick", x.remembers(3, 9999, 1), 9);
    }

    private static void promise27StaysWithItsFlow() {
        says("Promise 27: Of what a GATEWAY REMEMBERS of a FLOW (as others come and are FORGOTTEN)");
        FlowGates x = twins();
        x.set(0, 3);
        x.pack(0, 17);
        x.tick(1);
        x.pack(0, 2);
        x.tick(1);
        x.pack(0, 0);
        int[][] known = {{0, 0, 2}, {2, 1, 1}, {17, 0, 0}};
        dueKnown(x, known);
        x.pack(0, 9999);
        dueKnown(x, new int[][] {{0, 0, 2}, {2, 1, 1}, {9999, 1, 2}});
        x.tick(1);
        x.pack(0, 1);
        dueKnown(x, new int[][] {{0, 0, 2}, {1, 0, 3}, {9999, 1, 2}});
        x.pack(0, 6);
        dueKnown(x, new int[][] {{1, 0, 3}, {6, 1, 3}, {9999, 1, 2}});
    }

    private static void dueKnown(FlowGates x, int[][] flowBackendTick) {
        for (int[] known : flowBackendTick) {
            due("backend of " + known[0], x.remembers(0, known[0], 0), known[1]);
            due("tick of " + known[0], x.remembers(0, known[0], 1), known[2]);
        }
        due("flows", x.flows(0, NONE), flowBackendTick.length);
    }

    private static void promise27NoneNothing() {
        says("Promise 27: NONE: nothing");
        FlowGates x = twins();
        x.pack(0, 5);
        due("another flow", x.remembers(0, 6, 0), NONE);
        due("another gateway", x.remembers(1, 5, 1), NONE);
        x.tick(21);
        due("forgotten", x.remembers(0, 5, 0), NONE);
        due("forgotten", x.remembers(0, 5, 1), NONE);
    }

    private static void promise27NoneNoneSuch() {
        says("Promise 27: NONE: there are none such");
        FlowGates x = twins();
        for (int g = 0; g < 4; g++) {
            x.pack(g, 0);
        }
        for (int g : Edges.NO_GATES) {
            due("remembers " + g + " 0 0", x.remembers(g, 0, 0), NONE);
            due("remembers " + g + " 0 1", x.remembers(g, 0, 1), NONE);
        }
        for (int f : NO_FLOWS) {
            due("remembers 0 " + f + " 0", x.remembers(0, f, 0), NONE);
        }
    }

    private static void promise27NoneAnotherWhat() {
        says("Promise 27: NONE: another what");
        FlowGates x = twins();
        x.pack(0, 5);
        int[] others = {LEAST, -1, 2, 3, 10, MOST};
        for (int what : others) {
            due("remembers 0 5 " + what, x.remembers(0, 5, what), NONE);
        }
    }

    // ---- promise 28

    private static void promise28HowMany() {
        says("Promise 28: How many FLOWS a GATEWAY REMEMBERS (backend NONE)");
        FlowGates x = twins();
        due("none", x.flows(0, NONE), 0);
        x.set(0, 16);
        for (int f = 0; f < 20; f++) {
            x.pack(0, f);
            due("flows", x.flows(0, NONE), Math.min(f + 1, 16));
        }
        due("none at another one", x.flows(1, NONE), 0);
        due("none without backends", new FlowGates().flows(0, NONE), 0);
    }

    private static void promise28HowManyToABackend() {
        says("Promise 28: or how many to a BACKEND");
        FlowGates x = twins();
        x.pack(0, 2);
        x.pack(0, 6);
        x.pack(0, 17);
        due("to 0", x.flows(0, 0), 1);
        due("to 1", x.flows(0, 1), 2);
        x.see(0, 1, DOWN);
        due("to one that is down", x.flows(0, 1), 2);
        x.pack(0, 2);
        due("moved from it", x.flows(0, 1), 1);
        due("moved to the other", x.flows(0, 0), 2);
    }

    private static void promise28NoneNoneSuch() {
        says("Promise 28: NONE: there are none such");
        FlowGates x = twins();
        for (int g : Edges.NO_GATES) {
            due("flows " + g + " NONE", x.flows(g, NONE), NONE);
            due("flows " + g + " 0", x.flows(g, 0), NONE);
        }
        int[] none = {LEAST, -2, 2, 7, 8, MOST};
        for (int b : none) {
            due("flows 0 " + b, x.flows(0, b), NONE);
        }
    }

    // ---- promise 29

    private static void promise29FlowsRising() {
        says("Promise 29: The k-th FLOW (from 0 on, rising)");
        FlowGates x = twins();
        x.set(0, 16);
        int[] mixed = {500, 3, 9999, 0, 77, 78, 76, 9998, 1, 2, 4000, 600, 5, 499, 501, 10};
        for (int f : mixed) {
            x.pack(2, f);
        }
        Edges.dueFlows(x, 2, 0, 1, 2, 3, 5, 10, 76, 77, 78, 499, 500, 501, 600, 4000, 9998, 9999);
        x.tick(1);
        x.pack(2, 0);
        x.pack(2, 9999);
        x.pack(2, 78);
        x.set(0, 3);
        Edges.dueFlows(x, 2, 0, 78, 9999);
    }

    private static void promise29NoneNoneSuch() {
        says("Promise 29: NONE: there are none such");
        FlowGates x = twins();
        due("none yet", x.flowAt(0, 0), NONE);
        x.pack(0, 5);
        x.pack(0, 6);
        int[] none = {LEAST, -1, 2, 3, 15, 16, MOST};
        for (int k : none) {
            due("flowAt 0 " + k, x.flowAt(0, k), NONE);
        }
        for (int g : Edges.NO_GATES) {
            due("flowAt " + g + " 0", x.flowAt(g, 0), NONE);
        }
        x.tick(21);
        due("forgotten", x.flowAt(0, 0), NONE);
        x.set(0, 16);
        for (int f = 0; f < 16; f++) {
            x.pack(0, f);
        }
        due("the last of a full room", x.flowAt(0, 15), 15);
        due("past a full room", x.flowAt(0, 16), NONE);
    }

    // ---- promise 30

    private static void promise30HowManyAreAstray() {
        says("Promise 30: How many FLOWS are ASTRAY from a GATEWAY to another one");
        FlowGates x = twins();
        for (int f = 0; f < 8; f++) {
            x.pack(0, f);
        }
        due("none", x.astray(0, 3), 0);
        x.see(3, 0, DOWN);
        due("those of backend 0", x.astray(0, 3), x.flows(0, 0));
        downAt(x, 3);
        due("all", x.astray(0, 3), 8);
        due("from one that remembers none", x.astray(3, 0), 0);
        due("nothing has come there", x.flows(3, NONE), 0);
    }

    private static void promise30OrItself() {
        says("Promise 30: to another one (or itself)");
        FlowGates x = twins();
        x.pack(0, 2);
        x.pack(0, 17);
        due("none", x.astray(0, 0), 0);
        x.see(0, 1, DRAINING);
        due("one that drains holds its flows", x.astray(0, 0), 0);
        x.see(0, 1, DOWN);
        due("one that is down does not", x.astray(0, 0), 1);
        x.see(0, 0, DOWN);
        due("all are lost", x.astray(0, 0), 2);
        due("none is forgotten", x.flows(0, NONE), 2);
    }

    private static void promise30NoneNoneSuch() {
        says("Promise 30: NONE: there are none such");
        FlowGates x = twins();
        for (int g : Edges.NO_GATES) {
            due("astray " + g + " 0", x.astray(g, 0), NONE);
            due("astray 0 " + g, x.astray(0, g), NONE);
            due("astray " + g + " " + g, x.astray(g, g), NONE);
        }
    }

    // ---- promise 31

    private static void promise31TheLeastTick() {
        says("Promise 31: The least TICK at which a BACKEND is IDLE at a GATEWAY");
        FlowGates x = twins();
        x.pack(0, 2);
        x.tick(5);
        x.pack(0, 6);
        due("by the latest packet", x.idle(0, 1), 26);
        x.pack(0, 2);
        x.set(1, 0);
        due("age 0", x.idle(0, 1), 6);
        x.set(1, 99);
        due("age 99", x.idle(0, 1), 105);
        x.see(0, 1, DOWN);
        due("one that is down", x.idle(0, 1), 105);
        x.pack(0, 2);
        x.pack(0, 6);
        due("all have moved", x.idle(0, 1), 5);
        due("to the other", x.idle(0, 0), 105);
    }

    private static void promise31NowOrLater() {
        says("Promise 31: The least TICK (now or later)");
        FlowGates x = twins();
        due("now, at first", x.idle(0, 0), 0);
        x.tick(999);
        due("now", x.idle(0, 0), 999);
        x.pack(1, 0);
        due("now, at another gateway", x.idle(0, 0), 999);
        due("now, of another backend", x.idle(1, 1), 999);
        due("later", x.idle(1, 0), 1020);
        x.tick(20);
        due("a tick later", x.idle(1, 0), 1020);
        x.tick(1);
        due("now", x.idle(1, 0), 1020);
        x.tick(1);
        due("now", x.idle(1, 0), 1021);
    }

    private static void promise31NoneNoneSuch() {
        says("Promise 31: NONE: there are none such");
        FlowGates x = twins();
        for (int g : Edges.NO_GATES) {
            due("idle " + g + " 0", x.idle(g, 0), NONE);
        }
        for (int b : NO_BACKENDS) {
            due("idle 0 " + b, x.idle(0, b), NONE);
        }
    }
}
