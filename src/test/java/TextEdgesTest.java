/** The boundary cases that term 4 and the promises 2 to 5 name, a test for each sentence. */
public final class TextEdgesTest {
    private static final int NONE = Edges.NONE;
    private static final int DOWN = Edges.DOWN;
    private static final int UP = Edges.UP;
    private static final int DRAINING = Edges.DRAINING;

    public static void main(String[] args) {
        Edges.runAll(TextEdgesTest.class);
    }

    private static void says(String words) {
        Edges.says(words);
    }

    private static void due(String call, long got, long want) {
        Edges.due(call, got, want);
    }

    private static void due(String call, boolean got, boolean want) {
        Edges.due(call, got, want);
    }

    private static void told(FlowGates x, String text, int statements) {
        Edges.told(x, text, statements);
    }

    private static void faulty(FlowGates x, String text, int kind, int place) {
        Edges.faulty(x, text, kind, place);
    }

    private static FlowGates full() {
        FlowGates x = new FlowGates();
        for (int b = 0; b < 8; b++) {
            x.back(b, 1);
        }
        return x;
    }

    // ---- term 4: texts and statements

    private static void term4TextsOf400Bytes() {
        says("Term 4: TEXTS, at most 400 bytes");
        FlowGates x = new FlowGates();
        told(x, "age 1;".repeat(65) + "   age 77;", 66);
        due("count 4", x.count(4), 77);
        told(x, "age1;".repeat(80), 80);
        told(x, " ".repeat(400), 0);
        due("a byte more than 400", new FlowGates().end(401), false);
    }

    private static void term4NoStatements() {
        says("Term 4: { STATEMENT ; } (none at all)");
        FlowGates x = Edges.furnished();
        String before = Edges.seen(x);
        told(x, "", 0);
        told(x, " ", 0);
        told(x, "\n", 0);
        Edges.same("what is seen", Edges.seen(x), before);
    }

    private static void term4EachStatementIsClosed() {
        says("Term 4: { STATEMENT ; } (each has its own ;)");
        FlowGates x = Edges.twins(1, 1);
        faulty(x, ";", 1, 0);
        faulty(x, "age 1;;", 1, 6);
        faulty(x, "age 1", 1, 5);
        faulty(x, "age 1 age 2;", 1, 6);
        faulty(x, "age 1;age 2", 1, 11);
        faulty(x, "see 0 0 up", 1, 10);
        told(x, "age 1;age 2;", 2);
    }

    private static void term4SizeIsAPrime() {
        says("Term 4: size NUMBER");
        for (int n = 0; n <= 101; n++) {
            FlowGates x = new FlowGates();
            boolean prime = n == 2 || n > 2 && n % 2 != 0;
            for (int d = 3; d < n; d += 2) {
                prime &= n % d != 0;
            }
            if (prime && n >= 3 && n <= 97) {
                told(x, "size " + n + ";", 1);
                due("count 0", x.count(0), n);
            } else {
                faulty(x, "size " + n + ";", 2, 5);
                due("count 0", x.count(0), 7);
            }
        }
        faulty(new FlowGates(), "size 9999;", 2, 5);
    }

    private static void term4SizeTakesAllKeptTables() {
        says("Term 4: size NUMBER (all KEPT TABLES go)");
        FlowGates x = Edges.twins(1, 1);
        for (int g = 0; g < 4; g++) {
            x.keep(g);
        }
        told(x, "age 3;", 1);
        due("kept behind another statement", x.changed(3, 0), 0);
        told(x, "size 5;", 1);
        for (int g = 0; g < 4; g++) {
            due("kept at " + g, x.changed(g, 0), NONE);
            x.keep(g);
        }
        told(x, "size 7;size 5;", 2);
        for (int g = 0; g < 4; g++) {
            due("kept at " + g, x.changed(g, 0), NONE);
        }
    }

    private static void term4SizeLeavesWhatIsRemembered() {
        says("Term 4: size NUMBER (and promise 6: what is REMEMBERED stays)");
        FlowGates x = Edges.twins(1, 1);
        x.pack(2, 2);
        told(x, "size 97;", 1);
        due("remembers", x.remembers(2, 2, 0), 1);
    }

    private static void term4BackTakesAKey() {
        says("Term 4: back NUMBER NUMBER (KEY 0 to 9999)");
        FlowGates x = new FlowGates();
        told(x, "back 0 1;back 9999 1;back 0007 1;", 3);
        due("of 0", x.of(0, 0), 0);
        due("of 1", x.of(1, 0), 9999);
        due("of 2", x.of(2, 0), 7);
        due("it comes up", x.of(2, 13), UP);
        faulty(x, "back 10000 1;", 1, 5);
    }

    private static void term4BackTakesAWeight() {
        says("Term 4: back NUMBER NUMBER (WEIGHT 1 to 9)");
        FlowGates x = new FlowGates();
        told(x, "back 1 1;back 2 9;", 2);
        due("of 0", x.of(0, 1), 1);
        due("of 1", x.of(1, 1), 9);
        faulty(x, "back 3 0;", 2, 7);
        faulty(x, "back 3 10;", 2, 7);
        faulty(x, "back 3;", 1, 6);
        due("count 1", x.count(1), 2);
    }

    private static void term4WeighTakesABackend() {
        says("Term 4: weigh NUMBER NUMBER (BACKEND)");
        FlowGates x = Edges.twins(1, 1);
        told(x, "weigh 0 4;weigh 1 5;", 2);
        due("of 0", x.of(0, 1), 4);
        due("of 1", x.of(1, 1), 5);
        faulty(x, "weigh 2 5;", 2, 6);
        faulty(x, "weigh 9999 5;", 2, 6);
        faulty(x, "weigh all 5;", 1, 6);
        faulty(new FlowGates(), "weigh 0 5;", 2, 6);
        told(full(), "weigh 7 5;", 1);
        faulty(full(), "weigh 8 5;", 2, 6);
    }

    private static void term4WeighTakesAWeight() {
        says("Term 4: weigh NUMBER NUMBER (WEIGHT)");
        FlowGates x = Edges.twins(3, 3);
        told(x, "weigh 0 1;weigh 1 9;", 2);
        told(x, "weigh 0 1;", 1);
        faulty(x, "weigh 0 0;", 2, 8);
        faulty(x, "weigh 0 10;", 2, 8);
        faulty(x, "weigh 0;", 1, 7);
        due("of 0", x.of(0, 1), 1);
        due("of 1", x.of(1, 1), 9);
    }

    private static void term4SeeTakesGatesAndABackend() {
        says("Term 4: see GATES NUMBER HOW (BACKEND)");
        FlowGates x = Edges.twins(1, 1);
        told(x, "see 0 0 down;see 3 1 drain;", 2);
        due("of 0", x.of(0, 10), DOWN);
        due("of 1", x.of(1, 13), DRAINING);
        faulty(x, "see 4 0 up;", 2, 4);
        faulty(x, "see 0 2 up;", 2, 6);
        faulty(x, "see all 2 up;", 2, 8);
        faulty(x, "see 0 all up;", 1, 6);
        faulty(x, "see 0 up;", 1, 6);
    }

    private static void term4HowIsUpDownOrDrain() {
        says("Term 4: HOW: up, down, drain");
        FlowGates x = Edges.twins(1, 1);
        told(x, "see 0 0 down;", 1);
        due("down", x.of(0, 10), DOWN);
        told(x, "see 0 0 up;", 1);
        due("up", x.of(0, 10), UP);
        told(x, "see 0 0 drain;", 1);
        due("drain", x.of(0, 10), DRAINING);
        told(x, "see 0 0 drain;", 1);
        faulty(x, "see 0 0 draining;", 1, 8);
        faulty(x, "see 0 0 u;", 1, 8);
        faulty(x, "see 0 0 1;", 1, 8);
        faulty(x, "see 0 0;", 1, 7);
    }

    private static void term4TicksAre1To999() {
        says("Term 4: tick NUMBER (so many TICKS go by, 1 to 999)");
        FlowGates x = new FlowGates();
        told(x, "tick 1;", 1);
        told(x, "tick 999;", 1);
        due("count 2", x.count(2), 1000);
        faulty(x, "tick 0;", 2, 5);
        faulty(x, "tick 1000;", 2, 5);
        faulty(x, "tick 9999;", 2, 5);
        due("count 2", x.count(2), 1000);
    }

    private static void term4TicksMakeFlowsForgotten() {
        says("Term 4: tick NUMBER, age NUMBER (and term 2: FORGOTTEN, for ever)");
        FlowGates x = Edges.twins(1, 1);
        x.pack(0, 2);
        told(x, "tick 20;", 1);
        Edges.dueFlows(x, 0, 2);
        told(x, "tick 1;age 99;", 2);
        Edges.dueFlows(x, 0);
        x.pack(0, 2);
        told(x, "tick 9;age 9;", 2);
        Edges.dueFlows(x, 0, 2);
        told(x, "age 8;age 99;", 2);
        Edges.dueFlows(x, 0);
    }

    private static void term4RoomIs1To16() {
        says("Term 4: room NUMBER");
        FlowGates x = new FlowGates();
        told(x, "room 16;", 1);
        due("count 3", x.count(3), 16);
        told(x, "room 1;room 1;", 2);
        due("count 3", x.count(3), 1);
        faulty(x, "room 0;", 2, 5);
        faulty(x, "room 17;", 2, 5);
        due("count 3", x.count(3), 1);
    }

    private static void term4RoomMakesFlowsForgotten() {
        says("Term 4: room NUMBER (and promise 10: those are FORGOTTEN where there is no ROOM any more)");
        FlowGates x = Edges.twins(1, 1);
        told(x, "pack 0 12;pack 0 11;tick 1;pack 0 1;pack 3 5;room 2;", 6);
        Edges.dueFlows(x, 0, 1, 12);
        told(x, "room 1;room 8;", 2);
        Edges.dueFlows(x, 0, 1);
        Edges.dueFlows(x, 3, 5);
    }

    private static void term4AgeIs0To99() {
        says("Term 4: age NUMBER");
        FlowGates x = new FlowGates();
        told(x, "age 99;", 1);
        due("count 4", x.count(4), 99);
        told(x, "age 0;age 0;", 2);
        due("count 4", x.count(4), 0);
        faulty(x, "age 100;", 2, 4);
        faulty(x, "age 9999;", 2, 4);
        due("count 4", x.count(4), 0);
    }

    private static void term4PackTakesAFlow() {
        says("Term 4: pack GATES NUMBER (a PACKET of that FLOW)");
        FlowGates x = Edges.twins(1, 1);
        told(x, "pack 0 0;pack 3 9999;pack 0 0000;", 3);
        Edges.dueFlows(x, 0, 0);
        Edges.dueFlows(x, 3, 9999);
        faulty(x, "pack 0 10000;", 1, 7);
        faulty(x, "pack 4 0;", 2, 5);
        faulty(x, "pack 0;", 1, 6);
        told(new FlowGates(), "pack 0 0;pack all 1;", 2);
    }

    private static void term4GatesAreAllOrANumber() {
        says("Term 4: GATES: all, or a NUMBER, a GATEWAY");
        FlowGates x = Edges.twins(1, 1);
        told(x, "pack all 2;see all 1 drain;", 2);
        for (int g = 0; g < 4; g++) {
            Edges.dueFlows(x, g, 2);
            due("of", x.of(1, 10 + g), DRAINING);
        }
        for (int g = 0; g < 4; g++) {
            told(x, "see " + g + " 0 drain;pack " + g + " 2;", 2);
        }
        faulty(x, "pack 4 2;", 2, 5);
        faulty(x, "see 9999 0 up;", 2, 4);
        faulty(x, "pack any 2;", 1, 5);
        faulty(x, "pack al 2;", 1, 5);
        faulty(x, "pack alll 2;", 1, 5);
        faulty(x, "pack up 2;", 1, 5);
    }

    // ---- term 4: tokens

    private static void term4WordsAreAsManyLettersAsStandThere() {
        says("Term 4: words (letters a to z, as many as stand there)");
        FlowGates x = Edges.twins(1, 1);
        faulty(x, "ages 1;", 1, 0);
        faulty(x, "ag 1;", 1, 0);
        faulty(x, "ageage 1;", 1, 0);
        faulty(x, "a ge 1;", 1, 0);
        faulty(x, "see 0 0 updown;", 1, 8);
        faulty(x, "packall 2;", 1, 0);
        faulty(x, "z;", 1, 0);
        faulty(x, "{;", 1, 0);
        faulty(x, "`;", 1, 0);
        faulty(x, "age` 1;", 1, 3);
        faulty(x, "age{ 1;", 1, 3);
        faulty(x, "Age 1;", 1, 0);
        faulty(x, "agE 1;", 1, 0);
    }

    private static void term4NumbersAreOf1To4Digits() {
        says("Term 4: NUMBERS (1 to 4 digits, as many as stand there)");
        FlowGates x = Edges.twins(1, 1);
        told(x, "age 7;", 1);
        told(x, "age 0009;", 1);
        due("count 4", x.count(4), 9);
        told(x, "tick 0999;", 1);
        faulty(x, "age 00009;", 1, 4);
        faulty(x, "age 12345;", 1, 4);
        faulty(x, "age 1 2;", 1, 6);
        faulty(x, "age -1;", 1, 4);
        faulty(x, "age /;", 1, 4);
        faulty(x, "age :;", 1, 4);
        faulty(x, "age 1:;", 1, 5);
        faulty(x, "age 1/;", 1, 5);
        faulty(x, "pack 00000 1;", 1, 5);
        faulty(x, "age " + "9".repeat(390) + ";", 1, 4);
    }

    private static void term4BlanksAre32And10() {
        says("Term 4: blanks (32, 10) between or not");
        FlowGates x = Edges.twins(1, 1);
        told(x, "  see\nall\n\n 1\n down \n;\n ", 1);
        due("of", x.of(1, 10), DOWN);
        int[] others = {0, 9, 11, 13, 31, 33, 127, 128, 160, 255};
        for (int sign : others) {
            faulty(x, "age" + (char) sign + "1;", 1, 3);
            faulty(x, "age 1;" + (char) sign, 1, 6);
        }
        due("count 4", x.count(4), 20);
    }

    private static void term4BlanksMayBeLeftOut() {
        says("Term 4: blanks between or not (not)");
        FlowGates x = Edges.twins(1, 1);
        told(x, "age7;see all1drain;see2 0down;pack3 5;back9 9;tick1;", 6);
        due("count 4", x.count(4), 7);
        due("of 1", x.of(1, 11), DRAINING);
        due("of 0", x.of(0, 12), DOWN);
        due("of 2", x.of(2, 0), 9);
        due("count 2", x.count(2), 1);
    }

    private static void term4StatementsAreDoneOneByOne() {
        says("Term 4: STATEMENTS are done one by one");
        FlowGates x = new FlowGates();
        told(x, "back 5 1;weigh 0 7;see 1 0 down;pack all 3;", 4);
        due("weight", x.of(0, 1), 7);
        Edges.dueFlows(x, 0, 3);
        Edges.dueFlows(x, 1);
        faulty(x, "weigh 1 2;back 6 1;", 2, 6);
        told(x, "back 6 1;weigh 1 2;", 2);
        told(x, "see all 0 down;see all 0 up;", 2);
        due("the later one holds", x.of(0, 10), UP);
    }

    // ---- term 4: faults

    private static void term4FaultIsKindAnd8TimesThePlace() {
        says("Term 4: FAULTS, told as kind and 8 times the place together");
        FlowGates x = new FlowGates();
        Edges.write(x, "x;");
        due("tell", x.tell(), NONE);
        due("fault 1 at 0", x.fault(), 1);
        Edges.write(x, "age 100;");
        due("tell", x.tell(), NONE);
        due("fault 2 at 4", x.fault(), 34);
        FlowGates y = full();
        Edges.write(y, "age 1; back 9 1;");
        due("tell", y.tell(), NONE);
        due("fault 3 at 7", y.fault(), 59);
    }

    private static void term4PlaceIsATokensFirstByte() {
        says("Term 4: the place (a TOKEN's first byte)");
        FlowGates x = new FlowGates();
        faulty(x, " \n wrong;", 1, 3);
        faulty(x, "age  100;", 2, 5);
        faulty(x, "age  10000;", 1, 5);
        faulty(x, "age 1  ;  seen", 1, 10);
    }

    private static void term4PlaceOfTheEndIsTheLength() {
        says("Term 4: the place (the end's: the text's length)");
        FlowGates x = new FlowGates();
        faulty(x, "age", 1, 3);
        faulty(x, "age 1", 1, 5);
        faulty(x, "age 1 \n ", 1, 8);
        faulty(x, "back 1", 1, 6);
        faulty(x, "age 1;".repeat(66) + "age1", 1, 400);
        faulty(x, "age 1;".repeat(66) + "age ", 1, 400);
        faulty(x, "age 1;".repeat(66) + "   a", 1, 399);
    }

    private static void term4TheFirstFaultAlongTheText() {
        says("Term 4: FAULTS, the first along the text");
        FlowGates x = new FlowGates();
        faulty(x, "age 100;x;", 2, 4);
        faulty(x, "x;age 100;", 1, 0);
        faulty(x, "age 100 100", 2, 4);
        faulty(x, "see 4 9 upp", 2, 4);
        faulty(x, "back 1 0 0;", 2, 7);
        faulty(x, "tick 0;tick 0;", 2, 5);
        faulty(full(), "back 9 0;", 3, 0);
        faulty(full(), "back", 3, 0);
        faulty(full(), "age 100;back 9 1;", 2, 4);
    }

    private static void term4OfOnePlaceTheLeast() {
        says("Term 4: FAULTS, of one place the least");
        FlowGates x = full();
        faulty(x, "age 1 back 9 1;", 1, 6);
        faulty(x, "age back 9 1;", 1, 4);
        faulty(x, "weigh 99999 1;", 1, 6);
        faulty(x, "age 1 100;", 1, 6);
    }

    private static void term4Fault1WhatCantStandThere() {
        says("Term 4: FAULTS: 1 what can't stand there");
        FlowGates x = Edges.twins(1, 1);
        faulty(x, "5;", 1, 0);
        faulty(x, "up;", 1, 0);
        faulty(x, "all;", 1, 0);
        faulty(x, "keep 0;", 1, 0);
        faulty(x, "age;", 1, 3);
        faulty(x, "age age;", 1, 4);
        faulty(x, "age 1 age 1;", 1, 6);
        faulty(x, "age 1,", 1, 5);
        faulty(x, "size all;", 1, 5);
        faulty(x, "tick up;", 1, 5);
        faulty(x, "room;", 1, 4);
        faulty(x, "weigh;", 1, 5);
        faulty(x, "back;", 1, 4);
        faulty(x, "see;", 1, 3);
        faulty(x, "pack;", 1, 4);
        faulty(x, "pack 0 all;", 1, 7);
    }

    private static void term4Fault1MoreThan4Digits() {
        says("Term 4: FAULTS: 1 (a NUMBER of more than 4 digits, too)");
        FlowGates x = Edges.twins(1, 1);
        faulty(x, "size 00007;", 1, 5);
        faulty(x, "back 00009 1;", 1, 5);
        faulty(x, "back 9 00001;", 1, 7);
        faulty(x, "weigh 00000 1;", 1, 6);
        faulty(x, "weigh 0 00001;", 1, 8);
        faulty(x, "see 00000 0 up;", 1, 4);
        faulty(x, "see 0 00000 up;", 1, 6);
        faulty(x, "tick 00001;", 1, 5);
        faulty(x, "room 00001;", 1, 5);
        faulty(x, "age 00001;", 1, 4);
        faulty(x, "pack 00000 0;", 1, 5);
        faulty(x, "pack 0 00000;", 1, 7);
        faulty(x, "pack 0 4294967296;", 1, 7);
        faulty(x, "00001;", 1, 0);
    }

    private static void term4Fault2ANumberThatCantBe() {
        says("Term 4: FAULTS: 2 a NUMBER that can't be (no such GATEWAY, BACKEND, no prime)");
        FlowGates x = Edges.twins(1, 1);
        faulty(x, "see 4 0 up;", 2, 4);
        faulty(x, "pack 4 0;", 2, 5);
        faulty(x, "see 3 2 up;", 2, 6);
        faulty(x, "weigh 2 1;", 2, 6);
        faulty(x, "size 9;", 2, 5);
        faulty(x, "size 2;", 2, 5);
        faulty(x, "size 101;", 2, 5);
    }

    private static void term4Fault2AKeyThatThereIs() {
        says("Term 4: FAULTS: 2 (a KEY that there is already)");
        FlowGates x = Edges.twins(1, 1);
        faulty(x, "back 0 1;", 2, 5);
        faulty(x, "back 0049 1;", 2, 5);
        faulty(x, "back 7 1;back 7 1;", 2, 14);
        told(x, "back 7 1;", 1);
        faulty(x, "back 7 0;", 2, 5);
    }

    private static void term4Fault3A9thBackendAtItsWord() {
        says("Term 4: FAULTS: 3 a 9th BACKEND, at its word");
        FlowGates x = Edges.twins(1, 1);
        String six = "back 1 1;back 2 1;back 3 1;back 4 1;back 5 1;back 6 1;";
        faulty(x, six + " back 7 1;", 3, 55);
        due("count 1", x.count(1), 2);
        told(x, six, 6);
        faulty(x, "back 7 1;", 3, 0);
        faulty(x, "back 0 1;", 3, 0);
        due("count 1", x.count(1), 8);
    }

    // ---- promise 2

    private static void promise2TwentyBytesOfEachNumberTheHighestFirst() {
        says("Promise 2: Twenty bytes come behind the TAPE, of each number the highest first");
        FlowGates x = new FlowGates();
        // "size", " 11;", "age ", "7;ro", "om 3"
        due("feed", x.feed(0x73697a65, 0x2031313b, 0x61676520, 0x373b726f, 0x6f6d2033), 20);
        // ";" and blanks
        due("feed", x.feed(0x3b202020, 0x20202020, 0x20202020, 0x20202020, 0x20202020), 40);
        due("tell", x.tell(), 3);
        due("size", x.count(0), 11);
        due("age", x.count(4), 7);
        due("room", x.count(3), 3);
    }

    private static void promise2BytesHaveNoSign() {
        says("Promise 2: Twenty bytes (of numbers below 0)");
        FlowGates x = new FlowGates();
        due("feed", x.feed(-1, Edges.LEAST, -1, Edges.MOST, -1), 20);
        due("tell", x.tell(), NONE);
        due("fault", x.fault(), 1);
        due("feed", x.feed(0x616765ff, 0, 0, 0, 0), 20);
        due("tell", x.tell(), NONE);
        due("fault at the fourth byte", x.fault(), 25);
    }

    private static void promise2HowManyItHas() {
        says("Promise 2: how many it has");
        FlowGates x = new FlowGates();
        for (int i = 1; i <= 20; i++) {
            due("feed", x.feed(0, 0, 0, 0, 0), 20 * i);
            due("count 5", x.count(5), 20 * i);
        }
    }

    private static void promise2NoneMoreThan400() {
        says("Promise 2: NONE, and none come: more than 400");
        FlowGates x = new FlowGates();
        Edges.write(x, "age 1;".repeat(63) + "  age 1;age 1;age 1;  ");
        due("at 400", x.count(5), 400);
        due("feed", x.feed(0x3b202020, 0x20202020, 0x20202020, 0x20202020, 0x20202020), NONE);
        due("count 5", x.count(5), 400);
        due("end", x.end(381), true);
        due("feed at 381", x.feed(0, 0, 0, 0, 0), NONE);
        due("count 5", x.count(5), 381);
        due("end", x.end(380), true);
        due("feed at 380", x.feed(0x3b3b3b3b, 0, 0, 0, 0), 400);
        due("tell", x.tell(), NONE);
        due("none of the refused bytes came", x.fault(), 1 + 8 * 380);
    }

    // ---- promise 3

    private static void promise3TheFirstNBytesAlone() {
        says("Promise 3: The TAPE has its first n bytes alone: true");
        FlowGates x = new FlowGates();
        Edges.write(x, "age 5;age 6;        ");
        due("all of them", x.end(20), true);
        due("count 5", x.count(5), 20);
        due("end 6", x.end(6), true);
        due("count 5", x.count(5), 6);
        // ";" comes behind these six
        due("feed", x.feed(0x3b202020, 0x20202020, 0x20202020, 0x20202020, 0x20202020), 26);
        due("tell", x.tell(), NONE);
        due("fault", x.fault(), 1 + 8 * 6);
        Edges.write(x, "age 5;age 6;");
        x.end(6);
        due("tell", x.tell(), 1);
        due("count 4", x.count(4), 5);
    }

    private static void promise3End0() {
        says("Promise 3: The TAPE has its first n bytes alone (n is 0)");
        FlowGates x = new FlowGates();
        due("an empty one", x.end(0), true);
        Edges.write(x, "age 5;");
        due("end 0", x.end(0), true);
        due("count 5", x.count(5), 0);
        due("tell", x.tell(), 0);
        due("count 4", x.count(4), 20);
    }

    private static void promise3FalseItHasNotSoMany() {
        says("Promise 3: false: it has not so many");
        FlowGates x = new FlowGates();
        due("end 1 of none", x.end(1), false);
        Edges.write(x, "age 5;");
        due("end 7 of 6", x.end(7), false);
        due("the greatest", x.end(Edges.MOST), false);
        due("count 5", x.count(5), 6);
        due("tell", x.tell(), 1);
        due("end 6 behind it", x.end(6), false);
    }

    private static void promise3FalseNIsBelow0() {
        says("Promise 3: false: n is below 0");
        FlowGates x = new FlowGates();
        due("end -1 of none", x.end(-1), false);
        Edges.write(x, "age 5;");
        due("end -1", x.end(-1), false);
        due("the least", x.end(Edges.LEAST), false);
        due("count 5", x.count(5), 6);
        due("tell", x.tell(), 1);
    }

    // ---- promise 4

    private static void promise4TheTapeIsEmptyThen() {
        says("Promise 4: The TAPE (empty then) is told");
        FlowGates x = new FlowGates();
        Edges.write(x, "tick 5;");
        due("tell", x.tell(), 1);
        due("count 5", x.count(5), 0);
        due("nothing is told twice", x.tell(), 0);
        due("count 2", x.count(2), 5);
        Edges.write(x, "tick 0;");
        due("tell", x.tell(), NONE);
        due("count 5 behind a fault", x.count(5), 0);
        due("tell", x.tell(), 0);
        due("feed from the start on", x.feed(0, 0, 0, 0, 0), 20);
    }

    private static void promise4HowManyStatements() {
        says("Promise 4: how many STATEMENTS");
        FlowGates x = Edges.twins(1, 1);
        told(x, "", 0);
        told(x, "age 20;", 1);
        told(x, "age 20;room 8;size 7;weigh 0 1;see all 0 up;", 5);
        told(x, "age1;".repeat(80), 80);
    }

    private static void promise4AFaultLeavesAllElse() {
        says("Promise 4: NONE: a FAULT (all else stays as it was ahead of the TEXT)");
        String[] starts = {
            "size 5;", "size 7;", "back 9 9;", "weigh 0 9;", "see all 0 drain;", "tick 30;", "room 1;", "age 0;tick 1;",
            "pack all 3;", "see all 0 down;see all 1 down;pack all 0;",
            "tick 9;room 2;pack all 1;pack all 2;pack all 3;size 97;back 7 7;see all 2 down;",
        };
        for (String start : starts) {
            FlowGates x = Edges.furnished();
            String before = Edges.seen(x);
            faulty(x, start + "x", 1, start.length());
            Edges.same("what is seen behind " + start, Edges.seen(x), before);
        }
    }

    private static void promise4ATextLeavesWhatItDoesNotTell() {
        says("Promise 4: The TAPE is told (what no STATEMENT tells stays as calls have told it)");
        String[] texts = {"", "weigh 0 3;", "see 1 1 drain;", "room 9;", "age 31;", "weigh 0 3;weigh 0 3;"};
        for (String text : texts) {
            FlowGates x = Edges.furnished();
            x.set(0, 9);
            x.set(1, 31);
            String before = Edges.seen(x);
            told(x, text, text.length() - text.replace(";", "").length());
            Edges.same("what is seen behind '" + text + "'", Edges.seen(x), before);
        }
        FlowGates x = Edges.twins(1, 1);
        x.size(13);
        x.set(0, 5);
        x.set(1, 6);
        told(x, "tick 1;", 1);
        due("size", x.count(0), 13);
        due("room", x.count(3), 5);
        due("age", x.count(4), 6);
        told(x, "size 11;room 4;age 3;", 3);
        told(x, "tick 1;", 1);
        due("size", x.count(0), 11);
        due("room", x.count(3), 4);
        due("age", x.count(4), 3);
    }

    private static void promise4AFaultIsNoHindrance() {
        says("Promise 4: NONE: a FAULT (all else stays: the next TEXT goes on from there)");
        FlowGates x = Edges.twins(1, 1);
        faulty(x, "back 9 9;tick 5;pack all 2;;", 1, 27);
        told(x, "back 9 1;pack 0 2;", 2);
        due("of 2", x.of(2, 1), 1);
        due("remembers", x.remembers(0, 2, 1), 0);
        Edges.dueFlows(x, 1);
        told(x, "tick 3;pack 1 2;", 2);
        due("calls see what texts did", x.remembers(1, 2, 1), 3);
        due("calls go on from there", x.tick(1), 4);
    }

    // ---- promise 5

    private static void promise5ZeroAheadOfAny() {
        says("Promise 5: 0 ahead of any");
        FlowGates x = new FlowGates();
        due("fault", x.fault(), 0);
        Edges.write(x, "x");
        due("fault of a text not told yet", x.fault(), 0);
    }

    private static void promise5ZeroWithout() {
        says("Promise 5: FAULT of the latest tell(); 0 without");
        FlowGates x = new FlowGates();
        faulty(x, "x", 1, 0);
        told(x, "age 1;", 1);
        faulty(x, "age x", 1, 4);
        told(x, "", 0);
    }

    private static void promise5OfTheLatest() {
        says("Promise 5: FAULT of the latest tell()");
        FlowGates x = new FlowGates();
        faulty(x, "age 100;", 2, 4);
        x.size(11);
        x.back(-1, 0);
        x.end(0);
        due("other calls leave it", x.fault(), 34);
        Edges.write(x, "xyz");
        due("it is of what was told", x.fault(), 34);
        due("tell", x.tell(), NONE);
        due("fault", x.fault(), 1);
        due("asked twice", x.fault(), 1);
    }
}
