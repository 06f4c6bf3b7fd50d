/**
 * Runs of mixed calls, each answer compared with that of PlainRack. Half of the runs end with a
 * look at the whole state; in the other half, each call is followed by a look at some of it.
 */
public final class ReferenceTest {
    private static final int RUNS = 1000;
    /** What later calls on one object answer is free. */
    private static final int CALLS = 512;
    /** No look at the whole state, and no writing of a text, takes more calls. */
    private static final int MOST_LOOKS = 230, MOST_WRITING = 95;
    private static final int LONGEST_TEXT = 90;
    private static final int[] EDGES = {-1, 5, 12, 13, 16, 24, 48, 80, 127, 256, 4096, -5, -100,
        Integer.MIN_VALUE, Integer.MAX_VALUE, Integer.MIN_VALUE + 1, 1 << 30};

    private final Checks checks = new Checks();
    private long seed = 20261119L;
    private BusRack rack;
    private PlainRack plain;
    private int run;
    private int calls;

    public static void main(String[] args) {
        ReferenceTest test = new ReferenceTest();
        for (int run = 1; run <= RUNS; run++) {
            test.runOnce(run);
        }
        test.checks.finish();
    }

    private void runOnce(int number) {
        run = number;
        calls = 0;
        rack = new BusRack();
        plain = new PlainRack();
        boolean isLong = number % 2 == 0;
        int limit = CALLS - MOST_WRITING - (isLong ? 0 : MOST_LOOKS);
        while (calls < limit) {
            callOnce();
            if (isLong && calls < limit) {
                compareQueries();
            }
        }
        if (!isLong) {
            compareAll();
        }
        checks.due("run " + run + " has no more than " + CALLS + " calls", Math.max(calls, CALLS), CALLS);
    }

    private int below(int bound) {
        seed = seed * 6364136223846793005L + 1442695040888963407L;
        return (int) ((seed >>> 33) % bound);
    }

    /** Mostly a number below the bound, now and then any other one. */
    private int some(int bound) {
        if (below(25) > 0) {
            return below(bound);
        }
        return EDGES[below(EDGES.length)];
    }

    private int someBus() {
        return below(3) == 0 ? BusRack.ROOT : some(13);
    }

    private int someSize(int space) {
        if (below(25) == 0) {
            return some(2000);
        }
        return space == 0 ? 16 << below(below(3) == 0 ? 7 : 4) : 4 << below(5);
    }

    private void due(String call, int got, int want) {
        calls++;
        checks.due("run " + run + ": " + call, got, want);
    }

    private void callOnce() {
        int kind = below(30);
        if (kind < 6) {
            addOne(below(2) == 0);
        } else if (kind < 12) {
            setOne(kind);
        } else if (kind < 19) {
            changeDevice(kind);
        } else if (kind < 22) {
            due("enumerate", rack.enumerate(), plain.enumerate());
        } else if (kind < 25) {
            writeText();
        } else {
            goBack(kind);
        }
    }

    private void addOne(boolean isBridge) {
        int bus = someBus();
        int slot = some(4);
        int got = isBridge ? rack.addBridge(bus, slot) : rack.addCard(bus, slot);
        due("add " + isBridge + " " + bus + " " + slot, got, plain.add(isBridge, bus, slot));
    }

    private void setOne(int kind) {
        int device = some(12);
        int space = some(2);
        if (kind < 10) {
            int region = some(3);
            int size = below(8) == 0 ? 0 : someSize(space);
            due("setRegion " + device + " " + region + " " + space + " " + size,
                    rack.setRegion(device, region, space, size), plain.setRegion(device, region, space, size));
        } else if (kind < 11) {
            int reserve = some(18) * (space == 0 ? 16 : 4);
            due("setReserve " + device + " " + space + " " + reserve,
                    rack.setReserve(device, space, reserve), plain.setReserve(device, space, reserve));
        } else {
            int gap = some(3);
            due("setGap " + gap, rack.setGap(gap), plain.setGap(gap));
        }
    }

    private void changeDevice(int kind) {
        int device = some(12);
        if (kind < 13) {
            due("pull " + device, rack.pull(device), plain.pull(device));
        } else if (kind < 17) {
            due("attach " + device, rack.attach(device), plain.attach(device));
        } else {
            due("detach " + device, rack.detach(device), plain.detach(device));
        }
    }

    private void goBack(int kind) {
        if (kind < 27) {
            due("undo", rack.undo(), plain.undo());
        } else if (kind < 28) {
            due("save", rack.save(), plain.save());
        } else if (kind < 29) {
            due("restore", rack.restore(), plain.restore());
        } else {
            int character = some(127);
            due("append " + character, rack.append(character), plain.append(character));
            due("fault", rack.fault(), plain.fault());
        }
    }

    private void writeText() {
        due("clearText", rack.clearText(), plain.clearText());
        StringBuilder text = new StringBuilder();
        addItems(text, 1);
        if (below(3) == 0 && text.length() > 0) {
            text.setCharAt(below(text.length()), "0123456cbmp(), x".charAt(below(16)));
        }
        if (below(6) == 0) {
            text.setLength(below(text.length() + 1));
        }
        for (int i = 0; i < text.length() && i < LONGEST_TEXT; i++) {
            int character = text.charAt(i);
            due("append " + character, rack.append(character), plain.append(character));
        }
        due("fault of " + text, rack.fault(), plain.fault());
        due("load of " + text, rack.load(), plain.load());
    }

    private void addItems(StringBuilder text, int depth) {
        boolean isFirst = true;
        for (int slot = 0; slot < 4; slot++) {
            if (below(5) < 2) {
                text.append(isFirst ? "" : ",").append(slot);
                isFirst = false;
                if (below(5) < 3 && (depth < 5 || below(4) == 0)) {
                    text.append("b(");
                    if (depth < 5 || below(20) == 0) {
                        addItems(text, depth + 1);
                    }
                    text.append(")");
                } else {
                    addCard(text);
                }
            }
        }
    }

    private void addCard(StringBuilder text) {
        text.append("c");
        for (int region = below(60) == 0 ? 4 : below(4); region > 0; region--) {
            boolean isMemory = below(2) == 0;
            text.append(isMemory ? "m" : "p");
            text.append(below(60) == 0 ? below(10) : below(isMemory ? 7 : 5));
        }
    }

    private void compareAll() {
        due("devices", rack.devices(), plain.devices());
        due("bridges", rack.bridges(), plain.bridges());
        due("unplaced", rack.unplaced(), plain.unplaced());
        for (int device = 0; device < 12; device++) {
            compareDevice(device);
        }
        compareQueries();
        compareQueries();
    }

    private void compareDevice(int device) {
        due("depth " + device, rack.depth(device), plain.depth(device));
        due("firstNumber " + device, rack.firstNumber(device), plain.firstNumber(device));
        due("lastNumber " + device, rack.lastNumber(device), plain.lastNumber(device));
        for (int region = 0; region < 3; region++) {
            due("size " + device + " " + region, rack.size(device, region), plain.size(device, region));
            due("base " + device + " " + region, rack.base(device, region), plain.base(device, region));
        }
        for (int space = 0; space < 2; space++) {
            String of = device + " " + space;
            due("windowBase " + of, rack.windowBase(device, space), plain.windowBase(device, space));
            due("windowSize " + of, rack.windowSize(device, space), plain.windowSize(device, space));
            due("need " + of, rack.need(device, space), plain.need(device, space));
        }
    }

    private void compareQueries() {
        int bus = someBus();
        int space = some(2);
        int size = someSize(space);
        int slot = some(4);
        int address = some(space == 0 ? 4096 : 256);
        int device = some(12);
        int region = some(3);
        int number = some(16);
        String of = bus + " " + space + " ";
        due("deviceIn " + bus + " " + slot, rack.deviceIn(bus, slot), plain.deviceIn(bus, slot));
        due("freeRoom " + of, rack.freeRoom(bus, space), plain.freeRoom(bus, space));
        due("firstFit " + of + size, rack.firstFit(bus, space, size), plain.firstFit(bus, space, size));
        due("find " + space + " " + address, rack.find(space, address), plain.find(space, address));
        due("depth " + device, rack.depth(device), plain.depth(device));
        due("size " + device + " " + region, rack.size(device, region), plain.size(device, region));
        due("base " + device + " " + region, rack.base(device, region), plain.base(device, region));
        due("windowBase " + device + " " + space, rack.windowBase(device, space), plain.windowBase(device, space));
        due("windowSize " + device + " " + space, rack.windowSize(device, space), plain.windowSize(device, space));
        due("need " + device + " " + space, rack.need(device, space), plain.need(device, space));
        due("answer " + number + " " + slot, rack.answer(number, slot), plain.answer(number, slot));
    }
}
