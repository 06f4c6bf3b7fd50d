/** Promises 8 to 10, 23, 26 to 29 and 31 to 33: needs, windows, bases and free room. */
public final class PlacingTest {
    private static final int NO_SUCH = -1, BAD_VALUE = -2, NONE = -5;
    private static final int ROOT = 12, MEMORY = 0, PORTS = 1;
    private static final Checks checks = new Checks();

    public static void main(String[] args) {
        orderOfItems();
        bridgesAmongItems();
        equalAlignments();
        needs();
        needErrors();
        reservesAreRoom();
        leftOutAtTheRoot();
        leftOutPorts();
        windowNotPlaced();
        enumerateTakesAllAway();
        attachCard();
        attachCardBothSpaces();
        attachKeepsBases();
        attachBridge();
        attachBridgeAligned();
        attachWithoutRoom();
        attachOneSpace();
        attachReserveOnly();
        detach();
        windowQueries();
        baseQueries();
        find();
        freeRoom();
        firstFit();
        checks.finish();
    }

    private static void due(String call, int got, int want) {
        checks.due(call, got, want);
    }

    private static void window(BusRack rack, int bridge, int space, int base, int size) {
        due("window base of " + bridge + " in " + space, rack.windowBase(bridge, space), base);
        due("window size of " + bridge + " in " + space, rack.windowSize(bridge, space), size);
    }

    private static void orderOfItems() {
        BusRack rack = Checks.enumerated("0cm0m2m1,1cm3p0p2,3cm2p1m2");
        due("greatest first", rack.base(1, 0), 0);
        due("lower slot", rack.base(0, 1), 128);
        due("lower region", rack.base(2, 0), 192);
        due("higher region", rack.base(2, 2), 256);
        due("then 32", rack.base(0, 2), 320);
        due("then 16", rack.base(0, 0), 352);
        due("ports 16", rack.base(1, 2), 0);
        due("ports 8", rack.base(2, 1), 16);
        due("ports 4", rack.base(1, 1), 24);
    }

    private static void bridgesAmongItems() {
        BusRack rack = Checks.enumerated("0cm2,1b(0cm2,1cm0),2cm2,3cm0");
        window(rack, 1, MEMORY, 64, 80);
        due("before the bridge", rack.base(0, 0), 0);
        due("in the bridge", rack.base(2, 0), 64);
        due("in the bridge", rack.base(3, 0), 128);
        due("aligned after the bridge", rack.base(4, 0), 192);
        due("small ones after it", rack.base(5, 0), 256);
        rack = Checks.enumerated("0b(0cm4),1cm5");
        window(rack, 0, MEMORY, 512, 256);
        due("a card before the bridge", rack.base(2, 0), 0);
    }

    private static void equalAlignments() {
        BusRack rack = Checks.enumerated("0b(0cm0m0m0),1cm0,2b(3cm0)");
        window(rack, 0, MEMORY, 0, 48);
        due("by slots", rack.base(2, 0), 48);
        window(rack, 3, MEMORY, 64, 16);
        rack = Checks.loaded("0b(),1b(0cm0)");
        rack.setReserve(0, MEMORY, 48);
        rack.enumerate();
        window(rack, 0, MEMORY, 0, 48);
        window(rack, 1, MEMORY, 48, 16);
    }

    private static void needs() {
        BusRack rack = Checks.loaded("0b(0b(0cm3m0p1),1cm1p0),1b()");
        due("need before numbers", rack.need(1, MEMORY), 144);
        due("unnumbered is no item", rack.need(0, MEMORY), 32);
        due("need of the empty bridge", rack.need(4, MEMORY), 0);
        rack.enumerate();
        due("need", rack.need(1, MEMORY), 144);
        due("need over levels", rack.need(0, MEMORY), 192);
        due("need in ports", rack.need(0, PORTS), 12);
        rack.setReserve(1, MEMORY, 16);
        due("need with the reserve", rack.need(1, MEMORY), 160);
        due("need with the lower reserve", rack.need(0, MEMORY), 192);
        needsOfFiveLevels();
        rack.setReserve(0, PORTS, 4);
        due("need with a ports reserve", rack.need(0, PORTS), 16);
        due("the window stays", rack.windowSize(0, PORTS), 12);
    }

    private static void needsOfFiveLevels() {
        BusRack rack = Checks.loaded("0b(0b(0b(0b(0b()))))");
        rack.setReserve(4, MEMORY, 32);
        rack.enumerate();
        for (int bridge = 0; bridge < 5; bridge++) {
            window(rack, bridge, MEMORY, 0, 32);
        }
        rack.setReserve(4, MEMORY, 48);
        due("need over five levels", rack.need(0, MEMORY), 48);
    }

    private static void needErrors() {
        BusRack rack = Checks.loaded("0b(0cm3),1c");
        due("need of a card", rack.need(1, MEMORY), NO_SUCH);
        due("need of none", rack.need(3, MEMORY), NO_SUCH);
        due("need of ROOT", rack.need(ROOT, MEMORY), NO_SUCH);
        due("need: bridge before space", rack.need(-1, 2), NO_SUCH);
        due("need space 2", rack.need(0, 2), BAD_VALUE);
        due("need space -1", rack.need(0, -1), BAD_VALUE);
    }

    private static void reservesAreRoom() {
        BusRack rack = Checks.loaded("0b(0cm1),1b()");
        rack.setReserve(0, MEMORY, 48);
        rack.setReserve(2, PORTS, 8);
        rack.enumerate();
        window(rack, 0, MEMORY, 0, 80);
        window(rack, 2, MEMORY, NONE, 0);
        window(rack, 2, PORTS, 0, 8);
        due("free in the reserve", rack.freeRoom(0, MEMORY), 48);
        due("fit in the reserve", rack.firstFit(0, MEMORY, 32), 32);
        due("too large for the reserve", rack.firstFit(0, MEMORY, 64), NONE);
    }

    private static void leftOutAtTheRoot() {
        BusRack rack = Checks.loaded("0cm6m6m6,1cm5,2cm6m6,3cm0");
        due("enumerate", rack.enumerate(), 3);
        due("the last of 1024 that fits", rack.base(2, 0), 3072);
        due("left out", rack.base(2, 1), NONE);
        due("left out", rack.base(1, 0), NONE);
        due("the small one too", rack.base(3, 0), NONE);
        due("unplaced", rack.unplaced(), 3);
    }

    private static void leftOutPorts() {
        BusRack rack = Checks.loaded("0cp4p4p4,1cp3p4,2cp3p0");
        due("enumerate ports", rack.enumerate(), 3);
        due("exactly to the end", rack.base(1, 1), 192);
        due("left out", rack.base(1, 0), NONE);
    }

    private static void windowNotPlaced() {
        BusRack rack = Checks.loaded("0cm6m6m6,1b(0cm6m4,1b(0cm0p2)),2cm5");
        due("enumerate", rack.enumerate(), 3);
        window(rack, 1, MEMORY, NONE, 0);
        window(rack, 3, MEMORY, NONE, 0);
        window(rack, 1, PORTS, 0, 16);
        window(rack, 3, PORTS, 0, 16);
        due("placed in ports", rack.base(4, 1), 0);
        due("not placed in memory", rack.base(4, 0), NONE);
        due("the position did not change", rack.base(5, 0), 3072);
        due("numbered all the same", rack.firstNumber(3), 2);
    }

    private static void enumerateTakesAllAway() {
        BusRack rack = Checks.enumerated("0cm5,1b(0cm0)");
        rack.addCard(ROOT, 2);
        rack.addCard(ROOT, 3);
        for (int region = 0; region < 3; region++) {
            rack.setRegion(3, region, MEMORY, 1024);
        }
        rack.setRegion(4, 0, MEMORY, 1024);
        rack.setRegion(2, 0, MEMORY, 0);
        due("no longer room", rack.enumerate(), 1);
        due("the base is gone", rack.base(0, 0), NONE);
        window(rack, 1, MEMORY, NONE, 0);
    }

    private static void attachCard() {
        BusRack rack = Checks.enumerated("0cm2,1cm2,2cm2");
        rack.pull(1);
        rack.addCard(ROOT, 1);
        rack.setRegion(1, 0, MEMORY, 32);
        rack.setRegion(1, 1, MEMORY, 64);
        rack.setRegion(1, 2, MEMORY, 32);
        due("attach", rack.attach(1), 3);
        due("first fit of region 0", rack.base(1, 0), 64);
        due("first fit of region 1", rack.base(1, 1), 192);
        due("first fit of region 2", rack.base(1, 2), 96);
        due("others stay", rack.base(2, 0), 128);
        due("attach again", rack.attach(1), 0);
        due("attach an unused card", Checks.loaded("0c").attach(0), 0);
    }

    private static void attachCardBothSpaces() {
        BusRack rack = Checks.loaded("0cp4p4p4,1cp4m6p0,2cm6m6m6,3cm6");
        due("attach", rack.attach(0), 3);
        due("attach", rack.attach(2), 3);
        due("attach: two of three", rack.attach(1), 2);
        due("ports are full", rack.base(1, 2), NONE);
        due("memory", rack.base(1, 1), 3072);
        due("attach: no room", rack.attach(3), 0);
        due("no room: no base", rack.base(3, 0), NONE);
        due("no room, but recorded", rack.undo(), 3);
    }

    private static void attachKeepsBases() {
        BusRack rack = Checks.enumerated("0cm4,1cm1m0");
        rack.pull(0);
        due("attach with all bases", rack.attach(1), 0);
        due("its base stays", rack.base(1, 0), 256);
        rack.setRegion(1, 1, MEMORY, 16);
        due("attach with one base", rack.attach(1), 1);
        due("its base stays", rack.base(1, 0), 256);
        due("the new base", rack.base(1, 1), 0);
    }

    private static void attachBridge() {
        BusRack rack = Checks.enumerated("0b(0b(0cm0p0,1cm2),1cm3),1cm1p1");
        due("detach", rack.detach(0), 4);
        due("attach", rack.attach(0), 1);
        window(rack, 0, MEMORY, 0, 128);
        due("the card on its bus", rack.base(4, 0), 0);
        due("not numbered, not placed", rack.base(3, 0), NONE);
        window(rack, 1, MEMORY, NONE, 0);
        window(rack, 0, PORTS, NONE, 0);
        rack = Checks.loaded("0b(0b(0cm0p0,1cm2),1cm3),1cm1p1");
        rack.enumerate();
        rack.pull(5);
        rack.addCard(ROOT, 3);
        due("attached with its window", rack.attach(0), 0);
        window(rack, 0, MEMORY, 0, 208);
    }

    private static void attachBridgeAligned() {
        BusRack rack = Checks.enumerated("0cm0,1b(0cm2m0m1)");
        rack.detach(1);
        rack.detach(0);
        rack.attach(0);
        due("attach", rack.attach(1), 3);
        window(rack, 1, MEMORY, 64, 112);
        due("packed from the window", rack.base(2, 0), 64);
        due("packed from the window", rack.base(2, 2), 128);
        due("packed from the window", rack.base(2, 1), 160);
    }

    private static void attachWithoutRoom() {
        BusRack rack = Checks.enumerated("0cm6m6m6,1cm5m4m3,2b()");
        rack.addCard(2, 0);
        rack.setRegion(3, 0, MEMORY, 128);
        due("attach a card without a window", rack.attach(3), 0);
        due("attach: exactly the room", rack.attach(2), 1);
        window(rack, 2, MEMORY, 3968, 128);
        rack.undo();
        rack.setReserve(2, MEMORY, 16);
        due("attach: 16 too many", rack.attach(2), 0);
        window(rack, 2, MEMORY, NONE, 0);
        due("no base", rack.base(3, 0), NONE);
    }

    private static void attachOneSpace() {
        BusRack rack = Checks.enumerated("0b(0cm0)");
        rack.setRegion(1, 1, PORTS, 8);
        rack.setRegion(1, 2, MEMORY, 64);
        due("attach: the other space", rack.attach(0), 1);
        window(rack, 0, PORTS, 0, 8);
        window(rack, 0, MEMORY, 0, 16);
        due("no room in the window", rack.attach(1), 0);
        due("no room in the window", rack.base(1, 2), NONE);
        due("placed", rack.base(1, 1), 0);
    }

    private static void attachReserveOnly() {
        BusRack rack = Checks.loaded("0b(),1cm0");
        rack.setReserve(0, MEMORY, 48);
        rack.attach(1);
        due("attach", rack.attach(0), 0);
        window(rack, 0, MEMORY, 16, 48);
        window(rack, 0, PORTS, NONE, 0);
    }

    private static void detach() {
        BusRack rack = Checks.enumerated("0b(0b(0cm0p0m0),1cm3),1cm1p1,2cm0");
        due("detach a card", rack.detach(4), 2);
        due("base", rack.base(4, 1), NONE);
        due("the size stays", rack.size(4, 1), 8);
        due("detach a card again", rack.detach(4), 0);
        due("detach a lower bridge", rack.detach(1), 3);
        window(rack, 1, MEMORY, NONE, 0);
        window(rack, 1, PORTS, NONE, 0);
        due("the upper window stays", rack.windowSize(0, MEMORY), 160);
        due("others stay", rack.base(3, 0), 0);
        due("detach the upper bridge", rack.detach(0), 1);
        window(rack, 0, MEMORY, NONE, 0);
        due("others stay", rack.base(5, 0), 192);
    }

    private static void windowQueries() {
        BusRack rack = Checks.enumerated("0b(0cm0),1c");
        due("windowBase of a card", rack.windowBase(1, MEMORY), NO_SUCH);
        due("windowSize of a card", rack.windowSize(1, MEMORY), NO_SUCH);
        due("windowBase: bridge before space", rack.windowBase(3, 2), NO_SUCH);
        due("windowSize: bridge before space", rack.windowSize(-1, 2), NO_SUCH);
        due("windowBase space 2", rack.windowBase(0, 2), BAD_VALUE);
        due("windowSize space 2", rack.windowSize(0, 2), BAD_VALUE);
        due("windowBase space -1", rack.windowBase(0, -1), BAD_VALUE);
        due("windowSize space -1", rack.windowSize(0, -1), BAD_VALUE);
        due("windowBase of ROOT", rack.windowBase(ROOT, MEMORY), NO_SUCH);
        due("windowSize of ROOT", rack.windowSize(ROOT, MEMORY), NO_SUCH);
        window(rack, 0, PORTS, NONE, 0);
    }

    private static void baseQueries() {
        BusRack rack = Checks.enumerated("0cm0,1b()");
        due("base", rack.base(0, 0), 0);
        due("base of an unused region", rack.base(0, 1), NONE);
        due("base region 3", rack.base(0, 3), NO_SUCH);
        due("base region -1", rack.base(0, -1), NO_SUCH);
        due("base of a bridge", rack.base(1, 0), NO_SUCH);
        due("base of none", rack.base(2, 0), NO_SUCH);
        due("base of 12", rack.base(12, 0), NO_SUCH);
        due("unplaced", rack.unplaced(), 0);
        rack.setRegion(0, 1, PORTS, 4);
        rack.setRegion(0, 2, PORTS, 4);
        due("unplaced two", rack.unplaced(), 2);
        rack.setRegion(0, 2, PORTS, 0);
        due("unplaced one", rack.unplaced(), 1);
    }

    private static void find() {
        BusRack rack = Checks.enumerated("0c,1cm0p1m2,2b(0cm1)");
        due("find the first address", rack.find(MEMORY, 0), 5);
        due("find the last address", rack.find(MEMORY, 63), 5);
        due("find the next region", rack.find(MEMORY, 64), 9);
        due("find its end", rack.find(MEMORY, 95), 9);
        due("find 96", rack.find(MEMORY, 96), 3);
        due("find beyond", rack.find(MEMORY, 112), NONE);
        due("find the last", rack.find(MEMORY, 4095), NONE);
        due("find ports", rack.find(PORTS, 7), 4);
        due("find ports beyond", rack.find(PORTS, 8), NONE);
        due("find ports last", rack.find(PORTS, 255), NONE);
        due("find 4096", rack.find(MEMORY, 4096), BAD_VALUE);
        due("find 256", rack.find(PORTS, 256), BAD_VALUE);
        due("find -1", rack.find(MEMORY, -1), BAD_VALUE);
        due("find ports -1", rack.find(PORTS, -1), BAD_VALUE);
        due("find space 2", rack.find(2, 0), BAD_VALUE);
        due("find space -1", rack.find(-1, 0), BAD_VALUE);
    }

    private static void freeRoom() {
        BusRack rack = Checks.enumerated("0cm2p0,1b(0cm3,1cm4,2b(0cm0))");
        due("free root", rack.freeRoom(ROOT, MEMORY), 4096 - 64 - 400);
        due("free root ports", rack.freeRoom(ROOT, PORTS), 252);
        due("free lower", rack.freeRoom(1, MEMORY), 0);
        rack.pull(2);
        due("free lower after a pull", rack.freeRoom(1, MEMORY), 128);
        due("no window, no room", rack.freeRoom(1, PORTS), 0);
        due("free of a card", rack.freeRoom(0, MEMORY), NO_SUCH);
        due("free of none", rack.freeRoom(11, 2), NO_SUCH);
        due("free of -1", rack.freeRoom(-1, MEMORY), NO_SUCH);
        due("free space 2", rack.freeRoom(1, 2), BAD_VALUE);
        due("free space -1", rack.freeRoom(ROOT, -1), BAD_VALUE);
    }

    private static void firstFit() {
        BusRack rack = Checks.enumerated("0cm2p0,1b(0cm3,1cm4,2b(0cm0)),2cm0");
        due("fit between", rack.firstFit(ROOT, MEMORY, 16), 400);
        due("fit between, no room for 128", rack.firstFit(ROOT, MEMORY, 128), 640);
        due("fit 1024", rack.firstFit(ROOT, MEMORY, 1024), 1024);
        due("fit ports", rack.firstFit(ROOT, PORTS, 4), 4);
        due("fit ports 64", rack.firstFit(ROOT, PORTS, 64), 64);
        due("fit lower", rack.firstFit(1, MEMORY, 16), NONE);
        rack.pull(2);
        due("fit lower after a pull", rack.firstFit(1, MEMORY, 16), 256);
        due("fit lower 128", rack.firstFit(1, MEMORY, 128), 256);
        due("fit lower 256", rack.firstFit(1, MEMORY, 256), NONE);
        due("fit without a window", rack.firstFit(1, PORTS, 4), NONE);
        due("fit of a card", rack.firstFit(0, MEMORY, 16), NO_SUCH);
        due("fit: bus before space", rack.firstFit(2, 2, 0), NO_SUCH);
        due("fit space 2", rack.firstFit(ROOT, 2, 16), BAD_VALUE);
        due("fit space -1", rack.firstFit(ROOT, -1, 16), BAD_VALUE);
        due("fit beyond twelve regions", Checks.enumerated("0cm0m0m0,1cm0m0m0,2cm0m0m0,3cm0m0m0")
                .firstFit(ROOT, MEMORY, 16), 192);
        int[] bad = {0, -16, 8, 24, 2048, Integer.MIN_VALUE};
        for (int size : bad) {
            due("fit size " + size, rack.firstFit(ROOT, MEMORY, size), BAD_VALUE);
        }
        due("fit ports 128", rack.firstFit(ROOT, PORTS, 128), BAD_VALUE);
        due("fit ports 2", rack.firstFit(ROOT, PORTS, 2), BAD_VALUE);
    }
}
