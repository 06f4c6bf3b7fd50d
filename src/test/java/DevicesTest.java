/** Promises 1 to 7 and 18 to 22: a new object, and devices with what is set in them. */
public final class DevicesTest {
    private static final int NO_SUCH = -1, BAD_VALUE = -2, TOO_MANY = -3, NOT_POSSIBLE = -4, NONE = -5;
    private static final int ROOT = 12, MEMORY = 0, PORTS = 1;
    private static final Checks checks = new Checks();

    public static void main(String[] args) {
        constants();
        newObject();
        addCard();
        addBridge();
        leastNumber();
        depthLimit();
        twelveDevices();
        setRegion();
        setRegionTakesTheBase();
        setReserve();
        setGap();
        pull();
        pulledNumbersComeBackNew();
        deviceIn();
        depth();
        size();
        checks.finish();
    }

    private static void due(String call, int got, int want) {
        checks.due(call, got, want);
    }

    private static void constants() {
        due("NO_SUCH", BusRack.NO_SUCH, NO_SUCH);
        due("BAD_VALUE", BusRack.BAD_VALUE, BAD_VALUE);
        due("TOO_MANY", BusRack.TOO_MANY, TOO_MANY);
        due("NOT_POSSIBLE", BusRack.NOT_POSSIBLE, NOT_POSSIBLE);
        due("NONE", BusRack.NONE, NONE);
        due("ROOT", BusRack.ROOT, ROOT);
        due("MEMORY", BusRack.MEMORY, MEMORY);
        due("PORTS", BusRack.PORTS, PORTS);
    }

    private static void newObject() {
        BusRack rack = new BusRack();
        due("new: devices", rack.devices(), 0);
        due("new: bridges", rack.bridges(), 0);
        due("new: fault", rack.fault(), NONE);
        due("new: undo", rack.undo(), NONE);
        due("new: restore", rack.restore(), NOT_POSSIBLE);
        due("new: clearText", rack.clearText(), 0);
        due("new: gap", rack.setGap(0), 0);
        due("new: unplaced", rack.unplaced(), 0);
        new BusRack().addCard(ROOT, 0);
        due("new: not shared", new BusRack().devices(), 0);
    }

    private static void addCard() {
        BusRack rack = new BusRack();
        due("addCard first", rack.addCard(ROOT, 3), 0);
        due("addCard next", rack.addCard(ROOT, 0), 1);
        due("addCard: in its slot", rack.deviceIn(ROOT, 3), 0);
        due("addCard: no bridge", rack.bridges(), 0);
        due("addCard: unused", rack.size(0, 2), 0);
        due("addCard: no base", rack.base(0, 2), NONE);
        due("addCard held slot", rack.addCard(ROOT, 3), NOT_POSSIBLE);
        due("addCard on a card", rack.addCard(0, 1), NO_SUCH);
        due("addCard on no bridge", rack.addCard(2, 1), NO_SUCH);
        due("addCard on -1", rack.addCard(-1, 1), NO_SUCH);
        due("addCard on 13", rack.addCard(13, 1), NO_SUCH);
        due("addCard slot 4", rack.addCard(ROOT, 4), BAD_VALUE);
        due("addCard slot -1", rack.addCard(ROOT, -1), BAD_VALUE);
        due("addCard: bus before slot", rack.addCard(5, 4), NO_SUCH);
        due("addCard far", rack.addCard(Integer.MIN_VALUE, Integer.MAX_VALUE), NO_SUCH);
        due("addCard far slot", rack.addCard(ROOT, Integer.MIN_VALUE), BAD_VALUE);
        due("addCard: errors change nothing", rack.devices(), 3);
    }

    private static void addBridge() {
        BusRack rack = new BusRack();
        due("addBridge first", rack.addBridge(ROOT, 1), 0);
        due("addBridge on it", rack.addBridge(0, 1), 1);
        due("addBridge: bridges", rack.bridges(), 3);
        due("addBridge: not numbered", rack.firstNumber(0), NONE);
        due("addBridge: not numbered", rack.lastNumber(0), NONE);
        due("addBridge: no window", rack.windowBase(0, MEMORY), NONE);
        due("addBridge: no window", rack.windowSize(0, PORTS), 0);
        due("addBridge: reserve 0", rack.setReserve(0, MEMORY, 16), 0);
        due("addBridge: reserve 0", rack.setReserve(0, PORTS, 4), 0);
        due("addBridge held slot", rack.addBridge(ROOT, 1), NOT_POSSIBLE);
        due("addBridge on no bus", rack.addBridge(3, 9), NO_SUCH);
        due("addBridge slot 4", rack.addBridge(0, 4), BAD_VALUE);
        due("addBridge slot -1", rack.addBridge(0, -1), BAD_VALUE);
        due("addCard on a bridge", rack.addCard(0, 0), 2);
        due("addBridge on a card", rack.addBridge(2, 0), NO_SUCH);
    }

    private static void leastNumber() {
        BusRack rack = Checks.loaded("0c,1c,2c,3c");
        rack.pull(2);
        rack.pull(1);
        due("least number", rack.addBridge(ROOT, 2), 1);
        due("others keep theirs", rack.deviceIn(ROOT, 3), 3);
        due("least number next", rack.addCard(1, 2), 2);
        due("least number last", rack.addCard(1, 1), 4);
    }

    private static void depthLimit() {
        BusRack rack = Checks.loaded("0b(0b(0b(0b(0b()))))");
        due("depth 6 card", rack.addCard(4, 0), NOT_POSSIBLE);
        due("depth 6 bridge", rack.addBridge(4, 0), NOT_POSSIBLE);
        due("depth 6, bad slot", rack.addCard(4, 4), BAD_VALUE);
        due("depth 5", rack.addBridge(3, 1), 5);
        due("depth 5 card", rack.addCard(3, 2), 6);
    }

    private static void twelveDevices() {
        BusRack rack = Checks.loaded("0b(0c,1c,2c,3c),1b(0c,1c,2c,3c),2b()");
        due("twelfth", rack.addCard(10, 0), 11);
        due("thirteenth card", rack.addCard(10, 1), TOO_MANY);
        due("thirteenth bridge", rack.addBridge(ROOT, 3), TOO_MANY);
        due("thirteenth in a held slot", rack.addCard(10, 0), NOT_POSSIBLE);
        due("thirteenth in slot 4", rack.addCard(10, 4), BAD_VALUE);
        due("all twelve", rack.devices(), 4095);
        rack = Checks.loaded("0b(0b(0b(0b(0b(),1c,2c,3c),1c),1c),1c),1c");
        due("twelve with a depth of 5", rack.addCard(ROOT, 2), TOO_MANY);
        due("depth before count", rack.addCard(4, 0), NOT_POSSIBLE);
    }

    private static void setRegion() {
        BusRack rack = Checks.loaded("0c,1b()");
        for (int size = 16; size <= 1024; size *= 2) {
            due("setRegion memory " + size, rack.setRegion(0, 0, MEMORY, size), size == 16 ? 0 : size / 2);
        }
        for (int size = 4; size <= 64; size *= 2) {
            due("setRegion ports " + size, rack.setRegion(0, 2, PORTS, size), size == 4 ? 0 : size / 2);
        }
        due("setRegion other space", rack.setRegion(0, 2, MEMORY, 16), 64);
        due("setRegion unused", rack.setRegion(0, 2, PORTS, 0), 16);
        due("setRegion unused again", rack.setRegion(0, 2, MEMORY, 0), 0);
        int[] badInMemory = {-16, 4, 8, 15, 17, 24, 48, 2048, Integer.MIN_VALUE, Integer.MAX_VALUE};
        for (int size : badInMemory) {
            due("setRegion memory " + size, rack.setRegion(0, 0, MEMORY, size), BAD_VALUE);
        }
        int[] badInPorts = {-4, 1, 2, 12, 128, 256, 1024, Integer.MIN_VALUE};
        for (int size : badInPorts) {
            due("setRegion ports " + size, rack.setRegion(0, 0, PORTS, size), BAD_VALUE);
        }
        due("setRegion space 2", rack.setRegion(0, 0, 2, 16), BAD_VALUE);
        due("setRegion space -1", rack.setRegion(0, 0, -1, 16), BAD_VALUE);
        due("setRegion unused in space 2", rack.setRegion(0, 0, 2, 0), BAD_VALUE);
        due("setRegion region 3", rack.setRegion(0, 3, MEMORY, 16), NO_SUCH);
        due("setRegion region -1", rack.setRegion(0, -1, MEMORY, 16), NO_SUCH);
        due("setRegion: region before space", rack.setRegion(0, 3, 2, 5), NO_SUCH);
        due("setRegion of a bridge", rack.setRegion(1, 0, MEMORY, 16), NO_SUCH);
        due("setRegion of no card", rack.setRegion(2, 0, MEMORY, 16), NO_SUCH);
        due("setRegion of -1", rack.setRegion(-1, 0, MEMORY, 16), NO_SUCH);
        due("setRegion of 12", rack.setRegion(12, 0, MEMORY, 16), NO_SUCH);
        due("setRegion: errors change nothing", rack.size(0, 0), 1024);
    }

    private static void setRegionTakesTheBase() {
        BusRack rack = Checks.enumerated("0cm0p0");
        due("base before", rack.base(0, 0), 0);
        due("setRegion the same", rack.setRegion(0, 0, MEMORY, 16), 16);
        due("no base afterwards", rack.base(0, 0), NONE);
        due("the other base stays", rack.base(0, 1), 0);
        due("not covered", rack.find(MEMORY, 0), NONE);
        due("free again", rack.freeRoom(ROOT, MEMORY), 4096);
    }

    private static void setReserve() {
        BusRack rack = Checks.loaded("0b(),1c");
        due("setReserve most", rack.setReserve(0, MEMORY, 256), 0);
        due("setReserve least", rack.setReserve(0, MEMORY, 0), 256);
        due("setReserve 48", rack.setReserve(0, MEMORY, 48), 0);
        due("setReserve ports most", rack.setReserve(0, PORTS, 64), 0);
        due("setReserve ports 12", rack.setReserve(0, PORTS, 12), 64);
        int[] badInMemory = {-16, 4, 8, 15, 17, 272, Integer.MIN_VALUE, Integer.MAX_VALUE};
        for (int reserve : badInMemory) {
            due("setReserve memory " + reserve, rack.setReserve(0, MEMORY, reserve), BAD_VALUE);
        }
        int[] badInPorts = {-4, 1, 2, 6, 68, 128};
        for (int reserve : badInPorts) {
            due("setReserve ports " + reserve, rack.setReserve(0, PORTS, reserve), BAD_VALUE);
        }
        due("setReserve space 2", rack.setReserve(0, 2, 0), BAD_VALUE);
        due("setReserve space -1", rack.setReserve(0, -1, 0), BAD_VALUE);
        due("setReserve of a card", rack.setReserve(1, 2, 5), NO_SUCH);
        due("setReserve of none", rack.setReserve(2, MEMORY, 0), NO_SUCH);
        due("setReserve of the root bus", rack.setReserve(ROOT, MEMORY, 0), NO_SUCH);
        due("setReserve: errors change nothing", rack.need(0, MEMORY), 48);
        due("setReserve: errors change nothing", rack.need(0, PORTS), 12);
    }

    private static void setGap() {
        BusRack rack = new BusRack();
        due("setGap 2", rack.setGap(2), 0);
        due("setGap 1", rack.setGap(1), 2);
        due("setGap 3", rack.setGap(3), BAD_VALUE);
        due("setGap -1", rack.setGap(-1), BAD_VALUE);
        due("setGap far", rack.setGap(Integer.MIN_VALUE), BAD_VALUE);
        due("setGap 0", rack.setGap(0), 1);
    }

    private static void pull() {
        BusRack rack = Checks.loaded("0b(1b(2c,3b()),2c),1c,2b(0c)");
        due("pull none", rack.pull(8), NO_SUCH);
        due("pull -1", rack.pull(-1), NO_SUCH);
        due("pull ROOT", rack.pull(ROOT), NO_SUCH);
        due("pull a card", rack.pull(7), 1);
        due("pull a low bridge", rack.pull(1), 3);
        due("pull: what is left", rack.devices(), 1 | 1 << 4 | 1 << 5 | 1 << 6);
        due("pull: the slot is free", rack.deviceIn(0, 1), NONE);
        due("pull a bridge", rack.pull(0), 2);
        due("pull: what is left", rack.devices(), 1 << 5 | 1 << 6);
        due("pull again", rack.pull(0), NO_SUCH);
        due("pull an empty bridge", rack.pull(6), 1);
        due("pull the deepest five", Checks.loaded("0b(0b(0b(0b(0b()))))").pull(0), 5);
    }

    private static void pulledNumbersComeBackNew() {
        BusRack rack = Checks.enumerated("0b(0cm2p2)");
        rack.setReserve(0, MEMORY, 64);
        rack.pull(0);
        due("pulled: nothing covered", rack.find(MEMORY, 0), NONE);
        due("pulled: no bus 1", rack.answer(1, 0), NONE);
        rack.addBridge(ROOT, 0);
        rack.addCard(0, 0);
        due("new bridge: not numbered", rack.firstNumber(0), NONE);
        due("new bridge: no window", rack.windowBase(0, MEMORY), NONE);
        due("new bridge: no window size", rack.windowSize(0, PORTS), 0);
        due("new bridge: no need", rack.need(0, MEMORY), 0);
        due("new card: unused", rack.size(1, 0), 0);
        due("new card: no base", rack.base(1, 1), NONE);
        due("new card: nothing unplaced", rack.unplaced(), 0);
    }

    private static void deviceIn() {
        BusRack rack = Checks.loaded("1b(2c),3c");
        due("deviceIn root", rack.deviceIn(ROOT, 3), 2);
        due("deviceIn lower", rack.deviceIn(0, 2), 1);
        due("deviceIn empty", rack.deviceIn(0, 1), NONE);
        due("deviceIn empty root", rack.deviceIn(ROOT, 0), NONE);
        due("deviceIn slot 4", rack.deviceIn(ROOT, 4), BAD_VALUE);
        due("deviceIn slot -1", rack.deviceIn(0, -1), BAD_VALUE);
        due("deviceIn of a card", rack.deviceIn(2, 0), NO_SUCH);
        due("deviceIn: bus before slot", rack.deviceIn(1, 4), NO_SUCH);
        due("deviceIn -1", rack.deviceIn(-1, 0), NO_SUCH);
        due("deviceIn 13", rack.deviceIn(13, 0), NO_SUCH);
    }

    private static void depth() {
        BusRack rack = Checks.loaded("0b(0b(0b(0b(0b(),1c)))),1c");
        for (int device = 0; device < 5; device++) {
            due("depth " + device, rack.depth(device), device + 1);
        }
        due("depth of the low card", rack.depth(5), 5);
        due("depth of the root card", rack.depth(6), 1);
        due("depth of none", rack.depth(7), NO_SUCH);
        due("depth of -1", rack.depth(-1), NO_SUCH);
        due("depth of ROOT", rack.depth(ROOT), NO_SUCH);
    }

    private static void size() {
        BusRack rack = Checks.loaded("0cm6p4,1b(),2cm0p0m3");
        due("size", rack.size(0, 0), 1024);
        due("size", rack.size(0, 1), 64);
        due("size unused", rack.size(0, 2), 0);
        due("size", rack.size(2, 1), 4);
        due("size", rack.size(2, 2), 128);
        due("size region 3", rack.size(0, 3), NO_SUCH);
        due("size region -1", rack.size(0, -1), NO_SUCH);
        due("size of a bridge", rack.size(1, 0), NO_SUCH);
        due("size of none", rack.size(3, 0), NO_SUCH);
        due("size of 12", rack.size(12, 0), NO_SUCH);
        due("size of -1", rack.size(-1, 0), NO_SUCH);
    }
}
