/** The terms of devices, and promises 1 to 7 and 18 to 22. */
final class DeviceSentences extends Sentences {
    static void all() {
        terms();
        newObject();
        adding(2, false, "card");
        adding(3, true, "bridge");
        setRegion();
        setReserve();
        setGap();
        pull();
        masks();
        deviceIn();
        depth();
        size();
    }

    private static void terms() {
        calls512();
        rootBus();
        slots();
        cardOrBridge();
        lowerBus();
        twelve();
        leastNumber();
        busArguments();
        depths();
        deepest();
        below();
    }

    private static void calls512() {
        told(0, "An object is used for at most 512 calls after it has been made; what later calls answer is free.");
        BusRack rack = new BusRack();
        for (int call = 1; call <= 510; call += 2) {
            rack.addBridge(ROOT, 3);
            rack.undo();
        }
        due("call 511", rack.addCard(ROOT, 2), 0);
        due("call 512", rack.deviceIn(ROOT, 2), 0);
    }

    private static void rootBus() {
        told(0, "The rack has a root bus.");
        BusRack rack = new BusRack();
        for (int slot = 0; slot < 4; slot++) {
            due("deviceIn(ROOT, " + slot + ")", rack.deviceIn(ROOT, slot), NONE);
        }
        due("addCard(ROOT, 0)", rack.addCard(ROOT, 0), 0);
        refused("pull(ROOT)", RICH, of -> of.pull(ROOT), NO_SUCH);
    }

    private static void slots() {
        told(0, "A bus has 4 slots, numbered from 0 to 3, each of which holds at most one device.");
        BusRack rack = new BusRack();
        rack.addBridge(ROOT, 0);
        for (int slot = 0; slot < 4; slot++) {
            due("addCard(0, " + slot + ")", rack.addCard(0, slot), slot + 1);
        }
        for (int slot = 1; slot < 4; slot++) {
            due("addBridge(ROOT, " + slot + ")", rack.addBridge(ROOT, slot), slot + 4);
        }
        for (int slot = 0; slot < 4; slot++) {
            due("addCard(0, " + slot + ") again", rack.addCard(0, slot), NOT_POSSIBLE);
            due("addBridge(ROOT, " + slot + ") again", rack.addBridge(ROOT, slot), NOT_POSSIBLE);
            due("deviceIn(0, " + slot + ")", rack.deviceIn(0, slot), slot + 1);
        }
        for (int slot : NO_SLOTS) {
            due("addCard(7, " + slot + ")", rack.addCard(7, slot), BAD_VALUE);
            due("deviceIn(7, " + slot + ")", rack.deviceIn(7, slot), BAD_VALUE);
        }
    }

    private static void cardOrBridge() {
        told(0, "A device is a card or a bridge.",
                "There is no such device, bus or region, or the device is of the other kind.");
        for (int bridge : BRIDGES_OF_RICH) {
            refused("size of bridge " + bridge, RICH, rack -> rack.size(bridge, 0), NO_SUCH);
            refused("base of bridge " + bridge, RICH, rack -> rack.base(bridge, 0), NO_SUCH);
            refused("setRegion of bridge " + bridge, RICH, rack -> rack.setRegion(bridge, 0, MEMORY, 16), NO_SUCH);
        }
        for (int card : CARDS_OF_RICH) {
            refused("need of card " + card, RICH, rack -> rack.need(card, MEMORY), NO_SUCH);
            refused("firstNumber of card " + card, RICH, rack -> rack.firstNumber(card), NO_SUCH);
            refused("setReserve of card " + card, RICH, rack -> rack.setReserve(card, PORTS, 4), NO_SUCH);
            refused("deviceIn of card " + card, RICH, rack -> rack.deviceIn(card, 0), NO_SUCH);
        }
    }

    private static void lowerBus() {
        told(0, "Each bridge has a lower bus.");
        BusRack rack = Checks.loaded("3b(2b())");
        due("deviceIn(0, 2)", rack.deviceIn(0, 2), 1);
        due("deviceIn(1, 2)", rack.deviceIn(1, 2), NONE);
        due("addCard(1, 2)", rack.addCard(1, 2), 2);
        due("deviceIn(1, 2)", rack.deviceIn(1, 2), 2);
        due("deviceIn(2, 2)", rack.deviceIn(2, 2), NO_SUCH);
    }

    private static void twelve() {
        told(0, "There are at most 12 devices.", "There is no more room.");
        BusRack rack = Checks.loaded("0b(0c,1c,2c,3c),1b(0c,1c,2c,3c),2b()");
        due("the twelfth", rack.addBridge(10, 3), 11);
        due("the thirteenth card", rack.addCard(11, 0), TOO_MANY);
        due("the thirteenth bridge", rack.addBridge(ROOT, 3), TOO_MANY);
        due("pull(4)", rack.pull(4), 1);
        due("the twelfth again", rack.addCard(ROOT, 3), 4);
        due("the thirteenth again", rack.addCard(0, 3), TOO_MANY);
        refused("addCard to twelve", FULL, full -> full.addCard(10, 1), TOO_MANY);
        refused("addBridge to twelve", FULL, full -> full.addBridge(ROOT, 3), TOO_MANY);
    }

    private static void leastNumber() {
        told(0, "The number of a new device is the least number, from 0 on, that no device has; "
                + "other devices keep their numbers when a device is removed.");
        BusRack rack = full();
        rack.pull(11);
        rack.pull(7);
        rack.pull(1);
        due("others keep theirs", rack.devices(), 4095 - (1 << 11) - (1 << 7) - (1 << 1));
        due("others keep theirs", rack.deviceIn(0, 1), 2);
        due("others keep theirs", rack.deviceIn(5, 3), 9);
        due("least number", rack.addCard(10, 3), 1);
        due("next number", rack.addBridge(5, 1), 7);
        due("last number", rack.addCard(7, 0), 11);
        rack = Checks.loaded("0c,1c");
        rack.pull(0);
        due("number 0", rack.addBridge(ROOT, 3), 0);
        due("number 2", rack.addBridge(0, 3), 2);
    }

    private static void busArguments() {
        told(0, "As an argument, a bus is given by the number of its bridge, or by ROOT for the root bus.",
                "The root bus, as an argument.");
        BusRack rack = Checks.loaded("0b(0c,1c,2c,3c),1b(0c,1c,2c),2c,3b(1b())");
        due("the bus of bridge 11", rack.deviceIn(11, 0), NONE);
        due("the bus of bridge 10", rack.deviceIn(10, 1), 11);
        due("the root bus", rack.deviceIn(ROOT, 3), 10);
        due("no bus 13", rack.deviceIn(13, 3), NO_SUCH);
        due("no bus of card 9", rack.deviceIn(9, 3), NO_SUCH);
        due("the bus of bridge 0", rack.deviceIn(0, 3), 4);
        due("constant ROOT", BusRack.ROOT, 12);
    }

    private static void depths() {
        told(0, "The depth of a device on the root bus is 1; "
                + "the depth of a device on the lower bus of a bridge is 1 more than the depth of the bridge.");
        BusRack rack = Checks.loaded("0c,1b(0b(),3c),2b()");
        due("card on the root bus", rack.depth(0), 1);
        due("bridge on the root bus", rack.depth(1), 1);
        due("bridge below", rack.depth(2), 2);
        due("card below", rack.depth(3), 2);
        due("bridge on the root bus", rack.depth(4), 1);
        rack.addCard(2, 2);
        due("card below both", rack.depth(5), 3);
    }

    private static void deepest() {
        told(0, "No device has a depth above 5.");
        BusRack rack = deep();
        due("depth of bridge 4", rack.depth(4), 5);
        due("depth of card 5", rack.depth(5), 5);
        refused("addCard(4, 0)", Sentences::deep, of -> of.addCard(4, 0), NOT_POSSIBLE);
        refused("addBridge(4, 3)", Sentences::deep, of -> of.addBridge(4, 3), NOT_POSSIBLE);
        due("addBridge(3, 2)", rack.addBridge(3, 2), 6);
        due("depth of bridge 6", rack.depth(6), 5);
        due("addCard(6, 0)", rack.addCard(6, 0), NOT_POSSIBLE);
    }

    private static void below() {
        told(0, "A device is below a bridge if it is on the lower bus of this bridge, "
                + "or on the lower bus of a bridge that is below this bridge.");
        BusRack rack = deep();
        due("pull(3)", rack.pull(3), 3);
        due("what is left", rack.devices(), 7);
        due("pull(0)", deep().pull(0), 6);
        rack = Checks.loaded("0b(),1b(0b(0c),1c),2b(0b())");
        due("pull(1)", rack.pull(1), 4);
        due("those beside it stay", rack.devices(), 1 | 1 << 5 | 1 << 6);
        due("pull(0) with nothing below", rack.pull(0), 1);
    }

    // ---- promise 1

    private static void newObject() {
        told(1, "Creates a rack without devices");
        BusRack rack = new BusRack();
        due("devices", rack.devices(), 0);
        due("bridges", rack.bridges(), 0);
        due("unplaced", rack.unplaced(), 0);
        due("depth(0)", rack.depth(0), NO_SUCH);
        due("answer(0, 0)", rack.answer(0, 0), NONE);
        due("find(0, 0)", rack.find(MEMORY, 0), NONE);
        due("freeRoom(ROOT, 0)", rack.freeRoom(ROOT, MEMORY), 4096);
        due("freeRoom(ROOT, 1)", rack.freeRoom(ROOT, PORTS), 256);
        told(1, "with an empty text and an empty history");
        due("undo", new BusRack().undo(), NONE);
        due("clearText", new BusRack().clearText(), 0);
        due("fault", new BusRack().fault(), NONE);
        due("append", new BusRack().append('0'), 1);
        rack.setGap(0);
        due("undo after one action", rack.undo(), 0);
        told(1, "without a snapshot");
        refused("restore", NEW, BusRack::restore, NOT_POSSIBLE);
    }

    // ---- promises 2 and 3

    private static void adding(int promise, boolean isBridge, String kind) {
        if (isBridge) {
            newBridge();
        } else {
            newCard();
        }
        told(promise, "`bus`: number of a bridge, or ROOT");
        due("on bridge 3", add(isBridge, rich(), 3, 0), 6);
        due("on ROOT", add(isBridge, rich(), ROOT, 2), 6);
        told(promise, "`slot`: 0 to 3");
        for (int slot = 0; slot < 4; slot++) {
            due("slot " + slot, add(isBridge, new BusRack(), ROOT, slot), 0);
        }
        told(promise, "Returns the number of the " + kind);
        BusRack rack = rich();
        due("the seventh", add(isBridge, rack, 1, 3), 6);
        due("is in its slot", rack.deviceIn(1, 3), 6);
        due("is of its kind", rack.bridges(), isBridge ? 1 << 1 | 1 << 3 | 1 << 6 : 1 << 1 | 1 << 3);
        refusedAdding(promise, isBridge);
    }

    private static void refusedAdding(int promise, boolean isBridge) {
        told(promise, "NO_SUCH if there is no such bus");
        refused("bus", RICH, NO_BUSES, (rack, bus) -> add(isBridge, rack, bus, 2), NO_SUCH);
        refused("before the slot", RICH, NO_BUSES, (rack, bus) -> add(isBridge, rack, bus, 4), NO_SUCH);
        refused("before twelve", FULL, rack -> add(isBridge, rack, 11, 0), NO_SUCH);
        told(promise, "BAD_VALUE if slot is out of range");
        refused("slot", RICH, NO_SLOTS, (rack, slot) -> add(isBridge, rack, 3, slot), BAD_VALUE);
        refused("before twelve", FULL, NO_SLOTS, (rack, slot) -> add(isBridge, rack, ROOT, slot), BAD_VALUE);
        refused("before depth", Sentences::deep, rack -> add(isBridge, rack, 4, 4), BAD_VALUE);
        told(promise, "NOT_POSSIBLE if the slot holds a device");
        refused("a card's slot", RICH, rack -> add(isBridge, rack, ROOT, 0), NOT_POSSIBLE);
        refused("a bridge's slot", RICH, rack -> add(isBridge, rack, 1, 1), NOT_POSSIBLE);
        refused("before twelve", FULL, rack -> add(isBridge, rack, 10, 0), NOT_POSSIBLE);
        told(promise, "or if the depth would be above 5");
        due("depth 5", add(isBridge, deep(), 3, 3), 6);
        refused("depth 6", Sentences::deep, rack -> add(isBridge, rack, 4, 3), NOT_POSSIBLE);
        Maker both = () -> Checks.loaded("0b(0b(0b(0b(0b(),1c,2c,3c),1c),1c),1c),1c");
        refused("before twelve", both, rack -> add(isBridge, rack, 4, 0), NOT_POSSIBLE);
        told(promise, "TOO_MANY if there are 12 devices");
        Maker eleven = () -> Checks.loaded("0b(0c,1c,2c,3c),1b(0c,1c,2c,3c),2b()");
        due("eleven", add(isBridge, eleven.make(), ROOT, 3), 11);
        refused("twelve", FULL, rack -> add(isBridge, rack, ROOT, 3), TOO_MANY);
        refused("twelve, below", FULL, rack -> add(isBridge, rack, 10, 3), TOO_MANY);
    }

    private static void newCard() {
        told(2, "Adds a card, whose regions are unused.");
        BusRack rack = Checks.enumerated("0cm0p0m0,1b()");
        rack.pull(0);
        due("addCard", rack.addCard(1, 0), 0);
        for (int region = 0; region < 3; region++) {
            due("size", rack.size(0, region), 0);
            base(rack, 0, region, NONE);
        }
        due("unplaced", rack.unplaced(), 0);
        due("need above it", rack.need(1, MEMORY), 0);
        due("need above it", rack.need(1, PORTS), 0);
    }

    private static void newBridge() {
        told(3, "Adds a bridge, which is not numbered, without windows, with the reserves 0.");
        BusRack rack = Checks.loaded("0b(0cm0p0)");
        rack.setReserve(0, MEMORY, 16);
        rack.setReserve(0, PORTS, 4);
        rack.enumerate();
        rack.pull(0);
        due("addBridge", rack.addBridge(ROOT, 0), 0);
        range(rack, 0, NONE, NONE);
        for (int space = 0; space < 2; space++) {
            window(rack, 0, space, NONE, 0);
            due("need", rack.need(0, space), 0);
            due("reserve", rack.setReserve(0, space, 0), 0);
        }
    }

    // ---- promise 4

    private static void setRegion() {
        told(4, "Changes a region of a card.");
        BusRack rack = rich();
        rack.setRegion(4, 1, PORTS, 64);
        due("the region", rack.size(4, 1), 64);
        due("the region before it", rack.size(4, 0), 4);
        due("the region after it", rack.size(4, 2), 0);
        due("region 1 of another card", rack.size(0, 1), 8);
        regionLosesItsBase();
        told(4, "`card`: number of a card");
        for (int card : CARDS_OF_RICH) {
            due("setRegion of " + card, rich().setRegion(card, 2, MEMORY, 16), card == 0 ? 32 : 0);
        }
        told(4, "`region`: 0 to 2");
        for (int region = 0; region < 3; region++) {
            due("setRegion of region " + region, rich().setRegion(5, region, MEMORY, 16), region == 0 ? 256 : 0);
        }
        told(4, "`space`: MEMORY or PORTS");
        due("MEMORY", rich().setRegion(2, 1, MEMORY, 32), 0);
        due("PORTS", rich().setRegion(2, 1, PORTS, 32), 0);
        told(4, "`size`: a size of the space; 0 if the region becomes unused");
        rack = rich();
        due("0 in MEMORY", rack.setRegion(0, 0, MEMORY, 0), 64);
        due("0 in PORTS", rack.setRegion(0, 2, PORTS, 0), 32);
        due("unused", rack.size(0, 0), 0);
        due("unused", rack.unplaced(), 0);
        told(4, "Returns the previous size, 0 if the region was unused");
        due("unused", rack.setRegion(0, 0, PORTS, 0), 0);
        due("unused", rack.setRegion(0, 0, MEMORY, 1024), 0);
        due("1024", rack.setRegion(0, 0, PORTS, 4), 1024);
        due("4", rack.setRegion(0, 0, MEMORY, 16), 4);
        refusedSetRegion();
    }

    private static void regionLosesItsBase() {
        told(4, "The region has no base afterwards.");
        int[] sizes = {64, 16, 1024, 0};
        for (int size : sizes) {
            BusRack rack = Checks.enumerated("0cm2m1");
            rack.setRegion(0, 0, MEMORY, size);
            base(rack, 0, 0, NONE);
            base(rack, 0, 1, 64);
            due("find", rack.find(MEMORY, 0), NONE);
            due("unplaced", rack.unplaced(), size == 0 ? 0 : 1);
            due("freeRoom", rack.freeRoom(ROOT, MEMORY), 4096 - 32);
        }
    }

    private static void refusedSetRegion() {
        told(4, "NO_SUCH if there is no such card or region");
        refused("card", RICH, NO_DEVICES, (rack, card) -> rack.setRegion(card, 0, MEMORY, 16), NO_SUCH);
        refused("a bridge", RICH, BRIDGES_OF_RICH, (rack, card) -> rack.setRegion(card, 0, MEMORY, 16), NO_SUCH);
        refused("region", RICH, NO_REGIONS, (rack, region) -> rack.setRegion(0, region, MEMORY, 16), NO_SUCH);
        refused("card before space and size", RICH, rack -> rack.setRegion(1, 0, 2, 5), NO_SUCH);
        refused("region before space", RICH, rack -> rack.setRegion(0, 3, 2, 16), NO_SUCH);
        refused("region before size", RICH, rack -> rack.setRegion(0, 3, MEMORY, 5), NO_SUCH);
        told(4, "BAD_VALUE if space or size is out of range");
        refused("space", RICH, NO_SPACES, (rack, space) -> rack.setRegion(0, 0, space, 16), BAD_VALUE);
        refused("space with 0", RICH, NO_SPACES, (rack, space) -> rack.setRegion(0, 0, space, 0), BAD_VALUE);
        int[] noMemory = {-16, -1, 1, 4, 8, 15, 17, 48, 1023, 1025, 2048, LOWEST, HIGHEST};
        refused("size", RICH, noMemory, (rack, size) -> rack.setRegion(0, 0, MEMORY, size), BAD_VALUE);
        int[] noPorts = {-4, -1, 1, 2, 3, 5, 12, 63, 65, 128, 1024, LOWEST, HIGHEST};
        refused("size", RICH, noPorts, (rack, size) -> rack.setRegion(0, 1, PORTS, size), BAD_VALUE);
    }

    // ---- promise 5

    private static void setReserve() {
        told(5, "Changes a reserve of a bridge.");
        BusRack rack = rich();
        rack.setReserve(3, MEMORY, 48);
        due("need with it", rack.need(3, MEMORY), 16 + 48);
        due("the other space", rack.setReserve(3, PORTS, 0), 8);
        due("the other bridge", rack.setReserve(1, MEMORY, 0), 64);
        due("its window stays", rack.windowSize(3, MEMORY), 16);
        told(5, "`bridge`: number of a bridge");
        due("bridge 1", rich().setReserve(1, PORTS, 4), 0);
        due("bridge 3", rich().setReserve(3, PORTS, 4), 8);
        told(5, "`space`: MEMORY or PORTS");
        due("MEMORY", rich().setReserve(1, MEMORY, 32), 64);
        due("PORTS", rich().setReserve(1, PORTS, 32), 0);
        told(5, "`reserve`: a multiple of the grain of the space, from 0 to 16 times the grain");
        for (int reserve = -40; reserve <= 300; reserve++) {
            boolean inMemory = reserve >= 0 && reserve <= 256 && reserve % 16 == 0;
            boolean inPorts = reserve >= 0 && reserve <= 64 && reserve % 4 == 0;
            due("MEMORY " + reserve, rich().setReserve(1, MEMORY, reserve), inMemory ? 64 : BAD_VALUE);
            due("PORTS " + reserve, rich().setReserve(3, PORTS, reserve), inPorts ? 8 : BAD_VALUE);
        }
        told(5, "Returns the previous reserve");
        rack = new BusRack();
        rack.addBridge(ROOT, 0);
        due("at first", rack.setReserve(0, MEMORY, 256), 0);
        due("256", rack.setReserve(0, MEMORY, 16), 256);
        due("16", rack.setReserve(0, MEMORY, 0), 16);
        due("0", rack.setReserve(0, MEMORY, 0), 0);
        refusedSetReserve();
    }

    private static void refusedSetReserve() {
        told(5, "NO_SUCH if there is no such bridge");
        refused("bridge", RICH, NO_DEVICES, (rack, bridge) -> rack.setReserve(bridge, MEMORY, 16), NO_SUCH);
        refused("a card", RICH, CARDS_OF_RICH, (rack, bridge) -> rack.setReserve(bridge, MEMORY, 16), NO_SUCH);
        refused("before space", RICH, rack -> rack.setReserve(0, 2, 16), NO_SUCH);
        refused("before reserve", RICH, rack -> rack.setReserve(6, MEMORY, 1), NO_SUCH);
        told(5, "BAD_VALUE if space or reserve is out of range");
        refused("space", RICH, NO_SPACES, (rack, space) -> rack.setReserve(1, space, 0), BAD_VALUE);
        int[] noMemory = {-16, -1, 1, 4, 15, 17, 255, 257, 272, LOWEST, HIGHEST};
        refused("reserve", RICH, noMemory, (rack, reserve) -> rack.setReserve(1, MEMORY, reserve), BAD_VALUE);
        int[] noPorts = {-4, -1, 1, 3, 5, 63, 65, 68, 256, LOWEST, HIGHEST};
        refused("reserve", RICH, noPorts, (rack, reserve) -> rack.setReserve(1, PORTS, reserve), BAD_VALUE);
    }

    // ---- promises 6 and 7

    private static void setGap() {
        told(6, "Changes the gap.");
        BusRack rack = withGap("0b()", 2);
        range(rack, 0, 1, 3);
        rack.setGap(1);
        range(rack, 0, 1, 3);
        rack.enumerate();
        range(rack, 0, 1, 2);
        told(6, "`gap`: 0 to 2");
        for (int gap = 0; gap <= 2; gap++) {
            due("setGap(" + gap + ")", new BusRack().setGap(gap), 0);
        }
        told(6, "Returns the previous gap");
        rack = new BusRack();
        due("at first", rack.setGap(2), 0);
        due("2", rack.setGap(1), 2);
        due("1", rack.setGap(1), 1);
        due("1", rack.setGap(0), 1);
        told(6, "BAD_VALUE if gap is out of range");
        int[] noGaps = {-1, 3, 4, LOWEST, HIGHEST};
        refused("gap", RICH, noGaps, BusRack::setGap, BAD_VALUE);
    }

    private static void pull() {
        told(7, "Removes a device, and all devices below it if it is a bridge.");
        BusRack rack = rich();
        rack.pull(1);
        due("what is left", rack.devices(), 1 | 1 << 5);
        due("its slot", rack.deviceIn(ROOT, 1), NONE);
        due("its bus", rack.deviceIn(1, 0), NO_SUCH);
        due("its number", rack.answer(1, 0), NONE);
        due("its window", rack.freeRoom(ROOT, MEMORY), 4096 - 64 - 256);
        base(rack, 5, 0, 0);
        rack = rich();
        rack.pull(2);
        due("a card alone", rack.devices(), 63 - 4);
        told(7, "`device`: number of a device");
        due("a card", rich().pull(5), 1);
        due("a bridge", rich().pull(3), 2);
        told(7, "Returns the number of removed devices");
        due("one", rich().pull(0), 1);
        due("four", rich().pull(1), 4);
        BusRack twelve = Checks.loaded("3b(0b(0c,1c,2c,3c),1b(0c,1c,2c,3c),2c)");
        due("all twelve", twelve.pull(0), 12);
        due("none is left", twelve.devices(), 0);
        told(7, "NO_SUCH if there is no such device");
        refused("device", RICH, NO_DEVICES, BusRack::pull, NO_SUCH);
        refused("device", NEW, of -> of.pull(0), NO_SUCH);
    }

    // ---- promises 18 to 22

    private static void masks() {
        told(18, "Returns the devices.");
        due("none", new BusRack().devices(), 0);
        changesNothing("devices", RICH, BusRack::devices);
        told(18, "Returns the numbers of the devices, as a bit mask in which bit k stands for the device k.");
        due("six", rich().devices(), 63);
        due("twelve", full().devices(), 4095);
        BusRack rack = full();
        rack.pull(0);
        due("without 0 to 4", rack.devices(), 4095 - 31);
        told(19, "Returns the bridges.");
        due("none", new BusRack().bridges(), 0);
        due("cards alone", Checks.loaded("0c,3c").bridges(), 0);
        changesNothing("bridges", RICH, BusRack::bridges);
        told(19, "Returns the numbers of the bridges, as a bit mask in which bit k stands for the device k.");
        due("two", rich().bridges(), 1 << 1 | 1 << 3);
        due("three", full().bridges(), 1 | 1 << 5 | 1 << 10);
        rack.addBridge(ROOT, 0);
        due("again", rack.bridges(), 1 | 1 << 5 | 1 << 10);
        due("the twelfth", Checks.loaded("0b(0c,1c,2c,3c),1b(0c,1c,2c,3c),2b(3b())").bridges() >> 10, 3);
    }

    private static void deviceIn() {
        told(20, "Finds the device in a slot.");
        due("the card", rich().deviceIn(3, 2), 4);
        changesNothing("deviceIn", RICH, rack -> rack.deviceIn(3, 2));
        told(20, "`bus`: number of a bridge, or ROOT");
        due("bridge 1", rich().deviceIn(1, 1), 3);
        due("ROOT", rich().deviceIn(ROOT, 1), 1);
        told(20, "`slot`: 0 to 3");
        due("slot 0", rich().deviceIn(ROOT, 0), 0);
        due("slot 3", rich().deviceIn(ROOT, 3), 5);
        told(20, "Returns the number of the device");
        due("number 0", rich().deviceIn(ROOT, 0), 0);
        due("number 11", full().deviceIn(10, 0), 11);
        told(20, "NO_SUCH if there is no such bus");
        refused("bus", RICH, NO_BUSES, (rack, bus) -> rack.deviceIn(bus, 0), NO_SUCH);
        refused("before slot", RICH, NO_BUSES, (rack, bus) -> rack.deviceIn(bus, -1), NO_SUCH);
        told(20, "BAD_VALUE if slot is out of range");
        refused("slot", RICH, NO_SLOTS, (rack, slot) -> rack.deviceIn(ROOT, slot), BAD_VALUE);
        refused("slot below", RICH, NO_SLOTS, (rack, slot) -> rack.deviceIn(3, slot), BAD_VALUE);
        told(20, "NONE if the slot holds no device");
        due("empty", rich().deviceIn(ROOT, 2), NONE);
        due("empty below", rich().deviceIn(3, 3), NONE);
    }

    private static void depth() {
        told(21, "Returns the depth of a device.");
        due("bridge 3", rich().depth(3), 2);
        changesNothing("depth", RICH, rack -> rack.depth(3));
        told(21, "`device`: number of a device");
        due("a card", rich().depth(4), 3);
        due("a bridge", rich().depth(1), 1);
        told(21, "Returns the depth, 1 to 5");
        for (int device = 0; device < 5; device++) {
            due("depth(" + device + ")", deep().depth(device), device + 1);
        }
        due("depth(5)", deep().depth(5), 5);
        told(21, "NO_SUCH if there is no such device");
        refused("device", RICH, NO_DEVICES, BusRack::depth, NO_SUCH);
    }

    private static void size() {
        told(22, "Returns the size of a region.");
        due("memory", rich().size(5, 0), 256);
        due("ports", rich().size(0, 1), 8);
        changesNothing("size", RICH, rack -> rack.size(0, 1));
        told(22, "`card`: number of a card");
        due("card 0", rich().size(0, 0), 64);
        due("card 11", full().size(11, 0), 4);
        told(22, "`region`: 0 to 2");
        due("region 0", rich().size(4, 0), 4);
        due("region 2", rich().size(0, 2), 32);
        told(22, "Returns the size, 0 if the region is unused");
        due("unused", rich().size(4, 2), 0);
        due("without a base", Checks.loaded("0cm6").size(0, 0), 1024);
        told(22, "NO_SUCH if there is no such card or region");
        refused("card", RICH, NO_DEVICES, (rack, card) -> rack.size(card, 0), NO_SUCH);
        refused("a bridge", RICH, BRIDGES_OF_RICH, (rack, card) -> rack.size(card, 0), NO_SUCH);
        refused("region", RICH, NO_REGIONS, (rack, region) -> rack.size(0, region), NO_SUCH);
    }
}
