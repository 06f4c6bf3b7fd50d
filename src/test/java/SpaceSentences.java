/** The terms of spaces, needs, placing and free room, and promises 23, 26 to 29 and 31 to 33. */
final class SpaceSentences extends Sentences {
    static void all() {
        spaces();
        threeRegions();
        sizes();
        covers();
        windows();
        reserves();
        items();
        sizeOfRegion();
        sizeOfBridge();
        order();
        packing();
        needs();
        alignments();
        notNumbered();
        leftOut();
        placedRegion();
        placedBridge();
        alwaysFit();
        belowNotPlaced();
        room();
        freeAddresses();
        firstFits();
        base();
        windowBase();
        windowSize();
        need();
        unplaced();
        find();
        freeRoom();
        firstFit();
    }

    // ---- spaces, regions and windows

    private static void spaces() {
        told(0, "There are two address spaces: MEMORY with the addresses 0 to 4095 and a grain of 16, "
                + "and PORTS with the addresses 0 to 255 and a grain of 4.", "The address spaces.");
        due("constant MEMORY", BusRack.MEMORY, 0);
        due("constant PORTS", BusRack.PORTS, 1);
        due("memory is empty", new BusRack().freeRoom(ROOT, MEMORY), 4096);
        due("ports are empty", new BusRack().freeRoom(ROOT, PORTS), 256);
        BusRack rack = Checks.enumerated("0cm6m6m6,1cm6,2cp4p4p4,3cp4");
        due("memory is full", rack.freeRoom(ROOT, MEMORY), 0);
        due("ports are full", rack.freeRoom(ROOT, PORTS), 0);
        due("address 0", rack.find(MEMORY, 0), 0);
        due("address 4095", rack.find(MEMORY, 4095), 3);
        due("address 4096", rack.find(MEMORY, 4096), BAD_VALUE);
        due("address -1", rack.find(MEMORY, -1), BAD_VALUE);
        due("port 0", rack.find(PORTS, 0), 6);
        due("port 255", rack.find(PORTS, 255), 9);
        due("port 256", rack.find(PORTS, 256), BAD_VALUE);
        due("port -1", rack.find(PORTS, -1), BAD_VALUE);
        for (int space : NO_SPACES) {
            due("space " + space, rack.freeRoom(ROOT, space), BAD_VALUE);
        }
        rack = Checks.loaded("0b()");
        due("grain of MEMORY", rack.setReserve(0, MEMORY, 16), 0);
        due("half of it", rack.setReserve(0, MEMORY, 8), BAD_VALUE);
        due("grain of PORTS", rack.setReserve(0, PORTS, 4), 0);
        due("half of it", rack.setReserve(0, PORTS, 2), BAD_VALUE);
    }

    private static void threeRegions() {
        told(0, "A card has 3 regions, numbered from 0 to 2.");
        BusRack rack = Checks.loaded("0cm0m1m2");
        for (int region = 0; region < 3; region++) {
            due("size(0, " + region + ")", rack.size(0, region), 16 << region);
        }
        for (int region : NO_REGIONS) {
            due("size(0, " + region + ")", rack.size(0, region), NO_SUCH);
            due("base(0, " + region + ")", rack.base(0, region), NO_SUCH);
            due("setRegion(0, " + region + ")", rack.setRegion(0, region, MEMORY, 16), NO_SUCH);
        }
    }

    private static void sizes() {
        told(0, "A region is unused (at first), or it has a space and a size: "
                + "16, 32, 64, 128, 256, 512 or 1024 in MEMORY, and 4, 8, 16, 32 or 64 in PORTS.");
        for (int size = -1100; size <= 4200; size++) {
            boolean isOne = Integer.bitCount(size) == 1;
            int memory = size == 0 || isOne && size >= 16 && size <= 1024 ? 0 : BAD_VALUE;
            int ports = size == 0 || isOne && size >= 4 && size <= 64 ? 0 : BAD_VALUE;
            BusRack rack = new BusRack();
            rack.addCard(ROOT, 0);
            due("at first", rack.size(0, 0), 0);
            due("MEMORY " + size, rack.setRegion(0, 0, MEMORY, size), memory);
            due("PORTS " + size, rack.setRegion(0, 1, PORTS, size), ports);
            due("size", rack.size(0, 0), memory == 0 ? size : 0);
            due("size", rack.size(0, 1), ports == 0 ? size : 0);
        }
    }

    private static void covers() {
        told(0, "A used region either has a base or has none; "
                + "it covers the addresses from its base to its base plus its size minus 1.");
        BusRack rack = Checks.loaded("0cm2p1,1cp0m0");
        due("without a base", rack.find(MEMORY, 0), NONE);
        due("without a base", rack.find(PORTS, 0), NONE);
        base(rack, 0, 0, NONE);
        rack.enumerate();
        base(rack, 0, 0, 0);
        due("first", rack.find(MEMORY, 0), 0);
        due("last", rack.find(MEMORY, 63), 0);
        due("next first", rack.find(MEMORY, 64), 4);
        due("next last", rack.find(MEMORY, 79), 4);
        due("beyond", rack.find(MEMORY, 80), NONE);
        due("first port", rack.find(PORTS, 0), 1);
        due("last port", rack.find(PORTS, 7), 1);
        due("next first port", rack.find(PORTS, 8), 3);
        due("next last port", rack.find(PORTS, 11), 3);
        due("beyond", rack.find(PORTS, 12), NONE);
        rack.detach(0);
        due("before", rack.find(MEMORY, 63), NONE);
    }

    private static void windows() {
        told(0, "A bridge either has a window in a space or has none; "
                + "a window has a base and a size, and covers addresses likewise.");
        BusRack rack = Checks.enumerated("0cm2,1b(0cm2m0)");
        window(rack, 1, MEMORY, 64, 80);
        window(rack, 1, PORTS, NONE, 0);
        rack.detach(0);
        rack.setRegion(2, 0, MEMORY, 0);
        due("before the window", rack.firstFit(ROOT, MEMORY, 64), 0);
        due("not in it", rack.freeRoom(ROOT, MEMORY), 4096 - 80);
        rack.attach(0);
        due("after the window", rack.firstFit(ROOT, MEMORY, 16), 144);
        due("from its base", rack.firstFit(1, MEMORY, 64), 64);
        due("its last addresses are covered", rack.firstFit(1, MEMORY, 128), NONE);
        due("a window is no region", rack.find(MEMORY, 64), NONE);
        due("up to its end", rack.find(MEMORY, 143), 7);
        due("beyond its end", rack.find(MEMORY, 144), NONE);
    }

    private static void reserves() {
        told(0, "For each space a bridge has a reserve (0 at first).");
        BusRack rack = Checks.loaded("0b(),1b()");
        due("need", rack.need(0, MEMORY), 0);
        due("need", rack.need(0, PORTS), 0);
        due("MEMORY at first", rack.setReserve(0, MEMORY, 32), 0);
        due("PORTS at first", rack.setReserve(0, PORTS, 8), 0);
        due("MEMORY of the other", rack.setReserve(1, MEMORY, 0), 0);
        due("PORTS of the other", rack.setReserve(1, PORTS, 0), 0);
        due("MEMORY", rack.setReserve(0, MEMORY, 0), 32);
        due("PORTS", rack.setReserve(0, PORTS, 0), 8);
    }

    // ---- needs

    private static void items() {
        told(0, "The items of a bus in a space are the used regions in this space of the cards on this bus, "
                + "and those numbered bridges on this bus whose need in this space is greater than 0.");
        BusRack rack = Checks.loaded("0b(0cm1p1,1c,2b(0cm0))");
        due("one region in MEMORY", rack.need(0, MEMORY), 32);
        due("one region in PORTS", rack.need(0, PORTS), 8);
        rack.setRegion(1, 2, MEMORY, 16);
        due("two regions", rack.need(0, MEMORY), 48);
        rack.setRegion(1, 0, MEMORY, 0);
        due("no unused region", rack.need(0, MEMORY), 16);
        rack.enumerate();
        due("a numbered bridge", rack.need(0, MEMORY), 32);
        due("no need in PORTS", rack.need(0, PORTS), 8);
        window(rack, 3, PORTS, NONE, 0);
        rack.setRegion(4, 0, MEMORY, 0);
        due("no need left", rack.need(0, MEMORY), 16);
        rack.enumerate();
        window(rack, 3, MEMORY, NONE, 0);
        rack.setReserve(3, MEMORY, 16);
        due("a need of the grain", rack.need(0, MEMORY), 32);
        rack.setReserve(3, PORTS, 4);
        due("a need of the grain", rack.need(0, PORTS), 12);
        rack.enumerate();
        window(rack, 3, MEMORY, 16, 16);
        window(rack, 3, PORTS, 8, 4);
    }

    private static void sizeOfRegion() {
        told(0, "The size and the alignment of a region are its size.");
        int[] memory = {16, 32, 64, 128, 256, 512, 1024};
        for (int size : memory) {
            BusRack rack = Checks.loaded("0b(0c),1cm0");
            rack.setRegion(1, 0, MEMORY, size);
            due("need", rack.need(0, MEMORY), size);
            rack.attach(2);
            rack.attach(0);
            window(rack, 0, MEMORY, size, size);
        }
        int[] ports = {4, 8, 16, 32, 64};
        for (int size : ports) {
            BusRack rack = Checks.loaded("0b(0c),1cp0");
            rack.setRegion(1, 0, PORTS, size);
            due("need", rack.need(0, PORTS), size);
            rack.attach(2);
            rack.attach(0);
            window(rack, 0, PORTS, size, size);
        }
    }

    private static void sizeOfBridge() {
        told(0, "The size of a bridge is its need, and its alignment is described below.");
        BusRack rack = Checks.enumerated("0b(0cm1m0,1cp0p0),1cm0p0");
        window(rack, 0, MEMORY, 0, 48);
        base(rack, 3, 0, 48);
        window(rack, 0, PORTS, 0, 8);
        base(rack, 3, 1, 8);
        rack = Checks.loaded("0b(0cm1m0),1cm0");
        rack.setReserve(0, MEMORY, 16);
        rack.enumerate();
        window(rack, 0, MEMORY, 0, 64);
        base(rack, 2, 0, 64);
    }

    private static void order() {
        told(0, "The items are ordered by their alignments, the greatest first");
        BusRack rack = Checks.enumerated("0cm0,1cm1m2,2b(0cm3m0),3cm4");
        base(rack, 4, 0, 0);
        window(rack, 2, MEMORY, 256, 144);
        base(rack, 1, 1, 448);
        base(rack, 1, 0, 512);
        base(rack, 0, 0, 544);
        told(0, "items with the same alignment by their slots, the lowest first");
        rack = new BusRack();
        for (int slot = 3; slot >= 0; slot--) {
            rack.addCard(ROOT, slot);
            rack.setRegion(3 - slot, 2, MEMORY, 32);
            rack.setRegion(3 - slot, 0, PORTS, 4);
        }
        rack.enumerate();
        for (int card = 0; card < 4; card++) {
            base(rack, card, 2, 32 * (3 - card));
            base(rack, card, 0, 4 * (3 - card));
        }
        rack = Checks.enumerated("0cm2,1b(0cm2m1),2cm2");
        window(rack, 1, MEMORY, 64, 96);
        base(rack, 3, 0, 192);
        rack = Checks.enumerated("0b(0cm0m0m0),1cm0,2b(0cm0)");
        window(rack, 0, MEMORY, 0, 48);
        base(rack, 2, 0, 48);
        window(rack, 3, MEMORY, 64, 16);
        told(0, "regions of the same card with the same size by their numbers, the lowest first.");
        rack = Checks.enumerated("0cm1m1m1,1cp2p1p2");
        for (int region = 0; region < 3; region++) {
            base(rack, 0, region, 32 * region);
        }
        base(rack, 1, 0, 0);
        base(rack, 1, 2, 16);
        base(rack, 1, 1, 32);
    }

    private static void packing() {
        told(0, "To pack items from an address: the position is this address at first; for each item, in order, "
                + "its start is the least multiple of its alignment that is not below the position, "
                + "and the position becomes its start plus its size.");
        BusRack rack = Checks.enumerated("0b(0cm2m2),1cm2m0");
        window(rack, 0, MEMORY, 0, 128);
        base(rack, 2, 0, 128);
        base(rack, 2, 1, 192);
        rack = Checks.enumerated("0b(0cm2m0),1cm2m0");
        window(rack, 0, MEMORY, 0, 80);
        base(rack, 2, 0, 128);
        base(rack, 2, 1, 192);
        rack = Checks.enumerated("0b(0cm2m1m0),1b(0cm2)");
        window(rack, 0, MEMORY, 0, 112);
        window(rack, 2, MEMORY, 128, 64);
        rack = Checks.enumerated("0b(0b(0cp2p0),1cp2),1cp0");
        window(rack, 0, PORTS, 0, 48);
        window(rack, 1, PORTS, 0, 20);
        base(rack, 3, 0, 32);
        base(rack, 4, 0, 48);
    }

    private static void needs() {
        told(0, "The need of a bridge in a space is the position at the end of packing the items of its lower bus "
                + "in this space from the address 0, plus the reserve of the bridge in this space.");
        BusRack rack = Checks.enumerated("0b(0b(0cm2m0p2,1cp0),1cm2p2),1cm3");
        due("with a gap between the items", rack.need(0, MEMORY), 192);
        due("with a gap between the items", rack.need(0, PORTS), 48);
        rack.setReserve(0, MEMORY, 256);
        due("with the greatest reserve", rack.need(0, MEMORY), 192 + 256);
        due("the reserve is of one space", rack.need(0, PORTS), 48);
        rack.setReserve(0, MEMORY, 16);
        rack.setReserve(0, PORTS, 64);
        due("with the least reserve", rack.need(0, MEMORY), 208);
        due("with the greatest reserve", rack.need(0, PORTS), 112);
        rack.setReserve(1, MEMORY, 48);
        due("the reserve below fills the gap", rack.need(0, MEMORY), 208);
        rack.setReserve(1, MEMORY, 64);
        due("the reserve below goes beyond it", rack.need(0, MEMORY), 272);
        rack.setReserve(0, MEMORY, 0);
        due("without a reserve", rack.need(0, MEMORY), 256);
        due("nothing at all", Checks.enumerated("0b(0c)").need(0, MEMORY), 0);
        rack = Checks.enumerated("0b(0b(0b(0b(0b()))))");
        rack.setReserve(4, MEMORY, 16);
        due("over five levels", rack.need(0, MEMORY), 16);
        due("beyond the space", Checks.loaded("0b(0cm6m6m6,1cm6m6m6)").need(0, MEMORY), 6144);
    }

    private static void alignments() {
        told(0, "The alignment of a bridge in a space is the greatest alignment of the items of its lower bus "
                + "in this space; without items, it is the grain of the space.");
        BusRack rack = Checks.loaded("0cm0p0,1b(),2b(0c),3b(0cm0p0m1)");
        rack.setReserve(1, MEMORY, 128);
        rack.setReserve(1, PORTS, 32);
        rack.attach(0);
        rack.attach(1);
        window(rack, 1, MEMORY, 16, 128);
        window(rack, 1, PORTS, 4, 32);
        rack.attach(4);
        window(rack, 4, MEMORY, 160, 48);
        window(rack, 4, PORTS, 36, 4);
        rack.setRegion(3, 1, PORTS, 16);
        rack.setRegion(3, 0, MEMORY, 64);
        rack.setRegion(3, 2, MEMORY, 16);
        rack.attach(2);
        window(rack, 2, MEMORY, 256, 80);
        window(rack, 2, PORTS, 48, 16);
        rack = Checks.enumerated("0cm5,1b(0b(0b(0cm6)),1cm0)");
        window(rack, 1, MEMORY, 0, 1040);
        base(rack, 0, 0, 1536);
    }

    private static void notNumbered() {
        told(0, "(So a bridge that is not numbered has a need, too, but it is no item.)");
        BusRack rack = Checks.loaded("0b(0b(0cm0p0),1cm1)");
        due("need below", rack.need(1, MEMORY), 16);
        due("need below", rack.need(1, PORTS), 4);
        due("need above", rack.need(0, MEMORY), 32);
        due("need above", rack.need(0, PORTS), 0);
        rack.enumerate();
        due("need of the numbered", rack.need(0, MEMORY), 48);
        rack.detach(1);
        due("need below", rack.need(1, MEMORY), 16);
        due("need above", rack.need(0, MEMORY), 32);
    }

    // ---- placing

    private static void leftOut() {
        told(0, "The items of the root bus are packed from the address 0 in each space, but an item whose start "
                + "plus its size would be greater than the number of addresses of the space is left out: "
                + "it is not placed, and the position does not change.");
        BusRack rack = Checks.enumerated("0cm6m6m6,1cm5m4m4,2cp4p4p4,3cp3p3");
        base(rack, 1, 2, 3840);
        due("up to the end", rack.unplaced(), 0);
        base(rack, 3, 1, 224);
        rack.setRegion(1, 1, MEMORY, 512);
        rack.setRegion(3, 0, PORTS, 64);
        rack.setRegion(2, 0, PORTS, 32);
        due("up to the end", rack.enumerate(), 1);
        base(rack, 1, 1, 3584);
        base(rack, 1, 2, NONE);
        rack = Checks.loaded("0b(0cm6m0),1cm6m6m6,2cm0,3cm5");
        rack.setReserve(0, MEMORY, 256);
        due("the bridge takes too much", rack.enumerate(), 3);
        base(rack, 2, 0, 2048);
        base(rack, 2, 1, 3072);
        base(rack, 2, 2, NONE);
        base(rack, 4, 0, NONE);
        base(rack, 3, 0, NONE);
        positionStays();
    }

    private static void positionStays() {
        BusRack rack = Checks.loaded("0cm6m6m6,1b(0cm6m0),2cm5m1,3cm0");
        due("the bridge is left out", rack.enumerate(), 2);
        window(rack, 1, MEMORY, NONE, 0);
        base(rack, 3, 0, 3072);
        base(rack, 3, 1, 3584);
        base(rack, 4, 0, 3616);
        rack = Checks.enumerated("0cm6m6m6,1b(0cm6),2cm0");
        window(rack, 1, MEMORY, 3072, 1024);
        base(rack, 3, 0, NONE);
        rack = Checks.enumerated("0cp4p4p4,1cp3p2p2,2b(0cp0),3cp0");
        window(rack, 2, PORTS, NONE, 0);
        due("all ports are taken", rack.freeRoom(ROOT, PORTS), 0);
        rack.setRegion(1, 2, PORTS, 8);
        due("one more", rack.enumerate(), 0);
        window(rack, 2, PORTS, 248, 4);
        base(rack, 4, 0, 252);
    }

    private static void placedRegion() {
        told(0, "A region that is placed gets its start as its base.");
        BusRack rack = Checks.enumerated("0cm0m1p0,3cm0p1");
        base(rack, 0, 1, 0);
        base(rack, 0, 0, 32);
        base(rack, 1, 0, 48);
        base(rack, 1, 1, 0);
        base(rack, 0, 2, 8);
    }

    private static void placedBridge() {
        told(0, "A bridge that is placed gets a window with its start as the base and its need as the size, "
                + "and then the items of its lower bus are packed from the base of the window "
                + "and are placed at their starts, and so on downwards.");
        BusRack rack = Checks.loaded("0cm2,1b(0cm0,1b(0b(1cm1)),2cm1)");
        rack.setReserve(3, MEMORY, 16);
        rack.enumerate();
        window(rack, 1, MEMORY, 64, 112);
        window(rack, 3, MEMORY, 64, 48);
        window(rack, 4, MEMORY, 64, 32);
        base(rack, 5, 0, 64);
        base(rack, 6, 0, 128);
        base(rack, 2, 0, 160);
    }

    private static void alwaysFit() {
        told(0, "(They always fit.)");
        BusRack rack = Checks.enumerated("0cm6,1b(0b(0b(0cm6m0p4,1cp0m5),3cm4p3),2cm0p2)");
        due("all placed", rack.unplaced(), 0);
        window(rack, 1, MEMORY, 1024, 2064);
        due("to the end of the space", Checks.enumerated("0cm6m6,1b(0b(0cm6m5m4,1cm3m3))").unplaced(), 0);
    }

    private static void belowNotPlaced() {
        told(0, "An item of the lower bus of a bridge that was not placed in this space is not placed.");
        BusRack rack = Checks.loaded("0cm6m6m6,1b(0cm6,1b(0cm0p0),2cm0)");
        due("enumerate", rack.enumerate(), 3);
        window(rack, 1, MEMORY, NONE, 0);
        window(rack, 3, MEMORY, NONE, 0);
        base(rack, 2, 0, NONE);
        base(rack, 4, 0, NONE);
        base(rack, 5, 0, NONE);
        window(rack, 3, PORTS, 0, 4);
        base(rack, 4, 1, 0);
        due("3072 are taken", rack.freeRoom(ROOT, MEMORY), 1024);
    }

    // ---- free room

    private static void room() {
        told(0, "The room of a bus in a space consists of all addresses of the space for the root bus, and of the "
                + "addresses that the window of its bridge covers for a lower bus (none without a window).");
        BusRack rack = Checks.loaded("0cm2,1b()");
        rack.setReserve(1, MEMORY, 48);
        due("root", rack.freeRoom(ROOT, MEMORY), 4096);
        due("root", rack.freeRoom(ROOT, PORTS), 256);
        due("without a window", rack.freeRoom(1, MEMORY), 0);
        due("without a window", rack.firstFit(1, MEMORY, 16), NONE);
        rack.enumerate();
        due("with a window", rack.freeRoom(1, MEMORY), 48);
        due("first of the window", rack.firstFit(1, MEMORY, 16), 64);
        due("aligned in the window", rack.firstFit(1, MEMORY, 32), 64);
        due("more than the window", rack.firstFit(1, MEMORY, 64), NONE);
        due("without a window in PORTS", rack.freeRoom(1, PORTS), 0);
        due("without a window in PORTS", rack.firstFit(1, PORTS, 4), NONE);
        due("the last of the root bus", lastHole().firstFit(ROOT, MEMORY, 16), 4080);
    }

    /** All of MEMORY is taken but for its last 16 addresses. */
    private static BusRack lastHole() {
        return Checks.enumerated("0cm6m6m6,1cm5m4m3,2cm2m1m0");
    }

    private static void freeAddresses() {
        told(0, "An address of the room is free if no region of a card on this bus "
                + "and no window of a bridge on this bus covers it.");
        BusRack rack = Checks.loaded("0cm2p0,1b(0cm1,1b(0cm0))");
        rack.setReserve(1, MEMORY, 64);
        rack.enumerate();
        due("root", rack.freeRoom(ROOT, MEMORY), 4096 - 64 - 112);
        due("root", rack.freeRoom(ROOT, PORTS), 252);
        due("below", rack.freeRoom(1, MEMORY), 64);
        due("at the bottom", rack.freeRoom(3, MEMORY), 0);
        rack.detach(4);
        due("at the bottom", rack.freeRoom(3, MEMORY), 16);
        due("below", rack.freeRoom(1, MEMORY), 64);
        rack.detach(3);
        due("below", rack.freeRoom(1, MEMORY), 80);
        rack.detach(2);
        due("below", rack.freeRoom(1, MEMORY), 112);
        due("root", rack.freeRoom(ROOT, MEMORY), 4096 - 64 - 112);
        rack.setRegion(0, 0, MEMORY, 64);
        due("without its base", rack.freeRoom(ROOT, MEMORY), 4096 - 112);
        rack.detach(1);
        due("without the window", rack.freeRoom(ROOT, MEMORY), 4096);
    }

    private static void firstFits() {
        told(0, "The first fit for a size and an alignment is the least multiple of the alignment from which "
                + "as many addresses in succession as the size are free addresses of the room.");
        BusRack rack = Checks.enumerated("0cm3,1cm3,2cm2,3cm0");
        rack.detach(1);
        due("exactly the hole", rack.firstFit(ROOT, MEMORY, 128), 128);
        String twelve = "0cm0m0m0,1cm0m0m0,2cm0m0m0,3cm0m0m0";
        due("beyond twelve regions", Checks.enumerated(twelve).firstFit(ROOT, MEMORY, 16), 192);
        due("less than the hole", rack.firstFit(ROOT, MEMORY, 64), 128);
        due("more than the hole", rack.firstFit(ROOT, MEMORY, 256), 512);
        rack.setRegion(1, 0, MEMORY, 16);
        rack.attach(1);
        base(rack, 1, 0, 128);
        due("a hole of 112", rack.firstFit(ROOT, MEMORY, 128), 384);
        due("aligned in the hole", rack.firstFit(ROOT, MEMORY, 64), 192);
        due("aligned in the hole", rack.firstFit(ROOT, MEMORY, 32), 160);
        due("at the hole's first", rack.firstFit(ROOT, MEMORY, 16), 144);
        due("in the last hole", lastHole().firstFit(ROOT, MEMORY, 16), 4080);
        due("more than the last hole", lastHole().firstFit(ROOT, MEMORY, 32), NONE);
        due("the last addresses", Checks.enumerated("0cm6m6m6").firstFit(ROOT, MEMORY, 1024), 3072);
        due("16 less", Checks.enumerated("0cm6m6m6,1cm0").firstFit(ROOT, MEMORY, 1024), NONE);
        due("the last ports", Checks.enumerated("0cp4p4p4").firstFit(ROOT, PORTS, 64), 192);
        due("4 less", Checks.enumerated("0cp4p4p4,1cp0").firstFit(ROOT, PORTS, 64), NONE);
    }

    // ---- promises 23 and 26 to 29

    private static void base() {
        told(23, "Returns the base of a region.");
        due("base(0, 0)", rich().base(0, 0), 256);
        changesNothing("base", RICH, rack -> rack.base(0, 0));
        told(23, "`card`: number of a card");
        due("card 0", rich().base(0, 1), 0);
        due("card 11", full().base(11, 0), 0);
        told(23, "`region`: 0 to 2");
        BusRack rack = Checks.enumerated("0cm0m1m2");
        base(rack, 0, 0, 96);
        base(rack, 0, 2, 0);
        told(23, "Returns the base");
        base(rack, 0, 1, 64);
        base(Checks.enumerated("0cm6m6m6,1cm5m4m3,2cm2m1m0,3cm0"), 3, 0, 4080);
        told(23, "NO_SUCH if there is no such card or region");
        refused("card", RICH, NO_DEVICES, (of, card) -> of.base(card, 0), NO_SUCH);
        refused("a bridge", RICH, BRIDGES_OF_RICH, (of, card) -> of.base(card, 0), NO_SUCH);
        refused("region", RICH, NO_REGIONS, (of, region) -> of.base(0, region), NO_SUCH);
        told(23, "NONE if the region has no base");
        base(rich(), 0, 2, NONE);
        base(rich(), 5, 2, NONE);
        base(Checks.loaded("0cm0"), 0, 0, NONE);
    }

    private static void windowBase() {
        told(26, "Returns the base of the window of a bridge.");
        due("bridge 1", rich().windowBase(1, MEMORY), 320);
        changesNothing("windowBase", RICH, rack -> rack.windowBase(1, MEMORY));
        told(26, "`bridge`: number of a bridge");
        due("bridge 0", full().windowBase(0, MEMORY), 0);
        due("bridge 10", full().windowBase(10, PORTS), 0);
        told(26, "`space`: MEMORY or PORTS");
        due("MEMORY", rich().windowBase(3, MEMORY), 352);
        due("PORTS", rich().windowBase(3, PORTS), 8);
        told(26, "Returns the base");
        due("the last", Checks.enumerated("0cm6m6m6,1cm5m4m3,2cm2m1m0,3b(0cm0)").windowBase(3, MEMORY), 4080);
        told(26, "NO_SUCH if there is no such bridge");
        refusedBridges((rack, bridge) -> rack.windowBase(bridge, MEMORY));
        refusedBridges((rack, bridge) -> rack.windowBase(bridge, 2));
        told(26, "BAD_VALUE if space is out of range");
        refused("space", RICH, NO_SPACES, (rack, space) -> rack.windowBase(1, space), BAD_VALUE);
        Maker loaded = () -> Checks.loaded("0b()");
        refused("space before no window", loaded, NO_SPACES, (rack, space) -> rack.windowBase(0, space), BAD_VALUE);
        told(26, "NONE if there is no window");
        due("loaded", Checks.loaded("0b(0cm0)").windowBase(0, MEMORY), NONE);
        due("the other space", Checks.enumerated("0b(0cm0)").windowBase(0, PORTS), NONE);
    }

    /** No bridge of rich(), whatever the call is. */
    private static void refusedBridges(CallWith made) {
        refused("bridge", RICH, NO_DEVICES, made, NO_SUCH);
        refused("a card", RICH, CARDS_OF_RICH, made, NO_SUCH);
    }

    private static void windowSize() {
        told(27, "Returns the size of the window of a bridge.");
        due("bridge 1", rich().windowSize(1, MEMORY), 112);
        changesNothing("windowSize", RICH, rack -> rack.windowSize(1, MEMORY));
        told(27, "`bridge`: number of a bridge");
        due("bridge 0", full().windowSize(0, MEMORY), 16);
        due("bridge 10", full().windowSize(10, PORTS), 4);
        told(27, "`space`: MEMORY or PORTS");
        due("MEMORY", rich().windowSize(3, MEMORY), 16);
        due("PORTS", rich().windowSize(3, PORTS), 12);
        told(27, "Returns the size, 0 if there is no window");
        due("none", Checks.loaded("0b(0cm0)").windowSize(0, MEMORY), 0);
        due("none in the other space", Checks.enumerated("0b(0cm0)").windowSize(0, PORTS), 0);
        due("all of the space", Checks.enumerated("0b(0cm6m6m6,1cm6)").windowSize(0, MEMORY), 4096);
        told(27, "NO_SUCH if there is no such bridge");
        refusedBridges((rack, bridge) -> rack.windowSize(bridge, MEMORY));
        refusedBridges((rack, bridge) -> rack.windowSize(bridge, 2));
        told(27, "BAD_VALUE if space is out of range");
        refused("space", RICH, NO_SPACES, (rack, space) -> rack.windowSize(1, space), BAD_VALUE);
    }

    private static void need() {
        told(28, "Returns the need of a bridge.");
        due("bridge 1", rich().need(1, MEMORY), 112);
        changesNothing("need", RICH, rack -> rack.need(1, MEMORY));
        told(28, "`bridge`: number of a bridge");
        due("bridge 0", full().need(0, MEMORY), 16);
        due("bridge 10", full().need(10, PORTS), 4);
        told(28, "`space`: MEMORY or PORTS");
        due("MEMORY", rich().need(3, MEMORY), 16);
        due("PORTS", rich().need(3, PORTS), 12);
        told(28, "Returns the need");
        due("none", full().need(5, MEMORY), 0);
        due("more than the window", more().need(1, MEMORY), 176);
        due("the window stays", more().windowSize(1, MEMORY), 112);
        told(28, "NO_SUCH if there is no such bridge");
        refusedBridges((rack, bridge) -> rack.need(bridge, MEMORY));
        refusedBridges((rack, bridge) -> rack.need(bridge, 2));
        told(28, "BAD_VALUE if space is out of range");
        refused("space", RICH, NO_SPACES, (rack, space) -> rack.need(1, space), BAD_VALUE);
    }

    private static BusRack more() {
        BusRack rack = rich();
        rack.setRegion(2, 1, MEMORY, 64);
        return rack;
    }

    private static void unplaced() {
        told(29, "Counts the used regions that have no base.");
        due("one", rich().unplaced(), 1);
        changesNothing("unplaced", RICH, BusRack::unplaced);
        due("unused", Checks.loaded("0c,1b(0c)").unplaced(), 0);
        told(29, "Returns the number of these regions.");
        due("none", Checks.enumerated("0cm0p0").unplaced(), 0);
        String most = "0b(0cm0m0m0,1cm0m0m0,2cm0m0m0,3cm0m0m0),1b(0cp0p0p0,1cp0p0p0,2cp0p0p0)";
        BusRack rack = Checks.loaded(most);
        due("21", rack.unplaced(), 21);
        rack.addCard(5, 3);
        rack.addCard(ROOT, 2);
        rack.addCard(ROOT, 3);
        for (int i = 0; i < 9; i++) {
            rack.setRegion(9 + i / 3, i % 3, PORTS, 4);
        }
        due("30", rack.unplaced(), 30);
        rack.attach(11);
        due("27", rack.unplaced(), 27);
        rack.enumerate();
        due("none", rack.unplaced(), 0);
        rack.detach(5);
        due("12", rack.unplaced(), 12);
    }

    // ---- promises 31 to 33

    private static void find() {
        told(31, "Finds the region that covers an address.");
        due("card 5", rich().find(MEMORY, 255), 15);
        changesNothing("find", RICH, rack -> rack.find(MEMORY, 255));
        told(31, "`space`: MEMORY or PORTS");
        due("MEMORY", rich().find(MEMORY, 0), 15);
        due("PORTS", rich().find(PORTS, 0), 1);
        told(31, "`address`: an address of the space");
        due("0", rich().find(MEMORY, 0), 15);
        due("4095", rich().find(MEMORY, 4095), NONE);
        due("255", rich().find(PORTS, 255), NONE);
        told(31, "Returns 3 times the number of the card plus the number of the region");
        due("card 4, region 1", rich().find(MEMORY, 352), 13);
        due("card 4, region 0", rich().find(PORTS, 11), 12);
        BusRack rack = full();
        rack.setRegion(11, 2, MEMORY, 64);
        rack.enumerate();
        due("card 11, region 2", rack.find(MEMORY, 0), 35);
        told(31, "BAD_VALUE if an argument is out of range");
        refused("space", RICH, NO_SPACES, (of, space) -> of.find(space, 0), BAD_VALUE);
        int[] noMemory = {-1, NONE, 4096, 4097, LOWEST, HIGHEST};
        refused("address", RICH, noMemory, (of, address) -> of.find(MEMORY, address), BAD_VALUE);
        int[] noPorts = {-1, NONE, 256, 257, 4095, LOWEST, HIGHEST};
        refused("address", RICH, noPorts, (of, address) -> of.find(PORTS, address), BAD_VALUE);
        told(31, "NONE if no region covers the address");
        due("after the last region", rich().find(MEMORY, 368), NONE);
        due("in the reserve", rich().find(MEMORY, 431), NONE);
        due("in a window", rich().find(PORTS, 12), NONE);
        due("nowhere", new BusRack().find(PORTS, 0), NONE);
    }

    private static void freeRoom() {
        told(32, "Counts the free addresses of the room of a bus.");
        due("bridge 1", rich().freeRoom(1, MEMORY), 64);
        changesNothing("freeRoom", RICH, rack -> rack.freeRoom(1, MEMORY));
        told(32, "`bus`: number of a bridge, or ROOT");
        due("bridge 3", rich().freeRoom(3, PORTS), 8);
        due("ROOT", rich().freeRoom(ROOT, PORTS), 256 - 8 - 12);
        told(32, "`space`: MEMORY or PORTS");
        due("MEMORY", rich().freeRoom(3, MEMORY), 0);
        due("PORTS", rich().freeRoom(1, PORTS), 0);
        told(32, "Returns the number of free addresses");
        due("all", new BusRack().freeRoom(ROOT, MEMORY), 4096);
        due("all", new BusRack().freeRoom(ROOT, PORTS), 256);
        due("16", lastHole().freeRoom(ROOT, MEMORY), 16);
        due("none", Checks.enumerated("0cm6m6m6,1cm6").freeRoom(ROOT, MEMORY), 0);
        told(32, "NO_SUCH if there is no such bus");
        refused("bus", RICH, NO_BUSES, (rack, bus) -> rack.freeRoom(bus, MEMORY), NO_SUCH);
        refused("before space", RICH, NO_BUSES, (rack, bus) -> rack.freeRoom(bus, 2), NO_SUCH);
        told(32, "BAD_VALUE if space is out of range");
        refused("space", RICH, NO_SPACES, (rack, space) -> rack.freeRoom(ROOT, space), BAD_VALUE);
        refused("space below", RICH, NO_SPACES, (rack, space) -> rack.freeRoom(3, space), BAD_VALUE);
    }

    private static void firstFit() {
        told(33, "Returns the first fit for a size, with the size as the alignment.");
        due("aligned", rich().firstFit(ROOT, MEMORY, 512), 512);
        due("at the first", rich().firstFit(ROOT, MEMORY, 16), 432);
        changesNothing("firstFit", RICH, rack -> rack.firstFit(ROOT, MEMORY, 16));
        told(33, "`bus`: number of a bridge, or ROOT");
        due("bridge 1", rich().firstFit(1, MEMORY, 64), NONE);
        due("bridge 1", rich().firstFit(1, MEMORY, 32), 384);
        due("bridge 3", rich().firstFit(3, PORTS, 4), 12);
        due("ROOT", rich().firstFit(ROOT, PORTS, 4), 20);
        told(33, "`space`: MEMORY or PORTS");
        due("MEMORY", rich().firstFit(ROOT, MEMORY, 64), 448);
        due("PORTS", rich().firstFit(ROOT, PORTS, 64), 64);
        told(33, "`size`: a size of the space");
        for (int size = 16; size <= 1024; size *= 2) {
            due("MEMORY " + size, new BusRack().firstFit(ROOT, MEMORY, size), 0);
        }
        for (int size = 4; size <= 64; size *= 2) {
            due("PORTS " + size, new BusRack().firstFit(ROOT, PORTS, size), 0);
        }
        told(33, "Returns the first fit");
        due("0", new BusRack().firstFit(ROOT, MEMORY, 1024), 0);
        due("the last", lastHole().firstFit(ROOT, MEMORY, 16), 4080);
        refusedFirstFit();
        told(33, "NONE if there is no first fit");
        due("full", Checks.enumerated("0cm6m6m6,1cm6").firstFit(ROOT, MEMORY, 16), NONE);
        due("without a window", Checks.loaded("0b()").firstFit(0, MEMORY, 16), NONE);
        due("too small", lastHole().firstFit(ROOT, MEMORY, 32), NONE);
    }

    private static void refusedFirstFit() {
        told(33, "NO_SUCH if there is no such bus");
        refused("bus", RICH, NO_BUSES, (rack, bus) -> rack.firstFit(bus, MEMORY, 16), NO_SUCH);
        refused("before space", RICH, NO_BUSES, (rack, bus) -> rack.firstFit(bus, 2, 16), NO_SUCH);
        refused("before size", RICH, NO_BUSES, (rack, bus) -> rack.firstFit(bus, MEMORY, 0), NO_SUCH);
        told(33, "BAD_VALUE if space or size is out of range");
        refused("space", RICH, NO_SPACES, (rack, space) -> rack.firstFit(ROOT, space, 16), BAD_VALUE);
        int[] noMemory = {-16, -1, 0, 1, 4, 8, 15, 17, 48, 1023, 1025, 2048, LOWEST, HIGHEST};
        refused("size", RICH, noMemory, (rack, size) -> rack.firstFit(ROOT, MEMORY, size), BAD_VALUE);
        int[] noPorts = {-4, -1, 0, 1, 2, 3, 5, 12, 63, 65, 128, 1024, LOWEST, HIGHEST};
        refused("size", RICH, noPorts, (rack, size) -> rack.firstFit(ROOT, PORTS, size), BAD_VALUE);
        Maker loaded = () -> Checks.loaded("0b()");
        refused("size before no fit", loaded, rack -> rack.firstFit(0, MEMORY, 0), BAD_VALUE);
    }
}
