/** Promises 8 to 10: enumerate, attach and detach. */
final class AttachSentences extends Sentences {
    static void all() {
        enumerateTakesAway();
        enumerateAnew();
        enumerateAnswers();
        attachChangesNoOther();
        busHasNumber();
        cardFits();
        cardOrder();
        bridgeStaysNumbered();
        numberAboveItsBus();
        numberUpToTheLast();
        numberUpToFifteen();
        numberBesideOthers();
        windowOnlyIfNone();
        windowOnlyForANeed();
        windowFits();
        windowInBothSpaces();
        windowDownwards();
        attachAnswers();
        attachRefused();
        detachCard();
        detachBridge();
        detachAnswers();
    }

    // ---- promise 8

    private static void enumerateTakesAway() {
        told(8, "Takes the numbers and windows of all bridges and the bases of all regions away");
        BusRack rack = Checks.enumerated("0b(0b(),1b(),2b(),3b(0b())),1b()");
        range(rack, 6, 7, 7);
        rack.setGap(2);
        rack.enumerate();
        range(rack, 6, NONE, NONE);
        rack = Checks.enumerated("0cm5,1b(0cm0),2cp4");
        rack.addCard(ROOT, 3);
        for (int region = 0; region < 3; region++) {
            rack.setRegion(4, region, MEMORY, 1024);
        }
        rack.setRegion(3, 1, MEMORY, 1024);
        due("enumerate", rack.enumerate(), 2);
        base(rack, 0, 0, NONE);
        base(rack, 2, 0, NONE);
        window(rack, 1, MEMORY, NONE, 0);
        rack.setRegion(2, 0, PORTS, 4);
        rack.setRegion(4, 0, MEMORY, 0);
        due("enumerate", rack.enumerate(), 0);
        window(rack, 1, MEMORY, NONE, 0);
        window(rack, 1, PORTS, 64, 4);
    }

    private static void enumerateAnew() {
        told(8, "then numbers the bridges and places all items anew");
        BusRack rack = Checks.enumerated("0b(0cm2p1),1b(3cm1p0)");
        range(rack, 2, 2, 2);
        base(rack, 3, 0, 64);
        rack.pull(0);
        range(rack, 2, 2, 2);
        base(rack, 3, 0, 64);
        due("enumerate", rack.enumerate(), 0);
        range(rack, 2, 1, 1);
        window(rack, 2, MEMORY, 0, 32);
        window(rack, 2, PORTS, 0, 4);
        base(rack, 3, 0, 0);
        base(rack, 3, 1, 0);
    }

    private static void enumerateAnswers() {
        told(8, "Returns the number of used regions that have no base.");
        due("none", new BusRack().enumerate(), 0);
        due("unused", Checks.loaded("0c,1b(0c)").enumerate(), 0);
        due("all placed", Checks.loaded("0cm6m6m6,1cm6,2cp4p4p4,3cp4").enumerate(), 0);
        due("one left out", Checks.loaded("0cm6m6m6,1cm6m0,2cp4p4p4,3cp4").enumerate(), 1);
        due("two left out", Checks.loaded("0cm6m6m6,1cm6m0,2cp4p4p4,3cp4p0").enumerate(), 2);
        due("below one left out", Checks.loaded("0cm6m6m6,1b(0cm6m0,1b(0cm0p0))").enumerate(), 3);
        String most = "0b(0cm6m6m6,1cm6m6m6,2cm6m6m6,3cm6m6m6),1b(0cm6m6m6,1cm6m6m6,2cm6m6m6)";
        due("all left out", Checks.loaded(most).enumerate(), 21);
    }

    // ---- promise 9

    private static void attachChangesNoOther() {
        told(9, "Gives a device what it lacks, without a change of other devices that are not below it.");
        BusRack rack = Checks.enumerated("0cm4,1b(0cm0),2cm1m0");
        rack.pull(0);
        rack.setRegion(3, 1, MEMORY, 32);
        rack.setRegion(2, 0, MEMORY, 64);
        rack.addBridge(ROOT, 0);
        due("attach the card", rack.attach(3), 1);
        base(rack, 3, 1, 0);
        base(rack, 3, 0, 256);
        base(rack, 2, 0, NONE);
        window(rack, 1, MEMORY, 288, 16);
        range(rack, 1, 1, 1);
        range(rack, 0, NONE, NONE);
        due("attach the new bridge", rack.attach(0), 0);
        range(rack, 0, 2, 2);
        range(rack, 1, 1, 1);
        base(rack, 2, 0, NONE);
        due("attach the bridge above", rack.attach(1), 0);
        base(rack, 2, 0, NONE);
    }

    private static void busHasNumber() {
        told(9, "Its bus has to have a bus number.");
        BusRack rack = Checks.loaded("0cm0,1b(0cm0,1b())");
        due("the root bus has one", rack.attach(0), 1);
        due("the lower bus has none", rack.attach(2), NOT_POSSIBLE);
        due("the lower bus has none", rack.attach(3), NOT_POSSIBLE);
        due("attach the bridge", rack.attach(1), 1);
        rack.detach(2);
        due("the lower bus has one", rack.attach(2), 1);
        rack.detach(1);
        due("it has none again", rack.attach(2), NOT_POSSIBLE);
    }

    private static BusRack withHole() {
        BusRack rack = Checks.enumerated("0cm2,1cm2,2cm2");
        rack.pull(1);
        rack.addCard(ROOT, 1);
        return rack;
    }

    private static void cardFits() {
        told(9, "the first fit for the size of the region on the bus of the card, with its size as the alignment, "
                + "becomes its base, if there is one.");
        int[] sizes = {16, 32, 64, 128, 1024};
        int[] starts = {64, 64, 64, 256, 1024};
        for (int i = 0; i < sizes.length; i++) {
            BusRack rack = withHole();
            rack.setRegion(1, 0, MEMORY, sizes[i]);
            due("attach " + sizes[i], rack.attach(1), 1);
            base(rack, 1, 0, starts[i]);
        }
        BusRack rack = Checks.enumerated("0cm6m6m6,1cm5m4m3,2cm2m1,3cm0");
        rack.setRegion(3, 0, PORTS, 4);
        rack.setRegion(3, 1, MEMORY, 16);
        due("the last addresses", rack.attach(3), 2);
        base(rack, 3, 1, 4064);
        rack.setRegion(3, 2, MEMORY, 32);
        due("16 are left for 32", rack.attach(3), 0);
        base(rack, 3, 2, NONE);
        rack.setRegion(3, 2, MEMORY, 16);
        due("16 are left for 16", rack.attach(3), 1);
        base(rack, 3, 2, 4080);
        due("full", rack.freeRoom(ROOT, MEMORY), 0);
        rack = Checks.enumerated("0b(0cm2m1,1cm0)");
        rack.setRegion(2, 0, PORTS, 4);
        due("no window in ports", rack.attach(2), 0);
        base(rack, 2, 0, NONE);
    }

    private static void cardOrder() {
        told(9, "A card: for each of its used regions without a base, by ascending numbers");
        BusRack rack = withHole();
        rack.setRegion(1, 0, MEMORY, 32);
        rack.setRegion(1, 1, MEMORY, 64);
        rack.setRegion(1, 2, MEMORY, 16);
        due("attach", rack.attach(1), 3);
        base(rack, 1, 0, 64);
        base(rack, 1, 1, 192);
        base(rack, 1, 2, 96);
        rack.setRegion(1, 0, MEMORY, 0);
        due("one is unused, two have a base", rack.attach(1), 0);
        base(rack, 1, 0, NONE);
        base(rack, 1, 1, 192);
        rack.setRegion(1, 2, MEMORY, 16);
        due("one without a base", rack.attach(1), 1);
        base(rack, 1, 2, 64);
        base(rack, 1, 1, 192);
    }

    private static void bridgeStaysNumbered() {
        told(9, "A bridge: if it is not numbered, its first and its last bus number become the least number n");
        BusRack rack = withGap("0b(),1b()", 2);
        rack.pull(0);
        due("attach a numbered one", rack.attach(1), 0);
        range(rack, 1, 4, 6);
        rack.detach(1);
        due("attach it without a number", rack.attach(1), 0);
        range(rack, 1, 1, 1);
        rack = withGap("0b(0b(),1b(),2b(),3b(0b()))", 2);
        due("attach where all are taken", rack.attach(0), 0);
        range(rack, 0, 1, 15);
    }

    private static void numberAboveItsBus() {
        told(9, "for which n is greater than the bus number of its bus");
        BusRack rack = Checks.loaded("0b(0b())");
        rack.attach(0);
        range(rack, 0, 1, 1);
        rack = withGap("0b(),1b(0b())", 1);
        range(rack, 1, 3, 6);
        rack.detach(2);
        due("attach below", rack.attach(2), 0);
        range(rack, 2, 4, 4);
    }

    private static void numberUpToTheLast() {
        told(9, "n is at most the last bus number of the bridge of its bus");
        BusRack rack = withGap("0b(),1b()", 1);
        rack.addBridge(0, 0);
        rack.addBridge(0, 1);
        due("exactly the last", rack.attach(2), 0);
        range(rack, 2, 2, 2);
        due("beyond the last", rack.attach(3), NOT_POSSIBLE);
        rack.addBridge(2, 0);
        due("no number below a single one", rack.attach(4), NOT_POSSIBLE);
        rack.detach(2);
        due("the last is free again", rack.attach(3), 0);
        range(rack, 3, 2, 2);
    }

    private static void numberUpToFifteen() {
        told(9, "(15 if it is on the root bus)");
        BusRack rack = withGap("0b(0b(0b(0b(0b())))),1b(0b()),2c", 1);
        rack.pull(7);
        rack.addBridge(ROOT, 2);
        rack.addBridge(ROOT, 3);
        due("15", rack.attach(7), 0);
        range(rack, 7, 15, 15);
        due("16", rack.attach(8), NOT_POSSIBLE);
        range(rack, 8, NONE, NONE);
    }

    private static void numberBesideOthers() {
        told(9, "and n is not from the first to the last bus number of another numbered bridge on the same bus.");
        BusRack rack = withGap("0b(),1b(),2b(),3b()", 1);
        rack.detach(0);
        rack.attach(0);
        range(rack, 0, 1, 1);
        rack.detach(2);
        rack.attach(2);
        range(rack, 2, 2, 2);
        rack.detach(3);
        rack.attach(3);
        range(rack, 3, 5, 5);
        rack.detach(1);
        rack.attach(1);
        range(rack, 1, 3, 3);
        rack = withGap("0b(0b(),1b(),2b())", 2);
        range(rack, 0, 1, 12);
        rack.detach(2);
        rack.addBridge(0, 3);
        rack.attach(4);
        range(rack, 4, 5, 5);
        rack.attach(2);
        range(rack, 2, 6, 6);
        rack.detach(4);
        rack.detach(3);
        rack.attach(3);
        range(rack, 3, 5, 5);
        rack.attach(4);
        range(rack, 4, 7, 7);
    }

    private static void windowOnlyIfNone() {
        told(9, "Then, in MEMORY and after that in PORTS: if it has no window");
        BusRack rack = Checks.enumerated("0b(0cm0)");
        rack.setRegion(1, 1, MEMORY, 64);
        rack.setRegion(1, 2, PORTS, 8);
        due("need", rack.need(0, MEMORY), 80);
        due("attach", rack.attach(0), 1);
        window(rack, 0, MEMORY, 0, 16);
        window(rack, 0, PORTS, 0, 8);
        base(rack, 1, 0, 0);
        base(rack, 1, 1, NONE);
        base(rack, 1, 2, 0);
        rack.setRegion(1, 0, MEMORY, 16);
        due("attach again", rack.attach(0), 0);
        base(rack, 1, 0, NONE);
    }

    private static void windowOnlyForANeed() {
        told(9, "and its need is greater than 0");
        BusRack rack = Checks.loaded("0b(),1b()");
        due("attach without a need", rack.attach(0), 0);
        window(rack, 0, MEMORY, NONE, 0);
        window(rack, 0, PORTS, NONE, 0);
        rack.setReserve(1, MEMORY, 16);
        rack.setReserve(1, PORTS, 4);
        due("attach with the least need", rack.attach(1), 0);
        window(rack, 1, MEMORY, 0, 16);
        window(rack, 1, PORTS, 0, 4);
    }

    /** A bridge 2, not numbered yet; free are 128 addresses from 128 on, and all from 320 on. */
    private static BusRack bridgeAtHole(int... sizes) {
        BusRack rack = Checks.enumerated("0cm3m3,1cm2");
        rack.setRegion(0, 1, MEMORY, 0);
        rack.addBridge(ROOT, 3);
        rack.addCard(2, 0);
        rack.addCard(2, 1);
        for (int i = 0; i < sizes.length; i++) {
            rack.setRegion(3 + i / 3, i % 3, MEMORY, sizes[i]);
        }
        return rack;
    }

    private static void windowFits() {
        told(9, "the first fit for its need on its bus, with its alignment, "
                + "becomes the base of a window with its need as the size, if there is one");
        BusRack rack = bridgeAtHole(64, 32, 16, 16);
        due("need", rack.need(2, MEMORY), 128);
        due("exactly the hole", rack.attach(2), 4);
        window(rack, 2, MEMORY, 128, 128);
        rack = bridgeAtHole(64, 32, 16, 16, 16);
        due("16 too many for the hole", rack.attach(2), 5);
        window(rack, 2, MEMORY, 320, 144);
        rack = bridgeAtHole(16, 128);
        due("aligned", rack.attach(2), 2);
        window(rack, 2, MEMORY, 384, 144);
        base(rack, 3, 1, 384);
        base(rack, 3, 0, 512);
        rack = Checks.enumerated("0cm6m6m6,1cm5m4m3,2b()");
        rack.addCard(2, 0);
        rack.setRegion(3, 0, MEMORY, 128);
        due("exactly to the end", rack.attach(2), 1);
        window(rack, 2, MEMORY, 3968, 128);
        rack.detach(2);
        rack.setReserve(2, MEMORY, 16);
        due("16 beyond the end", rack.attach(2), 0);
        window(rack, 2, MEMORY, NONE, 0);
        base(rack, 3, 0, NONE);
        range(rack, 2, 1, 1);
    }

    private static void windowInBothSpaces() {
        told(9, "then the items of its lower bus are packed from the base of the window and are placed");
        BusRack rack = Checks.loaded("0cm2p0,1b(0cm0p2m1,2cm2p0)");
        rack.attach(0);
        due("attach", rack.attach(1), 5);
        window(rack, 1, MEMORY, 64, 112);
        base(rack, 3, 0, 64);
        base(rack, 2, 2, 128);
        base(rack, 2, 0, 160);
        window(rack, 1, PORTS, 16, 20);
        base(rack, 2, 1, 16);
        base(rack, 3, 1, 32);
        rack = Checks.loaded("0cm6m6m6,1cm6,2b(0cm0p0)");
        rack.enumerate();
        due("no room in MEMORY", rack.attach(2), 0);
        window(rack, 2, MEMORY, NONE, 0);
        rack.detach(2);
        due("room in PORTS", rack.attach(2), 1);
        window(rack, 2, MEMORY, NONE, 0);
        window(rack, 2, PORTS, 0, 4);
    }

    private static void windowDownwards() {
        told(9, "and so on downwards, as by enumerate.");
        BusRack rack = Checks.enumerated("0cm6m6m6,1cm6,2b(0b(0b(2cm0p0)),1cm1)");
        window(rack, 2, MEMORY, NONE, 0);
        window(rack, 4, PORTS, 0, 4);
        rack.pull(1);
        due("attach", rack.attach(2), 2);
        window(rack, 2, MEMORY, 3072, 48);
        window(rack, 3, MEMORY, 3104, 16);
        window(rack, 4, MEMORY, 3104, 16);
        base(rack, 6, 0, 3072);
        base(rack, 5, 0, 3104);
        rack.detach(2);
        due("attach without numbers below", rack.attach(2), 1);
        window(rack, 2, MEMORY, 3072, 32);
        window(rack, 3, MEMORY, NONE, 0);
        base(rack, 5, 0, NONE);
    }

    private static void attachAnswers() {
        told(9, "`device`: number of a device");
        due("a card", withHole().attach(1), 0);
        due("a bridge", Checks.loaded("0c,1b()").attach(1), 0);
        told(9, "Returns the number of regions that get a base");
        due("three of a card", Checks.loaded("0cm0p0m6").attach(0), 3);
        due("one of a card", Checks.loaded("0cp0").attach(0), 1);
        due("none of an unused card", Checks.loaded("0c").attach(0), 0);
        due("those below a bridge", Checks.loaded("0b(0cm0p0m6,1cp1,3c)").attach(0), 4);
        due("a bridge and cards below no number", Checks.loaded("0b(0b(0cm0))").attach(0), 0);
        BusRack rack = Checks.enumerated("0cm0p0,1b(0cm0)");
        due("none that has one", rack.attach(0), 0);
        due("none that has one", rack.attach(1), 0);
    }

    private static void attachRefused() {
        told(9, "NO_SUCH if there is no such device");
        refused("device", RICH, NO_DEVICES, BusRack::attach, NO_SUCH);
        refused("device", NEW, rack -> rack.attach(0), NO_SUCH);
        told(9, "NOT_POSSIBLE if its bus has no bus number");
        Maker loaded = () -> Checks.loaded("0b(0b(0cm0),1cm0)");
        refused("a bridge", loaded, rack -> rack.attach(1), NOT_POSSIBLE);
        refused("a card", loaded, rack -> rack.attach(3), NOT_POSSIBLE);
        refused("a card", loaded, rack -> rack.attach(2), NOT_POSSIBLE);
        told(9, "or if it is a bridge for which there is no number n");
        Maker below = () -> {
            BusRack rack = Checks.enumerated("0b(0cm0),1b()");
            rack.addBridge(0, 1);
            rack.addCard(3, 0);
            rack.setRegion(4, 0, MEMORY, 16);
            return rack;
        };
        refused("below", below, rack -> rack.attach(3), NOT_POSSIBLE);
        Maker root = () -> withGap("0b(0b(),1b(),2b(),3b(0b())),1b(0cm0p0)", 2);
        refused("on the root bus", root, rack -> rack.attach(6), NOT_POSSIBLE);
    }

    // ---- promise 10

    private static void detachCard() {
        told(10, "Takes the bases of all regions of a card away");
        BusRack rack = Checks.enumerated("0cm2p1m0,1cm2");
        due("detach", rack.detach(0), 3);
        for (int region = 0; region < 3; region++) {
            base(rack, 0, region, NONE);
        }
        due("its size stays", rack.size(0, 1), 8);
        base(rack, 1, 0, 64);
        due("freeRoom", rack.freeRoom(ROOT, MEMORY), 4096 - 64);
        due("attach", rack.attach(0), 3);
        base(rack, 0, 1, 0);
    }

    private static void detachBridge() {
        told(10, "or the number and the windows of a bridge");
        BusRack rack = rich();
        rack.detach(3);
        range(rack, 3, NONE, NONE);
        window(rack, 3, MEMORY, NONE, 0);
        window(rack, 3, PORTS, NONE, 0);
        range(rack, 1, 1, 4);
        due("the window above stays", rack.windowSize(1, MEMORY), 112);
        due("its reserve stays", rack.setReserve(3, PORTS, 0), 8);
        told(10, "in case of a bridge, also the numbers, windows and bases of all devices below it");
        rack = rich();
        rack.detach(1);
        for (int bridge : BRIDGES_OF_RICH) {
            range(rack, bridge, NONE, NONE);
            window(rack, bridge, MEMORY, NONE, 0);
            window(rack, bridge, PORTS, NONE, 0);
        }
        base(rack, 2, 0, NONE);
        base(rack, 4, 0, NONE);
        base(rack, 4, 1, NONE);
        base(rack, 5, 0, 0);
        due("they stay devices", rack.devices(), 63);
        due("a depth of 5", deep().detach(0), 1);
    }

    private static void detachAnswers() {
        told(10, "`device`: number of a device");
        due("card 0", rich().detach(0), 2);
        due("bridge 1", rich().detach(1), 3);
        told(10, "Returns the number of regions that lose a base");
        due("none of an unused card", Checks.enumerated("0c").detach(0), 0);
        due("none without a base", Checks.loaded("0cm0").detach(0), 0);
        due("none of an empty bridge", Checks.enumerated("0b()").detach(0), 0);
        due("one", Checks.enumerated("0cm0").detach(0), 1);
        String most = "0b(0cm0m0m0,1cm0m0m0,2cm0m0m0,3cm0m0m0),1b(0cp0p0p0,1cp0p0p0,2cp0p0p0)";
        BusRack rack = Checks.enumerated(most);
        due("twelve", rack.detach(0), 12);
        due("nine", rack.detach(5), 9);
        due("none again", rack.detach(5), 0);
        told(10, "NO_SUCH if there is no such device");
        refused("device", RICH, NO_DEVICES, BusRack::detach, NO_SUCH);
    }
}
