/** The terms of actions, history and errors, and promises 15 to 17. */
final class HistorySentences extends Sentences {
    static void all() {
        actions();
        recordedEvenUnchanged();
        fourStates();
        partsOfTheState();
        noPartsOfTheState();
        errorsChangeNothing();
        errorOrder();
        constants();
        undo();
        undoLeaves();
        undoAnswers();
        save();
        saveIsNoAction();
        restore();
        restoreAnswers();
    }

    private static String stateAfter(Maker maker, Call made) {
        BusRack rack = maker.make();
        made.on(rack);
        return Whole.stateOf(rack);
    }

    /** The call records one state, and undo brings this state back. */
    private static void recorded(String call, Maker maker, Call made) {
        BusRack rack = maker.make();
        int before = states(maker.make());
        int answer = made.on(rack);
        due(call + " answers no error", answer >= 0 ? 1 : 0, 1);
        due(call + " records", states(rack), Math.min(4, before + 1));
        same(call + " is undone", stateAfter(maker, of -> {
            made.on(of);
            return of.undo();
        }), Whole.stateOf(maker.make()));
    }

    /** How many states the history holds; it holds none afterwards. */
    private static int states(BusRack rack) {
        int states = 0;
        while (states < 9 && rack.undo() != NONE) {
            states++;
        }
        return states;
    }

    private static void actions() {
        told(0, "The actions are addCard, addBridge, setRegion, setReserve, setGap, pull, enumerate, attach, detach, "
                + "load and restore.");
        Maker[] makers = {RICH, HistorySentences::fresh};
        for (Maker maker : makers) {
            recorded("addCard", maker, rack -> rack.addCard(ROOT, 2));
            recorded("addBridge", maker, rack -> rack.addBridge(3, 0));
            recorded("setRegion", maker, rack -> rack.setRegion(4, 2, PORTS, 64));
            recorded("setReserve", maker, rack -> rack.setReserve(1, PORTS, 64));
            recorded("setGap", maker, rack -> rack.setGap(2));
            recorded("pull", maker, rack -> rack.pull(1));
            recorded("enumerate", maker, BusRack::enumerate);
            recorded("attach of a card", maker, rack -> rack.attach(0));
            recorded("attach of a bridge", maker, rack -> rack.attach(1));
            recorded("detach of a card", maker, rack -> rack.detach(5));
            recorded("detach of a bridge", maker, rack -> rack.detach(1));
            recorded("restore", maker, BusRack::restore);
        }
        recorded("load", HistorySentences::fresh, BusRack::load);
        recorded("load", () -> {
            BusRack rack = rich();
            rack.clearText();
            return rack;
        }, BusRack::load);
    }

    /** The devices of rich(), a snapshot, and one state in the history. */
    private static BusRack fresh() {
        BusRack rack = Checks.loaded("0cm2p1,1b(0cm1,1b(2cp0m0)),3cm4");
        rack.save();
        rack.enumerate();
        rack.undo();
        return rack;
    }

    private static void recordedEvenUnchanged() {
        told(0, "Each action that returns no error code records the state before it in the history, "
                + "even if the action changes nothing.");
        Maker maker = () -> Checks.loaded("0cm0,1b()");
        recorded("setRegion", maker, rack -> rack.setRegion(0, 0, MEMORY, 16));
        recorded("setRegion of an unused one", maker, rack -> rack.setRegion(0, 1, PORTS, 0));
        recorded("setReserve", maker, rack -> rack.setReserve(1, MEMORY, 0));
        recorded("setGap", maker, rack -> rack.setGap(0));
        recorded("load", maker, BusRack::load);
        recorded("detach of a card", maker, rack -> rack.detach(0));
        recorded("detach of a bridge", maker, rack -> rack.detach(1));
        Maker placed = () -> Checks.enumerated("0cm0,1b()");
        recorded("enumerate", placed, BusRack::enumerate);
        recorded("attach of a card", placed, rack -> rack.attach(0));
        recorded("attach of a bridge", placed, rack -> rack.attach(1));
        recorded("enumerate of nothing", NEW, BusRack::enumerate);
        recorded("load of nothing", NEW, BusRack::load);
        recorded("restore", () -> {
            BusRack rack = Checks.enumerated("0cm0,1b()");
            rack.save();
            return rack;
        }, BusRack::restore);
        othersRecordNothing();
    }

    private static void othersRecordNothing() {
        BusRack rack = Checks.loaded("0c,1b(0b())");
        rack.addCard(ROOT, 0);
        rack.attach(2);
        rack.restore();
        rack.append('x');
        rack.load();
        due("an error code records nothing", states(rack), 1);
        rack = Checks.loaded("0c,1b(0b())");
        rack.append(',');
        rack.fault();
        rack.clearText();
        rack.save();
        due("no action, nothing recorded", states(rack), 1);
    }

    private static void fourStates() {
        told(0, "The history holds at most 4 states; when a fifth state is recorded, the oldest one is dropped.");
        for (int actions = 0; actions <= 9; actions++) {
            BusRack rack = new BusRack();
            for (int gap = 1; gap <= actions; gap++) {
                rack.setGap(gap % 3);
            }
            int states = Math.min(4, actions);
            for (int left = states - 1; left >= 0; left--) {
                due("undo after " + actions, rack.undo(), left);
            }
            due("undo after " + actions, rack.undo(), NONE);
            due("the oldest state of " + actions, rack.setGap(0), (actions - states) % 3);
        }
        BusRack rack = new BusRack();
        for (int slot = 0; slot < 4; slot++) {
            rack.addCard(ROOT, slot);
        }
        due("four devices", rack.devices(), 15);
        rack.setGap(1);
        due("undo", rack.undo(), 3);
        rack.pull(3);
        due("undo", rack.undo(), 3);
        due("undo", rack.undo(), 2);
        due("undo", rack.undo(), 1);
        due("undo", rack.undo(), 0);
        due("the first one was dropped", rack.undo(), NONE);
        due("one device", rack.devices(), 1);
    }

    private static void partsOfTheState() {
        told(0, "The state consists of the devices with all that belongs to them, and the gap.");
        recorded("pull", RICH, rack -> rack.pull(1));
        recorded("pull and all of it", RICH, rack -> rack.pull(5));
        BusRack rack = rich();
        rack.save();
        String saved = Whole.stateOf(rich());
        rack.pull(1);
        rack.setGap(2);
        rack.setRegion(0, 0, PORTS, 4);
        rack.restore();
        same("restore", Whole.stateOf(rack), saved);
        rack = rich();
        rack.setReserve(1, MEMORY, 0);
        rack.setReserve(3, PORTS, 0);
        rack.undo();
        rack.undo();
        due("the reserve", rack.setReserve(1, MEMORY, 0), 64);
        due("the reserve", rack.setReserve(3, PORTS, 0), 8);
        rack = rich();
        rack.setGap(2);
        rack.undo();
        due("the gap", rack.setGap(0), 1);
        theLastDevices();
    }

    /** All that belongs to the devices 8 to 11. */
    private static void theLastDevices() {
        Maker maker = () -> {
            BusRack rack = Checks.loaded("0c,1b(0c,1c,2c,3c),2c,3b(0b(0b(0cm1p1m2,1b())))");
            rack.setReserve(8, MEMORY, 32);
            rack.setReserve(9, PORTS, 8);
            rack.setReserve(11, MEMORY, 16);
            rack.setReserve(11, PORTS, 4);
            rack.setGap(1);
            rack.enumerate();
            return rack;
        };
        due("twelve", maker.make().devices(), 4095);
        recorded("pull", maker, rack -> rack.pull(7));
        recorded("detach", maker, rack -> rack.detach(11));
        recorded("detach", maker, rack -> rack.detach(10));
        recorded("setReserve", maker, rack -> rack.setReserve(11, PORTS, 0));
        recorded("setRegion", maker, rack -> rack.setRegion(10, 2, PORTS, 64));
        recorded("load", maker, BusRack::load);
        BusRack rack = maker.make();
        rack.save();
        rack.load();
        due("restore", rack.restore(), 12);
        same("restore", Whole.stateOf(rack), Whole.stateOf(maker.make()));
    }

    private static void noPartsOfTheState() {
        told(0, "The text, the snapshot and the history itself are not part of the state.");
        BusRack rack = rich();
        rack.setGap(0);
        rack.append('0');
        rack.undo();
        due("undo keeps the text", rack.clearText(), 33);
        Checks.write(rack, "0b(");
        rack.restore();
        due("restore keeps the text", rack.fault(), 3);
        due("restore keeps the history", states(rack), 4);
        rack = new BusRack();
        rack.addCard(ROOT, 0);
        rack.save();
        rack.undo();
        due("undo keeps the snapshot", rack.restore(), 1);
        rack.setGap(1);
        due("restore does not bring a history back", rack.undo(), 1);
    }

    private static void errorsChangeNothing() {
        told(0, "A method that returns an error code changes nothing.");
        Maker[] makers = {RICH, FULL, Sentences::deep, NEW};
        for (Maker maker : makers) {
            refused("addCard", maker, rack -> rack.addCard(ROOT, 4), BAD_VALUE);
            refused("addBridge", maker, rack -> rack.addBridge(13, 0), NO_SUCH);
            refused("setRegion", maker, rack -> rack.setRegion(12, 0, MEMORY, 16), NO_SUCH);
            refused("setReserve", maker, rack -> rack.setReserve(12, MEMORY, 16), NO_SUCH);
            refused("setGap", maker, rack -> rack.setGap(3), BAD_VALUE);
            refused("pull", maker, rack -> rack.pull(12), NO_SUCH);
            refused("attach", maker, rack -> rack.attach(12), NO_SUCH);
            refused("detach", maker, rack -> rack.detach(12), NO_SUCH);
            refused("append", maker, rack -> rack.append(127), BAD_VALUE);
            refused("answer", maker, rack -> rack.answer(16, 0), BAD_VALUE);
            refused("find", maker, rack -> rack.find(PORTS, 256), BAD_VALUE);
        }
        refused("restore", NEW, BusRack::restore, NOT_POSSIBLE);
        Maker faulty = () -> Checks.loaded("0c,");
        refused("load", faulty, BusRack::load, -103);
    }

    private static void errorOrder() {
        told(0, "The error codes of a method are listed in the order in which they are checked, "
                + "and the first one that applies is returned.", "Another argument is out of its range.");
        for (int kind = 0; kind < 2; kind++) {
            boolean isBridge = kind == 1;
            due("bus before slot", add(isBridge, full(), 11, 4), NO_SUCH);
            due("slot before depth", add(isBridge, deep(), 4, -1), BAD_VALUE);
            due("slot before room", add(isBridge, full(), ROOT, 4), BAD_VALUE);
            due("held before room", add(isBridge, full(), ROOT, 0), NOT_POSSIBLE);
        }
        due("card before space", rich().setRegion(1, 0, 2, 16), NO_SUCH);
        due("region before size", rich().setRegion(0, 3, MEMORY, 1), NO_SUCH);
        due("bridge before space", rich().setReserve(0, 2, 0), NO_SUCH);
        due("bridge before reserve", rich().setReserve(0, MEMORY, 1), NO_SUCH);
        BusRack rack = new BusRack();
        for (int i = 0; i < 80; i++) {
            rack.append(' ');
        }
        due("character before length", rack.append(31), BAD_VALUE);
        due("bus before slot", rich().deviceIn(0, 4), NO_SUCH);
        due("bridge before space", rich().windowBase(0, 2), NO_SUCH);
        due("bridge before space", rich().windowSize(0, 2), NO_SUCH);
        due("bridge before space", rich().need(0, 2), NO_SUCH);
        due("bus before space", rich().freeRoom(0, 2), NO_SUCH);
        due("bus before size", rich().firstFit(0, MEMORY, 1), NO_SUCH);
        due("fault before devices", loadOf("0b(0c,1c,2c,3c),1b(0c,1c,2c,3c),2b(0c,1c),"), -142);
    }

    private static void constants() {
        told(0, "NONE is not an error code.", "There is no result; this is not an error code.");
        due("constant NONE", BusRack.NONE, -5);
        due("undo", new BusRack().undo(), BusRack.NONE);
        due("fault", new BusRack().fault(), BusRack.NONE);
        due("deviceIn", new BusRack().deviceIn(ROOT, 0), BusRack.NONE);
        told(0, "The constants:", "`NO_SUCH = -1`:", "`BAD_VALUE = -2`:", "`TOO_MANY = -3`:", "`NOT_POSSIBLE = -4`:",
                "`NONE = -5`:", "`ROOT = 12`:", "`MEMORY = 0, PORTS = 1`:");
        due("NO_SUCH", BusRack.NO_SUCH, -1);
        due("BAD_VALUE", BusRack.BAD_VALUE, -2);
        due("TOO_MANY", BusRack.TOO_MANY, -3);
        due("NOT_POSSIBLE", BusRack.NOT_POSSIBLE, -4);
        due("NONE", BusRack.NONE, -5);
        due("ROOT", BusRack.ROOT, 12);
        due("MEMORY", BusRack.MEMORY, 0);
        due("PORTS", BusRack.PORTS, 1);
        told(0, "The call is not possible in the present state.");
        due("restore", new BusRack().restore(), NOT_POSSIBLE);
        BusRack rack = new BusRack();
        rack.save();
        due("restore in another state", rack.restore(), 0);
    }

    // ---- promises 15 to 17

    private static void undo() {
        told(15, "Restores the latest state of the history and removes it from the history.");
        for (int undone = 0; undone < 4; undone++) {
            BusRack rack = new BusRack();
            for (int slot = 0; slot < 4; slot++) {
                rack.addCard(ROOT, slot);
            }
            for (int left = 3; left > 3 - undone; left--) {
                due("undo", rack.undo(), left);
            }
            due("devices", rack.devices(), (1 << 4 - undone) - 1);
            rack.pull(0);
            due("undo", rack.undo(), Math.min(3, 4 - undone));
            due("devices", rack.devices(), (1 << 4 - undone) - 1);
        }
        BusRack rack = new BusRack();
        rack.addCard(ROOT, 0);
        due("undo", rack.undo(), 0);
        due("undo", rack.undo(), NONE);
        due("nothing changes", rack.devices(), 0);
    }

    private static void undoLeaves() {
        told(15, "The text and the snapshot do not change.");
        BusRack rack = rich();
        rack.undo();
        due("the text", rack.clearText(), 32);
        due("the snapshot", rack.restore(), 6);
        due("the snapshot's gap", rack.setGap(0), 1);
        due("the snapshot's numbers", rack.firstNumber(1), NONE);
        rack = new BusRack();
        rack.setGap(1);
        rack.undo();
        due("no snapshot either", rack.restore(), NOT_POSSIBLE);
    }

    private static void undoAnswers() {
        told(15, "Returns the number of states that are left in the history");
        BusRack rack = rich();
        for (int left = 3; left >= 0; left--) {
            due("undo", rack.undo(), left);
        }
        told(15, "NONE if the history is empty");
        due("undo", rack.undo(), NONE);
        due("undo again", rack.undo(), NONE);
        due("the state stays", rack.devices(), 63);
        refused("undo", NEW, BusRack::undo, NONE);
    }

    private static void save() {
        told(16, "Takes a snapshot of the state, which replaces the previous snapshot.");
        BusRack rack = Checks.enumerated("0cm0,1b()");
        rack.save();
        rack.pull(0);
        rack.save();
        rack.pull(1);
        due("restore", rack.restore(), 1);
        due("the latest snapshot", rack.devices(), 2);
        rack.setGap(2);
        due("restore", rack.restore(), 1);
        due("the snapshot did not change", rack.setGap(0), 0);
        told(16, "Returns the number of devices.");
        due("none", new BusRack().save(), 0);
        due("six", rich().save(), 6);
        due("twelve", full().save(), 12);
    }

    private static void saveIsNoAction() {
        told(16, "This is not an action.");
        BusRack rack = new BusRack();
        rack.save();
        due("undo", rack.undo(), NONE);
        rack.addCard(ROOT, 0);
        rack.save();
        due("undo", rack.undo(), 0);
        due("undo", rack.undo(), NONE);
        rack = rich();
        rack.save();
        due("no state more, none dropped", states(rack), 4);
    }

    private static void restore() {
        told(17, "Restores the state of the snapshot.");
        BusRack rack = rich();
        rack.save();
        rack.clearText();
        rack.load();
        due("no devices", rack.devices(), 0);
        rack.restore();
        same("restore", Whole.stateOf(rack), Whole.stateOf(rich()));
        told(17, "The snapshot remains.");
        rack = rich();
        for (int times = 0; times < 3; times++) {
            rack.pull(1);
            due("restore", rack.restore(), 6);
        }
        rack.undo();
        rack.undo();
        due("restore after undo", rack.restore(), 6);
        rack.clearText();
        rack.load();
        due("restore after load", rack.restore(), 6);
    }

    private static void restoreAnswers() {
        told(17, "Returns the number of devices");
        due("six", rich().restore(), 6);
        due("twelve", full().restore(), 12);
        BusRack rack = new BusRack();
        rack.save();
        rack.addCard(ROOT, 0);
        due("none", rack.restore(), 0);
        told(17, "NOT_POSSIBLE if there is no snapshot");
        refused("restore", NEW, BusRack::restore, NOT_POSSIBLE);
        refused("restore", Sentences::deep, BusRack::restore, NOT_POSSIBLE);
    }
}
