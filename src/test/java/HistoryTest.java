/** Promises 15 to 17: undo, save and restore, and which calls are recorded. */
public final class HistoryTest {
    private static final int NOT_POSSIBLE = -4, NONE = -5;
    private static final int ROOT = 12, MEMORY = 0, PORTS = 1;
    private static final Checks checks = new Checks();

    public static void main(String[] args) {
        fourStates();
        eachActionIsRecorded();
        errorsAreNotRecorded();
        otherCallsAreNotRecorded();
        wholeStateComesBack();
        undoAfterUndo();
        save();
        restoreIsRecorded();
        checks.finish();
    }

    private static void due(String call, int got, int want) {
        checks.due(call, got, want);
    }

    private static void fourStates() {
        BusRack rack = new BusRack();
        for (int slot = 0; slot < 4; slot++) {
            rack.addCard(ROOT, slot);
        }
        rack.setGap(1);
        rack.setGap(2);
        due("undo", rack.undo(), 3);
        due("undo", rack.undo(), 2);
        due("the gap is back", rack.setGap(0), 0);
        due("undo setGap", rack.undo(), 2);
        due("undo", rack.undo(), 1);
        due("undo", rack.undo(), 0);
        due("the oldest were dropped", rack.devices(), 3);
        due("undo", rack.undo(), NONE);
        due("nothing changes", rack.devices(), 3);
    }

    private static void eachActionIsRecorded() {
        BusRack rack = new BusRack();
        due("addCard", rack.addCard(ROOT, 0), 0);
        due("undo addCard", rack.undo(), 0);
        due("addBridge", rack.addBridge(ROOT, 0), 0);
        due("undo addBridge", rack.undo(), 0);
        due("setGap the same", rack.setGap(0), 0);
        due("undo setGap", rack.undo(), 0);
        due("enumerate nothing", rack.enumerate(), 0);
        due("undo enumerate", rack.undo(), 0);
        due("load nothing", rack.load(), 0);
        due("undo load", rack.undo(), 0);
        rack.save();
        due("restore the same", rack.restore(), 0);
        due("undo restore", rack.undo(), 0);
        Checks.write(rack, "0c,1b()");
        rack.load();
        due("setRegion", rack.setRegion(0, 0, MEMORY, 0), 0);
        due("undo setRegion", rack.undo(), 1);
        due("setReserve", rack.setReserve(1, MEMORY, 0), 0);
        due("undo setReserve", rack.undo(), 1);
        due("attach a card", rack.attach(0), 0);
        due("undo attach", rack.undo(), 1);
        due("attach a bridge", rack.attach(1), 0);
        due("undo attach", rack.undo(), 1);
        due("detach", rack.detach(1), 0);
        due("undo detach", rack.undo(), 1);
        due("pull", rack.pull(1), 1);
        due("undo pull", rack.undo(), 1);
        due("pulled is back", rack.devices(), 3);
    }

    private static void errorsAreNotRecorded() {
        BusRack rack = Checks.loaded("0c,1b(0b(),1c)");
        rack.addCard(ROOT, 0);
        rack.addBridge(ROOT, 9);
        rack.setRegion(0, 0, MEMORY, 1);
        rack.setReserve(0, MEMORY, 0);
        rack.setGap(3);
        rack.pull(9);
        rack.attach(2);
        rack.attach(3);
        rack.detach(9);
        rack.restore();
        rack.append('x');
        rack.load();
        due("only the load", rack.undo(), 0);
    }

    private static void otherCallsAreNotRecorded() {
        BusRack rack = Checks.loaded("0c,1b()");
        rack.append(',');
        rack.fault();
        rack.clearText();
        rack.save();
        rack.devices();
        rack.need(1, MEMORY);
        rack.answer(0, 0);
        rack.freeRoom(ROOT, PORTS);
        due("only the load", rack.undo(), 0);
    }

    private static void wholeStateComesBack() {
        BusRack rack = Checks.loaded("0b(1cm1p1),2c");
        rack.setReserve(0, PORTS, 8);
        rack.setGap(2);
        rack.enumerate();
        rack.save();
        rack.clearText();
        rack.load();
        rack.setGap(0);
        rack.undo();
        due("undo", rack.undo(), 2);
        wholeState(rack);
        rack.load();
        rack.setGap(1);
        due("restore", rack.restore(), 3);
        wholeState(rack);
    }

    private static void wholeState(BusRack rack) {
        due("devices", rack.devices(), 7);
        due("bridges", rack.bridges(), 1);
        due("deviceIn", rack.deviceIn(0, 1), 1);
        due("firstNumber", rack.firstNumber(0), 1);
        due("lastNumber", rack.lastNumber(0), 3);
        due("windowBase", rack.windowBase(0, PORTS), 0);
        due("windowSize", rack.windowSize(0, PORTS), 16);
        due("size", rack.size(1, 0), 32);
        due("base", rack.base(1, 1), 0);
        due("find", rack.find(PORTS, 0), 4);
        due("reserve", rack.setReserve(0, PORTS, 8), 8);
        due("gap", rack.setGap(2), 2);
        rack.undo();
        rack.undo();
    }

    private static void undoAfterUndo() {
        BusRack rack = new BusRack();
        rack.addCard(ROOT, 0);
        rack.addCard(ROOT, 1);
        rack.undo();
        rack.addBridge(ROOT, 2);
        due("undo the bridge", rack.undo(), 1);
        due("one card", rack.devices(), 1);
        due("undo the card", rack.undo(), 0);
        due("no device", rack.devices(), 0);
    }

    private static void save() {
        BusRack rack = Checks.loaded("0c,1c");
        due("save", rack.save(), 2);
        rack.pull(0);
        due("save again", rack.save(), 1);
        rack.pull(1);
        due("restore the latest", rack.restore(), 1);
        due("restored", rack.devices(), 2);
        rack.addCard(ROOT, 3);
        due("the snapshot remains", rack.restore(), 1);
        due("the snapshot did not change", rack.devices(), 2);
        rack.undo();
        due("undo keeps the snapshot", rack.restore(), 1);
        due("save an empty rack", new BusRack().save(), 0);
    }

    private static void restoreIsRecorded() {
        BusRack rack = new BusRack();
        due("restore without a snapshot", rack.restore(), NOT_POSSIBLE);
        rack.save();
        rack.addCard(ROOT, 0);
        due("restore the empty rack", rack.restore(), 0);
        due("undo restore", rack.undo(), 1);
        due("the card is back", rack.devices(), 1);
    }
}
