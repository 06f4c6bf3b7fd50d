/** Promises 8 to 10, 24, 25 and 30, as far as bus numbers go. */
public final class NumbersTest {
    private static final int NO_SUCH = -1, BAD_VALUE = -2, NOT_POSSIBLE = -4, NONE = -5;
    private static final int ROOT = 12, MEMORY = 0;
    private static final Checks checks = new Checks();

    public static void main(String[] args) {
        depthFirst();
        gapsOfEachLevel();
        gapsEndAtFifteen();
        numbersRunOut();
        enumerateAnew();
        enumerateTakesNumbersAway();
        enumerateUpToFifteen();
        attachLeastNumber();
        attachBetween();
        attachWithoutNumber();
        attachOnRootUpToFifteen();
        attachOnUnnumberedBus();
        attachErrors();
        detachNumbers();
        queries();
        answer();
        checks.finish();
    }

    private static void due(String call, int got, int want) {
        checks.due(call, got, want);
    }

    private static void range(BusRack rack, int bridge, int first, int last) {
        due("first number of " + bridge, rack.firstNumber(bridge), first);
        due("last number of " + bridge, rack.lastNumber(bridge), last);
    }

    private static BusRack withGap(String text, int gap) {
        BusRack rack = Checks.loaded(text);
        rack.setGap(gap);
        rack.enumerate();
        return rack;
    }

    private static void depthFirst() {
        BusRack rack = Checks.enumerated("0c,1b(0b(),3b(2b())),2b(),3c");
        range(rack, 1, 1, 4);
        range(rack, 2, 2, 2);
        range(rack, 3, 3, 4);
        range(rack, 4, 4, 4);
        range(rack, 5, 5, 5);
        rack = new BusRack();
        rack.addBridge(ROOT, 3);
        rack.addBridge(ROOT, 1);
        rack.enumerate();
        range(rack, 0, 2, 2);
        range(rack, 1, 1, 1);
    }

    private static void gapsOfEachLevel() {
        BusRack rack = withGap("0b(0b(0b())),1b()", 1);
        range(rack, 0, 1, 6);
        range(rack, 1, 2, 5);
        range(rack, 2, 3, 4);
        range(rack, 3, 7, 8);
        rack = withGap("0b(0b()),1b()", 2);
        range(rack, 0, 1, 6);
        range(rack, 1, 2, 4);
        range(rack, 2, 7, 9);
    }

    private static void gapsEndAtFifteen() {
        BusRack rack = withGap("0b(),1b(),2b(),3b(0b(0b()))", 2);
        range(rack, 0, 1, 3);
        range(rack, 2, 7, 9);
        range(rack, 3, 10, 15);
        range(rack, 4, 11, 15);
        range(rack, 5, 12, 14);
        due("the last three", rack.answer(13, 0), NONE);
    }

    private static void numbersRunOut() {
        BusRack rack = withGap("0b(),1b(),2b(),3b(0b(0b(0b())),1b(0b(0cm0)),2b())", 2);
        range(rack, 3, 10, 15);
        range(rack, 4, 11, 15);
        range(rack, 5, 12, 15);
        range(rack, 6, 13, 15);
        range(rack, 7, NONE, NONE);
        range(rack, 8, NONE, NONE);
        range(rack, 10, NONE, NONE);
        due("below no number: no base", rack.base(9, 0), NONE);
        due("below no number: unplaced", rack.unplaced(), 1);
        due("not numbered, but a need", rack.need(8, MEMORY), 16);
        due("not numbered, so no item", rack.need(7, MEMORY), 0);
        due("not numbered, so no window", rack.windowBase(7, MEMORY), NONE);
        rack = withGap("0b(0b(),1b(),2b(),3b()),1b()", 2);
        range(rack, 0, 1, 15);
        range(rack, 4, 11, 13);
        range(rack, 5, NONE, NONE);
        rack = withGap("0b(0b(),1b(),2b(),3b(0b(0b(0b()))))", 2);
        range(rack, 4, 11, 15);
        range(rack, 6, 13, 15);
        range(rack, 7, 14, 15);
    }

    private static void enumerateAnew() {
        BusRack rack = Checks.enumerated("0b(),1b()");
        rack.pull(0);
        range(rack, 1, 2, 2);
        due("enumerate", rack.enumerate(), 0);
        range(rack, 1, 1, 1);
        due("enumerate: the history", rack.undo(), 3);
        range(rack, 1, 2, 2);
    }

    private static void enumerateTakesNumbersAway() {
        BusRack rack = Checks.enumerated("0b(0b(),1b(),2b(),3b(0b(0b()))),1b()");
        range(rack, 0, 1, 7);
        range(rack, 7, 8, 8);
        rack.setGap(2);
        rack.enumerate();
        range(rack, 0, 1, 15);
        range(rack, 7, NONE, NONE);
        due("its number was taken away", rack.answer(8, 0), NONE);
        rack = new BusRack();
        rack.addBridge(ROOT, 3);
        for (int slot = 0; slot < 3; slot++) {
            rack.addBridge(ROOT, slot);
            for (int lower = 0; lower < (slot == 2 ? 0 : 3); lower++) {
                rack.addBridge(slot * 4 + 1, lower);
            }
        }
        rack.enumerate();
        range(rack, 0, 10, 10);
        rack.setGap(1);
        rack.enumerate();
        range(rack, 1, 1, 8);
        range(rack, 0, NONE, NONE);
    }

    private static void enumerateUpToFifteen() {
        BusRack rack = withGap("0b(0b(0b(0b(0b())))),1b(0b()),2b(0b()),3b()", 1);
        range(rack, 5, 11, 14);
        range(rack, 7, 15, 15);
        range(rack, 8, NONE, NONE);
        range(rack, 9, NONE, NONE);
        due("the bus 15", rack.answer(15, 0), 8);
    }

    private static void attachLeastNumber() {
        BusRack rack = Checks.loaded("0b(),1b(),2b(),3b()");
        due("attach", rack.attach(2), 0);
        range(rack, 2, 1, 1);
        rack.attach(0);
        range(rack, 0, 2, 2);
        rack.detach(2);
        rack.attach(3);
        range(rack, 3, 1, 1);
        rack.attach(3);
        range(rack, 3, 1, 1);
        rack.attach(1);
        range(rack, 1, 3, 3);
    }

    private static void attachBetween() {
        BusRack rack = withGap("0b(0b(),2b()),1b()", 1);
        range(rack, 0, 1, 6);
        range(rack, 1, 2, 3);
        range(rack, 2, 4, 5);
        rack.addBridge(0, 3);
        rack.attach(4);
        range(rack, 4, 6, 6);
        rack.detach(1);
        rack.attach(1);
        range(rack, 1, 2, 2);
        rack.addBridge(0, 1);
        rack.attach(5);
        range(rack, 5, 3, 3);
        rack.detach(0);
        rack.attach(0);
        range(rack, 0, 1, 1);
        due("one number has no room below", rack.attach(1), NOT_POSSIBLE);
    }

    private static void attachWithoutNumber() {
        BusRack rack = Checks.enumerated("0b(),1b()");
        rack.addBridge(0, 0);
        due("no number below", rack.attach(2), NOT_POSSIBLE);
        due("changes nothing", rack.firstNumber(2), NONE);
        due("records nothing", rack.undo(), 2);
        due("it was addBridge", rack.devices(), 3);
    }

    private static void attachOnRootUpToFifteen() {
        BusRack rack = withGap("0b(0b(),1b(),2b(),3b(0b(),1b())),1b(),2b()", 2);
        range(rack, 0, 1, 15);
        range(rack, 7, NONE, NONE);
        due("fifteen numbers taken", rack.attach(7), NOT_POSSIBLE);
        rack = withGap("0b(),1b(),2b(),3b(0b())", 2);
        range(rack, 3, 10, 15);
        rack.detach(3);
        rack.attach(3);
        range(rack, 3, 10, 10);
        rack = withGap("0b(0b(),1b(),2b(0b())),1b()", 2);
        range(rack, 0, 1, 15);
        range(rack, 5, NONE, NONE);
        rack = withGap("0b(0b(0b(0b(0b())))),1b(0b())", 1);
        range(rack, 0, 1, 10);
        range(rack, 5, 11, 14);
        rack.addBridge(ROOT, 2);
        due("fifteen is a number", rack.attach(7), 0);
        range(rack, 7, 15, 15);
        rack.addBridge(ROOT, 3);
        due("sixteen is no number", rack.attach(8), NOT_POSSIBLE);
    }

    private static void attachOnUnnumberedBus() {
        BusRack rack = Checks.loaded("0b(0b(),1cm0)");
        due("card on an unnumbered bus", rack.attach(2), NOT_POSSIBLE);
        due("bridge on an unnumbered bus", rack.attach(1), NOT_POSSIBLE);
        due("records nothing", rack.undo(), 0);
        rack = Checks.loaded("0b(0b(),1cm0)");
        rack.attach(0);
        due("card on a numbered bus", rack.attach(2), 0);
    }

    private static void attachErrors() {
        BusRack rack = Checks.loaded("0b(0c)");
        due("attach none", rack.attach(2), NO_SUCH);
        due("attach -1", rack.attach(-1), NO_SUCH);
        due("attach ROOT", rack.attach(ROOT), NO_SUCH);
        due("attach far", rack.attach(Integer.MAX_VALUE), NO_SUCH);
    }

    private static void detachNumbers() {
        BusRack rack = Checks.enumerated("0b(0b(),1b()),1b()");
        due("detach", rack.detach(0), 0);
        for (int bridge = 0; bridge < 3; bridge++) {
            range(rack, bridge, NONE, NONE);
        }
        range(rack, 3, 4, 4);
        due("detach none", rack.detach(4), NO_SUCH);
        due("detach -1", rack.detach(-1), NO_SUCH);
        due("detach ROOT", rack.detach(ROOT), NO_SUCH);
        due("detach again", rack.detach(0), 0);
        due("each detach was recorded", rack.undo(), 3);
    }

    private static void queries() {
        BusRack rack = Checks.enumerated("0c,1b()");
        due("firstNumber of a card", rack.firstNumber(0), NO_SUCH);
        due("lastNumber of a card", rack.lastNumber(0), NO_SUCH);
        due("firstNumber of none", rack.firstNumber(2), NO_SUCH);
        due("lastNumber of none", rack.lastNumber(2), NO_SUCH);
        due("firstNumber of ROOT", rack.firstNumber(ROOT), NO_SUCH);
        due("lastNumber of -1", rack.lastNumber(-1), NO_SUCH);
    }

    private static void answer() {
        BusRack rack = withGap("0b(2c),3c", 2);
        due("answer root", rack.answer(0, 3), 2);
        due("answer root bridge", rack.answer(0, 0), 0);
        due("answer lower", rack.answer(1, 2), 1);
        due("answer empty slot", rack.answer(1, 1), NONE);
        due("answer number in the gap", rack.answer(2, 2), NONE);
        due("answer 15", rack.answer(15, 0), NONE);
        due("answer 16", rack.answer(16, 0), BAD_VALUE);
        due("answer -1", rack.answer(-1, 0), BAD_VALUE);
        due("answer -5", rack.answer(-5, 0), BAD_VALUE);
        due("answer slot 4", rack.answer(0, 4), BAD_VALUE);
        due("answer slot -1", rack.answer(9, -1), BAD_VALUE);
        rack.detach(0);
        due("answer detached", rack.answer(1, 2), NONE);
    }
}
