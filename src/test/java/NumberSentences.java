/** The terms of bus numbers, and promises 24, 25 and 30. */
final class NumberSentences extends Sentences {
    static void all() {
        rootNumber();
        numberedOrNot();
        lowerBusNumber();
        gap();
        fromOne();
        ascendingSlots();
        sixteen();
        lastNumbers();
        cards();
        firstNumber();
        lastNumber();
        answer();
    }

    private static void rootNumber() {
        told(0, "The root bus has the bus number 0.");
        BusRack rack = Checks.loaded("0c,3b()");
        due("answer(0, 0) before enumerate", rack.answer(0, 0), 0);
        due("answer(0, 3) before enumerate", rack.answer(0, 3), 1);
        rack.enumerate();
        due("answer(0, 3)", rack.answer(0, 3), 1);
        due("answer(0, 1)", rack.answer(0, 1), NONE);
        rack.detach(1);
        due("answer(0, 3) after detach", rack.answer(0, 3), 1);
    }

    private static void numberedOrNot() {
        told(0, "A bridge either is numbered or is not.");
        BusRack rack = Checks.loaded("0b(0b())");
        range(rack, 0, NONE, NONE);
        range(rack, 1, NONE, NONE);
        rack.attach(0);
        range(rack, 0, 1, 1);
        range(rack, 1, NONE, NONE);
        rack.enumerate();
        range(rack, 0, 1, 2);
        range(rack, 1, 2, 2);
        rack.detach(1);
        range(rack, 0, 1, 2);
        range(rack, 1, NONE, NONE);
    }

    private static void lowerBusNumber() {
        told(0, "A numbered bridge has a first bus number, which is the bus number of its lower bus, "
                + "and a last bus number.");
        BusRack rack = withGap("1b(2c,3b(1c))", 2);
        range(rack, 0, 1, 6);
        range(rack, 2, 2, 4);
        due("answer(1, 2)", rack.answer(1, 2), 1);
        due("answer(2, 1)", rack.answer(2, 1), 3);
        for (int number = 3; number <= 6; number++) {
            due("answer(" + number + ", 1)", rack.answer(number, 1), NONE);
            due("answer(" + number + ", 2)", rack.answer(number, 2), NONE);
        }
    }

    private static void gap() {
        told(0, "There is a setting, the gap (0 to 2, 0 at first).");
        due("at first", new BusRack().setGap(1), 0);
        BusRack rack = Checks.enumerated("0b(),1b()");
        range(rack, 0, 1, 1);
        range(rack, 1, 2, 2);
        rack = withGap("0b(),1b()", 2);
        range(rack, 0, 1, 3);
        range(rack, 1, 4, 6);
        due("setGap(3)", rack.setGap(3), BAD_VALUE);
        due("setGap(-1)", rack.setGap(-1), BAD_VALUE);
        due("setGap(0)", rack.setGap(0), 2);
    }

    private static void fromOne() {
        told(0, "Numbering goes as follows.", "The next bus number is 1 at first.");
        BusRack rack = Checks.enumerated("0b(),1b()");
        range(rack, 0, 1, 1);
        rack.enumerate();
        range(rack, 0, 1, 1);
        rack.pull(0);
        range(rack, 1, 2, 2);
        rack.enumerate();
        range(rack, 1, 1, 1);
    }

    private static void ascendingSlots() {
        told(0, "The devices of the root bus are visited by ascending slots.");
        BusRack rack = new BusRack();
        for (int slot = 3; slot >= 0; slot--) {
            rack.addBridge(ROOT, slot);
        }
        rack.enumerate();
        for (int bridge = 0; bridge < 4; bridge++) {
            range(rack, bridge, 4 - bridge, 4 - bridge);
        }
    }

    private static void sixteen() {
        told(0, "To visit a bridge: if the next bus number is 16, "
                + "the bridge and the bridges below it are not numbered.");
        BusRack rack = withGap("0b(0b(0b(0b(0b())))),1b(0b()),2b(0b(0b())),3b()", 1);
        range(rack, 5, 11, 14);
        range(rack, 7, 15, 15);
        range(rack, 8, NONE, NONE);
        range(rack, 9, NONE, NONE);
        range(rack, 10, NONE, NONE);
        rack = withGap("0b(0b(),1b(),2b(),3b(0b())),1b(0b(0cm0),1cm0),2b()", 2);
        range(rack, 0, 1, 15);
        range(rack, 6, NONE, NONE);
        range(rack, 7, NONE, NONE);
        range(rack, 10, NONE, NONE);
        due("unplaced", rack.unplaced(), 2);
    }

    private static void lastNumbers() {
        told(0, "Otherwise, the first bus number of the bridge becomes the next bus number, which grows by 1; "
                + "then the devices of its lower bus are visited by ascending slots; "
                + "then its last bus number becomes the smaller one of 15 "
                + "and the next bus number minus 1 plus the gap; "
                + "and then the next bus number becomes the last bus number plus 1.");
        for (int gap = 0; gap <= 2; gap++) {
            BusRack rack = withGap("0b(3b()),1b()", gap);
            range(rack, 0, 1, 2 + 2 * gap);
            range(rack, 1, 2, 2 + gap);
            range(rack, 2, 3 + 2 * gap, 3 + 3 * gap);
        }
        BusRack rack = withGap("0b(0b(0b(0b(0b())))),1b(0b())", 1);
        range(rack, 5, 11, 14);
        range(rack, 6, 12, 13);
        rack = withGap("0b(),1b(),2b(),3b(0b())", 2);
        range(rack, 3, 10, 15);
        range(rack, 4, 11, 13);
        rack = withGap("0b(),1b(),2b(),3b(0b(0b()))", 2);
        range(rack, 3, 10, 15);
        range(rack, 4, 11, 15);
        range(rack, 5, 12, 14);
        rack = withGap("0b(0b(0b(0b(0b())))),1b(0b()),2b()", 1);
        range(rack, 7, 15, 15);
        rack = new BusRack();
        rack.addBridge(ROOT, 0);
        for (int slot = 3; slot >= 0; slot--) {
            rack.addBridge(0, slot);
        }
        rack.enumerate();
        for (int bridge = 1; bridge <= 4; bridge++) {
            range(rack, bridge, 6 - bridge, 6 - bridge);
        }
    }

    private static void cards() {
        told(0, "To visit a card has no effect.");
        BusRack rack = Checks.enumerated("0cm0,1b(0c,1b(),2c),2c,3b()");
        range(rack, 1, 1, 2);
        range(rack, 3, 2, 2);
        range(rack, 6, 3, 3);
        rack = withGap("0c,1b(0c,1c,2c,3c),2c,3b(0c)", 2);
        range(rack, 1, 1, 3);
        range(rack, 7, 4, 6);
    }

    // ---- promises 24, 25 and 30

    private static void firstNumber() {
        told(24, "Returns the first bus number of a bridge.");
        due("firstNumber(3)", rich().firstNumber(3), 2);
        changesNothing("firstNumber", RICH, rack -> rack.firstNumber(3));
        told(24, "`bridge`: number of a bridge");
        due("firstNumber(0)", full().firstNumber(0), 1);
        due("firstNumber(10)", full().firstNumber(10), 7);
        told(24, "Returns the first bus number");
        due("15", withGap("0b(0b(0b(0b(0b())))),1b(0b()),2b()", 1).firstNumber(7), 15);
        due("1", Checks.enumerated("3b()").firstNumber(0), 1);
        told(24, "NO_SUCH if there is no such bridge");
        refused("bridge", RICH, NO_DEVICES, BusRack::firstNumber, NO_SUCH);
        refused("a card", RICH, CARDS_OF_RICH, BusRack::firstNumber, NO_SUCH);
        told(24, "NONE if it is not numbered");
        due("loaded", Checks.loaded("0b()").firstNumber(0), NONE);
    }

    private static void lastNumber() {
        told(25, "Returns the last bus number of a bridge.");
        due("lastNumber(1)", rich().lastNumber(1), 4);
        changesNothing("lastNumber", RICH, rack -> rack.lastNumber(1));
        told(25, "`bridge`: number of a bridge");
        due("lastNumber(0)", full().lastNumber(0), 3);
        due("lastNumber(10)", full().lastNumber(10), 9);
        told(25, "Returns the last bus number");
        due("15", withGap("0b(),1b(),2b(),3b(0b())", 2).lastNumber(3), 15);
        due("1", Checks.enumerated("3b()").lastNumber(0), 1);
        told(25, "NO_SUCH if there is no such bridge");
        refused("bridge", RICH, NO_DEVICES, BusRack::lastNumber, NO_SUCH);
        refused("a card", RICH, CARDS_OF_RICH, BusRack::lastNumber, NO_SUCH);
        told(25, "NONE if it is not numbered");
        due("loaded", Checks.loaded("0b()").lastNumber(0), NONE);
    }

    private static void answer() {
        told(30, "Finds the device that answers to a bus number and a slot.");
        due("answer(2, 2)", rich().answer(2, 2), 4);
        due("answer(4, 2)", rich().answer(4, 2), NONE);
        changesNothing("answer", RICH, rack -> rack.answer(1, 1));
        told(30, "`number`: a bus number, 0 to 15");
        BusRack rack = withGap("0b(0b(0b(0b(0b())))),1b(0b()),2b(3c)", 1);
        due("answer(0, 2)", rack.answer(0, 2), 7);
        due("answer(15, 3)", rack.answer(15, 3), 8);
        told(30, "`slot`: 0 to 3");
        due("answer(0, 0)", rich().answer(0, 0), 0);
        due("answer(0, 3)", rich().answer(0, 3), 5);
        told(30, "Returns the number of the device in this slot of the bus with this bus number");
        due("answer(1, 0)", rich().answer(1, 0), 2);
        due("answer(1, 1)", rich().answer(1, 1), 3);
        due("answer(2, 2)", rich().answer(2, 2), 4);
        told(30, "BAD_VALUE if an argument is out of range");
        int[] noNumbers = {-1, NONE, 16, 17, LOWEST, HIGHEST};
        refused("number", RICH, noNumbers, (of, number) -> of.answer(number, 0), BAD_VALUE);
        refused("slot", RICH, NO_SLOTS, (of, slot) -> of.answer(1, slot), BAD_VALUE);
        refused("slot before no bus", RICH, NO_SLOTS, (of, slot) -> of.answer(15, slot), BAD_VALUE);
        told(30, "NONE if no bus has this bus number or the slot holds no device");
        due("no bus 3", rich().answer(3, 2), NONE);
        due("no bus 15", rich().answer(15, 0), NONE);
        due("no device", rich().answer(2, 0), NONE);
        due("no device on the root bus", rich().answer(0, 2), NONE);
        due("no number", Checks.loaded("0b(0c)").answer(1, 0), NONE);
    }
}
