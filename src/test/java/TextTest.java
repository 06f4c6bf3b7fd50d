/** Promises 11 to 14: the text, its fault, and loading it. */
public final class TextTest {
    private static final int BAD_VALUE = -2, TOO_MANY = -3, NOT_POSSIBLE = -4, NONE = -5;
    private static final int ROOT = 12, MEMORY = 0, PORTS = 1;
    private static final Checks checks = new Checks();

    public static void main(String[] args) {
        append();
        clearText();
        completeRacks();
        unfinishedRacks();
        faults();
        faultStays();
        load();
        loadOrder();
        loadErrors();
        loadTakesAllAway();
        textIsNoState();
        checks.finish();
    }

    private static void due(String call, int got, int want) {
        checks.due(call, got, want);
    }

    private static int faultOf(String text) {
        BusRack rack = new BusRack();
        Checks.write(rack, text);
        return rack.fault();
    }

    private static void append() {
        BusRack rack = new BusRack();
        due("append 31", rack.append(31), BAD_VALUE);
        due("append 127", rack.append(127), BAD_VALUE);
        due("append -1", rack.append(-1), BAD_VALUE);
        due("append far", rack.append(65536 + 48), BAD_VALUE);
        due("append 32", rack.append(32), 1);
        due("append 126", rack.append(126), 2);
        for (int length = 3; length <= 80; length++) {
            due("append up to " + length, rack.append(48), length);
        }
        due("append to 80", rack.append(48), TOO_MANY);
        due("append bad to 80", rack.append(127), BAD_VALUE);
        due("the length stays", rack.clearText(), 80);
    }

    private static void clearText() {
        BusRack rack = new BusRack();
        due("clear empty", rack.clearText(), 0);
        Checks.write(rack, "0x");
        due("clear", rack.clearText(), 2);
        due("cleared", rack.fault(), NONE);
        due("append after", rack.append('0'), 1);
    }

    private static void completeRacks() {
        String[] complete = {"", "0c", "3c", "0c,1c,2c,3c", "1c,3b()", "0b()", "0b(),1b()", "2b(0c,3b(1cm0))",
            "0cm0", "0cm6p4m3", "0cp0p0p0", "0b(3c),1c", "0b(3b(3b(3b(3c)))),3c", "0b(0b(0b(0b(0b()))))",
            "0b(0c,1c,2c,3c),1b(0c,1c,2c,3c),2b(0c,1c,2c,3c),3c"};
        for (String text : complete) {
            due("fault of " + text, faultOf(text), NONE);
        }
    }

    private static void unfinishedRacks() {
        String[] unfinished = {"0", "0b", "0b(", "0c,", "0cm", "0cp", "0cm0p", "0b(0c", "0b(0c,", "0b(0b()", "0b(),",
            "0b(0b(0b(0b(0b("};
        for (String text : unfinished) {
            due("fault of " + text, faultOf(text), text.length());
        }
    }

    private static void faults() {
        due("slot 4", faultOf("4c"), 0);
        due("a letter", faultOf("c"), 0);
        due("a sign before the digits", faultOf("/c"), 0);
        due("a blank", faultOf(" 0c"), 0);
        due("closing", faultOf(")"), 0);
        due("comma", faultOf(",0c"), 0);
        due("no kind", faultOf("0d"), 1);
        due("upper case", faultOf("0C"), 1);
        due("no opening", faultOf("0b0"), 2);
        due("no comma", faultOf("0c1c"), 2);
        due("two commas", faultOf("0c,,"), 3);
        due("closing too much", faultOf("0c)"), 2);
        due("closing too much", faultOf("0b())"), 4);
        due("closing after a comma", faultOf("0b(0c,)"), 6);
        due("the same slot", faultOf("1c,1c"), 3);
        due("a lower slot", faultOf("1c,0c"), 3);
        due("nothing after slot 3", faultOf("3c,"), 2);
        due("nothing after bridge 3", faultOf("3b(),"), 4);
        due("nothing after slot 3 below", faultOf("0b(3c,"), 5);
        due("slots count by bus", faultOf("1b(0c),1"), 7);
        due("slots count by bus", faultOf("0b(1b(0c),0"), 10);
        due("exponent m7", faultOf("0cm7"), 3);
        due("exponent p5", faultOf("0cp5"), 3);
        due("a sign before the digits", faultOf("0cm/"), 3);
        due("exponent m6 then p5", faultOf("0cm6p5"), 5);
        due("no exponent", faultOf("0cmp"), 3);
        due("two digits", faultOf("0cm00"), 4);
        due("four regions", faultOf("0cm0p0m0m"), 8);
        due("depth 6", faultOf("0b(0b(0b(0b(0b(0"), 15);
        due("depth 6 after closing", faultOf("0b(0b(0b(0b(0b(),1b(2"), 20);
        due("regions of a bridge", faultOf("0b()m"), 4);
        due("the first fault", faultOf("0c,9c,8"), 3);
    }

    private static void faultStays() {
        BusRack rack = new BusRack();
        Checks.write(rack, "0cm7");
        due("fault", rack.fault(), 3);
        due("fault again", rack.fault(), 3);
        Checks.write(rack, ",1c");
        due("fault of more", rack.fault(), 3);
        rack = new BusRack();
        Checks.write(rack, "0b(0c,1c,2c,3c),1b(0c,1c,2c,3c),2b(0c,1c,2c,3c),3b(0c,1c,2c,3cm0m0m0),1c,2c,3c,00");
        due("eighty signs", rack.clearText(), 80);
        Checks.write(rack, "0b(0cm0m0m0,1cm0m0m0,2cm0m0m0,3cm0m0m0),1b(0cm0m0m0,1cm0m0m0,2cm0m0m0),2c,3cp0p");
        due("fault at the end of eighty", rack.fault(), rack.clearText());
    }

    private static void load() {
        BusRack rack = new BusRack();
        due("load nothing", rack.load(), 0);
        Checks.write(rack, "1cm6p4,3b(2c)");
        due("load", rack.load(), 3);
        due("devices", rack.devices(), 7);
        due("bridges", rack.bridges(), 2);
        due("regions", rack.size(0, 0), 1024);
        due("regions", rack.size(0, 1), 64);
        due("regions", rack.size(0, 2), 0);
        due("slots", rack.deviceIn(ROOT, 3), 1);
        due("slots", rack.deviceIn(1, 2), 2);
        due("slots", rack.deviceIn(ROOT, 0), NONE);
        due("unplaced", rack.unplaced(), 2);
        due("load recorded", rack.undo(), 1);
        due("load the text again", rack.load(), 3);
    }

    private static void loadOrder() {
        BusRack rack = Checks.loaded("0b(1b(2c),2c),1c");
        due("outer bridge", rack.deviceIn(ROOT, 0), 0);
        due("inner bridge", rack.deviceIn(0, 1), 1);
        due("inner card", rack.deviceIn(1, 2), 2);
        due("next card", rack.deviceIn(0, 2), 3);
        due("last card", rack.deviceIn(ROOT, 1), 4);
        due("sizes", Checks.loaded("0cm0m1m2").size(0, 2), 64);
        due("spaces", Checks.enumerated("0cp3m1").find(PORTS, 31), 0);
        due("spaces", Checks.enumerated("0cp3m1").find(MEMORY, 31), 1);
    }

    private static void loadErrors() {
        BusRack rack = Checks.loaded("0c");
        rack.clearText();
        Checks.write(rack, "4");
        due("load fault 0", rack.load(), -100);
        rack.clearText();
        Checks.write(rack, "0b(");
        due("load unfinished", rack.load(), -103);
        rack.clearText();
        Checks.write(rack, "0b(0c,1c,2c,3c),1b(0c,1c,2c,3c),2b(0c,1c");
        due("too many, but a fault", rack.load(), -140);
        Checks.write(rack, ")");
        due("thirteen", rack.load(), TOO_MANY);
        due("errors change nothing", rack.devices(), 1);
        due("errors record nothing", rack.undo(), 0);
        rack = new BusRack();
        Checks.write(rack, "0b(0c,1c,2c,3c),1b(0c,1c,2c,3c),2b(0c)");
        due("twelve", rack.load(), 12);
        rack = Checks.loaded("0b(0c,1c,2c,3c),1b(0c,1c,2c,3c),2b(0cm1p1)");
        due("the twelfth card", rack.size(11, 1), 8);
        rack.clearText();
        Checks.write(rack, "0c,1b(),2b(0c)");
        due("load another", rack.load(), 4);
        due("nothing of the last text", rack.size(0, 0), 0);
        rack.clearText();
        Checks.write(rack, "0cm0m0m0,1c");
        rack.load();
        rack.clearText();
        Checks.write(rack, "0cp0,1c");
        due("load another", rack.load(), 2);
        due("nothing of the last text", rack.size(0, 1), 0);
    }

    private static void loadTakesAllAway() {
        BusRack rack = Checks.enumerated("0b(0cm0p0),1c,2c");
        rack.setReserve(0, MEMORY, 16);
        rack.setGap(2);
        due("load anew", rack.load(), 4);
        due("not numbered", rack.firstNumber(0), NONE);
        due("no window", rack.windowBase(0, MEMORY), NONE);
        due("no base", rack.base(1, 0), NONE);
        due("no reserve", rack.setReserve(0, MEMORY, 0), 0);
        due("the gap stays", rack.setGap(1), 2);
        rack.clearText();
        due("load the empty rack", rack.load(), 0);
        due("no devices", rack.devices(), 0);
        due("a slot is free again", rack.addCard(ROOT, 1), 0);
        due("the gap stays", rack.setGap(0), 1);
    }

    private static void textIsNoState() {
        BusRack rack = new BusRack();
        Checks.write(rack, "0c");
        due("append records nothing", rack.undo(), NONE);
        rack.fault();
        rack.clearText();
        due("clearText records nothing", rack.undo(), NONE);
        Checks.write(rack, "0c");
        rack.load();
        rack.save();
        rack.clearText();
        Checks.write(rack, "0b(");
        rack.undo();
        due("undo keeps the text", rack.fault(), 3);
        due("restore", rack.restore(), 1);
        due("restore keeps the text", rack.fault(), 3);
        due("not possible below the card", rack.addCard(ROOT, 0), NOT_POSSIBLE);
    }
}
