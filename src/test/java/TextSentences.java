/** The terms of the text, and promises 11 to 14. */
final class TextSentences extends Sentences {
    private static final String SEVENTY = "0b(0cm0m0m0,1cm0m0m0,2cm0m0m0,3cm0m0m0),1b(0cm0m0m0,1cm0m0m0,2cm0m0m0)";
    /** Eighty characters each, of a rack that goes on and of a complete one. */
    private static final String EIGHTY = SEVENTY + ",2b(0c,3cp";
    private static final String COMPLETE = SEVENTY + ",2c,3cp0p0";

    static void all() {
        eighty();
        grammar();
        slots();
        depth();
        regions();
        exponents();
        firstFault();
        unfinished();
        emptyText();
        append();
        clearText();
        fault();
        loadDevices();
        loadNumbers();
        loadLeaves();
        loadAnswers();
    }

    /** Of all characters, those that may follow the complete or unfinished rack, and no others. */
    private static void follows(String rack, String allowed) {
        due("fault of " + rack, faultOf(rack) < 0 ? rack.length() : faultOf(rack), rack.length());
        for (char sign = 32; sign <= 126; sign++) {
            int fault = faultOf(rack + sign);
            boolean isFault = fault == rack.length();
            due("fault of " + rack + sign, isFault ? 1 : 0, allowed.indexOf(sign) < 0 ? 1 : 0);
            due("fault of " + rack + sign, fault == NONE || fault >= rack.length() ? 1 : 0, 1);
        }
    }

    private static BusRack filled(int length) {
        BusRack rack = new BusRack();
        Checks.write(rack, EIGHTY.substring(0, length));
        return rack;
    }

    private static void eighty() {
        told(0, "There is a text of at most 80 characters (empty at first).");
        due("at first", new BusRack().clearText(), 0);
        due("the length", EIGHTY.length(), 80);
        due("the eightieth", filled(79).append('p'), 80);
        due("the eighty-first", filled(80).append('0'), TOO_MANY);
        due("fault of all eighty", filled(80).fault(), 80);
        due("clearText", filled(80).clearText(), 80);
    }

    private static void grammar() {
        told(0, "A rack is written as follows:", "rack = [ items ]");
        follows("", "0123");
        due("[ ]", faultOf(""), NONE);
        due("items", faultOf("3b()"), NONE);
        told(0, "items = item { \",\" item }");
        follows("0b(),", "123");
        follows("0c,", "123");
        follows("0b(1b(),", "23");
        due("one", faultOf("0c"), NONE);
        due("four", faultOf("0c,1b(),2c,3b()"), NONE);
        due("four below", faultOf("0b(0c,1b(),2c,3b())"), NONE);
        told(0, "item = slot \"c\" { region } | slot \"b(\" [ items ] \")\"");
        follows("0", "bc");
        follows("0b", "(");
        follows("0b(", "0123)");
        follows("0b()", ",");
        follows("3b()", "");
        follows("0c", "mp,");
        follows("3c", "mp");
        follows("0b(0c", "mp,)");
        follows("0b(3c", "mp)");
        follows("0b(0b()", ",)");
        follows("0b(3b()", ")");
        due("without items", faultOf("1b()"), NONE);
        due("with items", faultOf("1b(0c)"), NONE);
        told(0, "region = \"m\" exponent | \"p\" exponent");
        follows("0cm", "0123456");
        follows("0cp", "01234");
        follows("0cm6", "mp,");
        follows("0b(2cp0", "mp,)");
    }

    private static void slots() {
        told(0, "A slot is a digit from 0 to 3; the slots of the items of one bus ascend.");
        follows("0c,", "123");
        follows("1c,", "23");
        follows("2c,", "3");
        follows("1b(3c),", "23");
        follows("0c,2b(0c,1b(3c),", "23");
        follows("2b(", "0123)");
        due("0 to 3", faultOf("0c,1c,2c,3c"), NONE);
        due("4", faultOf("4c"), 0);
        due("the same", faultOf("2c,2c"), 3);
        due("descending", faultOf("2c,1c"), 3);
        due("nothing is above 3", faultOf("3c,"), 2);
        due("nothing is above 3 below", faultOf("0b(3c,3c)"), 5);
    }

    private static void depth() {
        told(0, "The items in the parentheses are the devices on the lower bus of the bridge; "
                + "no item has a depth above 5.");
        BusRack rack = Checks.loaded("1b(2c,3b(0c)),2c");
        due("below bridge 0", rack.deviceIn(0, 2), 1);
        due("below bridge 0", rack.deviceIn(0, 3), 2);
        due("below bridge 2", rack.deviceIn(2, 0), 3);
        due("on the root bus", rack.deviceIn(ROOT, 2), 4);
        due("nothing else", rack.deviceIn(0, 0), NONE);
        follows("0b(0b(0b(0b(", "0123)");
        follows("0b(0b(0b(0b(1", "bc");
        follows("0b(0b(0b(0b(1c", "mp,)");
        follows("0b(0b(0b(0b(1b", "(");
        follows("0b(0b(0b(0b(1b(", ")");
        follows("0b(0b(0b(0b(1b()", ",)");
        follows("0b(0b(0b(0b(1b())", ",)");
        follows("0b(0b(0b(0b(1b(),2b(", ")");
        follows("0b(0b(0b(0b(1b())))", ",)");
        follows("0b(0b(0b(0b(1b()))))", ",");
        due("depth 5", Checks.loaded("0b(0b(0b(0b(1b()))))").depth(4), 5);
    }

    private static void regions() {
        told(0, "A card has at most 3 regions, which become its regions 0, 1 and 2 in this order.");
        follows("0cm0p0", "mp,");
        follows("0cm0p0m0", ",");
        follows("3cm0p0m0", "");
        follows("0b(0cm0p0m0", ",)");
        BusRack rack = Checks.enumerated("0cm3p2m1,1c,2cp0");
        due("region 0", rack.size(0, 0), 128);
        due("region 1", rack.size(0, 1), 16);
        due("region 2", rack.size(0, 2), 32);
        due("none", rack.size(1, 0), 0);
        due("the first", rack.size(2, 0), 4);
        due("the second", rack.size(2, 1), 0);
    }

    private static void exponents() {
        told(0, "\"m\" is a region in MEMORY with the size 16 * 2^e, where e is the exponent, a digit from 0 to 6; "
                + "\"p\" is a region in PORTS with the size 4 * 2^e, where e is a digit from 0 to 4.");
        for (int exponent = 0; exponent <= 6; exponent++) {
            BusRack rack = Checks.enumerated("0cm" + exponent);
            due("m" + exponent, rack.size(0, 0), 16 << exponent);
            due("m" + exponent, rack.freeRoom(ROOT, MEMORY), 4096 - (16 << exponent));
        }
        for (int exponent = 0; exponent <= 4; exponent++) {
            BusRack rack = Checks.enumerated("0cp" + exponent);
            due("p" + exponent, rack.size(0, 0), 4 << exponent);
            due("p" + exponent, rack.freeRoom(ROOT, PORTS), 256 - (4 << exponent));
        }
        due("m7", faultOf("0cm7"), 3);
        due("p5", faultOf("0cp5"), 3);
        due("m10", faultOf("0cm10"), 4);
    }

    private static void firstFault() {
        told(0, "The fault of the text is the index of the first character such that no rack, "
                + "with any number of devices, begins with the characters up to and including it.");
        due("index 0", faultOf("x0c"), 0);
        due("the first of two", faultOf("0c,0c,9"), 3);
        due("index 79", faultOf(EIGHTY.substring(0, 79) + "x"), 79);
        follows("0b(0c,1c,2c,3c),1b(0c,1c,2c,3c),2b(0c,1c", "mp,)");
        due("fifteen devices", faultOf("0b(0c,1c,2c,3c),1b(0c,1c,2c,3c),2b(0c,1c,2c,3c)"), NONE);
        due("fourteen, then a fault", faultOf("0b(0c,1c,2c,3c),1b(0c,1c,2c,3c),2b(0c,1c,2c,2"), 44);
        due("the slot is too low", faultOf("0c,1c,1"), 6);
        BusRack rack = new BusRack();
        Checks.write(rack, "0cx");
        due("fault", rack.fault(), 2);
        Checks.write(rack, ",1c");
        due("fault of more", rack.fault(), 2);
    }

    private static void unfinished() {
        told(0, "If there is no such character, but the text is not a complete rack, "
                + "the fault is the length of the text.");
        String[] texts = {"0", "0b", "0b(", "0cm", "0cm0p", "0c,", "0b(0c", "0b(0c,", "0b(0b()", "0b(),",
            "0b(0b(0b(0b(0b(", "0b(0b(0b(0b(0b())))", EIGHTY};
        for (String text : texts) {
            due("fault of " + text, faultOf(text), text.length());
        }
    }

    private static void emptyText() {
        told(0, "(The empty text is a complete rack.)");
        due("fault", new BusRack().fault(), NONE);
        due("load", emptied().load(), 0);
        BusRack rack = emptied();
        rack.load();
        due("no devices", rack.devices(), 0);
    }

    private static BusRack emptied() {
        BusRack rack = rich();
        rack.clearText();
        return rack;
    }

    // ---- promises 11 to 13

    private static void append() {
        told(11, "Appends a character to the text.");
        BusRack rack = new BusRack();
        Checks.write(rack, "0");
        due("fault of 0", rack.fault(), 1);
        rack.append('c');
        due("fault of 0c", rack.fault(), NONE);
        rack.append('c');
        due("fault of 0cc", rack.fault(), 2);
        told(11, "`character`: 32 to 126");
        for (int character = -2; character <= 300; character++) {
            due("append(" + character + ")", new BusRack().append(character),
                    character >= 32 && character <= 126 ? 1 : BAD_VALUE);
        }
        told(11, "Returns the length of the text");
        rack = new BusRack();
        for (int length = 1; length <= 80; length++) {
            due("append", rack.append(31 + length), length);
        }
        told(11, "BAD_VALUE if character is out of range");
        int[] noCharacters = {-1, 0, 10, 31, 127, 128, 65536 + 48, LOWEST, HIGHEST};
        refused("character", RICH, noCharacters, BusRack::append, BAD_VALUE);
        Maker eighty = () -> filled(80);
        refused("before eighty", eighty, noCharacters, BusRack::append, BAD_VALUE);
        told(11, "TOO_MANY if the text has 80 characters");
        due("79", filled(79).append(32), 80);
        refused("80", eighty, of -> of.append(32), TOO_MANY);
        refused("80", eighty, of -> of.append('0'), TOO_MANY);
    }

    private static void clearText() {
        told(12, "Empties the text.");
        BusRack rack = filled(80);
        rack.clearText();
        due("fault", rack.fault(), NONE);
        due("append", rack.append('3'), 1);
        due("fault of 3", rack.fault(), 1);
        told(12, "Returns the length that the text had.");
        due("0", new BusRack().clearText(), 0);
        due("1", filled(1).clearText(), 1);
        due("79", filled(79).clearText(), 79);
        due("80", filled(80).clearText(), 80);
        due("0 again", clearedTwice(), 0);
    }

    private static int clearedTwice() {
        BusRack rack = filled(5);
        rack.clearText();
        return rack.clearText();
    }

    private static void fault() {
        told(13, "Returns the fault of the text.");
        due("fault", faultOf("0cm9"), 3);
        changesNothing("fault", RICH, BusRack::fault);
        changesNothing("fault", () -> filled(80), BusRack::fault);
        told(13, "Returns the fault");
        due("0", faultOf("c"), 0);
        due("80", filled(80).fault(), 80);
        told(13, "NONE if the text is a complete rack");
        due("empty", faultOf(""), NONE);
        due("one card", faultOf("0c"), NONE);
        due("eighty characters", COMPLETE.length(), 80);
        due("eighty characters", faultOf(COMPLETE), NONE);
        due("seventy characters", faultOf(SEVENTY), NONE);
    }

    // ---- promise 14

    private static void loadDevices() {
        told(14, "Replaces all devices by those of the text.");
        BusRack rack = rich();
        rack.clearText();
        Checks.write(rack, "2cm0,3b()");
        due("load", rack.load(), 2);
        due("devices", rack.devices(), 3);
        due("bridges", rack.bridges(), 2);
        due("slot 0", rack.deviceIn(ROOT, 0), NONE);
        due("slot 1", rack.deviceIn(ROOT, 1), NONE);
        due("slot 2", rack.deviceIn(ROOT, 2), 0);
        due("slot 3", rack.deviceIn(ROOT, 3), 1);
        due("region 0", rack.size(0, 0), 16);
        due("region 1", rack.size(0, 1), 0);
        due("region 2", rack.size(0, 2), 0);
        due("the text once more", rack.load(), 2);
    }

    private static void loadNumbers() {
        told(14, "They are numbered from 0 in the order in which they begin in the text.");
        BusRack rack = Checks.loaded("0b(1b(2c),2c),1c,3b(0c)");
        due("bridges", rack.bridges(), 1 | 1 << 1 | 1 << 5);
        due("0", rack.deviceIn(ROOT, 0), 0);
        due("1", rack.deviceIn(0, 1), 1);
        due("2", rack.deviceIn(1, 2), 2);
        due("3", rack.deviceIn(0, 2), 3);
        due("4", rack.deviceIn(ROOT, 1), 4);
        due("5", rack.deviceIn(ROOT, 3), 5);
        due("6", rack.deviceIn(5, 0), 6);
    }

    private static void loadLeaves() {
        told(14, "No bridge is numbered, there are no windows, bases and reserves; "
                + "the gap and the text do not change.");
        BusRack rack = Checks.enumerated("0cm0p0,1b(0cm0p0)");
        rack.setReserve(1, MEMORY, 16);
        rack.setReserve(1, PORTS, 4);
        rack.setGap(2);
        rack.enumerate();
        due("load", rack.load(), 3);
        range(rack, 1, NONE, NONE);
        for (int space = 0; space < 2; space++) {
            window(rack, 1, space, NONE, 0);
            base(rack, 0, space, NONE);
            base(rack, 2, space, NONE);
            due("reserve", rack.setReserve(1, space, 0), 0);
        }
        due("the gap", rack.setGap(1), 2);
        due("the text", rack.clearText(), 17);
        due("load nothing", rack.load(), 0);
        due("the gap", rack.setGap(0), 1);
        due("at first", Checks.loaded("0b()").setGap(0), 0);
    }

    private static void loadAnswers() {
        told(14, "Returns the number of devices");
        due("none", loadOf(""), 0);
        due("one", loadOf("3c"), 1);
        due("twelve", loadOf("0b(0c,1c,2c,3c),1b(0c,1c,2c,3c),2b(3c)"), 12);
        BusRack twelve = Checks.loaded("0b(0c,1c,2c,3c),1b(0c,1c,2c,3c),2b(3cp4p3p2)");
        due("the twelfth", twelve.size(11, 2), 16);
        told(14, "-100 minus the fault (an error code) if the text is not a complete rack");
        refusedLoad("x", -100);
        refusedLoad("0", -101);
        refusedLoad("0cx", -102);
        refusedLoad("0b(", -103);
        refusedLoad(EIGHTY, -180);
        refusedLoad(EIGHTY.substring(0, 79) + "!", -179);
        refusedLoad("0b(0c,1c,2c,3c),1b(0c,1c,2c,3c),2b(0c,1c", -140);
        refusedLoad("0b(0c,1c,2c,3c),1b(0c,1c,2c,3c),2b(0c,1c)x", -141);
        told(14, "TOO_MANY if it has more than 12 devices");
        refusedLoad("0b(0c,1c,2c,3c),1b(0c,1c,2c,3c),2b(0c,3c)", TOO_MANY);
        refusedLoad("0b(0c,1c,2c,3c),1b(0c,1c,2c,3c),2b(0c,3b())", TOO_MANY);
        refusedLoad("0b(0c,1c,2c,3c),1b(0c,1c,2c,3c),2b(0cm0p0m0,3cm0p0m0)", TOO_MANY);
        refusedLoad("0b(0c,1c,2c,3c),1b(0c,1c,2c,3c),2b(0c,1c,2c,3c),3b(0c,1b(0b(0b())))", TOO_MANY);
    }

    private static void refusedLoad(String text, int code) {
        Maker written = () -> {
            BusRack rack = rich();
            rack.clearText();
            Checks.write(rack, text);
            return rack;
        };
        refused("load of " + text, written, BusRack::load, code);
    }
}
