/**
 * All that calls can tell of a rack: its state, its text, its history and its snapshot. Each look
 * takes a new rack of the same making, so that no rack gets more calls than the document allows.
 */
final class Whole {
    private static final int ROOT = 12, SPACES = 2, REGIONS = 3;

    private Whole() {
    }

    static String of(Sentences.Maker maker) {
        StringBuilder whole = new StringBuilder();
        for (int undone = 0; undone <= 5; undone++) {
            BusRack rack = maker.make();
            for (int i = 0; i < undone; i++) {
                tell(whole, "undo", rack.undo());
            }
            whole.append(stateOf(rack));
        }
        BusRack rack = maker.make();
        tell(whole, "restore", rack.restore());
        whole.append(stateOf(rack));
        rack = maker.make();
        tell(whole, "load", rack.load());
        whole.append(stateOf(rack));
        return whole.append(textOf(maker.make())).toString();
    }

    private static String textOf(BusRack rack) {
        StringBuilder text = new StringBuilder();
        tell(text, "fault", rack.fault());
        tell(text, "append", rack.append('0'));
        tell(text, "fault", rack.fault());
        tell(text, "clearText", rack.clearText());
        return text.toString();
    }

    /** Changes the rack in the end, because nothing else tells the gap, and the space of a region. */
    static String stateOf(BusRack rack) {
        StringBuilder state = new StringBuilder("\n");
        tell(state, "devices", rack.devices());
        tell(state, "bridges", rack.bridges());
        tell(state, "unplaced", rack.unplaced());
        for (int bus = 0; bus <= ROOT; bus++) {
            if (bus == ROOT || rack.firstNumber(bus) != BusRack.NO_SUCH) {
                tellBus(state, rack, bus);
            }
        }
        tellDevices(state, rack);
        tell(state, "gap", rack.setGap(0));
        tell(state, "enumerate", rack.enumerate());
        tellDevices(state, rack);
        return state.toString();
    }

    private static void tellBus(StringBuilder state, BusRack rack, int bus) {
        for (int slot = 0; slot < 4; slot++) {
            tell(state, "deviceIn", rack.deviceIn(bus, slot));
        }
        for (int space = 0; space < SPACES; space++) {
            tell(state, "freeRoom", rack.freeRoom(bus, space));
            tell(state, "firstFit", rack.firstFit(bus, space, space == 0 ? 16 : 4));
        }
    }

    private static void tellDevices(StringBuilder state, BusRack rack) {
        int devices = rack.devices();
        int bridges = rack.bridges();
        for (int device = 0; device < ROOT; device++) {
            if ((bridges >> device & 1) == 1) {
                tellBridge(state, rack, device);
            } else if ((devices >> device & 1) == 1) {
                tellCard(state, rack, device);
            }
        }
    }

    private static void tellBridge(StringBuilder state, BusRack rack, int bridge) {
        tell(state, "bridge", bridge);
        tell(state, "depth", rack.depth(bridge));
        tell(state, "firstNumber", rack.firstNumber(bridge));
        tell(state, "lastNumber", rack.lastNumber(bridge));
        for (int space = 0; space < SPACES; space++) {
            tell(state, "windowBase", rack.windowBase(bridge, space));
            tell(state, "windowSize", rack.windowSize(bridge, space));
            tell(state, "need", rack.need(bridge, space));
        }
    }

    private static void tellCard(StringBuilder state, BusRack rack, int card) {
        tell(state, "card", card);
        tell(state, "depth", rack.depth(card));
        for (int region = 0; region < REGIONS; region++) {
            tell(state, "size", rack.size(card, region));
            int base = rack.base(card, region);
            tell(state, "base", base);
            tell(state, "find", base < 0 ? 0 : rack.find(0, base));
        }
    }

    private static void tell(StringBuilder whole, String call, int answer) {
        whole.append(call).append(' ').append(answer).append('\n');
    }
}
