import java.util.Arrays;

/**
 * A rack of cards on buses that are joined by bridges, as ../shared/DOC.md promises it.
 *
 * The rows of an object are made by its constructor and used again by every call, because all
 * calls of a run share one room: no call makes an object or an array.
 */
public final class BusRack {
    public static final int NO_SUCH = -1;
    public static final int BAD_VALUE = -2;
    public static final int TOO_MANY = -3;
    public static final int NOT_POSSIBLE = -4;
    public static final int NONE = -5;
    public static final int ROOT = 12;
    public static final int MEMORY = 0, PORTS = 1;

    private static final int DEVICES = 12;
    private static final int SLOTS = 4;
    private static final int REGIONS = 3;
    private static final int SPACES = 2;
    /** A bus has a part for each region of each slot; a bridge is the first part of its slot. */
    private static final int PARTS = SLOTS * REGIONS;
    private static final int BUSES = ROOT + 1;
    private static final int DEEPEST = 5;
    private static final int LAST_BUS_NUMBER = 15;
    private static final int WIDEST_GAP = 2;
    private static final int RESERVE_GRAINS = 16;
    private static final int TEXT_ROOM = 80;
    private static final int HISTORY_ROOM = 4;
    private static final int FAULT_BASE = -100;
    /** Far above what all regions and reserves of a rack take together. */
    private static final int NO_LIMIT = 1000000;
    private static final int FIRST_SIGN = 32;
    private static final int LAST_SIGN = 126;

    private static final int ABSENT = 0;
    private static final int CARD = 1;
    private static final int BRIDGE = 2;

    private final Rack rack = new Rack();
    private final Rack snapshot = new Rack();
    private boolean hasSnapshot = false;
    private final History history = new History();
    private final Layout layout = new Layout();
    private final Reader reader = new Reader();
    private final char[] text = new char[TEXT_ROOM];
    private int textLength = 0;

    public BusRack() {
    }

    // ---- devices

    public int addCard(int bus, int slot) {
        return addDevice(CARD, bus, slot);
    }

    public int addBridge(int bus, int slot) {
        return addDevice(BRIDGE, bus, slot);
    }

    private int addDevice(int kind, int bus, int slot) {
        if (!rack.isBus(bus)) {
            return NO_SUCH;
        }
        if (!isSlot(slot)) {
            return BAD_VALUE;
        }
        if (rack.deviceAt(bus, slot) != NONE || rack.depthOfBus(bus) >= DEEPEST) {
            return NOT_POSSIBLE;
        }
        int device = rack.leastFreeNumber();
        if (device == NONE) {
            return TOO_MANY;
        }
        history.record(rack);
        rack.put(device, kind, bus, slot);
        return device;
    }

    public int setRegion(int card, int region, int space, int size) {
        if (!rack.isCard(card) || !isRegion(region)) {
            return NO_SUCH;
        }
        if (!isSpace(space) || size != 0 && !isSizeOf(space, size)) {
            return BAD_VALUE;
        }
        history.record(rack);
        int previous = rack.regionSizes[regionIndex(card, region)];
        rack.changeRegion(card, region, space, size);
        return previous;
    }

    public int setReserve(int bridge, int space, int reserve) {
        if (!rack.isBridge(bridge)) {
            return NO_SUCH;
        }
        if (!isSpace(space) || !isReserveOf(space, reserve)) {
            return BAD_VALUE;
        }
        history.record(rack);
        int index = windowIndex(bridge, space);
        int previous = rack.reserves[index];
        rack.reserves[index] = reserve;
        return previous;
    }

    public int setGap(int gap) {
        if (gap < 0 || gap > WIDEST_GAP) {
            return BAD_VALUE;
        }
        history.record(rack);
        int previous = rack.gap;
        rack.gap = gap;
        return previous;
    }

    public int pull(int device) {
        if (!rack.isDevice(device)) {
            return NO_SUCH;
        }
        history.record(rack);
        int family = rack.familyOf(device);
        for (int member = 0; member < DEVICES; member++) {
            if (isIn(family, member)) {
                rack.remove(member);
            }
        }
        return Integer.bitCount(family);
    }

    // ---- numbers and addresses

    public int enumerate() {
        history.record(rack);
        for (int device = 0; device < DEVICES; device++) {
            rack.release(device);
        }
        Numbers.numberAll(rack);
        for (int space = 0; space < SPACES; space++) {
            layout.measure(rack, space);
            layout.place(rack, ROOT, space);
        }
        return rack.countUnplaced();
    }

    public int attach(int device) {
        if (!rack.isDevice(device)) {
            return NO_SUCH;
        }
        if (rack.numberOf(rack.buses[device]) == NONE) {
            return NOT_POSSIBLE;
        }
        return rack.isCard(device) ? attachCard(device) : attachBridge(device);
    }

    private int attachCard(int card) {
        history.record(rack);
        int placed = 0;
        for (int region = 0; region < REGIONS; region++) {
            int index = regionIndex(card, region);
            int size = rack.regionSizes[index];
            if (size > 0 && rack.regionBases[index] == NONE) {
                int start = Room.fitIn(rack, rack.buses[card], rack.regionSpaces[index], size, size);
                rack.regionBases[index] = start;
                placed += start == NONE ? 0 : 1;
            }
        }
        return placed;
    }

    private int attachBridge(int bridge) {
        boolean isNew = !rack.isNumbered(bridge);
        int number = isNew ? Numbers.leastFor(rack, bridge) : rack.firstNumbers[bridge];
        if (number == NONE) {
            return NOT_POSSIBLE;
        }
        history.record(rack);
        if (isNew) {
            rack.firstNumbers[bridge] = number;
            rack.lastNumbers[bridge] = number;
        }
        return attachWindow(bridge, MEMORY) + attachWindow(bridge, PORTS);
    }

    /** Where the bridge has no window, nothing below it has a base or a window. */
    private int attachWindow(int bridge, int space) {
        layout.measure(rack, space);
        int needed = layout.needs[bridge];
        if (needed == 0 || rack.windowBases[windowIndex(bridge, space)] != NONE) {
            return 0;
        }
        int start = Room.fitIn(rack, rack.buses[bridge], space, needed, layout.alignments[bridge]);
        if (start == NONE) {
            return 0;
        }
        rack.openWindow(bridge, space, start, needed);
        return layout.place(rack, bridge, space);
    }

    public int detach(int device) {
        if (!rack.isDevice(device)) {
            return NO_SUCH;
        }
        history.record(rack);
        int family = rack.familyOf(device);
        int lost = 0;
        for (int member = 0; member < DEVICES; member++) {
            if (isIn(family, member)) {
                lost += rack.release(member);
            }
        }
        return lost;
    }

    // ---- text

    public int append(int character) {
        if (character < FIRST_SIGN || character > LAST_SIGN) {
            return BAD_VALUE;
        }
        if (textLength >= TEXT_ROOM) {
            return TOO_MANY;
        }
        text[textLength] = (char) character;
        textLength++;
        return textLength;
    }

    public int clearText() {
        int previous = textLength;
        textLength = 0;
        return previous;
    }

    public int fault() {
        return reader.read(text, textLength);
    }

    public int load() {
        int fault = reader.read(text, textLength);
        if (fault != NONE) {
            return FAULT_BASE - fault;
        }
        if (reader.count > DEVICES) {
            return TOO_MANY;
        }
        history.record(rack);
        int gap = rack.gap;
        rack.copyFrom(reader.rack);
        rack.gap = gap;
        return rack.countDevices();
    }

    // ---- history and snapshot

    public int undo() {
        return history.takeLatestInto(rack);
    }

    public int save() {
        snapshot.copyFrom(rack);
        hasSnapshot = true;
        return rack.countDevices();
    }

    public int restore() {
        if (!hasSnapshot) {
            return NOT_POSSIBLE;
        }
        history.record(rack);
        rack.copyFrom(snapshot);
        return rack.countDevices();
    }

    // ---- queries about devices; they change nothing

    public int devices() {
        return rack.maskOf(CARD) | rack.maskOf(BRIDGE);
    }

    public int bridges() {
        return rack.maskOf(BRIDGE);
    }

    public int deviceIn(int bus, int slot) {
        if (!rack.isBus(bus)) {
            return NO_SUCH;
        }
        if (!isSlot(slot)) {
            return BAD_VALUE;
        }
        return rack.deviceAt(bus, slot);
    }

    public int depth(int device) {
        if (!rack.isDevice(device)) {
            return NO_SUCH;
        }
        return rack.depthOfBus(rack.buses[device]) + 1;
    }

    public int size(int card, int region) {
        if (!rack.isCard(card) || !isRegion(region)) {
            return NO_SUCH;
        }
        return rack.regionSizes[regionIndex(card, region)];
    }

    public int base(int card, int region) {
        if (!rack.isCard(card) || !isRegion(region)) {
            return NO_SUCH;
        }
        return rack.regionBases[regionIndex(card, region)];
    }

    public int firstNumber(int bridge) {
        return rack.isBridge(bridge) ? rack.firstNumbers[bridge] : NO_SUCH;
    }

    public int lastNumber(int bridge) {
        return rack.isBridge(bridge) ? rack.lastNumbers[bridge] : NO_SUCH;
    }

    public int windowBase(int bridge, int space) {
        if (!rack.isBridge(bridge)) {
            return NO_SUCH;
        }
        return isSpace(space) ? rack.windowBases[windowIndex(bridge, space)] : BAD_VALUE;
    }

    public int windowSize(int bridge, int space) {
        if (!rack.isBridge(bridge)) {
            return NO_SUCH;
        }
        return isSpace(space) ? rack.windowSizes[windowIndex(bridge, space)] : BAD_VALUE;
    }

    public int need(int bridge, int space) {
        if (!rack.isBridge(bridge)) {
            return NO_SUCH;
        }
        if (!isSpace(space)) {
            return BAD_VALUE;
        }
        layout.measure(rack, space);
        return layout.needs[bridge];
    }

    public int unplaced() {
        return rack.countUnplaced();
    }

    // ---- queries about numbers and addresses

    public int answer(int number, int slot) {
        if (number < 0 || number > LAST_BUS_NUMBER || !isSlot(slot)) {
            return BAD_VALUE;
        }
        return rack.deviceAt(rack.busWithNumber(number), slot);
    }

    public int find(int space, int address) {
        if (!isSpace(space) || address < 0 || address >= addressesOf(space)) {
            return BAD_VALUE;
        }
        return rack.regionCovering(space, address);
    }

    public int freeRoom(int bus, int space) {
        if (!rack.isBus(bus)) {
            return NO_SUCH;
        }
        return isSpace(space) ? Room.countFree(rack, bus, space) : BAD_VALUE;
    }

    public int firstFit(int bus, int space, int size) {
        if (!rack.isBus(bus)) {
            return NO_SUCH;
        }
        if (!isSpace(space) || !isSizeOf(space, size)) {
            return BAD_VALUE;
        }
        return Room.fitIn(rack, bus, space, size, size);
    }

    // ---- ranges and the facts of the spaces

    private static boolean isSlot(int slot) {
        return slot >= 0 && slot < SLOTS;
    }

    private static boolean isRegion(int region) {
        return region >= 0 && region < REGIONS;
    }

    private static boolean isSpace(int space) {
        return space == MEMORY || space == PORTS;
    }

    private static boolean isSizeOf(int space, int size) {
        return size >= grainOf(space) && size <= largestSizeOf(space) && Integer.bitCount(size) == 1;
    }

    private static boolean isReserveOf(int space, int reserve) {
        int grain = grainOf(space);
        return reserve >= 0 && reserve <= RESERVE_GRAINS * grain && roundUp(reserve, grain) == reserve;
    }

    private static int addressesOf(int space) {
        return space == MEMORY ? 4096 : 256;
    }

    private static int grainOf(int space) {
        return space == MEMORY ? 16 : 4;
    }

    private static int largestExponentOf(int space) {
        return space == MEMORY ? 6 : 4;
    }

    private static int largestSizeOf(int space) {
        return grainOf(space) << largestExponentOf(space);
    }

    private static int regionIndex(int card, int region) {
        return card * REGIONS + region;
    }

    private static int windowIndex(int bridge, int space) {
        return bridge * SPACES + space;
    }

    private static boolean isIn(int mask, int device) {
        return (mask >> device & 1) == 1;
    }

    /** The mask serves for a remainder because every alignment is a power of two. */
    private static int roundUp(int position, int alignment) {
        return position + alignment - 1 & -alignment;
    }

    /** The state: the devices with all that belongs to them, and the gap. */
    private static final class Rack {
        final int[] kinds = new int[DEVICES];
        final int[] buses = new int[DEVICES];
        final int[] slots = new int[DEVICES];
        /** The device in each slot of each bus, NONE in an empty one. */
        final int[] held = new int[BUSES * SLOTS];
        final int[] regionSpaces = new int[DEVICES * REGIONS];
        final int[] regionSizes = new int[DEVICES * REGIONS];
        final int[] regionBases = new int[DEVICES * REGIONS];
        final int[] reserves = new int[DEVICES * SPACES];
        final int[] windowBases = new int[DEVICES * SPACES];
        final int[] windowSizes = new int[DEVICES * SPACES];
        final int[] firstNumbers = new int[DEVICES];
        final int[] lastNumbers = new int[DEVICES];
        int gap = 0;

        Rack() {
            empty();
        }

        void empty() {
            Arrays.fill(kinds, ABSENT);
            Arrays.fill(buses, ROOT);
            Arrays.fill(slots, 0);
            Arrays.fill(held, NONE);
            Arrays.fill(regionSpaces, MEMORY);
            Arrays.fill(regionSizes, 0);
            Arrays.fill(regionBases, NONE);
            Arrays.fill(reserves, 0);
            Arrays.fill(windowBases, NONE);
            Arrays.fill(windowSizes, 0);
            Arrays.fill(firstNumbers, NONE);
            Arrays.fill(lastNumbers, NONE);
        }

        void copyFrom(Rack other) {
            System.arraycopy(other.kinds, 0, kinds, 0, DEVICES);
            System.arraycopy(other.buses, 0, buses, 0, DEVICES);
            System.arraycopy(other.slots, 0, slots, 0, DEVICES);
            System.arraycopy(other.held, 0, held, 0, BUSES * SLOTS);
            System.arraycopy(other.regionSpaces, 0, regionSpaces, 0, DEVICES * REGIONS);
            System.arraycopy(other.regionSizes, 0, regionSizes, 0, DEVICES * REGIONS);
            System.arraycopy(other.regionBases, 0, regionBases, 0, DEVICES * REGIONS);
            System.arraycopy(other.reserves, 0, reserves, 0, DEVICES * SPACES);
            System.arraycopy(other.windowBases, 0, windowBases, 0, DEVICES * SPACES);
            System.arraycopy(other.windowSizes, 0, windowSizes, 0, DEVICES * SPACES);
            System.arraycopy(other.firstNumbers, 0, firstNumbers, 0, DEVICES);
            System.arraycopy(other.lastNumbers, 0, lastNumbers, 0, DEVICES);
            gap = other.gap;
        }

        boolean isDevice(int device) {
            return device >= 0 && device < DEVICES && kinds[device] != ABSENT;
        }

        boolean isCard(int device) {
            return device >= 0 && device < DEVICES && kinds[device] == CARD;
        }

        boolean isBridge(int device) {
            return device >= 0 && device < DEVICES && kinds[device] == BRIDGE;
        }

        boolean isNumbered(int device) {
            return device >= 0 && device < DEVICES && firstNumbers[device] != NONE;
        }

        boolean isBus(int bus) {
            return bus == ROOT || isBridge(bus);
        }

        int deviceAt(int bus, int slot) {
            boolean isPlace = bus >= 0 && bus < BUSES && slot >= 0 && slot < SLOTS;
            return isPlace ? held[bus * SLOTS + slot] : NONE;
        }

        int leastFreeNumber() {
            for (int device = 0; device < DEVICES; device++) {
                if (kinds[device] == ABSENT) {
                    return device;
                }
            }
            return NONE;
        }

        /** The rows of an absent device are always as those of a new one. */
        void put(int device, int kind, int bus, int slot) {
            kinds[device] = kind;
            buses[device] = bus;
            slots[device] = slot;
            held[bus * SLOTS + slot] = device;
        }

        void remove(int device) {
            release(device);
            for (int region = 0; region < REGIONS; region++) {
                regionSizes[regionIndex(device, region)] = 0;
            }
            for (int space = 0; space < SPACES; space++) {
                reserves[windowIndex(device, space)] = 0;
            }
            kinds[device] = ABSENT;
            held[buses[device] * SLOTS + slots[device]] = NONE;
        }

        void changeRegion(int card, int region, int space, int size) {
            int index = regionIndex(card, region);
            regionSpaces[index] = space;
            regionSizes[index] = size;
            regionBases[index] = NONE;
        }

        void openWindow(int bridge, int space, int start, int size) {
            windowBases[windowIndex(bridge, space)] = start;
            windowSizes[windowIndex(bridge, space)] = size;
        }

        /** Takes away what numbering and placing gave; answers how many regions lose a base. */
        int release(int device) {
            firstNumbers[device] = NONE;
            lastNumbers[device] = NONE;
            for (int space = 0; space < SPACES; space++) {
                windowBases[windowIndex(device, space)] = NONE;
                windowSizes[windowIndex(device, space)] = 0;
            }
            int lost = 0;
            for (int region = 0; region < REGIONS; region++) {
                int index = regionIndex(device, region);
                lost += regionBases[index] == NONE ? 0 : 1;
                regionBases[index] = NONE;
            }
            return lost;
        }

        /** The depth of the bridge of the bus, 0 for the root bus. */
        int depthOfBus(int bus) {
            int depth = 0;
            int above = bus;
            while (depth < DEEPEST && isBridge(above)) {
                above = buses[above];
                depth++;
            }
            return depth;
        }

        boolean isWithin(int device, int top) {
            int above = device;
            for (int level = 1; level < DEEPEST && above != top && isDevice(above); level++) {
                above = buses[above];
            }
            return above == top;
        }

        /** The mask of the device and of all devices below it. */
        int familyOf(int top) {
            int family = 0;
            for (int device = 0; device < DEVICES; device++) {
                if (isDevice(device) && isWithin(device, top)) {
                    family |= 1 << device;
                }
            }
            return family;
        }

        int maskOf(int kind) {
            int mask = 0;
            for (int device = 0; device < DEVICES; device++) {
                if (kinds[device] == kind) {
                    mask |= 1 << device;
                }
            }
            return mask;
        }

        int countDevices() {
            return DEVICES - Integer.bitCount(maskOf(ABSENT));
        }

        int countUnplaced() {
            int count = 0;
            for (int index = 0; index < DEVICES * REGIONS; index++) {
                if (regionSizes[index] > 0 && regionBases[index] == NONE) {
                    count++;
                }
            }
            return count;
        }

        int numberOf(int bus) {
            if (bus == ROOT) {
                return 0;
            }
            return isBridge(bus) ? firstNumbers[bus] : NONE;
        }

        int busWithNumber(int number) {
            if (number == 0) {
                return ROOT;
            }
            for (int device = 0; device < DEVICES; device++) {
                if (firstNumbers[device] == number) {
                    return device;
                }
            }
            return NONE;
        }

        int regionCovering(int space, int address) {
            for (int index = 0; index < DEVICES * REGIONS; index++) {
                int start = regionBases[index];
                if (start != NONE && regionSpaces[index] == space
                        && start <= address && address < start + regionSizes[index]) {
                    return index;
                }
            }
            return NONE;
        }
    }

    /** The latest states, the oldest one first. */
    private static final class History {
        private final Rack[] states = new Rack[HISTORY_ROOM];
        private int count = 0;

        History() {
            for (int i = 0; i < HISTORY_ROOM; i++) {
                states[i] = new Rack();
            }
        }

        void record(Rack rack) {
            if (count >= HISTORY_ROOM) {
                dropOldest();
            }
            Rack state = states[count];
            if (state != null) {
                state.copyFrom(rack);
                count++;
            }
        }

        /** The dropped state's object goes to the end, to be filled again. */
        private void dropOldest() {
            Rack oldest = states[0];
            for (int i = 1; i < HISTORY_ROOM; i++) {
                states[i - 1] = states[i];
            }
            states[HISTORY_ROOM - 1] = oldest;
            count = HISTORY_ROOM - 1;
        }

        int takeLatestInto(Rack rack) {
            if (count <= 0) {
                return NONE;
            }
            count--;
            Rack state = states[count];
            if (state != null) {
                rack.copyFrom(state);
            }
            return count;
        }
    }

    /** The bus numbers. */
    private static final class Numbers {
        /** No bridge may be numbered before. */
        static void numberAll(Rack rack) {
            numberBus(rack, ROOT, 1, 1);
        }

        /** Answers the next bus number after the visit; depth is that of the devices on the bus. */
        private static int numberBus(Rack rack, int bus, int next, int depth) {
            if (depth > DEEPEST) {
                return next;
            }
            int free = next;
            for (int slot = 0; slot < SLOTS; slot++) {
                int device = rack.deviceAt(bus, slot);
                if (rack.isBridge(device) && free <= LAST_BUS_NUMBER) {
                    rack.firstNumbers[device] = free;
                    int after = numberBus(rack, device, free + 1, depth + 1);
                    rack.lastNumbers[device] = Math.min(LAST_BUS_NUMBER, after - 1 + rack.gap);
                    free = rack.lastNumbers[device] + 1;
                }
            }
            return free;
        }

        /** The least number for a bridge that is not numbered, NONE if there is none. */
        static int leastFor(Rack rack, int bridge) {
            int bus = rack.buses[bridge];
            int last = rack.isBridge(bus) ? rack.lastNumbers[bus] : LAST_BUS_NUMBER;
            for (int number = rack.numberOf(bus) + 1; number <= last; number++) {
                if (!isTaken(rack, bus, number)) {
                    return number;
                }
            }
            return NONE;
        }

        private static boolean isTaken(Rack rack, int bus, int number) {
            for (int slot = 0; slot < SLOTS; slot++) {
                int device = rack.deviceAt(bus, slot);
                if (rack.isNumbered(device) && rack.firstNumbers[device] <= number
                        && number <= rack.lastNumbers[device]) {
                    return true;
                }
            }
            return false;
        }
    }

    /** The free room of the buses. */
    private static final class Room {
        static int startOf(Rack rack, int bus, int space) {
            return rack.isBridge(bus) ? rack.windowBases[windowIndex(bus, space)] : 0;
        }

        private static int extentOf(Rack rack, int bus, int space) {
            return rack.isBridge(bus) ? rack.windowSizes[windowIndex(bus, space)] : addressesOf(space);
        }

        /** Where the part covers addresses of the space; NONE if it covers none. */
        private static int coverStart(Rack rack, int bus, int space, int part) {
            int device = rack.deviceAt(bus, part / REGIONS);
            int region = part % REGIONS;
            if (rack.isCard(device) && rack.regionSpaces[regionIndex(device, region)] == space) {
                return rack.regionBases[regionIndex(device, region)];
            }
            if (rack.isBridge(device) && region == 0) {
                return rack.windowBases[windowIndex(device, space)];
            }
            return NONE;
        }

        /** How many addresses the part covers if it covers any. */
        private static int coverSize(Rack rack, int bus, int space, int part) {
            int device = rack.deviceAt(bus, part / REGIONS);
            if (rack.isCard(device)) {
                return rack.regionSizes[regionIndex(device, part % REGIONS)];
            }
            return rack.isBridge(device) ? rack.windowSizes[windowIndex(device, space)] : 0;
        }

        /** What the parts cover is in the room, and no two parts cover the same address. */
        static int countFree(Rack rack, int bus, int space) {
            int free = extentOf(rack, bus, space);
            for (int part = 0; part < PARTS; part++) {
                if (coverStart(rack, bus, space, part) != NONE) {
                    free -= coverSize(rack, bus, space, part);
                }
            }
            return free;
        }

        /** Each pass but the last one goes beyond a part, and there are only so many of them. */
        static int fitIn(Rack rack, int bus, int space, int size, int alignment) {
            int end = startOf(rack, bus, space) + extentOf(rack, bus, space);
            int start = roundUp(startOf(rack, bus, space), alignment);
            for (int pass = 0; pass <= PARTS && start + size <= end; pass++) {
                int coverEnd = endOfCover(rack, bus, space, start, start + size);
                if (coverEnd == NONE) {
                    return start;
                }
                start = roundUp(coverEnd, alignment);
            }
            return NONE;
        }

        /** The end of a part that covers addresses from start to before end; NONE without one. */
        private static int endOfCover(Rack rack, int bus, int space, int start, int end) {
            for (int part = 0; part < PARTS; part++) {
                int from = coverStart(rack, bus, space, part);
                int to = from + coverSize(rack, bus, space, part);
                if (from != NONE && from < end && to > start) {
                    return to;
                }
            }
            return NONE;
        }
    }

    /** Needs, and placing by them. The rows are used again for each space and each bus. */
    private static final class Layout {
        /** What was measured last, of all bridges. */
        final int[] needs = new int[DEVICES];
        final int[] alignments = new int[DEVICES];
        /** The items that were listed last, by the parts of their bus; the size of no item is 0. */
        private final int[] itemSizes = new int[PARTS];
        private final int[] itemAlignments = new int[PARTS];
        /** The starts of these items, NONE if left out. */
        private final int[] starts = new int[PARTS];
        private final int[] waitingBuses = new int[BUSES];
        private int waiting = 0;

        /** The deepest bridges come first, because a need is made of the needs below. */
        void measure(Rack rack, int space) {
            for (int depth = DEEPEST; depth > 0; depth--) {
                for (int bridge = 0; bridge < DEVICES; bridge++) {
                    if (rack.isBridge(bridge) && rack.depthOfBus(bridge) == depth) {
                        measureBridge(rack, bridge, space);
                    }
                }
            }
        }

        private void measureBridge(Rack rack, int bridge, int space) {
            listItems(rack, bridge, space);
            needs[bridge] = pack(space, 0, NO_LIMIT) + rack.reserves[windowIndex(bridge, space)];
            alignments[bridge] = greatestAlignment(space);
        }

        private void listItems(Rack rack, int bus, int space) {
            for (int part = 0; part < PARTS; part++) {
                int device = rack.deviceAt(bus, part / REGIONS);
                int region = part % REGIONS;
                itemSizes[part] = 0;
                if (rack.isCard(device) && rack.regionSpaces[regionIndex(device, region)] == space) {
                    itemSizes[part] = rack.regionSizes[regionIndex(device, region)];
                    itemAlignments[part] = itemSizes[part];
                }
                if (rack.isNumbered(device) && region == 0) {
                    itemSizes[part] = needs[device];
                    itemAlignments[part] = alignments[device];
                }
            }
        }

        private int greatestAlignment(int space) {
            int greatest = grainOf(space);
            for (int part = 0; part < PARTS; part++) {
                if (itemSizes[part] > 0) {
                    greatest = Math.max(greatest, itemAlignments[part]);
                }
            }
            return greatest;
        }

        /** Answers the position at the end; an item that would end beyond the limit is left out. */
        private int pack(int space, int from, int limit) {
            Arrays.fill(starts, NONE);
            int position = from;
            for (int exponent = largestExponentOf(space); exponent >= 0; exponent--) {
                int alignment = grainOf(space) << exponent;
                for (int part = 0; part < PARTS; part++) {
                    int start = roundUp(position, alignment);
                    boolean isNext = itemSizes[part] > 0 && itemAlignments[part] == alignment;
                    if (isNext && start + itemSizes[part] <= limit) {
                        starts[part] = start;
                        position = start + itemSizes[part];
                    }
                }
            }
            return position;
        }

        /** Places what is below the bus, after measuring; answers how many regions get a base. */
        int place(Rack rack, int bus, int space) {
            waitingBuses[0] = bus;
            waiting = 1;
            int placed = 0;
            for (int next = 0; next < waiting && next < BUSES; next++) {
                placed += placeItems(rack, waitingBuses[next], space);
            }
            return placed;
        }

        private int placeItems(Rack rack, int bus, int space) {
            listItems(rack, bus, space);
            pack(space, Room.startOf(rack, bus, space), addressesOf(space));
            int placed = 0;
            for (int part = 0; part < PARTS; part++) {
                int device = rack.deviceAt(bus, part / REGIONS);
                if (starts[part] != NONE && rack.isCard(device)) {
                    rack.regionBases[regionIndex(device, part % REGIONS)] = starts[part];
                    placed++;
                }
                if (starts[part] != NONE && rack.isBridge(device) && waiting < BUSES) {
                    rack.openWindow(device, space, starts[part], itemSizes[part]);
                    waitingBuses[waiting] = device;
                    waiting++;
                }
            }
            return placed;
        }
    }

    /** Reads a text sign by sign, and builds the rack that it writes. */
    private static final class Reader {
        private static final int BUS_BEGINS = 0;
        private static final int SLOT_DUE = 1;
        private static final int KIND_DUE = 2;
        private static final int OPENING_DUE = 3;
        private static final int REGION_OR_END_DUE = 4;
        private static final int EXPONENT_DUE = 5;
        private static final int END_DUE = 6;

        /** What was read, but for devices beyond the twelfth, which are only counted. */
        final Rack rack = new Rack();
        int count = 0;
        private int due = BUS_BEGINS;
        /** How many bridges are open; the rows have a place for each such number. */
        private int level = 0;
        private final int[] openBuses = new int[DEEPEST + 1];
        private final int[] lastSlots = new int[DEEPEST + 1];
        private int regions = 0;
        private int space = MEMORY;

        /** Answers the fault, NONE without one. */
        int read(char[] text, int length) {
            rack.empty();
            count = 0;
            level = 0;
            beginBus(ROOT);
            for (int i = 0; i < length && i < text.length; i++) {
                if (!takes(text[i])) {
                    return i;
                }
            }
            return isComplete() ? NONE : length;
        }

        private void beginBus(int bus) {
            openBuses[level] = bus;
            lastSlots[level] = -1;
            due = BUS_BEGINS;
        }

        private boolean isComplete() {
            return level == 0 && (due == BUS_BEGINS || due == REGION_OR_END_DUE || due == END_DUE);
        }

        private boolean takes(char sign) {
            switch (due) {
                case BUS_BEGINS:
                    return takesClosing(sign) || takesSlot(sign);
                case SLOT_DUE:
                    return takesSlot(sign);
                case KIND_DUE:
                    return takesKind(sign);
                case OPENING_DUE:
                    return takesOpening(sign);
                case REGION_OR_END_DUE:
                    return takesSpace(sign) || takesEnd(sign);
                case EXPONENT_DUE:
                    return takesExponent(sign);
                default:
                    return takesEnd(sign);
            }
        }

        private boolean takesSlot(char sign) {
            int slot = sign - '0';
            if (level >= DEEPEST || slot <= lastSlots[level] || slot >= SLOTS) {
                return false;
            }
            lastSlots[level] = slot;
            due = KIND_DUE;
            return true;
        }

        private boolean takesKind(char sign) {
            if (sign == 'c') {
                addToRack(CARD);
                regions = 0;
                due = REGION_OR_END_DUE;
                return true;
            }
            if (sign == 'b') {
                addToRack(BRIDGE);
                due = OPENING_DUE;
                return true;
            }
            return false;
        }

        private void addToRack(int kind) {
            if (count < DEVICES) {
                rack.put(count, kind, openBuses[level], lastSlots[level]);
            }
            count++;
        }

        private boolean takesOpening(char sign) {
            if (sign != '(' || level >= DEEPEST) {
                return false;
            }
            level++;
            beginBus(count - 1);
            return true;
        }

        private boolean takesSpace(char sign) {
            if (regions >= REGIONS || sign != 'm' && sign != 'p') {
                return false;
            }
            space = sign == 'm' ? MEMORY : PORTS;
            due = EXPONENT_DUE;
            return true;
        }

        private boolean takesExponent(char sign) {
            int exponent = sign - '0';
            if (exponent < 0 || exponent > largestExponentOf(space)) {
                return false;
            }
            if (count <= DEVICES) {
                rack.changeRegion(count - 1, regions, space, grainOf(space) << exponent);
            }
            regions++;
            due = REGION_OR_END_DUE;
            return true;
        }

        private boolean takesEnd(char sign) {
            if (sign == ',' && lastSlots[level] < SLOTS - 1) {
                due = SLOT_DUE;
                return true;
            }
            return takesClosing(sign);
        }

        private boolean takesClosing(char sign) {
            if (sign != ')' || level == 0) {
                return false;
            }
            level--;
            due = END_DUE;
            return true;
        }
    }
}
