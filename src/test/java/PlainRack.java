import java.util.ArrayList;
import java.util.Comparator;
import java.util.List;

/**
 * The document once more, as slowly and plainly as its words go: a tree of objects, rooms of
 * single addresses, and the fault of a text by trying completions. ReferenceTest compares it.
 */
final class PlainRack {
    static final int NO_SUCH = -1, BAD_VALUE = -2, TOO_MANY = -3, NOT_POSSIBLE = -4, NONE = -5, ROOT = 12;
    static final int[] ADDRESSES = {4096, 256};
    static final int[] GRAINS = {16, 4};
    static final int[] GREATEST = {1024, 64};

    static final class Device {
        boolean bridge;
        int bus, slot, first = NONE, last = NONE;
        int[] spaces = new int[3], sizes = new int[3], bases = {NONE, NONE, NONE};
        int[] reserves = new int[2], windows = {NONE, NONE}, windowSizes = new int[2];

        Device copy() {
            Device other = new Device();
            other.bridge = bridge;
            other.bus = bus;
            other.slot = slot;
            other.first = first;
            other.last = last;
            other.spaces = spaces.clone();
            other.sizes = sizes.clone();
            other.bases = bases.clone();
            other.reserves = reserves.clone();
            other.windows = windows.clone();
            other.windowSizes = windowSizes.clone();
            return other;
        }
    }

    static final class State {
        Device[] devices = new Device[12];
        int gap;

        State copy() {
            State other = new State();
            other.gap = gap;
            for (int i = 0; i < 12; i++) {
                other.devices[i] = devices[i] == null ? null : devices[i].copy();
            }
            return other;
        }
    }

    /** An item of a bus: region is NONE for a bridge. */
    record Item(Device device, int region, int size, int alignment) {
        int slot() {
            return device.slot;
        }
    }

    private State now = new State();
    private State saved = null;
    private final List<State> history = new ArrayList<>();
    private String text = "";

    private void record() {
        history.add(now.copy());
        if (history.size() > 4) {
            history.remove(0);
        }
    }

    private Device device(int number) {
        return number < 0 || number > 11 ? null : now.devices[number];
    }

    private Device bridge(int number) {
        Device device = device(number);
        return device != null && device.bridge ? device : null;
    }

    private Device card(int number) {
        Device device = device(number);
        return device != null && !device.bridge ? device : null;
    }

    private boolean noBus(int bus) {
        return bus != ROOT && bridge(bus) == null;
    }

    private int numberOf(Device device) {
        for (int i = 0; i < 12; i++) {
            if (now.devices[i] == device) {
                return i;
            }
        }
        return NONE;
    }

    private List<Device> on(int bus) {
        List<Device> found = new ArrayList<>();
        for (Device device : now.devices) {
            if (device != null && device.bus == bus) {
                found.add(device);
            }
        }
        found.sort(Comparator.comparingInt(device -> device.slot));
        return found;
    }

    private int depthOf(Device device) {
        return device.bus == ROOT ? 1 : 1 + depthOf(now.devices[device.bus]);
    }

    private List<Device> family(Device top) {
        List<Device> found = new ArrayList<>();
        found.add(top);
        if (top.bridge) {
            for (Device below : on(numberOf(top))) {
                found.addAll(family(below));
            }
        }
        return found;
    }

    private static boolean badSpace(int space) {
        return space != 0 && space != 1;
    }

    private static boolean badSize(int space, int size) {
        for (int good = GRAINS[space]; good <= GREATEST[space]; good *= 2) {
            if (good == size) {
                return false;
            }
        }
        return true;
    }

    // ---- devices

    int add(boolean isBridge, int bus, int slot) {
        if (noBus(bus)) {
            return NO_SUCH;
        }
        if (slot < 0 || slot > 3) {
            return BAD_VALUE;
        }
        if (on(bus).stream().anyMatch(other -> other.slot == slot)) {
            return NOT_POSSIBLE;
        }
        if (bus != ROOT && depthOf(bridge(bus)) == 5) {
            return NOT_POSSIBLE;
        }
        for (int i = 0; i < 12; i++) {
            if (now.devices[i] == null) {
                record();
                now.devices[i] = new Device();
                now.devices[i].bridge = isBridge;
                now.devices[i].bus = bus;
                now.devices[i].slot = slot;
                return i;
            }
        }
        return TOO_MANY;
    }

    int setRegion(int number, int region, int space, int size) {
        if (card(number) == null || region < 0 || region > 2) {
            return NO_SUCH;
        }
        if (badSpace(space) || size != 0 && badSize(space, size)) {
            return BAD_VALUE;
        }
        record();
        Device card = card(number);
        int previous = card.sizes[region];
        card.spaces[region] = space;
        card.sizes[region] = size;
        card.bases[region] = NONE;
        return previous;
    }

    int setReserve(int number, int space, int reserve) {
        if (bridge(number) == null) {
            return NO_SUCH;
        }
        if (badSpace(space) || reserve < 0 || reserve > 16 * GRAINS[space] || reserve % GRAINS[space] != 0) {
            return BAD_VALUE;
        }
        record();
        int previous = bridge(number).reserves[space];
        bridge(number).reserves[space] = reserve;
        return previous;
    }

    int setGap(int gap) {
        if (gap < 0 || gap > 2) {
            return BAD_VALUE;
        }
        record();
        int previous = now.gap;
        now.gap = gap;
        return previous;
    }

    int pull(int number) {
        if (device(number) == null) {
            return NO_SUCH;
        }
        record();
        List<Device> gone = family(device(number));
        for (Device device : gone) {
            now.devices[numberOf(device)] = null;
        }
        return gone.size();
    }

    // ---- numbers and addresses

    private int next;

    private void visit(Device device) {
        if (!device.bridge || next == 16) {
            return;
        }
        device.first = next++;
        on(numberOf(device)).forEach(this::visit);
        device.last = Math.min(15, next - 1 + now.gap);
        next = device.last + 1;
    }

    private List<Item> items(int bus, int space) {
        List<Item> items = new ArrayList<>();
        for (Device device : on(bus)) {
            for (int region = 0; region < 3; region++) {
                if (!device.bridge && device.sizes[region] > 0 && device.spaces[region] == space) {
                    items.add(new Item(device, region, device.sizes[region], device.sizes[region]));
                }
            }
            if (device.bridge && device.first != NONE && need(device, space) > 0) {
                items.add(new Item(device, NONE, need(device, space), alignment(device, space)));
            }
        }
        items.sort(Comparator.comparingInt((Item item) -> -item.alignment())
                .thenComparingInt(Item::slot).thenComparingInt(Item::region));
        return items;
    }

    private static int leastMultiple(int alignment, int position) {
        while (position % alignment != 0) {
            position++;
        }
        return position;
    }

    private int need(Device bridge, int space) {
        int position = 0;
        for (Item item : items(numberOf(bridge), space)) {
            position = leastMultiple(item.alignment(), position) + item.size();
        }
        return position + bridge.reserves[space];
    }

    private int alignment(Device bridge, int space) {
        List<Item> items = items(numberOf(bridge), space);
        return items.isEmpty() ? GRAINS[space] : items.get(0).alignment();
    }

    private int place(int bus, int space, int from) {
        int placed = 0;
        int position = from;
        for (Item item : items(bus, space)) {
            int start = leastMultiple(item.alignment(), position);
            if (bus == ROOT && start + item.size() > ADDRESSES[space]) {
                continue;
            }
            position = start + item.size();
            if (item.region() == NONE) {
                placed += open(item.device(), space, start);
            } else {
                item.device().bases[item.region()] = start;
                placed++;
            }
        }
        return placed;
    }

    private int open(Device bridge, int space, int start) {
        bridge.windows[space] = start;
        bridge.windowSizes[space] = need(bridge, space);
        return place(numberOf(bridge), space, start);
    }

    private static int release(Device device) {
        int lost = 0;
        for (int region = 0; region < 3; region++) {
            lost += device.bases[region] == NONE ? 0 : 1;
        }
        device.bases = new int[] {NONE, NONE, NONE};
        device.windows = new int[] {NONE, NONE};
        device.windowSizes = new int[2];
        device.first = NONE;
        device.last = NONE;
        return lost;
    }

    int enumerate() {
        record();
        for (Device device : now.devices) {
            if (device != null) {
                release(device);
            }
        }
        next = 1;
        on(ROOT).forEach(this::visit);
        place(ROOT, 0, 0);
        place(ROOT, 1, 0);
        return unplaced();
    }

    private int leastNumber(Device bridge) {
        int bus = bridge.bus == ROOT ? 0 : bridge(bridge.bus).first;
        int last = bridge.bus == ROOT ? 15 : bridge(bridge.bus).last;
        for (int n = bus + 1; n <= last; n++) {
            boolean free = true;
            for (Device other : on(bridge.bus)) {
                free &= other == bridge || other.first == NONE || n < other.first || n > other.last;
            }
            if (free) {
                return n;
            }
        }
        return NONE;
    }

    int attach(int number) {
        Device device = device(number);
        if (device == null) {
            return NO_SUCH;
        }
        if (device.bus != ROOT && bridge(device.bus).first == NONE) {
            return NOT_POSSIBLE;
        }
        if (device.bridge && device.first == NONE && leastNumber(device) == NONE) {
            return NOT_POSSIBLE;
        }
        record();
        return device.bridge ? attachBridge(device) : attachCard(device);
    }

    private int attachCard(Device card) {
        int placed = 0;
        for (int region = 0; region < 3; region++) {
            if (card.sizes[region] > 0 && card.bases[region] == NONE) {
                card.bases[region] = fit(card.bus, card.spaces[region], card.sizes[region], card.sizes[region]);
                placed += card.bases[region] == NONE ? 0 : 1;
            }
        }
        return placed;
    }

    private int attachBridge(Device bridge) {
        if (bridge.first == NONE) {
            bridge.first = leastNumber(bridge);
            bridge.last = bridge.first;
        }
        int placed = 0;
        for (int space = 0; space < 2; space++) {
            if (bridge.windows[space] == NONE && need(bridge, space) > 0) {
                int start = fit(bridge.bus, space, need(bridge, space), alignment(bridge, space));
                placed += start == NONE ? 0 : open(bridge, space, start);
            }
        }
        return placed;
    }

    int detach(int number) {
        if (device(number) == null) {
            return NO_SUCH;
        }
        record();
        int lost = 0;
        for (Device device : family(device(number))) {
            lost += release(device);
        }
        return lost;
    }

    // ---- text

    int append(int character) {
        if (character < 32 || character > 126) {
            return BAD_VALUE;
        }
        if (text.length() == 80) {
            return TOO_MANY;
        }
        text += (char) character;
        return text.length();
    }

    int clearText() {
        int previous = text.length();
        text = "";
        return previous;
    }

    private static List<String> split(String items) {
        List<String> found = new ArrayList<>();
        int open = 0;
        int from = 0;
        for (int i = 0; i < items.length(); i++) {
            char sign = items.charAt(i);
            open += sign == '(' ? 1 : sign == ')' ? -1 : 0;
            if (sign == ',' && open == 0) {
                found.add(items.substring(from, i));
                from = i + 1;
            }
        }
        found.add(items.substring(from));
        return found;
    }

    private static boolean isItems(String items, int depth) {
        if (items.isEmpty()) {
            return true;
        }
        int slot = -1;
        for (String item : split(items)) {
            boolean isCard = item.matches("[0-3]c(m[0-6]|p[0-4]){0,3}");
            boolean isBridge = item.matches("[0-3]b\\(.*\\)")
                    && isItems(item.substring(3, item.length() - 1), depth + 1);
            if (depth > 5 || !isCard && !isBridge || item.charAt(0) - '0' <= slot) {
                return false;
            }
            slot = item.charAt(0) - '0';
        }
        return true;
    }

    private static boolean beginsRack(String prefix) {
        for (String more : new String[] {"", "3c", "c", "()", "0"}) {
            for (String end : new String[] {"", ")", "))", ")))", "))))", ")))))"}) {
                if (isItems(prefix + more + end, 1)) {
                    return true;
                }
            }
        }
        return false;
    }

    int fault() {
        if (isItems(text, 1)) {
            return NONE;
        }
        for (int i = 0; i < text.length(); i++) {
            if (!beginsRack(text.substring(0, i + 1))) {
                return i;
            }
        }
        return text.length();
    }

    private int addItems(List<Device> devices, String items, int bus) {
        for (String item : items.isEmpty() ? new ArrayList<String>() : split(items)) {
            Device device = new Device();
            device.bus = bus;
            device.slot = item.charAt(0) - '0';
            device.bridge = item.charAt(1) == 'b';
            devices.add(device);
            if (device.bridge) {
                addItems(devices, item.substring(3, item.length() - 1), devices.size() - 1);
            }
            for (int i = 2; !device.bridge && i < item.length(); i += 2) {
                int space = item.charAt(i) == 'm' ? 0 : 1;
                device.spaces[i / 2 - 1] = space;
                device.sizes[i / 2 - 1] = GRAINS[space] << item.charAt(i + 1) - '0';
            }
        }
        return devices.size();
    }

    int load() {
        if (fault() != NONE) {
            return -100 - fault();
        }
        List<Device> devices = new ArrayList<>();
        if (addItems(devices, text, ROOT) > 12) {
            return TOO_MANY;
        }
        record();
        now.devices = devices.toArray(new Device[12]);
        return devices.size();
    }

    // ---- history and snapshot

    int undo() {
        if (history.isEmpty()) {
            return NONE;
        }
        now = history.remove(history.size() - 1);
        return history.size();
    }

    int save() {
        saved = now.copy();
        return Integer.bitCount(devices());
    }

    int restore() {
        if (saved == null) {
            return NOT_POSSIBLE;
        }
        record();
        now = saved.copy();
        return Integer.bitCount(devices());
    }

    // ---- queries

    int devices() {
        int mask = 0;
        for (int i = 0; i < 12; i++) {
            mask += now.devices[i] == null ? 0 : 1 << i;
        }
        return mask;
    }

    int bridges() {
        int mask = 0;
        for (int i = 0; i < 12; i++) {
            mask += bridge(i) == null ? 0 : 1 << i;
        }
        return mask;
    }

    int deviceIn(int bus, int slot) {
        if (noBus(bus)) {
            return NO_SUCH;
        }
        if (slot < 0 || slot > 3) {
            return BAD_VALUE;
        }
        for (Device device : on(bus)) {
            if (device.slot == slot) {
                return numberOf(device);
            }
        }
        return NONE;
    }

    int depth(int number) {
        return device(number) == null ? NO_SUCH : depthOf(device(number));
    }

    int size(int card, int region) {
        return card(card) == null || region < 0 || region > 2 ? NO_SUCH : card(card).sizes[region];
    }

    int base(int card, int region) {
        return card(card) == null || region < 0 || region > 2 ? NO_SUCH : card(card).bases[region];
    }

    int firstNumber(int bridge) {
        return bridge(bridge) == null ? NO_SUCH : bridge(bridge).first;
    }

    int lastNumber(int bridge) {
        return bridge(bridge) == null ? NO_SUCH : bridge(bridge).last;
    }

    int windowBase(int bridge, int space) {
        return bridge(bridge) == null ? NO_SUCH : badSpace(space) ? BAD_VALUE : bridge(bridge).windows[space];
    }

    int windowSize(int bridge, int space) {
        return bridge(bridge) == null ? NO_SUCH : badSpace(space) ? BAD_VALUE : bridge(bridge).windowSizes[space];
    }

    int need(int bridge, int space) {
        return bridge(bridge) == null ? NO_SUCH : badSpace(space) ? BAD_VALUE : need(bridge(bridge), space);
    }

    int unplaced() {
        int count = 0;
        for (int i = 0; i < 36; i++) {
            Device card = card(i / 3);
            count += card != null && card.sizes[i % 3] > 0 && card.bases[i % 3] == NONE ? 1 : 0;
        }
        return count;
    }

    int answer(int number, int slot) {
        if (number < 0 || number > 15 || slot < 0 || slot > 3) {
            return BAD_VALUE;
        }
        for (int bus = 0; bus <= ROOT; bus++) {
            if (bus == ROOT ? number == 0 : bridge(bus) != null && bridge(bus).first == number) {
                return deviceIn(bus, slot);
            }
        }
        return NONE;
    }

    int find(int space, int address) {
        if (badSpace(space) || address < 0 || address >= ADDRESSES[space]) {
            return BAD_VALUE;
        }
        for (int i = 0; i < 36; i++) {
            Device card = card(i / 3);
            if (card != null && card.sizes[i % 3] > 0 && card.spaces[i % 3] == space && card.bases[i % 3] != NONE
                    && address >= card.bases[i % 3] && address < card.bases[i % 3] + card.sizes[i % 3]) {
                return i;
            }
        }
        return NONE;
    }

    private static void mark(boolean[] row, int base, int size, boolean value) {
        for (int address = base; base != NONE && address < base + size; address++) {
            row[address] = value;
        }
    }

    private boolean[] free(int bus, int space) {
        boolean[] free = new boolean[ADDRESSES[space]];
        if (bus == ROOT) {
            mark(free, 0, ADDRESSES[space], true);
        } else {
            mark(free, bridge(bus).windows[space], bridge(bus).windowSizes[space], true);
        }
        for (Device device : on(bus)) {
            mark(free, device.windows[space], device.windowSizes[space], false);
            for (int region = 0; region < 3; region++) {
                if (device.spaces[region] == space) {
                    mark(free, device.bases[region], device.sizes[region], false);
                }
            }
        }
        return free;
    }

    private int fit(int bus, int space, int size, int alignment) {
        boolean[] free = free(bus, space);
        for (int start = 0; start + size <= free.length; start += alignment) {
            int count = 0;
            while (count < size && free[start + count]) {
                count++;
            }
            if (count == size) {
                return start;
            }
        }
        return NONE;
    }

    int freeRoom(int bus, int space) {
        if (noBus(bus)) {
            return NO_SUCH;
        }
        if (badSpace(space)) {
            return BAD_VALUE;
        }
        int count = 0;
        for (boolean is : free(bus, space)) {
            count += is ? 1 : 0;
        }
        return count;
    }

    int firstFit(int bus, int space, int size) {
        if (noBus(bus)) {
            return NO_SUCH;
        }
        return badSpace(space) || badSize(space, size) ? BAD_VALUE : fit(bus, space, size, size);
    }
}
