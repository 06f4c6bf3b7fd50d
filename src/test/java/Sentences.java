import java.io.IOException;
import java.nio.file.Files;
import java.nio.file.Path;
import java.util.ArrayList;
import java.util.IdentityHashMap;
import java.util.List;
import java.util.Map;
import java.util.TreeMap;

/**
 * Checks that are told by the words of the document that ask for them. SentencesTest runs all of
 * them and then looks whether any word of the document's terms and promises was left untold.
 */
abstract class Sentences {
    static final int NO_SUCH = -1, BAD_VALUE = -2, TOO_MANY = -3, NOT_POSSIBLE = -4, NONE = -5;
    static final int ROOT = 12, MEMORY = 0, PORTS = 1;
    static final int LOWEST = Integer.MIN_VALUE, HIGHEST = Integer.MAX_VALUE;
    /** No number of a device of rich(). */
    static final int[] NO_DEVICES = {-1, NONE, -100, 6, 11, ROOT, 13, LOWEST, HIGHEST};
    /** No bus of rich(). */
    static final int[] NO_BUSES = {-1, NONE, 0, 2, 4, 5, 6, 11, 13, LOWEST, HIGHEST};
    static final int[] CARDS_OF_RICH = {0, 2, 4, 5};
    static final int[] BRIDGES_OF_RICH = {1, 3};
    static final int[] NO_SLOTS = {-1, 4, 12, LOWEST, HIGHEST};
    static final int[] NO_REGIONS = {-1, 3, 4, LOWEST, HIGHEST};
    static final int[] NO_SPACES = {-1, 2, 16, LOWEST, HIGHEST};
    static final Maker NEW = BusRack::new;
    static final Maker RICH = Sentences::rich;
    static final Maker FULL = Sentences::full;

    private static final Checks checks = new Checks();
    private static final Map<Integer, List<String>> told = new TreeMap<>();
    private static final Map<Maker, String> wholes = new IdentityHashMap<>();
    private static String words = "";
    private static boolean isChecked = true;

    interface Maker {
        BusRack make();
    }

    interface Call {
        int on(BusRack rack);
    }

    interface CallWith {
        int on(BusRack rack, int argument);
    }

    /** Tells the words that the next checks are for; promise 0 is all that stands before promise 1. */
    static void told(int promise, String... phrases) {
        checks.due("checks for " + words, isChecked ? 1 : 0, 1);
        words = "promise " + promise + ", \"" + String.join(" .. ", phrases) + "\"";
        told.computeIfAbsent(promise, none -> new ArrayList<>()).addAll(List.of(phrases));
        isChecked = false;
    }

    static void due(String call, int got, int want) {
        isChecked = true;
        checks.due(words + ": " + call, got, want);
    }

    static void same(String call, String got, String want) {
        due(call + " (1 is the same)", got.equals(want) ? 1 : 0, 1);
    }

    /** The call answers the code and changes nothing that any later call could tell. */
    static void refused(String call, Maker maker, Call made, int code) {
        due(call, made.on(maker.make()), code);
        changesNothing(call, maker, made);
    }

    static void refused(String call, Maker maker, int[] arguments, CallWith made, int code) {
        for (int argument : arguments) {
            refused(call + " with " + argument, maker, rack -> made.on(rack, argument), code);
        }
    }

    static void changesNothing(String call, Maker maker, Call made) {
        Maker after = () -> {
            BusRack rack = maker.make();
            made.on(rack);
            return rack;
        };
        same(call + " changes nothing", Whole.of(after), wholes.computeIfAbsent(maker, Whole::of));
    }

    /** Cards 0, 2, 4 and 5, bridges 1 and 3, and something of all that a rack can hold. */
    static BusRack rich() {
        BusRack rack = Checks.loaded("0cm2p1,1b(0cm1,1b(2cp0m0)),3cm4");
        rack.setGap(1);
        rack.setReserve(1, MEMORY, 64);
        rack.setReserve(3, PORTS, 8);
        rack.save();
        rack.enumerate();
        rack.setRegion(0, 2, MEMORY, 32);
        rack.append(',');
        return rack;
    }

    /** Twelve devices, bridges 0, 5 and 10 among them. */
    static BusRack full() {
        BusRack rack = Checks.loaded("0b(0c,1c,2c,3cm0),1b(0c,1c,2c,3c),2b(0cp0)");
        rack.save();
        rack.setGap(2);
        rack.enumerate();
        return rack;
    }

    /** Bridges 0 to 4, each on the lower bus of the one before, and the card 5 beside the last. */
    static BusRack deep() {
        return Checks.enumerated("0b(0b(0b(0b(0b(),1cm0))))");
    }

    static int add(boolean isBridge, BusRack rack, int bus, int slot) {
        return isBridge ? rack.addBridge(bus, slot) : rack.addCard(bus, slot);
    }

    static int faultOf(String text) {
        BusRack rack = new BusRack();
        Checks.write(rack, text);
        return rack.fault();
    }

    static int loadOf(String text) {
        BusRack rack = new BusRack();
        Checks.write(rack, text);
        return rack.load();
    }

    static BusRack withGap(String text, int gap) {
        BusRack rack = Checks.loaded(text);
        rack.setGap(gap);
        rack.enumerate();
        return rack;
    }

    static void range(BusRack rack, int bridge, int first, int last) {
        due("firstNumber(" + bridge + ")", rack.firstNumber(bridge), first);
        due("lastNumber(" + bridge + ")", rack.lastNumber(bridge), last);
    }

    static void window(BusRack rack, int bridge, int space, int base, int size) {
        due("windowBase(" + bridge + ", " + space + ")", rack.windowBase(bridge, space), base);
        due("windowSize(" + bridge + ", " + space + ")", rack.windowSize(bridge, space), size);
    }

    static void base(BusRack rack, int card, int region, int base) {
        due("base(" + card + ", " + region + ")", rack.base(card, region), base);
    }

    // ---- the words of the document

    static void finish(Path document) throws IOException {
        Map<Integer, String> sections = sections(Files.readString(document));
        for (Map.Entry<Integer, String> section : sections.entrySet()) {
            List<String> of = told.getOrDefault(section.getKey(), List.of());
            String left = untold(section.getKey(), section.getValue(), of);
            checks.due("promise " + section.getKey() + " left untold: " + left, left.isEmpty() ? 0 : 1, 0);
        }
        checks.due("promises with their title", sections.size(), 34);
        checks.finish();
    }

    private static Map<Integer, String> sections(String document) {
        Map<Integer, String> sections = new TreeMap<>();
        int promise = 0;
        for (String line : document.split("\n")) {
            if (line.startsWith("## Promise ")) {
                promise = Integer.parseInt(line.substring(11, line.indexOf(':')));
            }
            if (line.startsWith("## Not promised") || line.startsWith("## The public face")) {
                promise = -1;
            }
            if (line.startsWith("## Terms")) {
                promise = 0;
            }
            sections.merge(promise, wordsOf(line) + " ", String::concat);
        }
        sections.remove(-1);
        return sections;
    }

    /** Titles, the heads of the methods and the interface's comments ask for no test of their own. */
    private static String wordsOf(String line) {
        boolean isTitle = line.startsWith("#") || line.startsWith("```") || line.startsWith("Ahead of the calls")
                || line.equals("Spaces, regions and windows") || line.startsWith("A rack of cards on buses");
        return isTitle ? "" : line.replaceAll("`(int )?\\w+\\([^`]*\\)`: ", "").strip();
    }

    private static String untold(int promise, String section, List<String> of) {
        String text = section.replaceAll("\\s+", " ");
        StringBuilder left = new StringBuilder(text);
        for (String phrase : of) {
            int at = text.indexOf(phrase);
            checks.due("promise " + promise + " says \"" + phrase + "\"", at < 0 ? 0 : 1, 1);
            for (; at >= 0; at = text.indexOf(phrase, at + 1)) {
                left.replace(at, at + phrase.length(), " ".repeat(phrase.length()));
            }
        }
        String rest = left.toString().replaceAll("\\bReturns\\b|[-;,.:]", " ");
        return rest.replaceAll("\\s+", " ").strip();
    }
}
