/** Counts and prints the answers that are not the ones that are due. */
final class Checks {
    private int made = 0;
    private int wrong = 0;

    void due(String call, int got, int want) {
        made++;
        if (got != want) {
            wrong++;
            System.out.println(call + " answered " + got + ", due is " + want);
        }
    }

    /** Ends the program with exit code 1 if an answer was wrong, or if none was looked at. */
    void finish() {
        System.out.println(made + " answers, " + wrong + " of them not as due");
        if (wrong != 0 || made == 0) {
            System.exit(1);
        }
    }

    static void write(BusRack rack, String text) {
        for (int i = 0; i < text.length(); i++) {
            rack.append(text.charAt(i));
        }
    }

    static BusRack loaded(String text) {
        BusRack rack = new BusRack();
        write(rack, text);
        rack.load();
        return rack;
    }

    static BusRack enumerated(String text) {
        BusRack rack = loaded(text);
        rack.enumerate();
        return rack;
    }
}
