/** What all tests share: comparing answers, and telling how a test ended. */
final class Checks {
    private int made = 0;
    private int wrong = 0;

    void due(String what, long got, long want) {
        made++;
        if (got != want) {
            wrong++;
            System.out.println(what + " answered " + got + ", due is " + want);
        }
    }

    /** For a row of answers, told with blanks between. */
    void due(String what, String got, String want) {
        made++;
        if (!got.equals(want)) {
            wrong++;
            System.out.println(what + " answered\n  " + got + "\ndue is\n  " + want);
        }
    }

    boolean isWrong() {
        return wrong > 0;
    }

    void finish() {
        System.out.println(made + " answers, " + wrong + " not as due");
        if (wrong > 0) {
            System.exit(1);
        }
    }

    /** Feeds a set-up and reads it. */
    static int read(StoneRoads roads, String text) {
        for (int k = 0; k < text.length(); k++) {
            roads.feed(text.charAt(k));
        }
        return roads.read();
    }

    static StoneRoads made(String text) {
        StoneRoads roads = new StoneRoads();
        int done = read(roads, text);
        if (done < 1) {
            throw new IllegalStateException("the set-up " + text + " is refused: " + done);
        }
        return roads;
    }

    /** The LOADS of all CELLS in order; those of BASIC CELLS are marked. */
    static String loads(StoneRoads roads) {
        StringBuilder all = new StringBuilder();
        for (int i = 0; i < roads.told(6); i++) {
            for (int j = 0; j < roads.told(7); j++) {
                all.append(roads.load(i, j)).append(roads.basic(i, j) == 1 ? "* " : " ");
            }
        }
        return all.toString().trim();
    }

    static String surpluses(StoneRoads roads) {
        StringBuilder all = new StringBuilder();
        for (int i = 0; i < roads.told(6); i++) {
            for (int j = 0; j < roads.told(7); j++) {
                all.append(roads.surplus(i, j)).append(' ');
            }
        }
        return all.toString().trim();
    }

    static String worths(StoneRoads roads) {
        StringBuilder all = new StringBuilder();
        for (int i = 0; i < roads.told(6); i++) {
            all.append(roads.worth(0, i)).append(' ');
        }
        all.append("/");
        for (int j = 0; j < roads.told(7); j++) {
            all.append(' ').append(roads.worth(1, j));
        }
        return all.toString();
    }
}
