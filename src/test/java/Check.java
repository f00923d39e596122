/** Counts and prints the calls whose answer is not the one that is due. */
final class Check {
    private int wrong = 0;
    private int asked = 0;
    private String where = "";

    void in(String place) {
        where = place;
    }

    void due(String call, long got, long want) {
        asked++;
        if (got != want) {
            wrong++;
            if (wrong <= 40) {
                System.out.println(where + ": " + call + " answered " + got + ", due is " + want);
            }
        }
    }

    void end() {
        System.out.println(asked + " answers, " + wrong + " not as due");
        if (wrong != 0) {
            System.exit(1);
        }
    }

    /** A TEXT with these signs. */
    static void write(HouseOfHours x, int t, String signs) {
        x.text(t, signs.length());
        for (int i = 0; i < signs.length(); i++) {
            x.put(t, i, signs.charAt(i));
        }
    }

    /** A ROW with these ints. */
    static void fill(HouseOfHours x, int r, int... places) {
        x.row(r, places.length);
        for (int i = 0; i < places.length; i++) {
            x.lay(r, i, places[i]);
        }
    }

    /** A new object with a HOUSE by these signs (by TEXT 3, so that the others stay missing). */
    static HouseOfHours built(String signs) {
        HouseOfHours x = new HouseOfHours();
        write(x, 3, signs);
        if (x.house(3) < 1) {
            throw new IllegalStateException("the test's own house has a fault: " + signs);
        }
        return x;
    }
}
