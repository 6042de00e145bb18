/** Counts the answers that are not due, promise by promise, and ends the test with 1 if there was one. */
final class Checks {
    private final String name;
    private String promise = "";
    private int right = 0;
    private int wrong = 0;

    Checks(String name) {
        this.name = name;
    }

    void promise(int number, String what) {
        promise = "promise " + number + " (" + what + ")";
    }

    void due(String call, long got, long want) {
        if (got == want) {
            right++;
        } else {
            wrong++;
            System.out.println(promise + ": " + call + " answered " + got + ", due is " + want);
        }
    }

    void end() {
        System.out.println(name + ": " + right + " answers as due, " + wrong + " not");
        if (wrong > 0 || right == 0) {
            System.exit(1);
        }
    }

    static void type(TugOfWar x, int text, String s) {
        for (int i = 0; i < s.length(); i++) {
            x.type(text, s.charAt(i));
        }
    }

    static TugOfWar teams(String team0, String team1, String calls0, String calls1) {
        TugOfWar x = new TugOfWar();
        type(x, 0, team0);
        type(x, 1, team1);
        type(x, 2, calls0);
        type(x, 3, calls1);
        return x;
    }

    static TugOfWar teams(String team0, String team1) {
        return teams(team0, team1, "", "");
    }
}
