import java.util.HashSet;
import java.util.Set;

/** Counts the answers that are not due, promise by promise, and ends the test with 1 if there was one. */
final class Checks {
    private final String name;
    private String promise = "";
    private final Set<String> sentences = new HashSet<>();
    private int right = 0;
    private int wrong = 0;

    Checks(String name) {
        this.name = name;
    }

    void promise(int number, String what) {
        promise = "promise " + number + " (" + what + ")";
    }

    /** What comes next looks at one sentence of the document, given by its own words or by what it means. */
    void sentence(int number, String words) {
        promise = "promise " + number + ", \"" + words + "\"";
        sentences.add(promise);
    }

    void due(String call, long got, long want) {
        if (got == want) {
            right++;
        } else {
            wrong++;
            System.out.println(promise + ": " + call + " answered " + got + ", due is " + want);
        }
    }

    void end() {
        String of = sentences.isEmpty() ? "" : " (" + sentences.size() + " sentences)";
        System.out.println(name + ": " + right + " answers as due, " + wrong + " not" + of);
        if (wrong > 0 || right == 0) {
            System.exit(1);
        }
    }

    static void type(TugOfWar x, int text, String s) {
        for (int i = 0; i < s.length(); i++) {
            x.type(text, s.charAt(i));
        }
    }

    static TugOfWar teams(String team0, String team1, String calls0, String calls1) {
        TugOfWar x = new TugOfWar();
        type(x, 0, team0);
        type(x, 1, team1);
        type(x, 2, calls0);
        type(x, 3, calls1);
        return x;
    }

    static TugOfWar teams(String team0, String team1) {
        return teams(team0, team1, "", "");
    }

    /** A TEAM, or what is called to it, of the one or of the other: the other one is empty. */
    static TugOfWar oneTeam(int team, String row, String calls) {
        TugOfWar x = new TugOfWar();
        type(x, team, row);
        type(x, 2 + team, calls);
        return x;
    }

    /** A row of n PULLERS alike. */
    static String row(String one, int n) {
        StringBuilder s = new StringBuilder();
        for (int i = 0; i < n; i++) {
            s.append(i > 0 ? ";" : "").append(one);
        }
        return s.toString();
    }

    /** A row that pulls by just so much on the first BEAT, and by nothing later. */
    static String pulling(int much) {
        StringBuilder s = new StringBuilder();
        for (int left = much; left > 0; left -= 9) {
            s.append(s.length() > 0 ? ";" : "").append('h').append(Math.min(9, left)).append('1');
        }
        return s.toString();
    }

    /** Numbers that are not from least to most: just beside, far off, and such as a narrower number would wrap. */
    static int[] outside(int least, int most) {
        return new int[] {least - 1, most + 1, Integer.MIN_VALUE, Integer.MAX_VALUE, least + 256, least + 65536,
            least - 256};
    }
}
