import java.io.IOException;
import java.nio.file.Files;
import java.nio.file.Path;
import java.util.Arrays;
import java.util.NoSuchElementException;

/**
 * What tests of single sentences share. says() names the sentence that the checks behind it belong to,
 * by the document's own words: a sentence that the document does not say (any more) is a fault, too.
 */
abstract class Checks {
    static final int LOWEST = Integer.MIN_VALUE;
    static final int HIGHEST = Integer.MAX_VALUE;
    static final String FOUR = "05AB12>a=6;13AC2>b<c=4;04B3<a=5;12C>c=3";
    static final String SIX_EACH = "01=1;01=1;01=1;01=1;01=1;01=1;11=1;11=1;11=1;11=1;11=1;11=1";
    /** In place of a promise's number. */
    static final int TERMS = 0;

    private static final Path DOCUMENT = Path.of("../shared/DOC.md");
    private static final String WORDS = readDocument();
    private static String sentence = "";
    private static int sentences = 0;
    private static int wrong = 0;

    private static String readDocument() {
        try {
            return Files.isReadable(DOCUMENT) ? Files.readString(DOCUMENT) : "";
        } catch (IOException e) {
            return "";
        }
    }

    static void says(int promise, String words) {
        String title = promise == TERMS ? "## Terms" : "## Promise " + promise + ":";
        sentence = title.substring(3) + " '" + words + "': ";
        sentences++;
        int from = WORDS.indexOf(title);
        int to = WORDS.indexOf("\n## ", from + 1);
        if (!WORDS.isEmpty() && (from < 0 || !WORDS.substring(from, to).contains(words))) {
            fault("the document does not say so");
        }
    }

    static void finish(String name) {
        System.out.println(name + ": " + sentences + " sentences, " + (wrong == 0 ? "all as due" : wrong + " wrong"));
        System.exit(wrong == 0 && sentences > 0 ? 0 : 1);
    }

    static void fault(String what) {
        wrong++;
        System.out.println(sentence + what);
    }

    static void due(String call, long got, long want) {
        if (got != want) {
            fault(call + " answered " + got + ", due is " + want);
        }
    }

    static void due(String call, boolean got, boolean want) {
        if (got != want) {
            fault(call + " answered " + got + ", due is " + want);
        }
    }

    static void dueText(String what, String got, String want) {
        if (!got.equals(want)) {
            fault(what + ": " + got + ", due is " + want);
        }
    }

    static void dueRow(String call, OneStageTwoPlays x, long... want) {
        long[] got = rowOf(x);
        if (!Arrays.equals(got, want)) {
            fault(call + " told " + Arrays.toString(got) + ", due is " + Arrays.toString(want));
        }
    }

    interface Asked {
        long ask();
    }

    static void dueNoSuch(String call, Asked asked) {
        try {
            fault(call + " answered " + asked.ask() + ", due is NoSuchElementException");
        } catch (NoSuchElementException e) {
            return;
        }
    }

    static long[] rowOf(OneStageTwoPlays x) {
        long[] row = new long[x.count(9)];
        for (int k = 0; k < row.length; k++) {
            row[k] = x.row(k);
        }
        return row;
    }

    static OneStageTwoPlays fresh() {
        return new OneStageTwoPlays();
    }

    /** The object with THE TEXT alone that is told. */
    static OneStageTwoPlays text(OneStageTwoPlays x, String text) {
        x.end(0);
        for (int k = 0; k < text.length(); k += 4) {
            int v = 0;
            for (int b = 0; b < 4; b++) {
                v = v << 8 | (k + b < text.length() ? text.charAt(k + b) : 0);
            }
            x.sign(v);
        }
        due("end() of " + text, x.end(text.length()), true);
        return x;
    }

    static OneStageTwoPlays with(String scenes) {
        OneStageTwoPlays x = fresh();
        due("scenes() of " + scenes, text(x, scenes).scenes(), scenes.split(";").length);
        return x;
    }

    static OneStageTwoPlays with(String scenes, String rule) {
        OneStageTwoPlays x = with(scenes);
        due("rule() of " + rule, text(x, rule).rule(), 0);
        return x;
    }

    /** All that can be seen of an object without a call that tells a ROW; which signs THE TEXT has aside. */
    static String sightOf(OneStageTwoPlays x) {
        return nightOf(x) + scriptOf(x) + "row " + Arrays.toString(rowOf(x)) + " signs " + x.count(10)
                + " to be undone " + x.count(8);
    }

    /** What can be undone aside. */
    static String nightOf(OneStageTwoPlays x) {
        StringBuilder out = new StringBuilder();
        for (int what = 0; what <= 7; what++) {
            out.append(x.count(what)).append(' ');
        }
        for (int play = 0; play <= 1; play++) {
            out.append("play ");
            for (int what = 0; what <= 6; what++) {
                out.append(x.play(play, what)).append(' ');
            }
        }
        return out.toString();
    }

    static String scriptOf(OneStageTwoPlays x) {
        StringBuilder out = new StringBuilder();
        for (int scene = 0; scene < x.count(0); scene++) {
            out.append("scene ");
            for (int what = 0; what <= 6; what++) {
                out.append(x.scene(scene, what)).append(' ');
            }
        }
        return out.toString();
    }
}
