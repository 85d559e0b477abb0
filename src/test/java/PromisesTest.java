import java.util.Arrays;
import java.util.NoSuchElementException;

/** For each promise of the document: ordinary inputs, its edges, wrong inputs; answers worked out by hand. */
public final class PromisesTest {
    private static final String FOUR = "05AB12>a=6;13AC2>b<c=4;04B3<a=5;12C>c=3";
    private static final String SIX_EACH =
            "01=1;01=1;01=1;01=1;01=1;01=1;11=1;11=1;11=1;11=1;11=1;11=1";
    private static int wrong = 0;

    public static void main(String[] args) {
        newObject();
        signAndEnd();
        scenesTexts();
        scenesLimits();
        ruleTexts();
        ruleValues();
        sceneAndPlay();
        sheets();
        playing();
        cutAndPuts();
        pauses();
        evenings();
        undoing();
        changes();
        shortestWeaves();
        soonestBothWithin();
        weavesTurnOver();
        leastCuts();
        stories();
        cheersInOrders();
        personsAndProps();
        chances();
        shares();
        bows();
        laws();
        drawnYears();
        keptNights();
        countsAndRows();
        refusedCallsKeepTheRow();
        System.out.println(wrong == 0 ? "promises: all as due" : "promises: " + wrong + " wrong");
        System.exit(wrong == 0 ? 0 : 1);
    }

    private static void due(String what, long got, long want) {
        if (got != want) {
            wrong++;
            System.out.println(what + " answered " + got + ", due is " + want);
        }
    }

    private static void dueText(String what, String got, String want) {
        if (!got.equals(want)) {
            wrong++;
            System.out.println(what + ": " + got + ", due is " + want);
        }
    }

    private static void dueTrue(String what, boolean got) {
        due(what, got ? 1 : 0, 1);
    }

    private static void dueRow(String what, OneStageTwoPlays x, long... want) {
        long[] got = new long[x.count(9)];
        for (int k = 0; k < got.length; k++) {
            got[k] = x.row(k);
        }
        if (!Arrays.equals(got, want)) {
            wrong++;
            System.out.println(what + " told " + Arrays.toString(got) + ", due is " + Arrays.toString(want));
        }
    }

    private interface Asked {
        long ask();
    }

    private static void dueNoSuch(String what, Asked asked) {
        try {
            long got = asked.ask();
            wrong++;
            System.out.println(what + " answered " + got + ", due is NoSuchElementException");
        } catch (NoSuchElementException e) {
            return;
        }
    }

    private static OneStageTwoPlays text(OneStageTwoPlays x, String text) {
        x.end(0);
        for (int k = 0; k < text.length(); k += 4) {
            int v = 0;
            for (int b = 0; b < 4; b++) {
                v = v << 8 | (k + b < text.length() ? text.charAt(k + b) : 0);
            }
            x.sign(v);
        }
        dueTrue("end of a text", x.end(text.length()));
        return x;
    }

    private static OneStageTwoPlays fresh() {
        return new OneStageTwoPlays();
    }

    private static OneStageTwoPlays with(String scenes) {
        OneStageTwoPlays x = fresh();
        int lines = text(x, scenes).scenes();
        due("scenes() of " + scenes, lines, scenes.split(";").length);
        return x;
    }

    private static OneStageTwoPlays with(String scenes, String rule) {
        OneStageTwoPlays x = with(scenes);
        due("rule() of " + rule, text(x, rule).rule(), 0);
        return x;
    }

    private static String times(String part, int n) {
        return part.repeat(n);
    }

    // 1
    private static void newObject() {
        OneStageTwoPlays x = fresh();
        due("NONE", OneStageTwoPlays.NONE, -1);
        int[] first = {0, 0, -1, 0, 0, 0, 0, 0, 0, 0, 0};
        for (int what = 0; what < first.length; what++) {
            due("new: count(" + what + ")", x.count(what), first[what]);
        }
        dueNoSuch("new: scene(0, 0)", () -> x.scene(0, 0));
        dueNoSuch("new: row(0)", () -> x.row(0));
        due("new: play(1, 5)", x.play(1, 5), -1);
        due("new: weaves", x.weaves(), 1);
        due("new: both", x.both(0, 0), 1);
    }

    // 2, 3
    private static void signAndEnd() {
        OneStageTwoPlays x = fresh();
        due("sign", x.sign('0' << 24 | '5' << 16 | '=' << 8 | '7'), 4);
        due("highest first", x.scenes(), 1);
        due("cheer of it", x.scene(0, 6), 7);
        for (int k = 1; k <= 20; k++) {
            due("sign " + k, x.sign(-1), 4 * k);
        }
        due("sign beyond 80", x.sign(0), -1);
        due("signs then", x.count(10), 80);
        due("end(81)", x.end(81) ? 1 : 0, 0);
        due("end(-1)", x.end(-1) ? 1 : 0, 0);
        due("end(MIN)", x.end(Integer.MIN_VALUE) ? 1 : 0, 0);
        dueTrue("end(80)", x.end(80));
        dueTrue("end(77)", x.end(77));
        due("78 + 4 signs", x.sign(0), -1);
        dueTrue("end(76)", x.end(76));
        due("76 + 4 signs", x.sign(0), 80);
        dueTrue("end(0)", x.end(0));
        due("end(1) of none", x.end(1) ? 1 : 0, 0);
        due("a sign above 127 can't stand", x.sign(0xB0B1B2B3), 4);
        due("a sign above 127 can't stand", x.scenes(), -1);
    }

    private static void dueScenes(String text, int want) {
        OneStageTwoPlays x = fresh();
        due("scenes() of " + text, text(x, text).scenes(), want);
        due("signs behind scenes()", x.count(10), 0);
        due("SCENES behind " + text, x.count(0), Math.max(0, want));
    }

    // 4
    private static void scenesTexts() {
        dueScenes("", 0);
        dueScenes("01=0", 1);
        dueScenes("19ABCDEF1234>h<a=9", 1);
        dueScenes("05=5;15=5", 2);
        dueScenes("x", -1);
        dueScenes("2", -1);
        dueScenes(";", -1);
        dueScenes("0", -2);
        dueScenes("00", -2);
        dueScenes("0A", -2);
        dueScenes("05", -3);
        dueScenes("05G=1", -3);
        dueScenes("050=1", -3);
        dueScenes("055=1", -3);
        dueScenes("05a=1", -3);
        dueScenes("05BA", -4);
        dueScenes("05AA", -4);
        dueScenes("05FA", -4);
        dueScenes("0511", -4);
        dueScenes("0541", -4);
        dueScenes("051A=5", -4);
        dueScenes("05A1B=5", -5);
        dueScenes("05>", -4);
        dueScenes("05>i", -4);
        dueScenes("05>A", -4);
        dueScenes("05>aa", -5);
        dueScenes("05>a>b", -5);
        dueScenes("05<", -4);
        dueScenes("05<i", -4);
        dueScenes("05<a>b=1", -5);
        dueScenes("05<a<b=1", -5);
        dueScenes("05>a1=1", -5);
        dueScenes("05=", -4);
        dueScenes("05=x", -4);
        dueScenes("05=10", -5);
        dueScenes("05=1;", -6);
        dueScenes("05=1;;", -6);
        dueScenes("05=1;05=1;2", -11);
        OneStageTwoPlays x = with("05=1");
        due("a fault in the second line", text(x, "06=1;07=").scenes(), -9);
        due("nothing of it came", x.count(0), 1);
        due("the first scene is as it was", x.scene(0, 1), 5);
        due("another comes behind", text(x, "17=2").scenes(), 1);
        due("TO COME", x.count(3), 3);
    }

    // 4: limits
    private static void scenesLimits() {
        String line = "01ABCDEF1234>a<a=1;";
        String full = times(line, 4);
        due("signs of four lines", full.length(), 76);
        due("75 signs", text(fresh(), full.substring(0, 75)).scenes(), 4);
        due("76 signs, open end", text(fresh(), full).scenes(), -77);
        due("80 signs, all good", text(fresh(), full + "01=1").scenes(), -77);
        due("80 signs, bad behind 76", text(fresh(), full + "xxxx").scenes(), -77);
        due("80 signs, bad behind 77", text(fresh(), full + "0xxx").scenes(), -77);
        due("80 signs, bad within", text(fresh(), "x" + full.substring(1) + "01=1").scenes(), -1);
        due("80 signs, bad at 75", text(fresh(), full.substring(0, 75) + "x01=1").scenes(), -76);
        String whole = "01AB=1;" + times("01ABC=1;", 8) + "01A=1";
        due("signs of ten lines", whole.length(), 76);
        due("76 signs that end", text(fresh(), whole).scenes(), 10);
        due("76 signs that end, and one more", text(fresh(), whole + ";").scenes(), -77);
    }

    private static void dueRule(String text, int want) {
        due("rule() of " + text, text(fresh(), text).rule(), want);
        OneStageTwoPlays x = fresh();
        due("law() of " + text, text(x, text).law(), want < 0 ? -10000 + want + 1 : 0);
        due("signs behind law()", x.count(10), 0);
    }

    // 5
    private static void ruleTexts() {
        for (String good : new String[] {"", "o", "0", "999", "007", "-o", "--o", "o--p", "o*-p", "((((o))))",
            "(o<p)<q", "o<(p<q)", "o<p+q", "o+p*q-m/l", "(o)", "(o=p)*(q>s)", times("-", 39) + "1"}) {
            dueRule(good, 0);
        }
        dueRule("z", -1);
        dueRule("+", -1);
        dueRule(")", -1);
        dueRule("<", -1);
        dueRule(" o", -1);
        dueRule("O", -1);
        dueRule("-", -2);
        dueRule("o+", -3);
        dueRule("oo", -2);
        dueRule("o1", -2);
        dueRule("1o", -2);
        dueRule("1(", -2);
        dueRule("o(", -2);
        dueRule("o)", -2);
        dueRule("1000", -4);
        dueRule("o<p<q", -4);
        dueRule("o<p=q", -4);
        dueRule("o<p+q>m", -6);
        dueRule("(o<p<q)", -5);
        dueRule("(o<p)<q<m", -8);
        dueRule("(o", -3);
        dueRule("()", -2);
        dueRule("(o))", -4);
        dueRule("(o)(", -4);
        dueRule("(o)1", -4);
        dueRule("(((((o)))))", -5);
        dueRule("o*/p", -3);
        dueRule("o<", -3);
        dueRule("o<<p", -3);
        String forty = times("o+", 19) + "oo";
        due("forty signs", forty.length(), 40);
        dueRule(forty, -40);
        dueRule(times("o+", 20), -41);
        dueRule(times("o+", 19) + "-o", 0);
        dueRule(times("o+", 20) + "o", -41);
        dueRule(times("o+", 20) + "xxxx", -41);
        dueRule(times("o+", 20) + "oxxx", -41);
        dueRule("x" + times("o+", 20), -1);
        dueRule("(" + times("o+", 19) + "o", -41);
        dueRule(times("1", 41), -4);
        OneStageTwoPlays x = with(FOUR, "7");
        due("a faulty rule changes nothing", text(x, "9+").rule(), -3);
        due("the rule is as it was", x.change(0, 1), 7);
        due("an empty one: none", text(x, "").rule(), 0);
        due("none", x.change(0, 1), 4);
    }

    private static void dueChange(String rule, int want) {
        due("change(0, 1) by " + rule, with("05ABC12=0;13CD23=0", rule).change(0, 1), want);
    }

    // 5: what rules are worth; o 1, p 1 (C), q 2 (1 and 3), m 3, l 5, s 2
    private static void ruleValues() {
        dueChange("o", 1);
        dueChange("p", 1);
        dueChange("q", 2);
        dueChange("m", 3);
        dueChange("l", 5);
        dueChange("s", 2);
        dueChange("l-m-o", 1);
        dueChange("l-(m-o)", 3);
        dueChange("2+3*4", 14);
        dueChange("(2+3)*4", 20);
        dueChange("40/5/2", 4);
        dueChange("40/5*2", 16);
        dueChange("7*3/2", 10);
        dueChange("7/2*3", 9);
        dueChange("2*7/2*3", 21);
        dueChange("20+-7*3/2", 10);
        dueChange("7/2", 3);
        dueChange("0-(-7/2)", 3);
        dueChange("-7/2+9", 6);
        dueChange("5/0+1", 1);
        dueChange("5/(o-p)", 0);
        dueChange("-2*-3", 6);
        dueChange("--5", 5);
        dueChange("---5+9", 4);
        dueChange("9--5", 14);
        dueChange("2*3<7", 1);
        dueChange("7<2*3", 0);
        dueChange("7>2*3", 1);
        dueChange("6=2*3", 1);
        dueChange("6=7", 0);
        dueChange("3<3", 0);
        dueChange("3>3", 0);
        dueChange("(1<2)+(2<1)+(3=3)", 2);
        dueChange("1+1<2+1", 1);
        dueChange("0-1", 0);
        dueChange("99", 99);
        dueChange("100", 99);
        dueChange("999*999*999*999>0", 0);
        dueChange("999*999*999*3", 0);
        dueChange("999*999*999*3<0", 1);
    }

    // 6, 7
    private static void sceneAndPlay() {
        OneStageTwoPlays x = with("05ABF14>h<a=9;11=0;02<h=3");
        int[] first = {0, 5, 35, 9, 7, 0, 9, 0};
        int[] second = {1, 1, 0, 0, -1, -1, 0, 0};
        for (int what = 0; what < 8; what++) {
            due("scene(0, " + what + ")", x.scene(0, what), first[what]);
            due("scene(1, " + what + ")", x.scene(1, what), second[what]);
        }
        dueNoSuch("scene(3, 0)", () -> x.scene(3, 0));
        dueNoSuch("scene(-1, 0)", () -> x.scene(-1, 0));
        dueNoSuch("scene(0, 8)", () -> x.scene(0, 8));
        dueNoSuch("scene(0, -1)", () -> x.scene(0, -1));
        dueNoSuch("scene(MAX, MIN)", () -> x.scene(Integer.MAX_VALUE, Integer.MIN_VALUE));
        x.plays(0);
        x.cut(1);
        due("PLAYED", x.scene(0, 7), 1);
        due("CUT", x.scene(1, 7), 2);
        due("TO COME", x.scene(2, 7), 0);
        int[] hall = {4, 1, 0, 128, 4, 2, 2};
        int[] pit = {0, 0, 2, 0, 0, -1, 0};
        for (int what = 0; what < 7; what++) {
            due("play(0, " + what + ")", x.play(0, what), hall[what]);
            due("play(1, " + what + ")", x.play(1, what), pit[what]);
        }
        dueNoSuch("play(2, 0)", () -> x.play(2, 0));
        dueNoSuch("play(-1, 0)", () -> x.play(-1, 0));
        dueNoSuch("play(0, 7)", () -> x.play(0, 7));
        dueNoSuch("play(1, -1)", () -> x.play(1, -1));
        dueNoSuch("play(MIN, MAX)", () -> x.play(Integer.MIN_VALUE, Integer.MAX_VALUE));
    }

    // 8
    private static void sheets() {
        due("a sheet for no scene", fresh().sheet(2, 5, 3, 0), 0);
        OneStageTwoPlays x = with(FOUR);
        due("ints", x.sheet(2, 3, 2, 3), 2 + 5 + 8 + 1);
        due("those behind it", x.scene(3, 1), 1);
        due("put to 1 .. 9", x.sheet(2, 4, 0, 5), 1 + 5 + 9 + 9);
        due("bytes with their sign", x.sheet(0, 2, 127, 1), 9 + 1 + 1 + 1);
        due("lowest bits of bytes", x.sheet(0, 1, 256 + 4, 0), 4 + 3);
        due("shorts with their sign", x.sheet(1, 2, 32767, 1), 9 + 1 + 1 + 1);
        due("lowest bits of shorts", x.sheet(1, 1, 65536 + 7, 0), 7 + 3);
        due("ints go round", x.sheet(2, 2, Integer.MAX_VALUE, 1), 9 + 1 + 1 + 1);
        due("more entries than scenes", x.sheet(2, 12, 2, 0), 8);
        due("none", x.sheet(2, 0, 5, 5), 4);
        due("n below 0", x.sheet(2, -1, 9, 9), -2);
        due("changed nothing", x.scene(0, 1), 1);
        x.sheet(2, 4, 9, 0);
        due("missing", x.sheet(3, 3, 9, 9), -3);
        due("missing: all 1", x.play(0, 6) + x.play(1, 6), 4);
        due("missing, n below 0", x.sheet(3, -5, 9, 9), -3);
        due("n above 12", x.sheet(2, 13, 1, 1), -1);
        due("missing, n above 12", x.sheet(3, 13, 1, 1), -1);
        due("kind 4", x.sheet(4, 1, 1, 1), -1);
        due("kind -1, n below 0", x.sheet(-1, -1, 1, 1), -1);
        text(x, "m*10+l").rule();
        x.sheet(2, 2, 2, 1);
        due("changes go by it", x.change(0, 1), 32);
        x.sheet(2, 2, 3, 1);
        due("changes go by the newest", x.change(0, 1), 43);
    }

    // 9
    private static void playing() {
        OneStageTwoPlays x = with(FOUR);
        due("plays(0)", x.plays(0), 5);
        dueRow("plays(0)", x, 0, 0, 6);
        due("plays(1)", x.plays(1), 12);
        dueRow("plays(1), half of 4", x, 1, 4, 2);
        due("plays(1)", x.plays(1), 16);
        dueRow("plays(1)", x, 3, 2, 3);
        due("plays(1) with none", x.plays(1), -2);
        due("plays(2)", x.plays(2), -1);
        due("plays(-1)", x.plays(-1), -1);
        due("plays(0)", x.plays(0), 23);
        dueRow("plays(0), known", x, 2, 3, 5);
        due("cheers", x.count(6), 16);
        due("known in 0", x.play(0, 3), 1);
        due("known in 1", x.play(1, 3), 6);
        OneStageTwoPlays odd = with("01>a<a=9;01<a=7;11<a=5");
        odd.plays(0);
        dueRow("its own fact comes too late", odd, 0, 0, 4);
        odd.plays(0);
        dueRow("but not for the next", odd, 1, 0, 7);
        odd.plays(1);
        dueRow("nor for the other house", odd, 2, 2, 2);
    }

    // 10, 11
    private static void cutAndPuts() {
        OneStageTwoPlays x = with("01=1;01=1;11=1;01=1");
        due("cut(1)", x.cut(1), 2);
        due("cut(1) again", x.cut(1), -2);
        due("cut(4)", x.cut(4), -1);
        due("cut(-1)", x.cut(-1), -1);
        due("cut(2)", x.cut(2), 0);
        due("puts(0)", x.puts(0), -2);
        due("puts(4)", x.puts(4), -1);
        due("puts(-1)", x.puts(-1), -1);
        due("puts(2)", x.puts(2), 1);
        x.plays(0);
        due("cut of one played", x.cut(0), -2);
        due("puts of one played", x.puts(0), -2);
        due("puts(1): an earlier one was played", x.puts(1), 2);
        x.cut(1);
        x.plays(1);
        due("puts(1): a later one of the other play", x.puts(1), 2);
        x.cut(1);
        x.plays(0);
        dueRow("the next one is 3", x, 3, 2, 1);
        due("puts(1): a later one was played", x.puts(1), -3);
        due("CUT", x.count(5), 2);
    }

    // 12
    private static void pauses() {
        OneStageTwoPlays x = fresh();
        due("pause(0)", x.pause(0), 0);
        due("pause(99)", x.pause(99), 99);
        due("pause(1)", x.pause(1), 100);
        due("pause(100)", x.pause(100), -1);
        due("pause(-1)", x.pause(-1), -1);
        due("NOW", x.count(1), 100);
        due("what can be undone", x.count(8), 2);
    }

    private static void dueEvening(String text, int want, long... row) {
        OneStageTwoPlays x = with(FOUR);
        x.stand();
        due("evening() of " + text, text(x, text).evening(), want);
        due("signs behind evening()", x.count(10), 0);
        if (want < 0) {
            dueRow("a faulty evening", x, 8);
            due("nothing is done", x.count(1) + x.count(4) + x.count(5) + x.count(8), 0);
        } else {
            dueRow("evening() of " + text, x, row);
            due("kept for undo", x.count(8), want > 0 ? 1 : 0);
        }
    }

    // 13
    private static void evenings() {
        dueEvening("", 0, 0, 0);
        dueEvening("0w91xd0", 5, 0, 29);
        dueEvening("w0", 1, 0, 0);
        dueEvening("xl", 0, 1, 0);
        dueEvening("xaxaw9", 1, 1, 0);
        dueEvening("0001", 2, 1, 13);
        dueEvening("1xb", 1, 1, 3);
        dueEvening("2", -1);
        dueEvening("x", -2);
        dueEvening("xm", -2);
        dueEvening("xA", -2);
        dueEvening("w", -2);
        dueEvening("wa", -2);
        dueEvening("0 1", -2);
        dueEvening("01w1x", -6);
        dueEvening(times("w1", 30), 30, 0, 30);
        dueEvening(times("w1", 30) + "0", -61);
        dueEvening(times("w1", 30) + "z", -61);
        dueEvening(times("w1", 30) + "0z", -61);
        dueEvening("0" + times("w1", 29) + "w", -61);
        dueEvening("0" + times("w1", 29) + "w1", -61);
        dueEvening("z" + times("w1", 30), -1);
        dueEvening("0" + times("w1", 29) + "z1", -60);
    }

    // 14
    private static void undoing() {
        OneStageTwoPlays x = with(FOUR);
        due("nothing to undo", x.undo(), -1);
        x.plays(0);
        x.cut(1);
        x.puts(1);
        x.pause(5);
        x.pause(0);
        x.plays(7);
        x.cut(0);
        text(x, "11xcx").evening();
        text(x, "11xc").evening();
        due("what can be undone", x.count(8), 5);
        due("CUT", x.count(5), 4);
        due("undo evening", x.undo(), 4);
        due("the evening as one", x.count(3), 14);
        due("undo pause", x.undo(), 3);
        due("undo puts", x.undo(), 2);
        due("it was cut", x.count(5), 2);
        due("undo cut", x.undo(), 1);
        due("undo plays", x.undo(), 0);
        int[] first = {4, 0, -1, 15, 0, 0, 0, 0, 0};
        for (int what = 0; what < first.length; what++) {
            due("all undone: count(" + what + ")", x.count(what), first[what]);
        }
        due("known", x.play(0, 3), 0);
        due("cheers", x.play(0, 4), 0);
        due("undo again", x.undo(), -1);
        for (int k = 0; k < 14; k++) {
            x.pause(1);
        }
        due("twelve are kept", x.count(8), 12);
        text(x, "").scenes();
        text(x, "q").scenes();
        x.again(0);
        due("empty and refused ones forget nothing", x.count(8), 12);
        for (int k = 11; k >= 0; k--) {
            due("undo", x.undo(), k);
        }
        due("no more", x.undo(), -1);
        due("NOW", x.count(1), 2);
        x.pause(3);
        text(x, "01=1").scenes();
        due("scenes() forgets them", x.undo(), -1);
        x.keep(0);
        x.pause(3);
        x.again(0);
        due("again() forgets them", x.undo(), -1);
    }

    // 15
    private static void changes() {
        OneStageTwoPlays x = with(FOUR);
        due("change(0, 1)", x.change(0, 1), 4);
        dueRow("change(0, 1)", x, 1, 1);
        due("change(0, 2)", x.change(0, 2), 4);
        dueRow("change(0, 2)", x, 2, 7);
        due("to itself", x.change(0, 0), 2);
        dueRow("to itself", x, 3, 0);
        due("change(0, 4)", x.change(0, 4), -1);
        due("change(4, 0)", x.change(4, 0), -1);
        due("change(-1, 0)", x.change(-1, 0), -1);
        due("change(0, -1)", x.change(0, -1), -1);
    }

    // 16
    private static void shortestWeaves() {
        OneStageTwoPlays x = with(FOUR);
        due("weave", x.weave(), 23);
        dueRow("weave", x, 0, 1, 1, 0);
        x.plays(0);
        x.plays(1);
        due("weave behind 1", x.weave(), 11);
        dueRow("weave behind 1", x, 1, 0);
        x.plays(1);
        x.plays(0);
        due("nothing to weave", x.weave(), 0);
        dueRow("nothing to weave", x);
        OneStageTwoPlays even = with("01=1;11=1;01=1", "0");
        due("all as short", even.weave(), 3);
        dueRow("the least row", even, 0, 0, 1);
        OneStageTwoPlays unlike = with("01=1;01=1;11=1;11=1", "(o=0)*9");
        due("turns save changes", unlike.weave(), 4);
        dueRow("turns save changes", unlike, 0, 1, 0, 1);
        unlike.plays(0);
        due("behind a scene of 0", unlike.weave(), 3);
        dueRow("behind a scene of 0", unlike, 1, 0, 1);
    }

    // 17, 18, 19
    private static void soonestBothWithin() {
        OneStageTwoPlays x = with(FOUR);
        due("soonest(0)", x.soonest(0), 13);
        dueRow("soonest(0)", x, 0);
        due("soonest(1)", x.soonest(1), 7);
        due("soonest(2)", x.soonest(2), -1);
        due("soonest(-1)", x.soonest(-1), -1);
        due("both(13, 24)", x.both(13, 24), 1);
        dueRow("both(13, 24)", x, 0, 0, 1, 1);
        due("both(13, 23)", x.both(13, 23), 0);
        dueRow("nothing for 0", x);
        due("both(25, 7)", x.both(25, 7), 1);
        dueRow("both(25, 7)", x, 1, 1, 0, 0);
        due("both(199, 199)", x.both(199, 199), 1);
        due("both(200, 0)", x.both(200, 0), -1);
        due("both(0, 200)", x.both(0, 200), -1);
        due("both(-1, 0)", x.both(-1, 0), -1);
        due("both(0, -1)", x.both(0, -1), -1);
        due("within(7)", x.within(7), 2);
        dueRow("within(7)", x, 7);
        due("within(2)", x.within(2), 0);
        dueRow("within(2)", x, 0);
        due("within(199)", x.within(199), 4);
        dueRow("within(199)", x, 23);
        OneStageTwoPlays alone = with("03=1;02=1", "0");
        due("one play alone", alone.within(4), 1);
        due("one play alone", alone.within(5), 2);
        dueRow("one play alone", alone, 5);
        due("within(200)", x.within(200), -1);
        due("within(-1)", x.within(-1), -1);
        OneStageTwoPlays bridge = with("01=1;01=1;11=1", "(o=0)*9");
        due("a scene of the other one between", bridge.soonest(0), 3);
        dueRow("a scene of the other one between", bridge, 1);
        due("nothing left of 1", with("01=1").soonest(1), 0);
        OneStageTwoPlays only = with("05=1");
        due("1 ends at once", only.both(5, 0), 1);
        due("0 does not", only.both(4, 0), 0);
        OneStageTwoPlays equal = with("01=1;02=1;11=1", "1");
        due("equal ones, the fewest", equal.soonest(0), 4);
        dueRow("equal ones, the fewest", equal, 0);
    }

    // 20, 21, 22
    private static void weavesTurnOver() {
        OneStageTwoPlays x = with(FOUR);
        due("weaves", x.weaves(), 6);
        dueRow("weaves", x, 25);
        due("924 of them", with(SIX_EACH).weaves(), 924);
        due("one of one play", with("01=1;02=1").weaves(), 1);
        due("turn(0)", x.turn(0), 0);
        dueRow("turn(0)", x, 23);
        due("turn(1)", x.turn(1), 1);
        dueRow("turn(1)", x, 24);
        due("turn(2)", x.turn(2), -1);
        due("turn(-1)", x.turn(-1), -1);
        due("over(2)", x.over(2), 13);
        dueRow("over(2)", x, 1);
        due("over(0)", x.over(0), 5);
        dueRow("over(0)", x, 0);
        due("over(4)", x.over(4), -1);
        due("over(-1)", x.over(-1), -1);
        x.plays(0);
        x.cut(2);
        due("over one played", x.over(0), -2);
        due("over one cut", x.over(2), -2);
        due("turn with none to come", x.turn(0), -2);
        OneStageTwoPlays bridge = with("01=1;01=1;11=1", "(o=0)*9");
        due("over by a bridge", bridge.over(1), 3);
        dueRow("over by a bridge", bridge, 2);
    }

    // 23
    private static void leastCuts() {
        OneStageTwoPlays x = with(FOUR);
        due("cuts(23)", x.cuts(23), 0);
        dueRow("cuts(23)", x, 0, 23);
        due("cuts(22)", x.cuts(22), 3);
        dueRow("cuts(22)", x, 8, 20);
        due("cuts(0)", x.cuts(0), 18);
        dueRow("cuts(0)", x, 15, 0);
        due("cuts(200)", x.cuts(200), -1);
        due("cuts(-1)", x.cuts(-1), -1);
        due("changed nothing", x.count(3), 15);
        OneStageTwoPlays few = with("02=1;02=1;04=2", "0");
        due("as little lost", few.cuts(4), 2);
        dueRow("the fewest", few, 4, 4);
        OneStageTwoPlays least = with("02=1;12=1;02=1", "0");
        due("as few", least.cuts(4), 1);
        dueRow("the least", least, 1, 4);
        OneStageTwoPlays free = with("02=0;12=5", "0");
        due("nothing is lost", free.cuts(3), 0);
        dueRow("nothing is lost", free, 1, 2);
        OneStageTwoPlays apart = with("09=3;02=1;12=1;09=9;11=8", "o*5");
        due("two that stand together", apart.cuts(25), 2);
        dueRow("two that stand together", apart, 6, 24);
        OneStageTwoPlays last = with("02=9;02=9;02=9;02=9;02=9;02=9;02=9;02=9;02=9;02=9;02=9;02=8", "0");
        due("the last of twelve", last.cuts(23), 8);
        dueRow("the last of twelve", last, 2048, 22);
        free.plays(0);
        text(free, "9").rule();
        due("behind THE LAST one", free.cuts(10), 5);
        dueRow("behind THE LAST one", free, 2, 0);
        for (int one = 0; one < 12; one++) {
            for (int other = 0; other < 12; other++) {
                if (one != other) {
                    cutsOfTwo(one, other);
                }
            }
        }
    }

    /** All are cut but two, which take 11 minutes in one order and 19 in the other. */
    private static void cutsOfTwo(int one, int other) {
        StringBuilder lines = new StringBuilder();
        for (int k = 0; k < 12; k++) {
            lines.append(k == 0 ? "" : ";").append(k == one ? "01=9" : k == other ? "19=9" : "05=9");
        }
        OneStageTwoPlays x = with(lines.toString(), "l");
        for (int k = 0; k < 12; k++) {
            if (k != one && k != other) {
                x.cut(k);
            }
        }
        String call = "cuts() of " + one + " ahead of " + other;
        due(call, x.cuts(11), 0);
        dueRow(call, x, 0, 11);
        due(call + ", a minute less", x.cuts(10), 9);
        dueRow(call + ", a minute less", x, one < other ? 1 << one : 1 << other, one < other ? 9 : 1);
    }

    // 24, 25, 26
    private static void stories() {
        OneStageTwoPlays x = with(FOUR);
        due("clash", x.clash(), 2);
        dueRow("clash", x, 1, 2);
        due("mend", x.mend(), 1);
        dueRow("mend", x, 0, 4);
        due("spare", x.spare(), 14);
        dueRow("spare", x, 3);
        OneStageTwoPlays y = with("01<a=5;01>a=1;01<a=3;11<a=7;11<a=1;11>b<b=9");
        due("clash of both", y.clash(), 1 + 8 + 16 + 32);
        dueRow("clash of both", y, 4, 3 + 4 + 1 + 5);
        due("mend both", y.mend(), 3);
        dueRow("mend both", y, 1, 3);
        due("spare all but the one that tells", y.spare(), 1 + 4 + 8 + 16 + 32);
        dueRow("spare all but the one that tells", y, 5);
        y.plays(0);
        y.plays(0);
        due("what is known does not clash", y.clash(), 8 + 16 + 32);
        y.undo();
        y.cut(1);
        due("cut ones tell nothing", y.clash(), 4 + 8 + 16 + 32);
        OneStageTwoPlays twice = with("01>a=1;01>a=1;01<a=1");
        due("one of two that tell", twice.spare(), 7);
    }

    // 27
    private static void cheersInOrders() {
        OneStageTwoPlays x = with(FOUR);
        due("cheers(0)", x.cheers(0), 11);
        dueRow("cheers(0)", x, 11);
        due("cheers(1)", x.cheers(1), 5);
        dueRow("cheers(1)", x, 7);
        due("cheers(2)", x.cheers(2), -1);
        due("cheers(-1)", x.cheers(-1), -1);
        OneStageTwoPlays ring = with("08>a<b=8;06>b<c=6;04>c<a=4;11>a=1");
        due("a ring by numbers", ring.cheers(0), 4 + 3 + 4);
        dueRow("a ring in the best order", ring, 8 + 6 + 2);
        ring.plays(0);
        due("with a known", ring.cheers(0), 3 + 4);
        dueRow("with a known", ring, 6 + 4);
        OneStageTwoPlays self = with("08>a<a=9");
        due("no order helps", self.cheers(0), 4);
        dueRow("no order helps", self, 4);
        OneStageTwoPlays twelve = with("01<h=2;01<h=2;01<h=2;01<h=2;01<h=2;01<h=2;01<h=2;01<h=2;01<h=2;01<h=2");
        text(twelve, "01=0;01>h=3").scenes();
        due("twelve by numbers", twelve.cheers(0), 13);
        dueRow("twelve in the best order", twelve, 23);
    }

    // 28, 29, 30, 31
    private static void personsAndProps() {
        OneStageTwoPlays x = with(FOUR);
        due("who(0)", x.who(0), 3);
        dueRow("who(0)", x, 1, 1);
        due("who(5)", x.who(5), 0);
        due("who(6)", x.who(6), -1);
        due("who(-1)", x.who(-1), -1);
        due("kings", x.kings(), 1);
        dueRow("kings", x, 1, 8);
        due("stand", x.stand(), 0);
        dueRow("stand", x, 8);
        due("guard", x.guard(), 2);
        dueRow("guard", x, 6);
        x.plays(0);
        x.cut(1);
        due("who of played and cut ones, too", x.who(0), 3);
        OneStageTwoPlays more = with("01F=1;01A=1;01AF=1;11F=1");
        due("who(5)", more.who(5), 13);
        dueRow("who(5)", more, 2, 1);
        due("kings of those to come", x.kings(), 0);
        dueRow("kings of those to come", x, 0, 0);
        OneStageTwoPlays y = with("03A13=1;15AB134=1;02C123=1;14=0;11B13=0");
        y.cut(3);
        due("props that stand through", y.stand(), 5);
        dueRow("props that stand through", y, 0);
        due("guard of A, AB, C, B", y.guard(), 3);
        dueRow("guard of A, AB, C, B", y, 7);
        y.cut(4);
        due("kings", y.kings(), 1);
        dueRow("kings with minutes of both", y, 1, 8);
        due("guard of A, AB, C", y.guard(), 2);
        dueRow("guard of A, AB, C", y, 5);
        OneStageTwoPlays lacking = with("013=1;11123=1;01123=1");
        due("the first one lacks two", lacking.stand(), 4);
        dueRow("the first one lacks two", lacking, 8);
        OneStageTwoPlays equal = with("01CD=1;01CD=1;12=1");
        due("of as few", equal.guard(), 1);
        dueRow("the least", equal, 4);
        due("all cut: all four", with("01=1").cut(0), 0);
        OneStageTwoPlays none = with("0112=1");
        none.cut(0);
        due("none to come", none.stand(), 15);
        dueRow("none to come", none, 15);
    }

    // 32, 33
    private static void chances() {
        OneStageTwoPlays x = with(FOUR);
        due("chance(0, 1)", x.chance(0, 1), 0);
        dueRow("chance(0, 1)", x, 81, 100);
        x.chance(1, 5);
        dueRow("chance(1, 5)", x, 1, 4);
        x.chance(0, 10);
        dueRow("0 by 1", x, 0, 1);
        x.chance(0, 0);
        dueRow("sure", x, 1, 1);
        due("chance(2, 1)", x.chance(2, 1), -1);
        due("chance(-1, 1)", x.chance(-1, 1), -1);
        due("chance(0, 11)", x.chance(0, 11), -1);
        due("chance(0, -1)", x.chance(0, -1), -1);
        due("likely(5)", x.likely(5), 2);
        dueRow("likely(5)", x, 3, 8);
        due("likely(0)", x.likely(0), 4);
        dueRow("likely(0)", x, 1, 1);
        due("likely(10)", x.likely(10), 0);
        dueRow("likely(10)", x, 1, 1);
        due("likely(11)", x.likely(11), -1);
        due("likely(-1)", x.likely(-1), -1);
        OneStageTwoPlays one = with("01A=1;11=1");
        due("equal ones", one.likely(5), 1);
        dueRow("equal ones", one, 1, 2);
        OneStageTwoPlays six = with("01ABCDEF=1");
        six.chance(0, 7);
        dueRow("six persons", six, 729, 1000000);
        six.likely(7);
        dueRow("likeliest none", six, 999271, 1000000);
        six.cut(0);
        six.chance(0, 10);
        dueRow("nobody is needed", six, 1, 1);
    }

    // 34, 35
    private static void shares() {
        OneStageTwoPlays x = fresh();
        int[][] rests = {{0, 1, 0, 0}, {1, 3, 0, 1}, {2, 1, 1, 1}, {3, 2, 1, 2}, {4, 1, 2, 2}, {19, 2, 9, 10}, {20, 1, 10, 10}};
        for (int[] r : rests) {
            due("rests(" + r[0] + ")", x.rests(r[0]), r[1]);
            dueRow("rests(" + r[0] + ")", x, r[2], r[3]);
        }
        due("rests(21)", x.rests(21), -1);
        due("rests(-1)", x.rests(-1), -1);
        int[][] lamps = {{1, 97, 1}, {2, 104, 1}, {3, 105, 2}, {4, 106, 3}, {5, 99, 3}, {6, 102, 1}, {7, 103, 2}, {8, 104, 3}};
        for (int[] l : lamps) {
            due("lamps(" + l[0] + ")", x.lamps(l[0]), l[1]);
            dueRow("lamps(" + l[0] + ")", x, l[2]);
        }
        due("lamps(0)", x.lamps(0), -1);
        due("lamps(41)", x.lamps(41), -1);
        due("lamps(39)", x.lamps(39), 101);
        dueRow("lamps(39)", x, 3);
        due("lamps(40)", x.lamps(40), 100);
        dueRow("lamps(40)", x, 1);
    }

    // 36, 37, 38, 39
    private static void bows() {
        OneStageTwoPlays x = with(FOUR);
        due("all fit", x.fits(), 15);
        dueRow("all fit", x, 4, 2);
        due("ask", x.ask(), 0);
        dueRow("ask", x, 2);
        due("bow(0, 1)", x.bow(0, 1), 1);
        due("fits", x.fits(), 3);
        dueRow("fits", x, 2, 1);
        due("ask", x.ask(), 1);
        dueRow("ask", x, 1);
        due("bow(1, 0)", x.bow(1, 0), 2);
        due("bow(1, 1): as it was last", x.bow(1, 1), 2);
        due("fits", x.fits(), 1);
        due("bow(1, 0)", x.bow(1, 0), 2);
        due("fits", x.fits(), 2);
        dueRow("fits", x, 1, 0);
        due("bow(2, 0)", x.bow(2, 0), 3);
        due("none fits", x.fits(), 0);
        due("whom to ask then", x.ask(), -2);
        due("seen", x.count(7), 7);
        due("bow(6, 0)", x.bow(6, 0), -1);
        due("bow(-1, 0)", x.bow(-1, 0), -1);
        due("bow(0, 2)", x.bow(0, 2), -1);
        due("bow(0, -1)", x.bow(0, -1), -1);
        due("forget", x.forget(), 3);
        due("forget", x.forget(), 0);
        due("seen", x.count(7), 0);
        x.plays(0);
        x.cut(1);
        due("played and cut ones fit, too", x.fits(), 15);
    }

    // 40
    private static void laws() {
        OneStageTwoPlays x = with(FOUR);
        due("law 0", text(x, "0").law(), -9);
        dueRow("law 0", x, 14, 23);
        due("law 20", text(x, "20").law(), 51);
        dueRow("law 20", x, 74, 23);
        due("law o*9", text(x, "o*9").law(), 0);
        due("the rule is as it was", x.change(0, 1), 4);
        text(x, "0").rule();
        due("an empty law: none", text(x, "").law(), 9);
        dueRow("an empty law: none", x, 23, 14);
        due("a faulty one", text(x, "x").law(), -10000);
        due("one that ends early", text(x, "o+").law(), -10002);
        due("signs then", x.count(10), 0);
    }

    // 41; R of seed 0: 12345, 0 ..
    private static void drawnYears() {
        OneStageTwoPlays x = with(FOUR);
        due("years(1, 61)", x.years(1, 61), -1);
        due("years(1, 0)", x.years(1, 0), -1);
        due("years(1, -1)", x.years(1, -1), -1);
        // 12345 tells 0: scene 0 is played
        due("one draw of seed 0", x.years(0, 1), 5);
        dueRow("one draw of seed 0", x, 1, 6);
        due("NOW is as it was", x.count(1), 0);
        due("THE LAST one is as it was", x.count(2), -1);
        due("the same again, from the night as it stands", x.years(0, 1), 5);
        dueRow("the same again", x, 1, 6);
        for (int seed = 0; seed < 30; seed++) {
            dueYears("", seed * 7919 - 60000, 1 + seed % 4);
            dueYears("1w3", seed * 104729 + 11, 1 + seed % 6);
        }
        dueYears("", 77, 60);
        dueYears("0xdw2", 77, 60);
        yearsWithoutScenes();
        yearsBesideUndoAndKept();
    }

    private static void yearsWithoutScenes() {
        OneStageTwoPlays none = fresh();
        due("nine draws of seed 0", none.years(0, 9), 1);
        dueRow("no scenes", none, 0, 0);
        due("NOW is as it was", none.count(1), 0);
        due("one draw of seed 0", none.years(0, 1), 0);
    }

    /** The evening is drawn behind what was done ahead of it. */
    private static void dueYears(String evening, int seed, int n) {
        OneStageTwoPlays y = with(FOUR);
        OneStageTwoPlays z = with(FOUR);
        text(y, evening).evening();
        text(z, evening).evening();
        int r = seed;
        int played = 0;
        for (int k = 0; k < n; k++) {
            r = r * 1103515245 + 12345;
            long draw = (r & 0xFFFFFFFFL) / 65536 % 4;
            if (draw == 3) {
                y.pause(1);
            } else {
                int play = (int) draw;
                if (draw == 2) {
                    play = y.count(2) < 0 ? 0 : 1 - y.scene(y.count(2), 0);
                }
                played += y.plays(play) >= 0 ? 1 : 0;
            }
        }
        String ahead = nightOf(z);
        String call = "years(" + seed + ", " + n + ") behind '" + evening + "'";
        due(call, z.years(seed, n), y.count(1));
        dueRow(call, z, played, y.count(6));
        dueText(call + ": the night is as it was", nightOf(z), ahead);
    }

    private static void yearsBesideUndoAndKept() {
        OneStageTwoPlays x = with(FOUR);
        String first = nightOf(x);
        x.keep(0);
        x.plays(1);
        String second = nightOf(x);
        x.pause(4);
        String third = nightOf(x);
        dueTrue("minutes go by in it", x.years(3, 60) > x.count(1));
        dueText("behind years()", nightOf(x), third);
        due("what can be undone", x.undo(), 1);
        dueText("undone behind years()", nightOf(x), second);
        x.years(12, 60);
        due("what can be undone", x.undo(), 0);
        dueText("all undone", nightOf(x), first);
        x.plays(0);
        x.years(9, 60);
        dueTrue("kept ahead of years()", x.again(0));
        dueText("again behind years()", nightOf(x), first);
    }

    /** All that the face tells of a night, but for the ROW and THE TEXT. */
    private static String nightOf(OneStageTwoPlays x) {
        StringBuilder out = new StringBuilder();
        for (int what = 0; what <= 8; what++) {
            out.append(what).append(':').append(x.count(what)).append(' ');
        }
        for (int play = 0; play <= 1; play++) {
            for (int what = 0; what <= 6; what++) {
                out.append(play).append('.').append(what).append(':').append(x.play(play, what)).append(' ');
            }
        }
        for (int scene = 0; scene < x.count(0); scene++) {
            out.append('s').append(scene).append(':').append(x.scene(scene, 7)).append(' ');
        }
        return out.toString();
    }

    // 42, 43
    private static void keptNights() {
        OneStageTwoPlays x = with(FOUR);
        due("nothing kept", x.again(0) ? 1 : 0, 0);
        x.plays(0);
        dueTrue("keep(0)", x.keep(0));
        x.plays(1);
        x.cut(2);
        dueTrue("keep(1)", x.keep(1));
        due("keep(2)", x.keep(2) ? 1 : 0, 0);
        due("keep(-1)", x.keep(-1) ? 1 : 0, 0);
        dueTrue("again(0)", x.again(0));
        int[] then = {4, 5, 0, 14, 1, 0, 6, 0, 0};
        for (int what = 0; what < then.length; what++) {
            due("again(0): count(" + what + ")", x.count(what), then[what]);
        }
        due("known", x.play(0, 3), 1);
        x.pause(9);
        dueTrue("again(0), once more", x.again(0));
        due("NOW", x.count(1), 5);
        dueTrue("again(1)", x.again(1));
        due("CUT", x.count(5), 4);
        due("again(2)", x.again(2) ? 1 : 0, 0);
        due("again(-1)", x.again(-1) ? 1 : 0, 0);
        text(x, "").scenes();
        text(x, "z").scenes();
        dueTrue("no SCENES came", x.again(0));
        text(x, "01=1").scenes();
        due("SCENES came since", x.again(0) ? 1 : 0, 0);
        due("SCENES came since", x.again(1) ? 1 : 0, 0);
        dueTrue("keep(1)", x.keep(1));
        dueTrue("again(1)", x.again(1));
        due("again(0)", x.again(0) ? 1 : 0, 0);
    }

    // 44, 45
    private static void countsAndRows() {
        OneStageTwoPlays x = with(FOUR);
        x.plays(0);
        x.cut(1);
        x.bow(5, 1);
        x.sign(0);
        int[] counts = {4, 5, 0, 12, 1, 2, 6, 32, 2, 3, 4};
        for (int what = 0; what < counts.length; what++) {
            due("count(" + what + ")", x.count(what), counts[what]);
        }
        due("count(11)", x.count(11), -100);
        due("count(-1)", x.count(-1), -100);
        due("row(2)", x.row(2), 6);
        dueNoSuch("row(3)", () -> x.row(3));
        dueNoSuch("row(-1)", () -> x.row(-1));
        dueNoSuch("row(MAX)", () -> x.row(Integer.MAX_VALUE));
        OneStageTwoPlays twelve = with(SIX_EACH);
        twelve.weave();
        dueRow("twelve numbers", twelve, 0, 0, 0, 0, 0, 0, 1, 1, 1, 1, 1, 1);
        due("no room for a thirteenth", text(twelve, "01=1").scenes(), -1);
        due("nor for a bad one", text(twelve, "zz").scenes(), -1);
        due("thirteen lines", text(fresh(), SIX_EACH + ";01=1").scenes(), -61);
        due("twelve and an open end", text(fresh(), SIX_EACH + ";").scenes(), -61);
        OneStageTwoPlays eleven = with("01=1;01=1;01=1;01=1;01=1;01=1;11=1;11=1;11=1;11=1;11=1");
        due("two with room for one", text(eleven, "11=1;11=1").scenes(), -6);
        due("still eleven", eleven.count(0), 11);
        due("one with room for one", text(eleven, "11=1").scenes(), 1);
    }

    // terms 2: what is refused changes nothing, the ROW neither
    private static void refusedCallsKeepTheRow() {
        OneStageTwoPlays x = with("01AB=1");
        x.kings();
        x.change(0, 0);
        x.plays(1);
        x.plays(2);
        x.soonest(2);
        x.both(200, 0);
        x.within(200);
        x.turn(1);
        x.turn(2);
        x.over(1);
        x.cuts(200);
        x.cheers(2);
        x.who(6);
        x.chance(0, 11);
        x.likely(11);
        x.rests(21);
        x.lamps(0);
        x.years(0, 0);
        text(x, "z").law();
        text(x, "z").evening();
        x.bow(4, 1);
        x.ask();
        dueRow("behind refused calls", x, 3, 0);
        due("NOW behind refused calls", x.count(1), 0);
    }
}
