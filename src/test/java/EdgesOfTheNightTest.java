import java.util.Arrays;

/** Sentences that name edges of SCENES and of the night: played, cut, undone, drawn, kept, counted. */
public final class EdgesOfTheNightTest extends Checks {
    private static final int[] NO_PLAYS = {-1, 2, 3, LOWEST, HIGHEST};

    public static void main(String[] args) {
        newObject();
        firstNight();
        sceneAsked();
        playAsked();
        sheetsOfBytes();
        sheetsOfShortsAndInts();
        sheetsTooShortAndTooLong();
        sheetsRefused();
        scenePlayed();
        cheersHalved();
        sceneCut();
        scenePutBack();
        pauses();
        evenings();
        undoneOneByOne();
        notToBeUndone();
        twelveToBeUndone();
        forgotten();
        drawsOfYears();
        yearsOfPlays();
        yearsAsked();
        kept();
        keptNoMore();
        counts();
        rows();
        finish("edges of the night");
    }

    // ---- 1 and terms

    private static void newObject() {
        says(1, "No SCENES");
        OneStageTwoPlays x = fresh();
        due("count(0)", x.count(0), 0);
        dueNoSuch("scene(0, 0)", () -> x.scene(0, 0));
        due("TO COME", x.count(3), 0);
        due("PLAYED", x.count(4), 0);
        due("CUT", x.count(5), 0);
        due("numbers of the ROW", x.count(9), 0);
        due("signs", x.count(10), 0);
        due("cut(0)", x.cut(0), -1);
        OneStageTwoPlays other = with("01=1");
        due("SCENES of another object", x.count(0) + 10 * other.count(0), 10);
    }

    private static void firstNight() {
        says(TERMS, "NOW (minutes, at first 0)");
        due("count(1)", with(FOUR).count(1), 0);
        says(TERMS, "THE LAST one PLAYED (at first none)");
        due("count(2)", with(FOUR).count(2), -1);
        says(TERMS, "CHEERS of both houses (at first 0)");
        due("count(6)", with(FOUR).count(6), 0);
        due("play(0, 4)", with(FOUR).play(0, 4), 0);
        due("play(1, 4)", with(FOUR).play(1, 4), 0);
        says(TERMS, "SCENES of a PLAY come by their numbers");
        OneStageTwoPlays x = with("11=1;01=2;11=3;01=4");
        int[] turns = {1, 0, 0, 1};
        int[] due = {0, 1, 3, 2};
        for (int k = 0; k < 4; k++) {
            due("next", x.play(turns[k], 5), due[k]);
            x.plays(turns[k]);
            due("plays(" + turns[k] + ")", x.row(0), due[k]);
        }
    }

    // ---- 6, 7

    private static void sceneAsked() {
        says(6, "NoSuchElementException: none such, another what");
        OneStageTwoPlays x = with("05A1>a<b=9;11=0");
        for (int scene : new int[] {-1, 2, 3, 11, 12, LOWEST, HIGHEST}) {
            dueNoSuch("scene(" + scene + ", 0)", () -> x.scene(scene, 0));
            dueNoSuch("scene(" + scene + ", 7)", () -> x.scene(scene, 7));
        }
        for (int what : new int[] {-1, 8, 9, LOWEST, HIGHEST}) {
            dueNoSuch("scene(0, " + what + ")", () -> x.scene(0, what));
            dueNoSuch("scene(1, " + what + ")", () -> x.scene(1, what));
        }
        OneStageTwoPlays full = with(SIX_EACH);
        due("scene(11, 0) of twelve", full.scene(11, 0), 1);
        dueNoSuch("scene(12, 0) of twelve", () -> full.scene(12, 0));
        says(6, "4: the FACT told (NONE), 5: the FACT needed (NONE)");
        due("scene(0, 4)", x.scene(0, 4), 0);
        due("scene(0, 5)", x.scene(0, 5), 1);
        due("scene(1, 4)", x.scene(1, 4), -1);
        due("scene(1, 5)", x.scene(1, 5), -1);
        says(6, "7: 0 TO COME, 1 PLAYED, 2 CUT");
        due("TO COME", x.scene(0, 7), 0);
        x.plays(0);
        due("PLAYED", x.scene(0, 7), 1);
        x.cut(1);
        due("CUT", x.scene(1, 7), 2);
        x.puts(1);
        due("TO COME again", x.scene(1, 7), 0);
    }

    private static void duePlay(OneStageTwoPlays x, int play, int... want) {
        for (int what = 0; what < want.length; what++) {
            due("play(" + play + ", " + what + ")", x.play(play, what), want[what]);
        }
    }

    private static void playAsked() {
        says(7, "NoSuchElementException: likewise");
        OneStageTwoPlays x = with("05>a=9;11=0;02<a=3");
        for (int play : NO_PLAYS) {
            dueNoSuch("play(" + play + ", 0)", () -> x.play(play, 0));
            dueNoSuch("play(" + play + ", 6)", () -> x.play(play, 6));
        }
        for (int what : new int[] {-1, 7, 8, LOWEST, HIGHEST}) {
            dueNoSuch("play(0, " + what + ")", () -> x.play(0, what));
            dueNoSuch("play(1, " + what + ")", () -> x.play(1, what));
        }
        says(7, "5: the next SCENE (NONE)");
        duePlay(fresh(), 0, 0, 0, 0, 0, 0, -1, 0);
        duePlay(fresh(), 1, 0, 0, 0, 0, 0, -1, 0);
        duePlay(x, 0, 5, 0, 0, 0, 0, 0, 7);
        duePlay(x, 1, 2, 0, 0, 0, 0, 1, 1);
        x.cut(0);
        duePlay(x, 0, 4, 0, 1, 0, 0, 2, 2);
        x.plays(0);
        duePlay(x, 0, 0, 4, 1, 0, 1, -1, 0);
        x.cut(1);
        duePlay(x, 1, 0, 0, 2, 0, 0, -1, 0);
        x.puts(1);
        duePlay(x, 1, 2, 0, 0, 0, 0, 1, 1);
    }

    // ---- 8

    private static OneStageTwoPlays ofScenes(int n) {
        return with("01=1;".repeat(n - 1) + "01=1");
    }

    private static void dueSheet(int kind, int n, int f, int step, int... want) {
        OneStageTwoPlays x = ofScenes(want.length);
        String call = "sheet(" + kind + ", " + n + ", " + f + ", " + step + ")";
        int sum = 0;
        for (int minutes : want) {
            sum += minutes;
        }
        due(call, x.sheet(kind, n, f, step), sum);
        for (int scene = 0; scene < want.length; scene++) {
            due(call + ", MINUTES of " + scene, x.scene(scene, 1), want[scene]);
        }
    }

    private static void sheetsOfBytes() {
        says(8, "of bytes, shorts the lowest bits, with their sign");
        dueSheet(0, 3, 5, 256, 5, 5, 5);
        dueSheet(0, 2, 127, 1, 9, 1);
        dueSheet(0, 4, 128, -1, 1, 9, 9, 9);
        dueSheet(0, 2, 255, 1, 1, 1);
        dueSheet(0, 2, 256, 1, 1, 1);
        dueSheet(0, 3, 254, 4, 1, 2, 6);
        dueSheet(0, 2, -250, -1, 6, 5);
        dueSheet(0, 2, -129, 1, 9, 1);
        dueSheet(0, 1, 0x7FFFFF05, 0, 5);
        dueSheet(0, 1, LOWEST + 7, 0, 7);
        dueSheet(0, 3, 7, 128, 7, 1, 7);
    }

    private static void sheetsOfShortsAndInts() {
        says(8, "of bytes, shorts the lowest bits, with their sign");
        dueSheet(1, 2, 255, 1, 9, 9);
        dueSheet(1, 2, 128, 0, 9, 9);
        dueSheet(1, 2, 32767, 1, 9, 1);
        dueSheet(1, 2, -32769, 1, 9, 1);
        dueSheet(1, 3, 65535, 3, 1, 2, 5);
        dueSheet(1, 3, 5, 65536, 5, 5, 5);
        dueSheet(1, 1, 0x7FFF0005, 0, 5);
        dueSheet(1, 3, 7, 32768, 7, 1, 7);
        says(8, "ints (2) of n entries f, f + step");
        dueSheet(2, 3, 65536 + 5, -65536, 9, 5, 1);
        dueSheet(2, 2, HIGHEST, 1, 9, 1);
        dueSheet(2, 2, LOWEST, -1, 1, 9);
        dueSheet(2, 4, 5, LOWEST, 5, 1, 5, 1);
        dueSheet(2, 5, 5, 1 << 30, 5, 9, 1, 1, 5);
        dueSheet(2, 3, 9, HIGHEST, 9, 1, 7);
        says(8, "put to 1 .. 9");
        dueSheet(2, 12, -1, 1, 1, 1, 1, 2, 3, 4, 5, 6, 7, 8, 9, 9);
        dueSheet(0, 12, -1, 1, 1, 1, 1, 2, 3, 4, 5, 6, 7, 8, 9, 9);
        dueSheet(1, 12, -1, 1, 1, 1, 1, 2, 3, 4, 5, 6, 7, 8, 9, 9);
    }

    private static void sheetsTooShortAndTooLong() {
        says(8, "those behind it have 1: the sum of all");
        for (int kind = 0; kind <= 2; kind++) {
            dueSheet(kind, 0, 9, 9, 1, 1, 1);
            dueSheet(kind, 1, 9, 9, 9, 1, 1);
            dueSheet(kind, 2, 9, 0, 9, 9, 1);
            dueSheet(kind, 3, 9, 0, 9, 9, 9);
            dueSheet(kind, 4, 9, 0, 9, 9, 9);
            dueSheet(kind, 12, 9, 0, 9, 9, 9);
            due("of no SCENES", fresh().sheet(kind, 12, 9, 0), 0);
            due("of no entries and no SCENES", fresh().sheet(kind, 0, 9, 0), 0);
        }
        says(8, "MINUTES of SCENES 0, 1, .., as a sheet tells them");
        OneStageTwoPlays x = with("05=0;15=0;05=0", "m");
        x.plays(0);
        x.cut(1);
        due("sheet()", x.sheet(2, 3, 2, 3), 2 + 5 + 8);
        due("of one PLAYED", x.scene(0, 1), 2);
        due("of one CUT", x.scene(1, 1), 5);
        due("of one TO COME", x.play(0, 6), 8);
        due("NOW is as it was", x.count(1), 5);
        due("CHANGE goes by it", x.change(0, 2), 8);
        due("weaves go by it", x.weave(), 16);
        due("what can be undone is as it was", x.count(8), 2);
        text(x, "03=0").scenes();
        due("one that comes later has its own", x.scene(3, 1), 3);
    }

    private static void dueRefusedSheet(int kind, int n, int want) {
        OneStageTwoPlays x = with("05=0;14=0;03=0");
        String ahead = scriptOf(x);
        due("sheet(" + kind + ", " + n + ", 9, 0)", x.sheet(kind, n, 9, 0), want);
        dueText("SCENES behind sheet(" + kind + ", " + n + ", 9, 0)", scriptOf(x), ahead);
    }

    private static void sheetsRefused() {
        says(8, "-2: n below 0 (of kinds 0 .. 2; nothing changes)");
        for (int kind = 0; kind <= 2; kind++) {
            for (int n : new int[] {-1, -12, -13, LOWEST}) {
                dueRefusedSheet(kind, n, -2);
            }
        }
        says(8, "NONE: another kind, n above 12 (these first)");
        for (int kind = 0; kind <= 3; kind++) {
            for (int n : new int[] {13, 14, HIGHEST}) {
                dueRefusedSheet(kind, n, -1);
            }
        }
        for (int kind : new int[] {-1, 4, 5, LOWEST, HIGHEST}) {
            for (int n : new int[] {-1, 0, 3, 13, LOWEST}) {
                dueRefusedSheet(kind, n, -1);
            }
        }
        says(8, "-3: missing (all 1)");
        for (int n : new int[] {0, 1, 12, -1, LOWEST}) {
            OneStageTwoPlays x = with("05=0;14=0;03=0");
            due("sheet(3, " + n + ", 9, 0)", x.sheet(3, n, 9, 0), -3);
            due("MINUTES", 100 * x.scene(0, 1) + 10 * x.scene(1, 1) + x.scene(2, 1), 111);
        }
        due("missing, of no SCENES", fresh().sheet(3, 0, 0, 0), -3);
    }

    // ---- 9

    private static void scenePlayed() {
        says(9, "-2: there is none; NONE: none such");
        OneStageTwoPlays x = with("05=2;03=1;04=3", "7");
        for (int play : NO_PLAYS) {
            due("plays(" + play + ")", x.plays(play), -1);
        }
        due("plays(1), of which none ever was", x.plays(1), -2);
        due("NOW", x.count(1), 0);
        due("what can be undone", x.count(8), 0);
        x.cut(1);
        due("plays(0)", x.plays(0), 5);
        due("plays(0), one CUT between", x.plays(0), 5 + 7 + 4);
        dueRow("plays(0), one CUT between", x, 2, 7, 3);
        due("plays(0), all PLAYED or CUT", x.plays(0), -2);
        dueRow("plays(0), all PLAYED or CUT", x, 2, 7, 3);
        due("THE LAST one", x.count(2), 2);
        OneStageTwoPlays all = with(SIX_EACH);
        for (int k = 0; k < 12; k++) {
            all.plays(k / 6);
        }
        due("all twelve PLAYED", all.count(4), 4095);
        due("plays(0)", all.plays(0), -2);
        due("plays(1)", all.plays(1), -2);
    }

    private static void cheersHalved() {
        says(TERMS, "else half of it (cut)");
        for (int cheer = 0; cheer <= 9; cheer++) {
            OneStageTwoPlays x = with("01<a=" + cheer);
            x.plays(0);
            dueRow("a CHEER of " + cheer, x, 0, 0, cheer / 2);
            due("CHEERS of its house", x.play(0, 4), cheer / 2);
        }
        says(TERMS, "if the FACT that it needs was KNOWN there ahead of it (or it needs none)");
        OneStageTwoPlays x = with("01>a<a=9;11<a=9;01<a=9;11=9");
        x.plays(0);
        dueRow("its own FACT comes behind it", x, 0, 0, 4);
        x.plays(1);
        dueRow("the other house KNOWS it alone", x, 1, 2, 4);
        x.plays(0);
        dueRow("KNOWN there", x, 2, 2, 9);
        x.plays(1);
        dueRow("it needs none", x, 3, 2, 9);
        says(TERMS, "then its house KNOWS its FACT");
        due("house 0", x.play(0, 3), 1);
        due("house 1", x.play(1, 3), 0);
        says(TERMS, "Each PLAY's house KNOWS FACTS that its SCENES PLAYED told");
        OneStageTwoPlays cut = with("01>a=1;01<a=8;11>h=1");
        cut.cut(0);
        cut.plays(0);
        dueRow("one CUT tells nothing", cut, 1, 0, 4);
        due("house 0", cut.play(0, 3), 0);
        cut.plays(1);
        due("house 1 KNOWS h", cut.play(1, 3), 128);
        due("house 0 does not", cut.play(0, 3), 0);
        OneStageTwoPlays twice = with("01>a=1;01>a=1;01<a=8;11>h=1;11>h=1;11<h=8");
        due("all of PLAY 0, then of 1", text(twice, "000111").evening(), 6);
        due("told twice, house 0", twice.play(0, 3), 1);
        due("told twice, house 1", twice.play(1, 3), 128);
        due("CHEERS of house 0", twice.play(0, 4), 10);
        due("CHEERS of house 1", twice.play(1, 4), 10);
    }

    // ---- 10, 11, 12

    private static void sceneCut() {
        OneStageTwoPlays x = with("01=1;01=1;11=1;01=1");
        says(10, "-2: it is not TO COME; NONE: none such");
        for (int scene : new int[] {-1, 4, 12, 31, 32, LOWEST, HIGHEST}) {
            due("cut(" + scene + ")", x.cut(scene), -1);
        }
        due("cut(3)", x.cut(3), 2);
        due("cut(3), that is CUT", x.cut(3), -2);
        x.plays(0);
        due("cut(0), that is PLAYED", x.cut(0), -2);
        due("what can be undone", x.count(8), 2);
        says(10, "how many of its PLAY are TO COME");
        due("cut(2), the only one", x.cut(2), 0);
        due("cut(1), the last one", x.cut(1), 0);
        due("TO COME", x.count(3), 0);
        due("CUT", x.count(5), 14);
    }

    private static void scenePutBack() {
        OneStageTwoPlays x = with("01=1;01=1;01=1;11=1");
        says(11, "-2: it was not CUT; -3: a later one of its PLAY was PLAYED; NONE: none such");
        for (int scene : new int[] {-1, 4, 12, 32, LOWEST, HIGHEST}) {
            due("puts(" + scene + ")", x.puts(scene), -1);
        }
        due("puts(0), that is TO COME", x.puts(0), -2);
        x.cut(1);
        x.plays(0);
        due("puts(0), that is PLAYED, none later", x.puts(0), -2);
        x.plays(1);
        due("puts(1), an earlier one and one of the other PLAY are PLAYED", x.puts(1), 2);
        x.cut(1);
        x.plays(0);
        due("puts(1), a later one is PLAYED", x.puts(1), -3);
        due("puts(0), that is PLAYED, a later one too", x.puts(0), -2);
        x.undo();
        due("puts(1), that is undone", x.puts(1), 2);
        x.cut(2);
        x.cut(1);
        due("puts(2), the last one", x.puts(2), 1);
        says(11, "A SCENE that was CUT is TO COME again: likewise");
        due("puts(2) once more", x.puts(2), -2);
        due("puts(1)", x.puts(1), 2);
        due("TO COME", x.count(3), 6);
        due("CUT", x.count(5), 0);
        due("the next one", x.play(0, 5), 1);
    }

    private static void pauses() {
        says(12, "n minutes (0 .. 99) go by: NOW");
        OneStageTwoPlays x = with("05=1", "9");
        due("pause(0)", x.pause(0), 0);
        due("pause(1)", x.pause(1), 1);
        due("pause(99)", x.pause(99), 100);
        says(12, "NONE: another n");
        for (int n : new int[] {-1, 100, 101, LOWEST, HIGHEST}) {
            due("pause(" + n + ")", x.pause(n), -1);
        }
        due("NOW", x.count(1), 100);
        for (int k = 0; k < 400; k++) {
            x.pause(99);
        }
        due("NOW has no end", x.count(1), 100 + 400 * 99);
        due("THE LAST one", x.count(2), -1);
    }

    // ---- 13

    private static void dueEvening(String acts, int done, int stuck, int now) {
        OneStageTwoPlays x = with("05=1;13=1;04=1;12=1", "1");
        due("evening() of " + acts, text(x, acts).evening(), done);
        dueRow("evening() of " + acts, x, stuck, now);
        due("signs behind " + acts, x.count(10), 0);
    }

    private static void evenings() {
        says(13, "an empty one: nothing");
        OneStageTwoPlays x = with(FOUR);
        x.pause(8);
        String ahead = nightOf(x);
        due("evening() of none", text(x, "").evening(), 0);
        dueRow("evening() of none", x, 0, 8);
        dueText("the night then", nightOf(x), ahead);
        says(13, "till one can't be (it answers below 0)");
        dueEvening("0", 1, 0, 5);
        dueEvening("00", 2, 0, 10);
        dueEvening("000", 2, 1, 10);
        dueEvening("000w9", 2, 1, 10);
        dueEvening("11", 2, 0, 6);
        dueEvening("1111", 2, 1, 6);
        dueEvening("xd1", 2, 0, 3);
        dueEvening("xd11", 2, 1, 3);
        dueEvening("xdxd", 1, 1, 0);
        dueEvening("xe", 0, 1, 0);
        dueEvening("xl", 0, 1, 0);
        dueEvening("0xa", 1, 1, 5);
        dueEvening("w0", 1, 0, 0);
        dueEvening("w9w9", 2, 0, 18);
        dueEvening("xaxbxcxd", 4, 0, 0);
        dueEvening("xaxbxcxd0", 4, 1, 0);
        dueEvening("xaxbxcxd1", 4, 1, 0);
        says(13, "x and a letter a .. l (that SCENE is CUT)");
        OneStageTwoPlays twelve = with(SIX_EACH);
        due("evening() of xlxa", text(twelve, "xlxa").evening(), 2);
        due("CUT", twelve.count(5), 2049);
        says(13, "they are done one by one");
        OneStageTwoPlays most = fresh();
        due("thirty ACTS", text(most, "w9".repeat(30)).evening(), 30);
        dueRow("thirty ACTS", most, 0, 270);
        OneStageTwoPlays stuck = fresh();
        due("sixty ACTS, not one of them can be", text(stuck, "0".repeat(60)).evening(), 0);
        dueRow("sixty ACTS, not one of them can be", stuck, 1, 0);
    }

    // ---- 14

    private static void undoneOneByOne() {
        says(14, "(NOW, THE LAST one, what is TO COME, PLAYED, CUT, KNOWN, CHEERS are as ahead of it)");
        OneStageTwoPlays x = with(FOUR);
        String[] nights = new String[7];
        nights[0] = nightOf(x);
        x.plays(0);
        nights[1] = nightOf(x);
        x.plays(1);
        nights[2] = nightOf(x);
        x.cut(2);
        nights[3] = nightOf(x);
        x.puts(2);
        nights[4] = nightOf(x);
        x.pause(1);
        nights[5] = nightOf(x);
        due("evening()", text(x, "1w3xc").evening(), 3);
        due("what can be undone", x.count(8), 6);
        says(14, "how many are left that can be");
        for (int k = 5; k >= 0; k--) {
            due("undo()", x.undo(), k);
            dueText("the night then", nightOf(x), nights[k]);
        }
        says(14, "Refused: none");
        due("undo()", x.undo(), -1);
        dueText("the night then", nightOf(x), nights[0]);
        due("undo() of a new one", fresh().undo(), -1);
    }

    private static void notToBeUndone() {
        OneStageTwoPlays x = with("01=1;01=1;01=1");
        says(14, "such as were done");
        x.plays(1);
        x.plays(2);
        x.cut(3);
        x.puts(0);
        x.puts(7);
        x.pause(100);
        x.pause(-1);
        due("count(8)", x.count(8), 0);
        x.cut(0);
        x.plays(0);
        x.cut(0);
        x.puts(0);
        x.puts(1);
        due("count(8)", x.count(8), 2);
        says(14, "pause() of 1 and more");
        x.pause(0);
        due("count(8)", x.count(8), 2);
        x.pause(1);
        due("count(8)", x.count(8), 3);
        says(14, "evening() of which one ACT was done, as one");
        text(x, "").evening();
        text(x, "1").evening();
        text(x, "xaw5").evening();
        text(x, "0z").evening();
        due("count(8)", x.count(8), 3);
        text(x, "w0").evening();
        due("count(8)", x.count(8), 4);
        text(x, "w2w20000").evening();
        due("count(8)", x.count(8), 5);
        due("NOW", x.count(1), 1 + 1 + 4 + 1);
        due("undo()", x.undo(), 4);
        due("NOW", x.count(1), 2);
        due("undo()", x.undo(), 3);
        due("NOW", x.count(1), 2);
    }

    private static void twelveToBeUndone() {
        says(14, "of 12 that are kept, the latest ones");
        for (int many = 10; many <= 40; many++) {
            OneStageTwoPlays x = fresh();
            for (int k = 1; k <= many; k++) {
                x.pause(k);
                due("count(8) behind " + k, x.count(8), Math.min(k, 12));
            }
            for (int k = Math.min(many, 12) - 1; k >= 0; k--) {
                due("undo() of " + many, x.undo(), k);
            }
            due("undo() of " + many + " once more", x.undo(), -1);
            int first = Math.max(0, many - 12);
            due("NOW of " + many, x.count(1), first * (first + 1) / 2);
        }
        OneStageTwoPlays x = fresh();
        for (int k = 0; k < 50; k++) {
            x.pause(1);
            x.pause(10);
            due("undo()", x.undo(), Math.min(k + 1, 11));
        }
        due("NOW", x.count(1), 50);
        OneStageTwoPlays evenings = with("01=1");
        for (int k = 0; k < 13; k++) {
            text(evenings, k == 0 ? "0" : "w1").evening();
        }
        for (int k = 0; k < 12; k++) {
            evenings.undo();
        }
        due("the thirteenth is not kept", evenings.count(4), 1);
        due("undo()", evenings.undo(), -1);
    }

    private static void forgotten() {
        says(14, "(scenes() and again() forget them, if they are not refused; an empty scenes() does not.)");
        OneStageTwoPlays x = with("01=1");
        x.pause(5);
        x.pause(6);
        text(x, "").scenes();
        due("behind an empty scenes()", x.count(8), 2);
        text(x, "0").scenes();
        text(x, "01=1;z").scenes();
        due("behind scenes() that are refused", x.count(8), 2);
        x.again(0);
        x.again(2);
        x.again(-1);
        due("behind again() that are refused", x.count(8), 2);
        x.keep(0);
        text(x, "9").rule();
        text(x, "8").law();
        x.sheet(2, 1, 3, 0);
        x.years(5, 60);
        x.bow(0, 1);
        x.forget();
        due("behind others", x.count(8), 2);
        x.again(0);
        due("behind again()", x.count(8), 0);
        due("undo()", x.undo(), -1);
        due("NOW", x.count(1), 11);
        x.pause(1);
        text(x, "01=1").scenes();
        due("behind scenes()", x.count(8), 0);
        due("undo()", x.undo(), -1);
        due("NOW", x.count(1), 12);
        x.pause(1);
        due("undo() of what came since", x.undo(), 0);
        due("NOW", x.count(1), 12);
    }

    // ---- 41

    /** The document's words in long arithmetic. */
    private static int[] draws(int seed, int n) {
        int[] drawn = new int[n];
        long r = seed & 0xFFFFFFFFL;
        for (int k = 0; k < n; k++) {
            r = (r * 1103515245L + 12345L) % 4294967296L;
            drawn[k] = (int) (r / 65536 % 4);
        }
        return drawn;
    }

    private static int seedOf(int... want) {
        for (int seed = 0; seed < 1000000; seed++) {
            if (Arrays.equals(draws(seed, want.length), want)) {
                return seed;
            }
        }
        fault("no seed draws " + Arrays.toString(want));
        return 0;
    }

    private static void drawsOfYears() {
        says(41, "(R without sign, by 65536) % n");
        int below = 0;
        for (int k = 0; k < 200; k++) {
            int seed = k * 123456789;
            int minutes = draws(seed, 1)[0] == 3 ? 1 : 0;
            due("years(" + seed + ", 1) of no SCENES", fresh().years(seed, 1), minutes);
            below += seed * 1103515245 + 12345 < 0 ? 1 : 0;
        }
        due("some of R were below 0", below > 50, true);
        says(41, "R = R times 1103515245 + 12345 (as ints; R is seed at first)");
        // 12345, then 12345 * 1103515245 + 12345 less 3171 times 2 to the 32nd: 3554416254, by 65536 54236, a 0
        due("years(0, 2) of no SCENES", fresh().years(0, 2), 0);
        for (int seed : new int[] {0, 1, -1, LOWEST, HIGHEST, 65535, -65536, 1103515245}) {
            int minutes = 0;
            for (int drawn : draws(seed, 60)) {
                minutes += drawn == 3 ? 1 : 0;
            }
            due("years(" + seed + ", 60) of no SCENES", fresh().years(seed, 60), minutes);
        }
        says(41, "n times (1 .. 60)");
        OneStageTwoPlays x = fresh();
        due("years(0, 1)", x.years(0, 1), 0);
        dueRow("years(0, 1)", x, 0, 0);
        due("years(3, 60) and 59", x.years(3, 60) - x.years(3, 59), draws(3, 60)[59] == 3 ? 1 : 0);
        says(41, "NONE: another n");
        for (int n : new int[] {0, -1, 61, 62, LOWEST, HIGHEST}) {
            due("years(7, " + n + ")", x.years(7, n), -1);
        }
        dueRow("the ROW is as it was", x, 0, 0);
    }

    private static void yearsOfPlays() {
        String lines = "02=1;13=2;04=4;15=8";
        says(41, "0, 1: the next SCENE of that PLAY is PLAYED, if there is one (else nothing)");
        dueYears(with(lines, "9"), 2, 1, 1, 0);
        dueYears(with(lines, "9"), 3, 1, 2, 1);
        dueYears(with(lines, "9"), 2 + 9 + 4, 2, 5, 0, 0);
        dueYears(with(lines, "9"), 2 + 9 + 4, 2, 5, 0, 0, 0);
        dueYears(with(lines, "9"), 3 + 9 + 5, 2, 9 + 1, 1, 1, 1);
        dueYears(with("02=1"), 0, 0, 0, 1);
        dueYears(with("12=1"), 0, 0, 0, 0);
        says(41, "2: of the PLAY that THE LAST one is not of (PLAY 0, if there is none)");
        dueYears(with(lines, "9"), 2, 1, 1, 2);
        dueYears(with(lines, "9"), 2 + 9 + 3, 2, 3, 2, 2);
        dueYears(with(lines, "9"), 2 + 9 + 3 + 9 + 4, 3, 7, 2, 2, 2);
        dueYears(with(lines, "9"), 3 + 9 + 2, 2, 3, 1, 2);
        dueYears(with("12=1"), 0, 0, 0, 2);
        dueYears(with("02=1"), 2, 1, 1, 2, 2);
        dueYears(with("02=1;03=1"), 2, 1, 1, 2, 2);
        says(41, "3: a minute goes by: NOW then");
        dueYears(with(lines, "9"), 1, 0, 0, 3);
        dueYears(with(lines, "9"), 1 + 2 + 1, 1, 1, 3, 0, 3);
        says(41, "how many SCENES were PLAYED, CHEERS of both houses together then");
        OneStageTwoPlays x = with(lines, "9");
        x.plays(1);
        x.pause(5);
        dueYears(x, 3 + 5 + 9 + 2, 1, 3, 2);
        dueYears(x, 3 + 5 + 1, 0, 2, 3);
    }

    private static void dueYears(OneStageTwoPlays x, int now, int played, int cheers, int... drawn) {
        int seed = seedOf(drawn);
        String ahead = nightOf(x);
        String call = "years() of " + Arrays.toString(drawn);
        due(call, x.years(seed, drawn.length), now);
        dueRow(call, x, played, cheers);
        dueText(call + ", the night then", nightOf(x), ahead);
    }

    private static void yearsAsked() {
        says(TERMS, "Questions change nothing");
        OneStageTwoPlays x = with(FOUR);
        x.keep(0);
        x.plays(1);
        String ahead = nightOf(x);
        int first = x.years(99, 60);
        due("years(99, 60) again", x.years(99, 60), first);
        dueText("the night then", nightOf(x), ahead);
        due("undo()", x.undo(), 0);
        OneStageTwoPlays none = fresh();
        due("years(0, 9)", none.years(0, 9), 1);
        due("years(0, 1) behind it", none.years(0, 1), 0);
    }

    // ---- 42, 43

    private static void kept() {
        says(42, "are kept under a number 0 .. 1: true");
        OneStageTwoPlays x = with(FOUR);
        String none = nightOf(x);
        due("keep(0)", x.keep(0), true);
        x.plays(0);
        x.cut(1);
        x.plays(1);
        due("keep(1)", x.keep(1), true);
        String some = nightOf(x);
        x.pause(9);
        x.plays(0);
        due("again(0)", x.again(0), true);
        dueText("the night then", nightOf(x), none);
        due("again(1)", x.again(1), true);
        dueText("the night then", nightOf(x), some);
        says(43, "They are as they were kept under a number");
        x.pause(2);
        due("again(1), once more", x.again(1), true);
        dueText("the night then", nightOf(x), some);
        due("keep(0), once more", x.keep(0), true);
        x.pause(1);
        due("again(0), as it was kept last", x.again(0), true);
        due("NOW", x.count(1), 5 + 4 + 2);
        says(42, "Refused: others");
        for (int i : new int[] {-1, 2, 3, LOWEST, HIGHEST}) {
            due("keep(" + i + ")", x.keep(i), false);
            due("again(" + i + ")", x.again(i), false);
        }
    }

    private static void keptNoMore() {
        says(43, "Refused: nothing kept, SCENES came since");
        OneStageTwoPlays x = with("01=1");
        due("again(0), nothing kept", x.again(0), false);
        due("again(1), nothing kept", x.again(1), false);
        due("keep(1)", x.keep(1), true);
        due("again(0), the other is kept", x.again(0), false);
        due("keep(0)", x.keep(0), true);
        x.pause(4);
        text(x, "").scenes();
        text(x, "01=1;").scenes();
        text(x, "9").rule();
        x.sheet(2, 1, 5, 0);
        due("again(0), no SCENES came", x.again(0), true);
        due("NOW", x.count(1), 0);
        due("MINUTES are as they were", x.scene(0, 1), 5);
        x.pause(4);
        text(x, "11=1").scenes();
        due("again(0), SCENES came", x.again(0), false);
        due("again(1), SCENES came", x.again(1), false);
        due("NOW", x.count(1), 4);
        due("TO COME", x.count(3), 3);
        due("keep(0)", x.keep(0), true);
        x.pause(4);
        due("again(0)", x.again(0), true);
        due("NOW", x.count(1), 4);
        due("again(1), it is not kept again", x.again(1), false);
        due("keep(0) with no SCENES", fresh().keep(0), true);
    }

    // ---- 44, 45

    private static void counts() {
        says(44, "-100 for another what");
        OneStageTwoPlays x = with(FOUR);
        for (int what : new int[] {-1, 11, 12, -100, LOWEST, HIGHEST}) {
            due("count(" + what + ")", x.count(what), -100);
        }
        says(44, "2: THE LAST one (NONE)");
        due("count(2)", x.count(2), -1);
        x.plays(0);
        due("count(2)", x.count(2), 0);
        x.plays(1);
        due("count(2)", x.count(2), 1);
        x.undo();
        x.undo();
        due("count(2)", x.count(2), -1);
        says(44, "6: CHEERS of both houses");
        OneStageTwoPlays loud = with("01=3;11=5");
        due("count(6)", loud.count(6), 0);
        loud.plays(1);
        due("count(6) of PLAY 1's", loud.count(6), 5);
        loud.plays(0);
        due("count(6) of both", loud.count(6), 8);
        says(44, "7: PERSONS seen (bits)");
        due("count(7)", x.count(7), 0);
        x.bow(0, 0);
        x.bow(5, 1);
        due("count(7)", x.count(7), 33);
        says(44, "8: what can be undone, 9: numbers of the ROW");
        OneStageTwoPlays few = with(SIX_EACH);
        due("count(8)", few.count(8), 0);
        due("count(9)", few.count(9), 0);
        for (int k = 0; k < 15; k++) {
            few.pause(1);
        }
        few.weave();
        due("count(8)", few.count(8), 12);
        due("count(9)", few.count(9), 12);
        says(44, "10: signs of THE TEXT");
        due("count(10)", x.count(10), 0);
        for (int k = 0; k < 25; k++) {
            x.sign(-1);
        }
        due("count(10)", x.count(10), 80);
        due("scenes()", x.scenes(), -1);
        due("count(10)", x.count(10), 0);
    }

    private static void rows() {
        says(45, "NoSuchElementException: none such");
        OneStageTwoPlays none = fresh();
        for (int i : new int[] {0, -1, 1, 12, LOWEST, HIGHEST}) {
            dueNoSuch("row(" + i + ") of none", () -> none.row(i));
        }
        OneStageTwoPlays x = with(SIX_EACH);
        x.weave();
        due("row(11) of twelve", x.row(11), 1);
        due("row(0) of twelve", x.row(0), 0);
        for (int i : new int[] {12, 13, -1, LOWEST, HIGHEST}) {
            dueNoSuch("row(" + i + ") of twelve", () -> x.row(i));
        }
        x.guard();
        due("row(0) of one", x.row(0), 0);
        dueNoSuch("row(1) of one", () -> x.row(1));
        says(TERMS, "ROW: numbers told last by a call that says so");
        x.bow(0, 1);
        x.forget();
        x.pause(3);
        x.cut(0);
        x.puts(0);
        x.undo();
        x.keep(0);
        x.again(0);
        x.sheet(2, 12, 1, 0);
        text(x, "9").rule();
        text(x, "").scenes();
        dueRow("behind calls that say nothing of it", x, 0);
        due("both(0, 0)", x.both(0, 0), 0);
        dueNoSuch("row(0) of none", () -> x.row(0));
    }
}
