/** Sentences that name edges of what can be asked: changes, weaves, cuts, stories, persons, shares, bows. */
public final class EdgesOfQuestionsTest extends Checks {
    private static final int[] NO_PLAYS = {-1, 2, 3, LOWEST, HIGHEST};
    private static final int[] NO_SCENES = {-1, 2, 12, 31, 32, LOWEST, HIGHEST};
    private static final int[] NO_HOURS = {-1, 200, 201, LOWEST, HIGHEST};
    private static final int[] NO_PERSONS = {-1, 6, 7, 32, LOWEST, HIGHEST};
    private static final int[] NO_TENTHS = {-1, 11, 12, LOWEST, HIGHEST};
    private static final String TWO = "05=4;13=2";
    /** With this rule a SCENE of the other PLAY between two of one saves as much as it costs. */
    private static final String AS_LONG = "(o=0)*3+o";
    /** With this one it saves. */
    private static final String BRIDGE = "(o=0)*9";

    public static void main(String[] args) {
        changes();
        shortestWeaves();
        longestOnes();
        endOfAPlay();
        endsOfBoth();
        withinHours();
        allWeaves();
        turns();
        scenesOver();
        cutsInTime();
        cutsOfEqualLoss();
        clashes();
        mending();
        sparing();
        cheersOfOrders();
        whoIsIn();
        kingsOfBoth();
        propsThatStand();
        personsToAsk();
        chances();
        likeliest();
        rests();
        lamps();
        bows();
        fitting();
        asking();
        finish("edges of questions");
    }

    /** Nothing is TO COME: the one way is that no SCENES are there, the other that all are PLAYED or CUT. */
    private static OneStageTwoPlays[] nothingToCome() {
        OneStageTwoPlays gone = with("05A1>a=4;13A1<a=2", "9");
        gone.plays(0);
        gone.cut(1);
        return new OneStageTwoPlays[] {fresh(), gone};
    }

    // ---- 15

    private static void changes() {
        says(15, "CHANGE from a SCENE to another one, or itself");
        OneStageTwoPlays x = with("01ABCDEF1234=0;11=0");
        due("change(0, 0)", x.change(0, 0), 6);
        dueRow("change(0, 0)", x, 63, 0);
        due("change(1, 1)", x.change(1, 1), 0);
        dueRow("change(1, 1)", x, 0, 0);
        due("change(0, 1)", x.change(0, 1), 2 + 4);
        dueRow("change(0, 1)", x, 0, 15);
        due("change(1, 0)", x.change(1, 0), 2 + 4);
        dueRow("change(1, 0)", x, 0, 15);
        x.plays(0);
        x.cut(1);
        due("change(0, 1) of one PLAYED, one CUT", x.change(0, 1), 6);
        says(15, "NONE: none such");
        for (int scene : NO_SCENES) {
            due("change(0, " + scene + ")", x.change(0, scene), -1);
            due("change(" + scene + ", 0)", x.change(scene, 0), -1);
            due("change(" + scene + ", " + scene + ")", x.change(scene, scene), -1);
        }
        due("change(0, 0) of no SCENES", fresh().change(0, 0), -1);
        due("change(0, 2), ahead of more SCENES", x.change(0, 2), -1);
        text(x, "01F4=0").scenes();
        due("change(0, 2), behind them", x.change(0, 2), 1 + 3);
        dueRow("change(0, 2)", x, 32, 7);
    }

    // ---- 16

    private static void shortestWeaves() {
        says(16, "The fewest minutes of a WEAVE (with CHANGES): how many");
        for (OneStageTwoPlays none : nothingToCome()) {
            none.guard();
            due("weave() of nothing", none.weave(), 0);
            dueRow("weave() of nothing", none);
        }
        dueWeave(with("12=0", "9"), 2, 1);
        dueWeave(with("02=0;03=0", "9"), 2 + 9 + 3, 0, 0);
        dueWeave(with("12=0;13=0;14=0", "9"), 2 + 9 + 3 + 9 + 4, 1, 1, 1);
        dueWeave(with("01=0;19=0", "m*o"), 9 + 1 + 1, 1, 0);
        says(16, "of as short ones the least row");
        dueWeave(with("11=0;01=0;11=0", "0"), 3, 0, 1, 1);
        dueWeave(with("01=0;11=0", "o"), 3, 0, 1);
        says(TERMS, "Rows of numbers are compared from the first on");
        dueWeave(with("01=0;01=0;11=0;11=0", "(o=0)*9"), 4, 0, 1, 0, 1);
        says(TERMS, "those of each PLAY by their numbers, right behind THE LAST one");
        OneStageTwoPlays x = with("01=0;01=0;11=0", BRIDGE);
        dueWeave(x, 3, 0, 1, 0);
        x.plays(0);
        dueWeave(x, 2, 1, 0);
        x.plays(1);
        dueWeave(x, 1, 0);
        x.undo();
        x.pause(50);
        dueWeave(x, 2, 1, 0);
        x.cut(2);
        dueWeave(x, 10, 0);
    }

    private static void dueWeave(OneStageTwoPlays x, int minutes, long... turns) {
        due("weave()", x.weave(), minutes);
        dueRow("weave()", x, turns);
    }

    private static void longestOnes() {
        says(16, "the ROW: PLAYS in turn");
        OneStageTwoPlays x = with(SIX_EACH, "99");
        x.sheet(2, 12, 9, 0);
        dueWeave(x, 12 * 9 + 11 * 99, 0, 0, 0, 0, 0, 0, 1, 1, 1, 1, 1, 1);
        x.plays(0);
        dueWeave(x, 11 * 9 + 11 * 99, 0, 0, 0, 0, 0, 1, 1, 1, 1, 1, 1);
        OneStageTwoPlays one = with("01=0;".repeat(11) + "01=0", "99");
        dueWeave(one, 12 + 11 * 99, 0, 0, 0, 0, 0, 0, 0, 0, 0, 0, 0, 0);
        OneStageTwoPlays other = with("11=0;".repeat(11) + "11=0", "1");
        dueWeave(other, 12 + 11, 1, 1, 1, 1, 1, 1, 1, 1, 1, 1, 1, 1);
    }

    // ---- 17

    private static void dueSoonest(OneStageTwoPlays x, int play, int minutes, int others) {
        due("soonest(" + play + ")", x.soonest(play), minutes);
        dueRow("soonest(" + play + ")", x, others);
    }

    private static void endOfAPlay() {
        says(17, "how many (0: nothing is TO COME)");
        for (OneStageTwoPlays none : nothingToCome()) {
            dueSoonest(none, 0, 0, 0);
            dueSoonest(none, 1, 0, 0);
        }
        dueSoonest(with("05=0"), 1, 0, 0);
        dueSoonest(with("15=0"), 0, 0, 0);
        says(17, "at the fewest with so many minutes");
        dueSoonest(with("01=0;02=0;11=0", AS_LONG), 0, 1 + 3 + 2, 0);
        dueSoonest(with("11=0;12=0;01=0", AS_LONG), 1, 1 + 3 + 2, 0);
        dueSoonest(with("01=0;01=0;11=0", BRIDGE), 0, 3, 1);
        dueSoonest(with("01=0;01=0;11=0;11=0", BRIDGE), 0, 3, 1);
        dueSoonest(with("11=0;11=0;01=0", BRIDGE), 1, 3, 1);
        OneStageTwoPlays behind = with("01=0;01=0;11=0", BRIDGE);
        behind.plays(0);
        dueSoonest(behind, 0, 2, 1);
        dueSoonest(behind, 1, 1, 0);
        says(17, "The fewest minutes from now");
        behind.pause(99);
        dueSoonest(behind, 0, 2, 1);
        OneStageTwoPlays x = with("11=0;".repeat(11) + "01=0", "99");
        dueSoonest(x, 1, 11 + 10 * 99, 0);
        dueSoonest(x, 0, 1, 0);
        says(17, "NONE: none such");
        for (int play : NO_PLAYS) {
            due("soonest(" + play + ")", x.soonest(play), -1);
        }
    }

    // ---- 18

    private static void dueBoth(OneStageTwoPlays x, int byFirst, int bySecond, long... turns) {
        due("both(" + byFirst + ", " + bySecond + ")", x.both(byFirst, bySecond), 1);
        dueRow("both(" + byFirst + ", " + bySecond + ")", x, turns);
    }

    private static void dueNotBoth(OneStageTwoPlays x, int byFirst, int bySecond) {
        x.guard();
        due("both(" + byFirst + ", " + bySecond + ")", x.both(byFirst, bySecond), 0);
        dueRow("both(" + byFirst + ", " + bySecond + ")", x);
    }

    private static void endsOfBoth() {
        says(18, "PLAY 0 ends in x minutes (0 .. 199) from now at most, PLAY 1 in y at most: 1, or 0");
        for (OneStageTwoPlays none : nothingToCome()) {
            none.guard();
            dueBoth(none, 0, 0);
        }
        OneStageTwoPlays x = with(TWO, "0");
        x.pause(60);
        dueBoth(x, 5, 8, 0, 1);
        dueBoth(x, 8, 3, 1, 0);
        dueBoth(x, 199, 199, 0, 1);
        dueBoth(with("05=0"), 5, 0, 0);
        dueBoth(with("15=0"), 0, 5, 1);
        dueBoth(with("09=0;19=0;09=0", "86"), 104, 199, 0, 0, 1);
        dueBoth(with("09=0;19=0;09=0", "86"), 199, 199, 0, 0, 1);
        dueBoth(with("09=0;19=0;09=0", "86"), 199, 9, 1, 0, 0);
        dueBoth(with("09=0;19=0;09=0", "86"), 199, 104, 0, 1, 0);
        OneStageTwoPlays pairs = with("01=0;01=0;11=0;11=0", "0");
        dueBoth(pairs, 4, 4, 0, 0, 1, 1);
        dueBoth(pairs, 2, 4, 0, 0, 1, 1);
        dueBoth(pairs, 4, 3, 0, 1, 1, 0);
        dueBoth(pairs, 4, 2, 1, 1, 0, 0);
        dueBoth(pairs, 3, 4, 0, 0, 1, 1);
        dueNotBoth(pairs, 3, 3);
        dueNotBoth(pairs, 4, 1);
        dueNotBoth(pairs, 1, 4);
        OneStageTwoPlays parted = with("01=0;01=0;11=0;11=0", "o");
        dueBoth(parted, 2, 5, 0, 0, 1, 1);
        dueBoth(parted, 6, 4, 0, 1, 1, 0);
        dueBoth(parted, 5, 4, 1, 1, 0, 0);
        dueNotBoth(parted, 4, 4);
        dueBoth(with("01=0;01=0;11=0;11=0", BRIDGE), 3, 4, 0, 1, 0, 1);
        dueBoth(with("01=0;01=0;11=0;11=0", BRIDGE), 4, 3, 1, 0, 1, 0);
        // what was found of more SCENES must not show in what is found of fewer
        OneStageTwoPlays fewer = with("01=0;".repeat(6) + "11=0;".repeat(5) + "11=0", "9");
        fewer.weaves();
        fewer.both(199, 199);
        fewer.within(199);
        text(fewer, "xbxcxdxexfxhxixjxkxl").evening();
        dueNotBoth(fewer, 10, 10);
        dueBoth(fewer, 1, 11, 0, 1);
        dueBoth(fewer, 11, 1, 1, 0);
        dueNotBoth(fewer, 0, 199);
        dueNotBoth(fewer, 199, 0);
        dueWeave(fewer, 11, 0, 1);
        dueWithin(fewer, 10, 1, 1);
        says(18, "nothing for 0");
        dueNotBoth(x, 5, 7);
        dueNotBoth(x, 4, 8);
        dueNotBoth(x, 8, 2);
        dueNotBoth(x, 7, 3);
        dueNotBoth(x, 0, 199);
        dueNotBoth(x, 199, 0);
        dueNotBoth(x, 0, 0);
        dueNotBoth(with("05=0"), 4, 199);
        dueNotBoth(with("15=0"), 199, 4);
        dueNotBoth(with("09=0;19=0;09=0", "87"), 199, 199);
        dueNotBoth(with("09=0;19=0;09=0", "86"), 103, 199);
        dueNotBoth(with("09=0;19=0;09=0", "86"), 104, 198);
        says(18, "NONE: others");
        for (int hour : NO_HOURS) {
            due("both(" + hour + ", 9)", x.both(hour, 9), -1);
            due("both(9, " + hour + ")", x.both(9, hour), -1);
            due("both(" + hour + ", " + hour + ")", x.both(hour, hour), -1);
        }
    }

    // ---- 19

    private static void dueWithin(OneStageTwoPlays x, int n, int most, int minutes) {
        due("within(" + n + ")", x.within(n), most);
        dueRow("within(" + n + ")", x, minutes);
    }

    private static void withinHours() {
        says(19, "that can be PLAYED in n minutes (0 .. 199) from now");
        for (OneStageTwoPlays none : nothingToCome()) {
            dueWithin(none, 0, 0, 0);
            dueWithin(none, 199, 0, 0);
        }
        OneStageTwoPlays x = with(TWO, "1");
        x.pause(60);
        dueWithin(x, 0, 0, 0);
        dueWithin(x, 2, 0, 0);
        dueWithin(x, 3, 1, 3);
        dueWithin(x, 8, 1, 3);
        dueWithin(x, 9, 2, 9);
        dueWithin(x, 199, 2, 9);
        dueWithin(with("09=0;19=0;09=0", "86"), 199, 3, 199);
        dueWithin(with("09=0;19=0;09=0", "86"), 198, 2, 104);
        dueWithin(with("09=0;19=0;09=0", "87"), 199, 2, 105);
        OneStageTwoPlays four = with("05=0;13=0;04=0;12=0", "0");
        int[] soonest = {0, 3, 5, 10, 14};
        for (int n = 0; n <= 20; n++) {
            int most = n < 3 ? 0 : n < 5 ? 1 : n < 10 ? 2 : n < 14 ? 3 : 4;
            dueWithin(four, n, most, soonest[most]);
        }
        dueWithin(with("01=0;09=0;12=0;19=0", "0"), 3, 2, 3);
        dueWithin(with("01=0;09=0;12=0;19=0", "0"), 12, 3, 12);
        dueWithin(with("11=0;12=0;13=0", "0"), 6, 3, 6);
        dueWithin(with("11=0;12=0;13=0", "0"), 5, 2, 3);
        dueWithin(with("05=0;11=0;11=0", "0"), 7, 3, 7);
        dueWithin(with("15=0;01=0;01=0", "0"), 7, 3, 7);
        says(19, "right behind THE LAST one, as a WEAVE begins");
        OneStageTwoPlays behind = with("01=0;05=0;12=0", "9");
        behind.plays(0);
        dueWithin(behind, 10, 0, 0);
        dueWithin(behind, 11, 1, 11);
        dueWithin(with("05=0;01=0", "0"), 4, 0, 0);
        dueWithin(with("05=0;01=0", "0"), 6, 2, 6);
        says(19, "NONE: another n");
        for (int n : NO_HOURS) {
            due("within(" + n + ")", x.within(n), -1);
        }
    }

    // ---- 20

    private static void allWeaves() {
        says(20, "WEAVES in all: how many");
        for (OneStageTwoPlays none : nothingToCome()) {
            due("weaves() of nothing", none.weaves(), 1);
            dueRow("weaves() of nothing", none, 0);
        }
        int[] ways = {1, 12, 66, 220, 495, 792, 924, 792, 495, 220, 66, 12, 1};
        for (int first = 0; first <= 12; first++) {
            String lines = "01=0;".repeat(first) + "11=0;".repeat(12 - first);
            OneStageTwoPlays x = with(lines.substring(0, 59), "99");
            due("weaves() of " + first + " and " + (12 - first), x.weaves(), ways[first]);
            dueRow("weaves() of " + first + " and " + (12 - first), x, 12 + 11 * 99);
        }
        says(20, "minutes of the longest");
        OneStageTwoPlays x = with("01=0;11=0;01=0", "o*9");
        due("weaves()", x.weaves(), 3);
        dueRow("weaves()", x, 3 + 18);
        x.plays(1);
        due("weaves() behind 1", x.weaves(), 1);
        dueRow("weaves() behind 1", x, 9 + 2);
    }

    // ---- 21

    private static void turns() {
        says(21, "-2: nothing of it is TO COME; NONE: none such");
        for (OneStageTwoPlays none : nothingToCome()) {
            due("turn(0)", none.turn(0), -2);
            due("turn(1)", none.turn(1), -2);
        }
        OneStageTwoPlays x = with(TWO, "m*o");
        for (int play : NO_PLAYS) {
            due("turn(" + play + ")", x.turn(play), -1);
        }
        due("turn(1) with PLAY 0 alone", with("05=0").turn(1), -2);
        due("turn(0) with PLAY 1 alone", with("15=0").turn(0), -2);
        says(21, "is longer than the shortest: how many");
        due("turn(0)", x.turn(0), 0);
        dueRow("turn(0)", x, 5 + 3 + 3);
        due("turn(1)", x.turn(1), 2);
        dueRow("turn(1)", x, 3 + 5 + 5);
        OneStageTwoPlays behind = with("01=0;01=0;11=0", BRIDGE);
        behind.plays(0);
        due("turn(0) behind 0", behind.turn(0), 9);
        dueRow("turn(0) behind 0", behind, 11);
        due("turn(1) behind 0", behind.turn(1), 0);
        dueRow("turn(1) behind 0", behind, 2);
        due("turn(0) alone", with("05=0", "9").turn(0), 0);
    }

    // ---- 22

    private static void dueOver(OneStageTwoPlays x, int scene, int minutes, int ahead) {
        due("over(" + scene + ")", x.over(scene), minutes);
        dueRow("over(" + scene + ")", x, ahead);
    }

    private static void scenesOver() {
        says(22, "-2: it is not TO COME; NONE: none such");
        OneStageTwoPlays x = with(TWO, "9");
        for (int scene : NO_SCENES) {
            due("over(" + scene + ")", x.over(scene), -1);
        }
        due("over(0) of no SCENES", fresh().over(0), -1);
        x.plays(0);
        due("over(0), PLAYED", x.over(0), -2);
        dueOver(x, 1, 9 + 3, 0);
        x.cut(1);
        due("over(1), CUT", x.over(1), -2);
        x.puts(1);
        dueOver(x, 1, 9 + 3, 0);
        says(22, "at the fewest with so many minutes");
        dueOver(with("01=0;02=0;11=0", AS_LONG), 0, 1, 0);
        dueOver(with("01=0;02=0;11=0", AS_LONG), 1, 1 + 3 + 2, 1);
        dueOver(with("11=0;12=0;01=0", AS_LONG), 1, 1 + 3 + 2, 1);
        dueOver(with("01=0;01=0;11=0", BRIDGE), 1, 3, 2);
        dueOver(with("01=0;01=0;11=0", BRIDGE), 2, 1, 0);
        dueOver(with("11=0;11=0;01=0", BRIDGE), 1, 3, 2);
        OneStageTwoPlays twelve = with("01=0;".repeat(11) + "01=0", "99");
        dueOver(twelve, 0, 1, 0);
        dueOver(twelve, 11, 12 + 11 * 99, 11);
        OneStageTwoPlays cut = with("05=0;01=0;03=0", "0");
        cut.cut(1);
        dueOver(cut, 2, 8, 1);
    }

    // ---- 23

    private static void dueCuts(OneStageTwoPlays x, int n, int lost, int set, int minutes) {
        String ahead = nightOf(x);
        due("cuts(" + n + ")", x.cuts(n), lost);
        dueRow("cuts(" + n + ")", x, set, minutes);
        dueText("the night behind cuts()", nightOf(x), ahead);
    }

    private static void cutsInTime() {
        says(23, "so that the shortest WEAVE of the others takes n minutes (0 .. 199) at most");
        for (OneStageTwoPlays none : nothingToCome()) {
            dueCuts(none, 0, 0, 0, 0);
            dueCuts(none, 199, 0, 0, 0);
        }
        OneStageTwoPlays x = with(TWO, "1");
        x.pause(60);
        dueCuts(x, 199, 0, 0, 9);
        dueCuts(x, 9, 0, 0, 9);
        dueCuts(x, 8, 2, 2, 5);
        dueCuts(x, 5, 2, 2, 5);
        dueCuts(x, 4, 4, 1, 3);
        dueCuts(x, 3, 4, 1, 3);
        dueCuts(x, 2, 6, 3, 0);
        dueCuts(x, 0, 6, 3, 0);
        dueCuts(with("09=1;19=2;09=3", "86"), 199, 0, 0, 199);
        dueCuts(with("09=1;19=2;09=3", "86"), 198, 1, 1, 104);
        dueCuts(with("09=1;19=2;09=3", "87"), 199, 1, 1, 105);
        OneStageTwoPlays twelve = with("01=9;".repeat(6) + "11=9;".repeat(5) + "11=9", "99");
        dueCuts(twelve, 0, 108, 4095, 0);
        dueCuts(twelve, 1, 99, 2047, 1);
        dueCuts(twelve, 100, 99, 2047, 1);
        dueCuts(twelve, 101, 90, 1023, 101);
        dueCuts(twelve, 199, 90, 1023, 101);
        OneStageTwoPlays last = with("02=9;".repeat(11) + "02=8", "0");
        dueCuts(last, 23, 8, 2048, 22);
        dueCuts(with("02=8;" + "02=9;".repeat(10) + "02=9", "0"), 23, 8, 1, 22);
        OneStageTwoPlays behind = with("01=9;11=9", "50");
        behind.plays(0);
        dueCuts(behind, 51, 0, 0, 51);
        dueCuts(behind, 50, 9, 2, 0);
        says(23, "NONE: another n");
        for (int n : NO_HOURS) {
            due("cuts(" + n + ")", x.cuts(n), -1);
        }
    }

    private static void cutsOfEqualLoss() {
        says(23, "of as little the fewest, then the least");
        dueCuts(with("01=0;11=5", "0"), 199, 0, 0, 2);
        dueCuts(with("01=0;11=5", "0"), 1, 0, 1, 1);
        dueCuts(with("02=1;02=1;04=2", "0"), 4, 2, 4, 4);
        dueCuts(with("04=2;02=1;02=1", "0"), 4, 2, 1, 4);
        dueCuts(with("02=1;12=1;02=1", "0"), 4, 1, 1, 4);
        dueCuts(with("01=1;12=1;02=1", "0"), 3, 1, 2, 3);
        dueCuts(with("01=0;11=0;01=0", "0"), 0, 0, 7, 0);
        dueCuts(with("01=0;11=0;01=0", "0"), 1, 0, 3, 1);
        dueCuts(with("03=0;11=0;01=0", "0"), 2, 0, 1, 2);
        // a SCENE between two others can save more than it takes: without it the night is longer
        dueCuts(with("01=1;11=0;01=1", BRIDGE), 3, 0, 0, 3);
        dueCuts(with("01=1;11=0;01=1", BRIDGE), 2, 1, 1, 2);
    }

    // ---- 24, 25, 26, 27

    private static void dueClash(OneStageTwoPlays x, int set, int many, int lost) {
        due("clash()", x.clash(), set);
        dueRow("clash()", x, many, lost);
    }

    private static void clashes() {
        says(24, "SCENES TO COME (bits) that need a FACT which their house won't KNOW ahead of them");
        for (OneStageTwoPlays none : nothingToCome()) {
            dueClash(none, 0, 0, 0);
        }
        dueClash(with("01=9"), 0, 0, 0);
        dueClash(with("01>a<a=9"), 1, 1, 5);
        dueClash(with("01<a=9;01>a=9"), 1, 1, 5);
        dueClash(with("01>a=9;01<a=9"), 0, 0, 0);
        dueClash(with("11>a=9;01<a=9"), 2, 1, 5);
        dueClash(with("01>h=9;01<g=9"), 2, 1, 5);
        dueClash(with("11>a=9;11<a=9"), 0, 0, 0);
        dueClash(with("01>a=9;01>a=9;01<a=9"), 0, 0, 0);
        dueClash(with("11>a=9;11>a=9;11<a=9"), 0, 0, 0);
        OneStageTwoPlays x = with("01>a=1;01<a=2;11<a=3");
        dueClash(x, 4, 1, 2);
        x.cut(0);
        dueClash(x, 6, 2, 3);
        x.puts(0);
        x.plays(0);
        dueClash(x, 4, 1, 2);
        says(24, "the ROW: how many, CHEERS that are lost by it");
        for (int cheer = 0; cheer <= 9; cheer++) {
            dueClash(with("01<a=" + cheer), 1, 1, cheer - cheer / 2);
        }
        String twelve = "01<a=9;".repeat(10);
        OneStageTwoPlays all = with(twelve.substring(0, 69));
        text(all, "11<a=9;11<h=9").scenes();
        dueClash(all, 4095, 12, 60);
    }

    private static void dueMend(OneStageTwoPlays x, int many, int first, int second) {
        due("mend()", x.mend(), many);
        dueRow("mend()", x, first, second);
    }

    private static void mending() {
        says(25, "one told to one house is one");
        for (OneStageTwoPlays none : nothingToCome()) {
            dueMend(none, 0, 0, 0);
        }
        dueMend(with("01<a=1;11<a=1"), 2, 1, 1);
        dueMend(with("01<a=1;01<a=1"), 1, 1, 0);
        dueMend(with("11<h=0"), 1, 0, 128);
        says(25, "so that nothing clashes");
        dueMend(with("01>a=1;01<a=1"), 0, 0, 0);
        dueMend(with("01<a=1;01>a=1;01<a=1"), 1, 1, 0);
        dueMend(with("01>a<a=1"), 1, 1, 0);
        OneStageTwoPlays eight = with("01<a=0;01<b=0;01<c=0;01<d=0;11<e=0;11<f=0;11<g=0;11<h=0");
        dueMend(eight, 8, 15, 240);
        eight.cut(0);
        eight.plays(1);
        dueMend(eight, 6, 14, 224);
    }

    private static void dueSpare(OneStageTwoPlays x, int set, int many) {
        due("spare()", x.spare(), set);
        dueRow("spare()", x, many);
    }

    private static void sparing() {
        says(26, "that can be CUT, alone, so that none that did not clash does then");
        for (OneStageTwoPlays none : nothingToCome()) {
            dueSpare(none, 0, 0);
        }
        dueSpare(with("01=0"), 1, 1);
        dueSpare(with("01>a=1;01<a=1"), 2, 1);
        dueSpare(with("01>a=1;11<a=1"), 3, 2);
        dueSpare(with("01<a=1;01>a=1"), 3, 2);
        dueSpare(with("01>a=1;01>a=1;01<a=1"), 7, 3);
        dueSpare(with("01>a=1;01<a=1;01>a=1;01<a=1"), 14, 3);
        OneStageTwoPlays x = with("01>a=1;01>a=1;01<a=1");
        x.cut(0);
        dueSpare(x, 4, 1);
        x.puts(0);
        x.plays(0);
        dueSpare(x, 6, 2);
        dueSpare(with(SIX_EACH), 4095, 12);
    }

    private static void dueCheers(OneStageTwoPlays x, int play, int brought, int most) {
        due("cheers(" + play + ")", x.cheers(play), brought);
        dueRow("cheers(" + play + ")", x, most);
    }

    private static void cheersOfOrders() {
        says(27, "CHEERS that all SCENES TO COME of a PLAY bring, PLAYED by numbers");
        for (OneStageTwoPlays none : nothingToCome()) {
            dueCheers(none, 0, 0, 0);
            dueCheers(none, 1, 0, 0);
        }
        dueCheers(with("01=9"), 1, 0, 0);
        says(27, "the most they would bring in any order of them");
        dueCheers(with("01<a=9;01>a=1"), 0, 4 + 1, 9 + 1);
        dueCheers(with("11<a=9;11>a=1"), 1, 4 + 1, 9 + 1);
        dueCheers(with("01<a=9;11>a=1"), 0, 4, 4);
        dueCheers(with("01>a<a=9"), 0, 4, 4);
        dueCheers(with("01>a<b=3;01>b<a=9"), 0, 1 + 9, 1 + 9);
        dueCheers(with("01>a<b=9;01>b<a=3"), 0, 4 + 3, 9 + 1);
        dueCheers(with("01>a=1;01>a=1;01<a=9"), 0, 11, 11);
        OneStageTwoPlays two = with("01=9;01=9;11=1;11<a=1");
        dueCheers(two, 0, 18, 18);
        dueCheers(two, 1, 1, 1);
        two.cut(0);
        dueCheers(two, 0, 9, 9);
        OneStageTwoPlays x = with("01>a=1;01<a=9;01<b=8");
        x.cut(0);
        dueCheers(x, 0, 4 + 4, 4 + 4);
        x.puts(0);
        x.plays(0);
        dueCheers(x, 0, 9 + 4, 9 + 4);
        OneStageTwoPlays twelve = with("11<a=9;".repeat(9) + "11<a=9");
        text(twelve, "11=9;11>a=9").scenes();
        dueCheers(twelve, 1, 10 * 4 + 18, 108);
        says(27, "NONE: none such");
        for (int play : NO_PLAYS) {
            due("cheers(" + play + ")", x.cheers(play), -1);
        }
    }

    // ---- 28, 29, 30, 31

    private static void whoIsIn() {
        says(28, "SCENES (bits; PLAYED, CUT and TO COME) in which a PERSON (0 .. 5) is");
        OneStageTwoPlays x = with("01A=0;01AF=0;11AF=0;11=0");
        for (int k = 0; k < 3; k++) {
            due("who(0)", x.who(0), 7);
            dueRow("who(0)", x, 2, 1);
            due("who(5)", x.who(5), 6);
            dueRow("who(5)", x, 1, 1);
            due("who(1)", x.who(1), 0);
            dueRow("who(1)", x, 0, 0);
            if (k == 0) {
                x.plays(0);
            } else {
                x.cut(2);
            }
        }
        due("who(0) of no SCENES", fresh().who(0), 0);
        says(28, "NONE: none such");
        for (int person : NO_PERSONS) {
            due("who(" + person + ")", x.who(person), -1);
        }
    }

    private static void dueKings(OneStageTwoPlays x, int set, int many, int minutes) {
        due("kings()", x.kings(), set);
        dueRow("kings()", x, many, minutes);
    }

    private static void kingsOfBoth() {
        says(29, "PERSONS (bits) that are in SCENES TO COME of both PLAYS");
        for (OneStageTwoPlays none : nothingToCome()) {
            dueKings(none, 0, 0, 0);
        }
        dueKings(with("09ABCDEF=0"), 0, 0, 0);
        dueKings(with("09ABCDEF=0;19=0"), 0, 0, 0);
        dueKings(with("02ABCDEF=0;13ABCDEF=0"), 63, 6, 5);
        dueKings(with("02A=0;03A=0"), 0, 0, 0);
        OneStageTwoPlays x = with("02AF=0;03F=0;14AF=0;15B=0");
        dueKings(x, 33, 2, 2 + 3 + 4);
        x.plays(0);
        dueKings(x, 32, 1, 3 + 4);
        x.cut(1);
        dueKings(x, 0, 0, 0);
        says(29, "MINUTES of all SCENES TO COME with one of them at least");
        dueKings(with("02A=0;03AB=0;14A=0;15C=0;06C=0"), 5, 2, 2 + 3 + 4 + 5 + 6);
    }

    private static void dueStand(OneStageTwoPlays x, int set, int none) {
        due("stand()", x.stand(), set);
        dueRow("stand()", x, none);
    }

    private static void propsThatStand() {
        says(30, "PROPS (bits) that are in each SCENE TO COME (all four, if none is)");
        for (OneStageTwoPlays none : nothingToCome()) {
            dueStand(none, 15, 15);
        }
        dueStand(with("011234=0"), 15, 0);
        dueStand(with("01=0"), 0, 15);
        dueStand(with("0114=0;114=0"), 8, 6);
        OneStageTwoPlays x = with("011=0;0114=0;1114=0");
        dueStand(x, 1, 6);
        x.plays(0);
        dueStand(x, 9, 6);
        x.cut(1);
        x.cut(2);
        dueStand(x, 15, 15);
        says(30, "the ROW: PROPS that are in none");
        dueStand(with("011=0;112=0;013=0"), 0, 8);
    }

    private static void dueGuard(OneStageTwoPlays x, int many, int set) {
        due("guard()", x.guard(), many);
        dueRow("guard()", x, set);
    }

    private static void personsToAsk() {
        says(31, "so that each SCENE TO COME has one of them at least (those without PERSONS aside)");
        for (OneStageTwoPlays none : nothingToCome()) {
            dueGuard(none, 0, 0);
        }
        dueGuard(with("01=0;11=0"), 0, 0);
        dueGuard(with("01=0;11F=0"), 1, 32);
        dueGuard(with("01A=0;01B=0;01C=0;11D=0;11E=0;11F=0"), 6, 63);
        OneStageTwoPlays x = with("01A=0;01B=0;11C=0");
        x.plays(0);
        x.cut(2);
        dueGuard(x, 1, 2);
        says(31, "they (bits: of as few the least)");
        dueGuard(with("01ABCDEF=0"), 1, 1);
        dueGuard(with("01CD=0;01CD=0"), 1, 4);
        dueGuard(with("01AF=0;01BF=0;01CF=0"), 1, 32);
        dueGuard(with("01AB=0;01CD=0"), 2, 5);
        dueGuard(with("01AB=0;01BC=0;01CD=0"), 2, 5);
        dueGuard(with("01AB=0;01BC=0;01CD=0;01BD=0"), 2, 6);
    }

    // ---- 32, 33

    private static void dueChance(OneStageTwoPlays x, int play, int p, long upper, long lower) {
        due("chance(" + play + ", " + p + ")", x.chance(play, p), 0);
        dueRow("chance(" + play + ", " + p + ")", x, upper, lower);
    }

    private static void chances() {
        says(32, "Each PERSON misses the night by p tenths (0 .. 10)");
        for (OneStageTwoPlays none : nothingToCome()) {
            dueChance(none, 0, 10, 1, 1);
            dueChance(none, 1, 5, 1, 1);
        }
        OneStageTwoPlays x = with("01AB=0;01BC=0;11ABCDEF=0");
        dueChance(x, 0, 0, 1, 1);
        dueChance(x, 0, 10, 0, 1);
        dueChance(x, 0, 1, 729, 1000);
        dueChance(x, 0, 2, 64, 125);
        dueChance(x, 0, 5, 1, 8);
        dueChance(x, 1, 0, 1, 1);
        dueChance(x, 1, 10, 0, 1);
        dueChance(x, 1, 9, 1, 1000000);
        dueChance(x, 1, 1, 531441, 1000000);
        dueChance(x, 1, 5, 1, 64);
        x.plays(0);
        dueChance(x, 0, 1, 81, 100);
        dueChance(with("01=0"), 0, 10, 1, 1);
        says(TERMS, "Fractions are told in lowest terms, upper and lower number (0 by 1)");
        int[][] tenths = {{1, 1}, {9, 10}, {4, 5}, {7, 10}, {3, 5}, {1, 2}, {2, 5}, {3, 10}, {1, 5}, {1, 10}, {0, 1}};
        for (int p = 0; p <= 10; p++) {
            dueChance(with("01A=0"), 0, p, tenths[p][0], tenths[p][1]);
        }
        says(32, "NONE: others");
        for (int p : NO_TENTHS) {
            due("chance(0, " + p + ")", x.chance(0, p), -1);
        }
        for (int play : NO_PLAYS) {
            due("chance(" + play + ", 5)", x.chance(play, 5), -1);
        }
    }

    private static void dueLikely(OneStageTwoPlays x, int p, int many, long upper, long lower) {
        due("likely(" + p + ")", x.likely(p), many);
        dueRow("likely(" + p + ")", x, upper, lower);
    }

    private static void likeliest() {
        says(33, "it, of equal ones the least");
        for (OneStageTwoPlays none : nothingToCome()) {
            dueLikely(none, 0, 0, 1, 1);
            dueLikely(none, 10, 0, 1, 1);
        }
        dueLikely(with("01A=0"), 5, 0, 1, 2);
        dueLikely(with("01A=0"), 4, 1, 3, 5);
        dueLikely(with("01A=0"), 6, 0, 3, 5);
        dueLikely(with("01A=0;11=0"), 5, 1, 1, 2);
        dueLikely(with("01A=0;11B=0"), 5, 1, 1, 2);
        dueLikely(with("01A=0;01A=0"), 5, 0, 1, 2);
        OneStageTwoPlays x = with("01A=0;01A=0;11B=0");
        dueLikely(x, 0, 3, 1, 1);
        dueLikely(x, 10, 0, 1, 1);
        // none, the one, the two, all three: a quarter each
        dueLikely(x, 5, 0, 1, 4);
        x.plays(0);
        dueLikely(x, 0, 2, 1, 1);
        dueLikely(with("01ABCDEF=0"), 9, 0, 999999, 1000000);
        dueLikely(with("01ABCDEF=0"), 1, 1, 531441, 1000000);
        dueLikely(with(SIX_EACH), 10, 12, 1, 1);
        says(33, "NONE: another p");
        for (int p : NO_TENTHS) {
            due("likely(" + p + ")", x.likely(p), -1);
        }
    }

    // ---- 34, 35

    private static void rests() {
        says(34, "The money (v 0 .. 20 coins) is parted by claims");
        OneStageTwoPlays x = fresh();
        for (int v = 0; v <= 20; v++) {
            int want = v == 1 ? 3 : v % 2 == 0 ? 1 : 2;
            due("rests(" + v + ")", x.rests(v), want);
            dueRow("rests(" + v + ")", x, v / 2, v - v / 2);
        }
        says(34, "0 at least");
        // both claim the one coin: neither has any, and neither would have more by claiming none
        due("rests(1)", x.rests(1), 3);
        says(34, "else each has half of v (cut)");
        due("rests(3)", x.rests(3), 2);
        dueRow("rests(3)", x, 1, 2);
        says(34, "Pairs of claims by which neither would have more by another one alone");
        due("rests(0)", x.rests(0), 1);
        dueRow("rests(0)", x, 0, 0);
        says(34, "NONE: another v");
        for (int v : new int[] {-1, 21, 22, LOWEST, HIGHEST}) {
            due("rests(" + v + ")", x.rests(v), -1);
        }
    }

    private static void lamps() {
        says(35, "Companies take 1, 2 or 3 of n lamps (1 .. 40) in turn");
        int[] more = {-3, 4, 5, 6, -1, 2, 3, 4, 1, 0, 1, 2, 3, 2, 1, 0, 1, 2, 3, 2, 1};
        int[] takes = {1, 1, 2, 3, 3, 1, 2, 3, 3, 1, 1, 2, 3, 3, 3, 1, 1, 2, 3, 3, 3};
        OneStageTwoPlays x = fresh();
        for (int n = 1; n <= 40; n++) {
            // from 16 lamps on it goes round by six
            int same = n <= 21 ? n - 1 : 15 + (n - 16) % 6;
            due("lamps(" + n + ")", x.lamps(n), 100 + more[same]);
            dueRow("lamps(" + n + ")", x, takes[same]);
        }
        due("lamps(40) of a new one", fresh().lamps(40), 100);
        says(35, "till none is left");
        x.lamps(1);
        dueRow("lamps(1)", x, 1);
        x.lamps(2);
        dueRow("lamps(2)", x, 1);
        says(35, "who takes the last one pays 2 coins to the other one");
        due("lamps(1)", x.lamps(1), 100 + 1 - 2 - 2);
        due("lamps(2)", x.lamps(2), 100 + 1 + 2 + 2 - 1);
        says(35, "of as good ones the fewest");
        x.lamps(10);
        dueRow("lamps(10)", x, 1);
        x.lamps(12);
        dueRow("lamps(12)", x, 2);
        x.lamps(16);
        dueRow("lamps(16)", x, 1);
        says(35, "NONE: another n");
        for (int n : new int[] {0, -1, 41, 42, LOWEST, HIGHEST}) {
            due("lamps(" + n + ")", x.lamps(n), -1);
        }
    }

    // ---- 36, 37, 38, 39

    private static void bows() {
        says(36, "one that is seen again: as it was last");
        OneStageTwoPlays x = with("01A=0;11=0");
        due("bow(0, 1)", x.bow(0, 1), 1);
        due("fits()", x.fits(), 1);
        due("bow(0, 0)", x.bow(0, 0), 1);
        due("fits()", x.fits(), 2);
        due("bow(0, 1)", x.bow(0, 1), 1);
        due("fits()", x.fits(), 1);
        due("count(7)", x.count(7), 1);
        says(36, "whether he bowed (is 1) or not (0)");
        due("bow(5, 0)", x.bow(5, 0), 2);
        due("fits()", x.fits(), 1);
        due("bow(5, 1)", x.bow(5, 1), 2);
        due("fits()", x.fits(), 0);
        x.forget();
        due("bow(0, 1)", x.bow(0, 1), 1);
        says(36, "Refused: others");
        for (int person : NO_PERSONS) {
            due("bow(" + person + ", 0)", x.bow(person, 0), -1);
            due("bow(" + person + ", 1)", x.bow(person, 1), -1);
        }
        for (int is : new int[] {-1, 2, 3, LOWEST, HIGHEST}) {
            due("bow(0, " + is + ")", x.bow(0, is), -1);
            due("bow(5, " + is + ")", x.bow(5, is), -1);
        }
        due("count(7)", x.count(7), 1);
        due("fits()", x.fits(), 1);
        says(37, "They are forgotten: how many there were");
        for (int person = 0; person < 6; person++) {
            due("bow(" + person + ", 0)", x.bow(person, 0), person + 1);
        }
        due("forget()", x.forget(), 6);
        due("forget()", x.forget(), 0);
        due("count(7)", x.count(7), 0);
        due("fits()", x.fits(), 3);
        due("bow(5, 0) then", x.bow(5, 0), 1);
        due("fits(), what was seen of others is gone", x.fits(), 3);
        x.bow(0, 1);
        x.bow(1, 1);
        due("forget() of three", x.forget(), 3);
        due("fits() then", x.fits(), 3);
        due("bow(1, 0) then", x.bow(1, 0), 1);
        due("fits(), who bowed is forgotten", x.fits(), 3);
        due("forget() of a new one", fresh().forget(), 0);
    }

    private static void dueFits(OneStageTwoPlays x, int set, int many, int ofFirst) {
        due("fits()", x.fits(), set);
        dueRow("fits()", x, many, ofFirst);
    }

    private static void fitting() {
        says(38, "SCENES (bits) whose PERSONS fit all bows");
        dueFits(fresh(), 0, 0, 0);
        OneStageTwoPlays x = with("01ABCDEF=0;11=0;01AF=0;11F=0");
        dueFits(x, 15, 4, 2);
        x.bow(5, 1);
        dueFits(x, 13, 3, 2);
        x.bow(0, 0);
        dueFits(x, 8, 1, 0);
        x.bow(1, 1);
        dueFits(x, 0, 0, 0);
        for (int person = 0; person < 6; person++) {
            x.bow(person, 1);
        }
        dueFits(x, 1, 1, 1);
        for (int person = 0; person < 6; person++) {
            x.bow(person, 0);
        }
        dueFits(x, 2, 1, 0);
        x.forget();
        x.plays(0);
        x.cut(1);
        dueFits(x, 15, 4, 2);
        text(x, "01=0").scenes();
        dueFits(x, 31, 5, 3);
    }

    private static void dueAsk(OneStageTwoPlays x, int person, int left) {
        due("ask()", x.ask(), person);
        dueRow("ask()", x, left);
    }

    private static void asking() {
        says(39, "-2: none fits");
        due("ask() of no SCENES", fresh().ask(), -2);
        OneStageTwoPlays x = with("01A=0;11=0");
        x.bow(1, 1);
        due("ask() when none fits", x.ask(), -2);
        says(39, "of equal ones the first: it");
        dueAsk(with("01=0"), 0, 1);
        dueAsk(with("01ABCDEF=0;01ABCDEF=0"), 0, 2);
        dueAsk(with("01A=0;01B=0"), 0, 1);
        dueAsk(with("01EF=0;01=0"), 4, 1);
        dueAsk(with(SIX_EACH), 0, 12);
        says(39, "so that, bowed or not, the fewest such SCENES are left at most");
        dueAsk(with("01F=0;01=0"), 5, 1);
        dueAsk(with("01A=0;01AB=0;01AB=0;01A=0"), 1, 2);
        dueAsk(with("01AB=0;01AB=0;01AC=0;01=0"), 1, 2);
        OneStageTwoPlays seen = with("01A=0;01A=0;01AC=0");
        seen.bow(0, 1);
        dueAsk(seen, 2, 2);
        seen.bow(2, 1);
        dueAsk(seen, 0, 1);
    }
}
