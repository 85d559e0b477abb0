/** Sentences that name edges of texts: THE TEXT itself, SCENES, rules, evenings. */
public final class EdgesOfTextsTest extends Checks {
    private static final int STANDS = -1;
    private static final String DIGITS = "0123456789";
    private static final String THINGS = "opqmls";
    private static final String AHEAD = DIGITS + THINGS + "-(";
    private static final String SUMS = "+-*/";
    private static final String JOINTS = SUMS + "<>=";

    public static void main(String[] args) {
        theText();
        signsOfLines();
        valuesOfLines();
        lengthsOfScenes();
        roomForLines();
        nothingOfItComes();
        signsOfRules();
        lengthsOfRules();
        bindingOfRules();
        intsOfRules();
        thingsOfRules();
        laws();
        signsOfEvenings();
        lengthsOfEvenings();
        readAnew();
        finish("edges of texts");
    }

    /** A call that reads THE TEXT: the place of its fault, or STANDS. */
    private interface Read {
        int fault(String text);
    }

    private static final Read SCENES = t -> placeOf(text(fresh(), t).scenes(), -1);
    private static final Read RULE = t -> placeOf(text(fresh(), t).rule(), -1);
    private static final Read LAW = t -> placeOf(text(fresh(), t).law(), -10000);
    private static final Read EVENING = t -> placeOf(text(fresh(), t).evening(), -1);

    private static int placeOf(int answer, int first) {
        return answer <= first ? first - answer : STANDS;
    }

    /** Of all 256 signs these alone can stand behind the text ahead; behind those that end it, it may end. */
    private static void signsBehind(Read read, String ahead, String can, String end) {
        for (char sign = 0; sign < 256; sign++) {
            int want = ahead.length();
            if (can.indexOf(sign) >= 0) {
                want = end.indexOf(sign) >= 0 ? STANDS : ahead.length() + 1;
            }
            due("fault in " + ahead + " and sign " + (int) sign, read.fault(ahead + sign), want);
        }
    }

    private static String times(String part, int n) {
        return part.repeat(n);
    }

    // ---- 2, 3

    private static void theText() {
        says(2, "of v the highest byte first");
        OneStageTwoPlays x = fresh();
        due("sign('05=7')", x.sign('0' << 24 | '5' << 16 | '=' << 8 | '7'), 4);
        due("scenes()", x.scenes(), 1);
        due("PLAY", x.scene(0, 0), 0);
        due("MINUTES", x.scene(0, 1), 5);
        due("CHEER", x.scene(0, 6), 7);
        OneStageTwoPlays signed = fresh();
        signed.sign('0' << 24 | '5' << 16 | '=' << 8 | 0xB7);
        due("a byte above 127 is no 7", signed.scenes(), -4);
        signed.sign(0xB0353D37);
        due("nor a 0", signed.scenes(), -1);
        says(2, "Four signs come behind THE TEXT");
        for (int k = 1; k <= 20; k++) {
            due("sign() for the " + k + "th time", x.sign(k), 4 * k);
        }
        says(2, "Refused: there would be more than 80");
        due("sign() behind 80", x.sign(0), -1);
        due("signs then", x.count(10), 80);
        for (int n = 79; n >= 77; n--) {
            x.end(n);
            due("sign() behind " + n, x.sign(0), -1);
            due("signs then", x.count(10), n);
        }
        x.end(76);
        due("sign() behind 76", x.sign(0), 80);
        endOfText();
    }

    private static void endOfText() {
        says(3, "THE TEXT has its first n signs alone: true");
        OneStageTwoPlays x = text(fresh(), "05=7;16=");
        due("end(8) of 8", x.end(8), true);
        due("end(5)", x.end(5), true);
        due("end(4)", x.end(4), true);
        due("signs then", x.count(10), 4);
        due("what is gone does not come again", x.end(5), false);
        x.sign(';' << 24 | '1' << 16 | '2' << 8 | '=');
        x.sign('9' << 24);
        x.end(9);
        due("signs come behind them", x.scenes(), 2);
        due("PLAY of the second", x.scene(1, 0), 1);
        says(3, "false if it has not so many, or n is below 0");
        due("end(0) of none", x.end(0), true);
        due("end(1) of none", x.end(1), false);
        text(x, "0123");
        for (int n : new int[] {5, 80, 81, HIGHEST, -1, -4, LOWEST}) {
            due("end(" + n + ") of 4", x.end(n), false);
            due("signs then", x.count(10), 4);
        }
        due("end(4) of 4", x.end(4), true);
        due("end(0)", x.end(0), true);
        due("signs then", x.count(10), 0);
    }

    // ---- 4

    private static void signsOfLines() {
        says(TERMS, "a digit 0 or 1 (PLAY)");
        signsBehind(SCENES, "", "01", "");
        says(TERMS, "a digit 1 .. 9 (MINUTES)");
        signsBehind(SCENES, "0", "123456789", "");
        signsBehind(SCENES, "1", "123456789", "");
        says(TERMS, "letters A .. F (rising, perhaps none)");
        signsBehind(SCENES, "01", "ABCDEF1234><=", "");
        signsBehind(SCENES, "01A", "BCDEF1234><=", "");
        signsBehind(SCENES, "01BD", "EF1234><=", "");
        signsBehind(SCENES, "01F", "1234><=", "");
        signsBehind(SCENES, "01ABCDEF", "1234><=", "");
        says(TERMS, "digits 1 .. 4 (rising, perhaps none)");
        signsBehind(SCENES, "191", "234><=", "");
        signsBehind(SCENES, "19A2", "34><=", "");
        signsBehind(SCENES, "19F13", "4><=", "");
        signsBehind(SCENES, "194", "><=", "");
        signsBehind(SCENES, "191234", "><=", "");
        says(4, "a letter, a digit that is no more than the one ahead: at it");
        due("fault in 05ACB=1", SCENES.fault("05ACB=1"), 4);
        due("fault in 05AA=1", SCENES.fault("05AA=1"), 3);
        due("fault in 05132=1", SCENES.fault("05132=1"), 4);
        due("fault in 0511=1", SCENES.fault("0511=1"), 3);
        says(TERMS, "perhaps > and a letter a .. h (FACT told)");
        signsBehind(SCENES, "01>", "abcdefgh", "");
        signsBehind(SCENES, "01A1>a", "<=", "");
        says(TERMS, "perhaps < and a letter a .. h (FACT needed)");
        signsBehind(SCENES, "01<", "abcdefgh", "");
        signsBehind(SCENES, "01<h", "=", "");
        signsBehind(SCENES, "01>a<", "abcdefgh", "");
        signsBehind(SCENES, "01>h<h", "=", "");
        says(TERMS, "= and a digit (CHEER)");
        signsBehind(SCENES, "01=", DIGITS, DIGITS);
        signsBehind(SCENES, "01>a<a=", DIGITS, DIGITS);
        says(TERMS, "LINES with ; between, each one more");
        signsBehind(SCENES, "01=0", ";", "");
        signsBehind(SCENES, "01=0;", "01", "");
        signsBehind(SCENES, "01=0;1", "123456789", "");
        says(4, "its end, if it ends too early");
        String line = "19ABCDEF1234>h<a=9";
        for (int n = 1; n < line.length(); n++) {
            due("scenes() of " + line.substring(0, n), text(fresh(), line.substring(0, n)).scenes(), -1 - n);
        }
        due("scenes() of it all", text(fresh(), line).scenes(), 1);
    }

    private static void dueScene(OneStageTwoPlays x, int scene, int... want) {
        for (int what = 0; what < want.length; what++) {
            due("scene(" + scene + ", " + what + ")", x.scene(scene, what), want[what]);
        }
    }

    private static void valuesOfLines() {
        OneStageTwoPlays x = with("01=0;19ABCDEF1234>h<h=9;02A1>a=1;08F4<a=8");
        says(TERMS, "PLAY 0 or 1, MINUTES 1 .. 9");
        dueScene(x, 0, 0, 1);
        dueScene(x, 1, 1, 9);
        says(TERMS, "PERSONS (of six, A .. F: bits 0 .. 5)");
        due("none", x.scene(0, 2), 0);
        due("all", x.scene(1, 2), 63);
        due("A", x.scene(2, 2), 1);
        due("F", x.scene(3, 2), 32);
        says(TERMS, "PROPS (of four, 1 .. 4: bits 0 .. 3)");
        due("none", x.scene(0, 3), 0);
        due("all", x.scene(1, 3), 15);
        due("1", x.scene(2, 3), 1);
        due("4", x.scene(3, 3), 8);
        says(TERMS, "the FACT it tells (a .. h: 0 .. 7; or none)");
        due("none", x.scene(0, 4), -1);
        due("h", x.scene(1, 4), 7);
        due("a", x.scene(2, 4), 0);
        due("none, though one is needed", x.scene(3, 4), -1);
        says(TERMS, "the FACT it needs (or none)");
        due("none", x.scene(0, 5), -1);
        due("h", x.scene(1, 5), 7);
        due("none, though one is told", x.scene(2, 5), -1);
        due("a", x.scene(3, 5), 0);
        says(TERMS, "CHEER 0 .. 9");
        due("0", x.scene(0, 6), 0);
        due("9", x.scene(1, 6), 9);
        says(TERMS, "each is TO COME, PLAYED or CUT");
        for (int scene = 0; scene < 4; scene++) {
            due("scene(" + scene + ", 7)", x.scene(scene, 7), 0);
        }
        leftoversOfLines();
    }

    /** What a faulty text told of a LINE must not show in the LINE that comes in its place. */
    private static void leftoversOfLines() {
        says(4, "Nothing of it comes, if a LINE can't");
        OneStageTwoPlays x = fresh();
        due("scenes()", text(x, "19ABCDEF1234>h<h=9;0").scenes(), -21);
        due("scenes()", text(x, "01=0").scenes(), 1);
        dueScene(x, 0, 0, 1, 0, 0, -1, -1, 0, 0);
        due("of PLAY 1", x.play(1, 0), 0);
        due("of PLAY 0", x.play(0, 0), 1);
    }

    private static void lengthsOfScenes() {
        String line = "01ABCDEF1234>a<b=5;";
        String long80 = times(line, 5).substring(0, 80);
        says(TERMS, "They are told by a text of at most 76 signs");
        String whole = "01AB=1;" + times("01ABC=1;", 8) + "01A=1";
        due("scenes() of 76 signs", text(fresh(), whole).scenes(), 10);
        due("scenes() of 75 signs", text(fresh(), long80.substring(0, 75)).scenes(), 4);
        says(4, "76, if it has more and the first 76 could go on or end");
        for (int n = 1; n <= 80; n++) {
            int want = n > 76 ? -77 : -1 - n;
            if (n < 76 && n % 19 == 18) {
                want = (n + 1) / 19;
            }
            due("scenes() of " + n + " signs", text(fresh(), long80.substring(0, n)).scenes(), want);
        }
        due("77 signs, the first 76 could end", text(fresh(), whole + ";").scenes(), -77);
        due("77 signs, bad behind 76", text(fresh(), whole + "z").scenes(), -77);
        due("80 signs, the first 76 could end", text(fresh(), whole + ";01=").scenes(), -77);
        for (int place = 0; place < 80; place++) {
            String bad = long80.substring(0, place) + "z" + long80.substring(place + 1);
            due("80 signs, bad at " + place, text(fresh(), bad).scenes(), -1 - Math.min(place, 76));
        }
    }

    private static void roomForLines() {
        says(TERMS, "SCENES 0 .. (at most 12)");
        due("scenes() of twelve", text(fresh(), times("01=1;", 11) + "01=1").scenes(), 12);
        says(4, "the first sign of a LINE for which there is no room");
        for (int there = 1; there <= 12; there++) {
            for (int more = 1; more <= 13; more++) {
                OneStageTwoPlays x = with(times("01=1;", there - 1) + "01=1");
                int room = 12 - there;
                int want = more <= room ? more : -1 - 5 * room;
                String lines = times("11=1;", more - 1) + "11=1";
                due(more + " LINES behind " + there, text(x, lines).scenes(), want);
                due("SCENES then", x.count(0), there + Math.max(0, want));
            }
        }
        OneStageTwoPlays full = with(SIX_EACH);
        due("thirteen at once", text(fresh(), times("01=1;", 12) + "01=1").scenes(), -61);
        due("a ; behind twelve ends too early", text(fresh(), times("01=1;", 12)).scenes(), -61);
        due("a bad sign where there is no room", text(full, "z").scenes(), -1);
        due("one good sign where there is no room", text(full, "0").scenes(), -1);
        due("a bad sign ahead of that", text(fresh(), times("01=1;", 11) + "01=z;01=1").scenes(), -59);
        due("an empty text with no room", text(full, "").scenes(), 0);
    }

    private static void nothingOfItComes() {
        says(4, "an empty one: nothing");
        OneStageTwoPlays x = with(FOUR);
        String ahead = nightOf(x) + scriptOf(x);
        due("scenes() of none", text(x, "").scenes(), 0);
        dueText("SCENES behind it", nightOf(x) + scriptOf(x), ahead);
        due("scenes() of none, fresh", fresh().scenes(), 0);
        says(4, "Nothing of it comes, if a LINE can't");
        for (String bad : new String[] {"01=1;", "01=1;02=2;2", "01=1;02=2;03=", times("01=1;", 8) + "01=1"}) {
            dueTrueBelow("scenes() of " + bad, text(x, bad).scenes());
            dueText("SCENES behind " + bad, nightOf(x) + scriptOf(x), ahead);
        }
        due("scenes() of a good one then", text(x, "17F=9").scenes(), 1);
        dueScene(x, 4, 1, 7, 32, 0, -1, -1, 9, 0);
    }

    private static void dueTrueBelow(String call, int got) {
        if (got >= 0) {
            fault(call + " answered " + got + ", due is a number below 0");
        }
    }

    // ---- 5

    private static void signsOfRules() {
        says(TERMS, "< > = bind least (two; 1 or 0; not one behind the other)");
        signsBehind(RULE, "o", JOINTS, "");
        for (String joint : new String[] {"<", ">", "="}) {
            signsBehind(RULE, "o" + joint, AHEAD, DIGITS + THINGS);
            signsBehind(RULE, "o" + joint + "p", SUMS, "");
            signsBehind(RULE, "o" + joint + "p*q+m", SUMS, "");
            signsBehind(RULE, "(o" + joint + "p", SUMS + ")", ")");
        }
        signsBehind(RULE, "(o<p)", JOINTS, "");
        signsBehind(RULE, "(o<p)<q", SUMS, "");
        signsBehind(RULE, "o<(p", JOINTS + ")", ")");
        signsBehind(RULE, "o<(p<q)", SUMS, "");
        signsBehind(RULE, "(o)<(p", JOINTS + ")", ")");
        signsBehind(RULE, "((o<p)", JOINTS + ")", ")");
        signsBehind(RULE, "(o<p)+(q", JOINTS + ")", ")");
        signsBehind(RULE, "(o<p)*(q=m)", JOINTS, "");
        says(TERMS, "a NUMBER of 1 to 3 digits");
        signsBehind(RULE, "1", DIGITS + JOINTS, DIGITS);
        signsBehind(RULE, "00", DIGITS + JOINTS, DIGITS);
        signsBehind(RULE, "999", JOINTS, "");
        signsBehind(RULE, "999+1", DIGITS + JOINTS, DIGITS);
        signsBehind(RULE, "(1)", JOINTS, "");
        says(TERMS, "an EXPRESSION in ( ) (at most 4 in one another)");
        signsBehind(RULE, "(", AHEAD, "");
        signsBehind(RULE, "(((", AHEAD, "");
        signsBehind(RULE, "((((", DIGITS + THINGS + "-", "");
        signsBehind(RULE, "((((o", JOINTS + ")", "");
        signsBehind(RULE, "((((o)", JOINTS + ")", "");
        signsBehind(RULE, "((((o))))", JOINTS, "");
        signsBehind(RULE, "((((o)+", AHEAD, "");
        due("fault in four and four", RULE.fault("((((o))))+((((o))))"), STANDS);
        due("fault in five", RULE.fault("(((((o)))))"), 4);
        due("fault in one more beside four", RULE.fault("((((o)))+((((o))))"), 12);
        says(TERMS, "- ahead of a thing (any many)");
        signsBehind(RULE, "-", AHEAD, DIGITS + THINGS);
        signsBehind(RULE, "o---", AHEAD, DIGITS + THINGS);
        due("fault in 39 and a 1", RULE.fault(times("-", 39) + "1"), STANDS);
        signsBehind(RULE, "", AHEAD, DIGITS + THINGS);
        says(5, "likewise (40 signs)");
        for (String rule : new String[] {"o+", "o-", "o*", "o/", "o<", "(", "(o", "-", "((((o)))", "o+("}) {
            due("rule() of " + rule, text(fresh(), rule).rule(), -1 - rule.length());
        }
        says(5, "an empty one: none");
        OneStageTwoPlays x = with("05A1=0;13AB2=0", "7");
        due("change(0, 1) by 7", x.change(0, 1), 7);
        due("rule() of none", text(x, "").rule(), 0);
        due("change(0, 1) by none: 2 + 1 + 2", x.change(0, 1), 5);
        due("a faulty one", text(x, "9+").rule(), -3);
        due("leaves it as it was", x.change(0, 1), 5);
    }

    private static void lengthsOfRules() {
        says(TERMS, "THE RULE is a text of at most 40 signs");
        String forty = times("1+", 19) + "-9";
        OneStageTwoPlays x = with("01=0;01=0");
        due("rule() of 40 signs", text(x, forty).rule(), 0);
        due("change by it: 19 - 9", x.change(0, 1), 10);
        says(5, "likewise (40 signs)");
        for (int n = 1; n <= 80; n++) {
            int want = n > 40 ? 40 : n % 2 == 1 ? STANDS : n;
            String rule = times("o+", 40).substring(0, n);
            due("fault in " + n + " signs of rule()", RULE.fault(rule), want);
            due("fault in " + n + " signs of law()", LAW.fault(rule), want);
        }
        due("41 signs, the first 40 could end", RULE.fault(forty + "+"), 40);
        due("41 signs, bad behind 40", RULE.fault(forty + "z"), 40);
        due("40 signs, still open", RULE.fault("(" + times("o+", 19) + "o"), 40);
        due("41 signs, closed too late", RULE.fault("(" + times("o+", 19) + "o)"), 40);
        for (int place = 0; place < 80; place++) {
            String rule = times("o+", 40);
            String bad = rule.substring(0, place) + "z" + rule.substring(place + 1);
            due("80 signs, bad at " + place, RULE.fault(bad), Math.min(place, 40));
        }
    }

    /** Of two SCENES: o 1, p 1 (C), q 2 (1 and 3), m 3, l 5, s 2. */
    private static void dueWorth(String rule, int want) {
        due("change(0, 1) by " + rule, with("05ABC12=0;13CD23=0", rule).change(0, 1), want);
    }

    private static void bindingOfRules() {
        says(TERMS, "< > = bind least (two; 1 or 0; not one behind the other)");
        int[][] pairs = {{4, 5}, {5, 5}, {6, 5}};
        for (int[] p : pairs) {
            dueWorth(p[0] + "<" + p[1], p[0] < p[1] ? 1 : 0);
            dueWorth(p[0] + ">" + p[1], p[0] > p[1] ? 1 : 0);
            dueWorth(p[0] + "=" + p[1], p[0] == p[1] ? 1 : 0);
        }
        dueWorth("1+4<2*3", 1);
        dueWorth("2*3<1+4", 0);
        dueWorth("0-1<0", 1);
        dueWorth("5+(1<2)", 6);
        dueWorth("5+(2<1)", 5);
        dueWorth("5+(1>2)", 5);
        dueWorth("5+(1=2)", 5);
        says(TERMS, "then + - (from the left)");
        dueWorth("9-3-2", 4);
        dueWorth("9-3+2", 8);
        dueWorth("9-(3+2)", 4);
        says(TERMS, "then * / (from the left; by 0: 0; cut to 0)");
        dueWorth("40/5/2", 4);
        dueWorth("40/5*2", 16);
        dueWorth("7*3/2", 10);
        dueWorth("7/0", 0);
        dueWorth("0/0", 0);
        dueWorth("9+7/0", 9);
        dueWorth("9+7/(o-p)*5", 9);
        dueWorth("9+-7/2", 6);
        dueWorth("9+7/-2", 6);
        dueWorth("9+-7/-2", 12);
        dueWorth("9-1/2", 9);
        dueWorth("9+-1/2", 9);
        dueWorth("2+3*4", 14);
        says(TERMS, "then - ahead of a thing (any many)");
        dueWorth("--5", 5);
        dueWorth("9+---5", 4);
        dueWorth("-2*-3", 6);
        dueWorth("9-(-(2))", 11);
        dueWorth(times("-", 38) + "5", 5);
        dueWorth(times("-", 37) + "5", 0);
    }

    private static void intsOfRules() {
        says(TERMS, "As ints, put to 0 .. 99: CHANGE (minutes)");
        dueWorth("0", 0);
        dueWorth("1", 1);
        dueWorth("98", 98);
        dueWorth("99", 99);
        dueWorth("100", 99);
        dueWorth("999", 99);
        dueWorth("0-1", 0);
        dueWorth("-999", 0);
        dueWorth("100-1", 99);
        // 512 * 512 * 512 * 16 is 2 to the 31st: as an int the lowest one
        dueWorth("512*512*512*16", 0);
        dueWorth("512*512*512*16<0", 1);
        dueWorth("512*512*512*16-1", 99);
        dueWorth("512*512*512*16-1>0", 1);
        dueWorth("-(512*512*512*16)<0", 1);
        dueWorth("512*512*512*16/-1<0", 1);
        dueWorth("512*512*512*32", 0);
        dueWorth("512*512*512*32+7", 7);
        // 999 * 999 * 999 * 3 is 2991008997, less 2 to the 32nd -1303958299
        dueWorth("999*999*999*3", 0);
        dueWorth("999*999*999*3+999*999*999*2>0", 1);
        says(TERMS, "Ahead of the night's first SCENE: 0");
        OneStageTwoPlays x = with("05=0;03=0;12=0", "99");
        due("pause(7)", x.pause(7), 7);
        due("weave()", x.weave(), 5 + 3 + 2 + 2 * 99);
        due("soonest(1)", x.soonest(1), 2);
        due("over(0)", x.over(0), 5);
        due("plays(0)", x.plays(0), 12);
        dueRow("plays(0)", x, 0, 0, 0);
        due("plays(0)", x.plays(0), 114);
        dueRow("plays(0), behind one", x, 1, 99, 0);
        x.undo();
        x.undo();
        due("plays(1), the first again", x.plays(1), 9);
        dueRow("plays(1), the first again", x, 2, 0, 0);
    }

    private static void thingsOfRules() {
        says(TERMS, "at first none: o*2+p+q");
        OneStageTwoPlays x = with("01ABCDEF1234=0;09ABCDEF=0;111234=0;11=0");
        due("change(0, 0)", x.change(0, 0), 6);
        due("change(0, 1)", x.change(0, 1), 6 + 4);
        due("change(0, 2)", x.change(0, 2), 2);
        due("change(1, 2)", x.change(1, 2), 2 + 4);
        due("change(2, 3)", x.change(2, 3), 4);
        due("change(3, 3)", x.change(3, 3), 0);
        says(TERMS, "o 1 if they are of unlike PLAYS");
        dueThing(x, "o", 0, 2, 1);
        dueThing(x, "o", 2, 0, 1);
        dueThing(x, "o", 0, 1, 0);
        dueThing(x, "o", 2, 3, 0);
        says(TERMS, "p how many PERSONS are in both");
        dueThing(x, "p", 0, 1, 6);
        dueThing(x, "p", 0, 2, 0);
        says(TERMS, "q how many PROPS are in one of both alone");
        dueThing(x, "q", 0, 1, 4);
        dueThing(x, "q", 1, 0, 4);
        dueThing(x, "q", 0, 2, 0);
        dueThing(x, "q", 1, 3, 0);
        says(TERMS, "m MINUTES of the one behind, l MINUTES of the one ahead");
        dueThing(x, "m", 0, 1, 9);
        dueThing(x, "l", 0, 1, 1);
        dueThing(x, "m", 1, 0, 1);
        dueThing(x, "l", 1, 0, 9);
        says(TERMS, "s how many PERSONS are in the one behind");
        dueThing(x, "s", 0, 2, 0);
        dueThing(x, "s", 2, 0, 6);
    }

    private static void dueThing(OneStageTwoPlays x, String thing, int one, int other, int want) {
        text(x, thing).rule();
        due("change(" + one + ", " + other + ") by " + thing, x.change(one, other), want);
    }

    // ---- 40

    private static void laws() {
        says(40, "-10000 - p: the sign at p can't stand there (as rule())");
        due("law() of z", text(fresh(), "z").law(), -10000);
        due("law() of o+", text(fresh(), "o+").law(), -10002);
        due("law() of o<p<q", text(fresh(), "o<p<q").law(), -10003);
        due("law() of 41 signs", text(fresh(), times("o+", 20) + "o").law(), -10040);
        signsBehind(LAW, "", AHEAD, DIGITS + THINGS);
        signsBehind(LAW, "o<p", SUMS, "");
        signsBehind(LAW, "((((", DIGITS + THINGS + "-", "");
        signsBehind(LAW, "999", JOINTS, "");
        says(40, "THE TEXT is another RULE (an empty one: none)");
        OneStageTwoPlays x = with("01=0;11=0", "9");
        due("law() of none", text(x, "").law(), 2 - 9);
        dueRow("law() of none", x, 4, 11);
        due("THE RULE is as it was", x.change(0, 1), 9);
        due("law() of a faulty one", text(x, "1+").law(), -10002);
        dueRow("law() of a faulty one", x, 0, 0);
        due("THE RULE is as it was", x.change(0, 1), 9);
        says(40, "how many (below 0, too)");
        due("law() of 0", text(x, "0").law(), -9);
        due("law() of 9", text(x, "9").law(), 0);
        due("law() of 99", text(x, "99").law(), 90);
        dueRow("law() of 99", x, 101, 11);
        OneStageTwoPlays none = with("01=0", "9");
        none.plays(0);
        due("law() with nothing TO COME", text(none, "50").law(), 0);
        dueRow("law() with nothing TO COME", none, 0, 0);
        OneStageTwoPlays twelve = with(SIX_EACH, "0");
        due("law() of the most", text(twelve, "99").law(), 11 * 99);
        twelve.plays(0);
        text(twelve, "99").rule();
        due("law() of the least", text(twelve, "0").law(), -11 * 99);
        dueRow("behind THE LAST one", twelve, 11, 11 * 100);
    }

    // ---- 13

    private static void signsOfEvenings() {
        says(13, "x and a letter a .. l (that SCENE is CUT)");
        signsBehind(EVENING, "", "01xw", "01");
        signsBehind(EVENING, "x", "abcdefghijkl", "abcdefghijkl");
        says(13, "w and a digit (so many minutes go by)");
        signsBehind(EVENING, "w", DIGITS, DIGITS);
        says(13, "without signs between");
        signsBehind(EVENING, "0", "01xw", "01");
        signsBehind(EVENING, "xa", "01xw", "01");
        signsBehind(EVENING, "w0", "01xw", "01");
        says(13, "its end, if it ends too early");
        due("evening() of x", text(fresh(), "x").evening(), -2);
        due("evening() of w1w", text(fresh(), "w1w").evening(), -4);
    }

    private static void lengthsOfEvenings() {
        says(13, "60, if it has more and the first 60 could go on or end");
        for (int n = 1; n <= 80; n++) {
            String acts = times("w1", 40).substring(0, n);
            int want = n > 60 ? -61 : n % 2 == 0 ? n / 2 : -1 - n;
            due("evening() of " + n + " signs", text(fresh(), acts).evening(), want);
            String other = "0" + acts.substring(0, n - 1);
            want = n > 60 ? 60 : n % 2 == 1 ? STANDS : n;
            due("fault in " + n + " signs with a 0 ahead", EVENING.fault(other), want);
        }
        for (int place = 0; place < 80; place++) {
            String acts = times("w1", 40);
            String bad = acts.substring(0, place) + "z" + acts.substring(place + 1);
            due("80 signs, bad at " + place, EVENING.fault(bad), Math.min(place, 60));
        }
        says(13, "nothing is done then");
        OneStageTwoPlays x = with(FOUR);
        x.stand();
        String ahead = nightOf(x);
        for (String bad : new String[] {"01w9xaz", "01w9xax", "01w", times("w1", 31), "z"}) {
            dueTrueBelow("evening() of " + bad, text(x, bad).evening());
            dueText("the night behind " + bad, nightOf(x), ahead);
            dueRow("the ROW behind " + bad, x, 8);
        }
    }

    // ---- one text behind another

    private static void readAnew() {
        says(TERMS, "Refused calls answer NONE, or false, and change nothing but THE TEXT");
        String[] badRules = {"((((", "((((o)", "o<", "(o<p", "o<p<", "(((o=p", "9+99+", "1000", "-", "9+", "z", times("-", 60)};
        String[] goodRules = {"((((7))))", "(1<2)+(3=3)+5", "7", "1=1", "--7", "900/100-2"};
        int[] worth = {7, 7, 7, 1, 7, 7};
        for (String bad : badRules) {
            for (int k = 0; k < goodRules.length; k++) {
                OneStageTwoPlays x = with("01=0;02=0");
                text(x, bad).rule();
                due("rule() of " + goodRules[k] + " behind " + bad, text(x, goodRules[k]).rule(), 0);
                due("change(0, 1) by it", x.change(0, 1), worth[k]);
                text(x, bad).law();
                due("law() of it behind " + bad, text(x, goodRules[k]).law(), 0);
            }
        }
        for (String bad : new String[] {"x", "w", "0x", "w1w", "xz", "z", times("w1", 31)}) {
            OneStageTwoPlays x = with("01=0;02=0");
            dueTrueBelow("evening() of " + bad, text(x, bad).evening());
            due("evening() of w1xb behind it", text(x, "w1xb").evening(), 2);
            dueTrueBelow("evening() of " + bad, text(x, bad).evening());
            due("evening() of 0 behind it", text(x, "0").evening(), 1);
        }
        for (String bad : new String[] {"0", "01", "19F4", "19>", "19>a", "19<", "19<a", "19=", "01=1;", "z"}) {
            OneStageTwoPlays x = fresh();
            dueTrueBelow("scenes() of " + bad, text(x, bad).scenes());
            due("scenes() of two behind it", text(x, "01=0;12A1>a<a=1").scenes(), 2);
            dueScene(x, 0, 0, 1, 0, 0, -1, -1, 0, 0);
            dueScene(x, 1, 1, 2, 1, 1, 0, 0, 1, 0);
        }
    }
}
