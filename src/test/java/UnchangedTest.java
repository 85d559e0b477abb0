import java.util.NoSuchElementException;

/**
 * What must not change: each refused call and each question is made on an object whose twin is left alone;
 * behind it all that can be seen, undone, brought again or asked is the same of both.
 */
public final class UnchangedTest extends Checks {
    private static final int[] NO_PLAYS = {-1, 2, LOWEST, HIGHEST};
    private static final int[] NO_HOURS = {-1, 200, LOWEST, HIGHEST};
    private static final String BAD = "01=1;z";

    public static void main(String[] args) {
        refusedSigns();
        refusedTexts();
        refusedScenes();
        refusedNights();
        refusedWeaves();
        refusedNumbers();
        answersBelowNothing();
        questions();
        finish("unchanged");
    }

    private interface Call {
        long on(OneStageTwoPlays x);
    }

    /** The objects on which each call is tried. */
    private static OneStageTwoPlays made(int kind) {
        OneStageTwoPlays x = fresh();
        if (kind == 1) {
            rich(x);
        } else if (kind == 2) {
            full(x);
        }
        return x;
    }

    private static void rich(OneStageTwoPlays x) {
        text(x, FOUR).scenes();
        text(x, "01A4>h<b=9").scenes();
        text(x, "o*3+m").rule();
        x.pause(3);
        x.keep(0);
        x.plays(0);
        x.cut(1);
        x.keep(1);
        x.plays(1);
        x.cut(2);
        x.puts(2);
        text(x, "w2xc").evening();
        x.bow(2, 1);
        x.bow(4, 0);
        x.stand();
        text(x, "01=1;02=2;z");
    }

    private static void full(OneStageTwoPlays x) {
        text(x, SIX_EACH).scenes();
        for (int k = 0; k < 13; k++) {
            x.pause(1);
        }
        x.weave();
        for (int k = 0; k < 20; k++) {
            x.sign('z' << 24);
        }
    }

    /** Answers that tell, behind the call that is tried, what it could have changed. */
    private static String aftermath(OneStageTwoPlays x) {
        StringBuilder out = new StringBuilder();
        for (int one = 0; one < x.count(0); one += 3) {
            for (int other = 0; other < x.count(0); other++) {
                out.append(x.change(one, other)).append(' ');
            }
        }
        out.append("fits ").append(x.fits()).append(" law ").append(text(x, "").law());
        out.append(" weave ").append(x.weave()).append(' ').append(nightOf(x));
        for (int k = 0; k < 14; k++) {
            out.append("undone ").append(x.undo()).append(' ').append(x.count(1)).append(' ').append(x.count(3)).append(' ');
        }
        out.append(nightOf(x));
        for (int i = 0; i < 2; i++) {
            out.append("again ").append(x.again(i)).append(' ').append(nightOf(x));
        }
        return out.toString();
    }

    private static long answerOf(OneStageTwoPlays x, Call call) {
        try {
            return call.on(x);
        } catch (NoSuchElementException e) {
            return Long.MIN_VALUE;
        }
    }

    /** The signs of THE TEXT, as scenes() or law() would find them, are told by what they answer. */
    private static void sameSigns(String name, OneStageTwoPlays x, OneStageTwoPlays twin) {
        int size = twin.count(10);
        int got = x.count(10);
        due(name + ", signs of THE TEXT", got, size);
        due(name + ", what THE TEXT tells", x.scenes(), twin.scenes());
    }

    private static void refused(String name, Call call, long want) {
        for (int kind = 0; kind < 3; kind++) {
            refusedOn(kind, name, call, want);
        }
    }

    private static void refusedOn(int kind, String name, Call call, long want) {
        OneStageTwoPlays x = made(kind);
        OneStageTwoPlays twin = made(kind);
        String where = name + " on object " + kind;
        due(where, answerOf(x, call), want);
        dueText(where, sightOf(x), sightOf(twin));
        sameSigns(where, x, twin);
        dueText(where, aftermath(x), aftermath(twin));
    }

    /** A call that reads THE TEXT empties it, and changes nothing else. */
    private static void refusedText(String name, String text, Call call, long want) {
        for (int kind = 0; kind < 3; kind++) {
            OneStageTwoPlays x = text(made(kind), text);
            OneStageTwoPlays twin = made(kind);
            String where = name + " of " + text + " on object " + kind;
            due(where, answerOf(x, call), want);
            due(where + ", signs of THE TEXT", x.count(10), 0);
            twin.end(0);
            dueText(where, sightOf(x), sightOf(twin));
            dueText(where, aftermath(x), aftermath(twin));
        }
    }

    private static void refusedSigns() {
        says(TERMS, "Refused calls answer NONE, or false, and change nothing but THE TEXT");
        refusedOn(2, "sign(-1)", x -> x.sign(-1), -1);
        refusedOn(2, "sign(MIN)", x -> x.sign(LOWEST), -1);
        for (int n : new int[] {-1, 81, LOWEST, HIGHEST}) {
            refused("end(" + n + ")", x -> x.end(n) ? 1 : 0, 0);
        }
    }

    private static void refusedTexts() {
        says(TERMS, "which a call that reads it empties");
        refusedText("scenes()", "z", x -> x.scenes(), -1);
        refusedText("scenes()", "0", x -> x.count(0) == 12 ? x.scenes() - 1 : x.scenes(), -2);
        refusedText("rule()", "z", x -> x.rule(), -1);
        refusedText("rule()", "9+", x -> x.rule(), -3);
        refusedText("rule()", "9".repeat(80), x -> x.rule(), -4);
        refusedText("law()", "z", x -> x.law(), -10000);
        refusedText("law()", "9+", x -> x.law(), -10002);
        refusedText("evening()", "w1w2z", x -> x.evening(), -5);
        refusedText("evening()", "w1x", x -> x.evening(), -4);
        refusedText("scenes()", "", x -> x.scenes(), 0);
        for (String text : new String[] {BAD, "o", "w1"}) {
            OneStageTwoPlays x = text(with(FOUR), text);
            x.plays(2);
            x.undo();
            x.weave();
            x.years(0, 0);
            x.again(0);
            due("a call that does not read it leaves it", x.count(10), text.length());
        }
        emptiedByAll();
    }

    private static void emptiedByAll() {
        OneStageTwoPlays x = fresh();
        text(x, "01=1").scenes();
        due("signs behind scenes()", x.count(10), 0);
        due("scenes() of what is empty", x.scenes(), 0);
        text(x, "7").rule();
        due("signs behind rule()", x.count(10), 0);
        due("rule() of what is empty", x.rule(), 0);
        text(x, "7").law();
        due("signs behind law()", x.count(10), 0);
        text(x, "0").evening();
        due("signs behind evening()", x.count(10), 0);
        due("evening() of what is empty", x.evening(), 0);
        due("SCENES", x.count(0), 1);
    }

    private static void refusedScenes() {
        says(TERMS, "Refused calls answer NONE, or false, and change nothing but THE TEXT");
        for (int scene : new int[] {-1, 12, LOWEST, HIGHEST}) {
            refused("scene(" + scene + ", 0)", x -> x.scene(scene, 0), Long.MIN_VALUE);
            refused("cut(" + scene + ")", x -> x.cut(scene), -1);
            refused("puts(" + scene + ")", x -> x.puts(scene), -1);
            refused("over(" + scene + ")", x -> x.over(scene), -1);
            refused("change(" + scene + ", 0)", x -> x.change(scene, 0), -1);
            refused("change(0, " + scene + ")", x -> x.change(0, scene), -1);
            refused("row(" + scene + ")", x -> x.row(scene), Long.MIN_VALUE);
        }
        for (int kind : new int[] {-1, 4, LOWEST, HIGHEST}) {
            refused("sheet(" + kind + ", 3, 9, 0)", x -> x.sheet(kind, 3, 9, 0), -1);
        }
        for (int kind = 0; kind <= 3; kind++) {
            int k = kind;
            refused("sheet(" + k + ", 13, 9, 0)", x -> x.sheet(k, 13, 9, 0), -1);
            refused("sheet(" + k + ", MAX, 9, 0)", x -> x.sheet(k, HIGHEST, 9, 0), -1);
        }
        for (int kind = 0; kind <= 2; kind++) {
            int k = kind;
            refused("sheet(" + k + ", -1, 9, 0)", x -> x.sheet(k, -1, 9, 0), -2);
        }
    }

    private static void refusedNights() {
        says(TERMS, "Refused calls answer NONE, or false, and change nothing but THE TEXT");
        for (int play : NO_PLAYS) {
            refused("play(" + play + ", 0)", x -> x.play(play, 0), Long.MIN_VALUE);
            refused("play(0, " + (play == 2 ? 7 : play) + ")", x -> x.play(0, play == 2 ? 7 : play), Long.MIN_VALUE);
            refused("plays(" + play + ")", x -> x.plays(play), -1);
        }
        for (int n : new int[] {-1, 100, LOWEST, HIGHEST}) {
            refused("pause(" + n + ")", x -> x.pause(n), -1);
        }
        refusedOn(0, "undo()", x -> x.undo(), -1);
        for (int i : new int[] {-1, 2, LOWEST, HIGHEST}) {
            refused("keep(" + i + ")", x -> x.keep(i) ? 1 : 0, 0);
            refused("again(" + i + ")", x -> x.again(i) ? 1 : 0, 0);
        }
        for (int i = 0; i < 2; i++) {
            int k = i;
            refusedOn(0, "again(" + k + ")", x -> x.again(k) ? 1 : 0, 0);
            refusedOn(2, "again(" + k + ")", x -> x.again(k) ? 1 : 0, 0);
        }
        for (int n : new int[] {0, 61, -1, LOWEST, HIGHEST}) {
            refused("years(5, " + n + ")", x -> x.years(5, n), -1);
        }
    }

    private static void refusedWeaves() {
        says(TERMS, "Refused calls answer NONE, or false, and change nothing but THE TEXT");
        for (int play : NO_PLAYS) {
            refused("soonest(" + play + ")", x -> x.soonest(play), -1);
            refused("turn(" + play + ")", x -> x.turn(play), -1);
            refused("cheers(" + play + ")", x -> x.cheers(play), -1);
            refused("chance(" + play + ", 5)", x -> x.chance(play, 5), -1);
        }
        for (int n : NO_HOURS) {
            refused("both(" + n + ", 0)", x -> x.both(n, 0), -1);
            refused("both(0, " + n + ")", x -> x.both(0, n), -1);
            refused("within(" + n + ")", x -> x.within(n), -1);
            refused("cuts(" + n + ")", x -> x.cuts(n), -1);
        }
    }

    private static void refusedNumbers() {
        says(TERMS, "Refused calls answer NONE, or false, and change nothing but THE TEXT");
        for (int n : new int[] {-1, LOWEST, HIGHEST}) {
            refused("who(" + n + ")", x -> x.who(n), -1);
            refused("chance(0, " + n + ")", x -> x.chance(0, n), -1);
            refused("likely(" + n + ")", x -> x.likely(n), -1);
            refused("rests(" + n + ")", x -> x.rests(n), -1);
            refused("lamps(" + n + ")", x -> x.lamps(n), -1);
            refused("bow(" + n + ", 1)", x -> x.bow(n, 1), -1);
            refused("bow(3, " + n + ")", x -> x.bow(3, n), -1);
            refused("count(" + n + ")", x -> x.count(n), -100);
        }
        refused("who(6)", x -> x.who(6), -1);
        refused("chance(0, 11)", x -> x.chance(0, 11), -1);
        refused("likely(11)", x -> x.likely(11), -1);
        refused("rests(21)", x -> x.rests(21), -1);
        refused("lamps(0)", x -> x.lamps(0), -1);
        refused("lamps(41)", x -> x.lamps(41), -1);
        refused("bow(6, 0)", x -> x.bow(6, 0), -1);
        refused("bow(3, 2)", x -> x.bow(3, 2), -1);
        refused("count(11)", x -> x.count(11), -100);
    }

    /** Of the object with much: 0 and 3 are PLAYED, 1 and 2 CUT, 4 is TO COME. */
    private static void answersBelowNothing() {
        says(9, "-2: there is none");
        refusedOn(1, "plays(1)", x -> x.plays(1), -2);
        refusedOn(0, "plays(0)", x -> x.plays(0), -2);
        says(10, "-2: it is not TO COME");
        refusedOn(1, "cut(0)", x -> x.cut(0), -2);
        refusedOn(1, "cut(1)", x -> x.cut(1), -2);
        says(11, "-2: it was not CUT; -3: a later one of its PLAY was PLAYED");
        refusedOn(1, "puts(0)", x -> x.puts(0), -2);
        refusedOn(1, "puts(4)", x -> x.puts(4), -2);
        refusedOn(1, "puts(1)", x -> x.puts(1), -3);
        says(21, "-2: nothing of it is TO COME");
        refusedOn(1, "turn(1)", x -> x.turn(1), -2);
        refusedOn(0, "turn(0)", x -> x.turn(0), -2);
        says(22, "-2: it is not TO COME");
        refusedOn(1, "over(0)", x -> x.over(0), -2);
        refusedOn(1, "over(1)", x -> x.over(1), -2);
        says(39, "-2: none fits");
        refusedOn(0, "ask()", x -> x.ask(), -2);
        says(12, "n minutes (0 .. 99) go by: NOW");
        refusedOn(0, "pause(0)", x -> x.pause(0), 0);
        refusedOn(1, "pause(0)", x -> x.pause(0), made(1).count(1));
    }

    /** The ROW alone is told anew. */
    private static void question(String name, Call call) {
        for (int kind = 0; kind < 3; kind++) {
            OneStageTwoPlays x = made(kind);
            OneStageTwoPlays twin = made(kind);
            String where = name + " on object " + kind;
            long first = answerOf(x, call);
            String row = java.util.Arrays.toString(rowOf(x));
            due(where + ", asked again", answerOf(x, call), first);
            dueText(where + ", the ROW again", java.util.Arrays.toString(rowOf(x)), row);
            dueText(where, nightOf(x) + scriptOf(x), nightOf(twin) + scriptOf(twin));
            sameSigns(where, x, twin);
            dueText(where, aftermath(x), aftermath(twin));
        }
    }

    private static void questions() {
        says(TERMS, "Questions change nothing");
        question("scene(0, 1)", x -> x.scene(0, 1));
        question("play(0, 6)", x -> x.play(0, 6));
        question("change(0, 1)", x -> x.change(0, 1));
        question("weave()", x -> x.weave());
        question("soonest(0)", x -> x.soonest(0));
        question("soonest(1)", x -> x.soonest(1));
        question("both(99, 199)", x -> x.both(99, 199));
        question("both(0, 0)", x -> x.both(0, 0));
        question("within(40)", x -> x.within(40));
        question("weaves()", x -> x.weaves());
        question("turn(0)", x -> x.turn(0));
        question("over(4)", x -> x.over(4));
        question("cuts(0)", x -> x.cuts(0));
        question("cuts(20)", x -> x.cuts(20));
        question("clash()", x -> x.clash());
        question("mend()", x -> x.mend());
        question("spare()", x -> x.spare());
        question("cheers(0)", x -> x.cheers(0));
        question("cheers(1)", x -> x.cheers(1));
        question("who(0)", x -> x.who(0));
        question("kings()", x -> x.kings());
        question("stand()", x -> x.stand());
        question("guard()", x -> x.guard());
        question("chance(0, 3)", x -> x.chance(0, 3));
        question("likely(3)", x -> x.likely(3));
        question("rests(20)", x -> x.rests(20));
        question("lamps(40)", x -> x.lamps(40));
        question("fits()", x -> x.fits());
        question("ask()", x -> x.ask());
        question("years(1, 60)", x -> x.years(1, 60));
        question("years(-7, 1)", x -> x.years(-7, 1));
        question("count(3)", x -> x.count(3));
        question("row(0)", x -> x.row(0));
        for (int kind = 0; kind < 3; kind++) {
            OneStageTwoPlays x = made(kind);
            OneStageTwoPlays twin = made(kind);
            text(x, "99").law();
            dueText("law() on object " + kind, nightOf(x), nightOf(twin));
            dueText("law() on object " + kind, aftermath(x), aftermath(twin));
        }
    }
}
