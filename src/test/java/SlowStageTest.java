import java.util.ArrayList;
import java.util.Arrays;
import java.util.HashSet;
import java.util.List;
import java.util.NoSuchElementException;
import java.util.Random;
import java.util.Set;
import java.util.TreeMap;
import java.util.regex.Matcher;
import java.util.regex.Pattern;

/**
 * Runs of drawn calls on the class and on a slow model that was written from the document alone
 * (all weaves one by one, all orders, all sets); every answer and every ROW must be the same.
 */
public final class SlowStageTest {
    private static int wrong = 0;

    public static void main(String[] args) {
        int runs = args.length > 0 ? Integer.parseInt(args[0]) : 2500;
        for (int run = 0; run < runs && wrong < 10; run++) {
            new Run(run).go();
        }
        System.out.println(wrong == 0 ? "slow model: all the same in " + runs + " runs" : "slow model: " + wrong + " differ");
        System.exit(wrong == 0 ? 0 : 1);
    }

    /** One run of at most 512 calls, those counted by which the object is looked at. */
    private static final class Run {
        static final int MOST_STEPS = 200;
        /** The longest step feeds a text of 21 calls, each looked at by one more, and looks at all by 31. */
        static final int LAST_STEP = 400;
        final int seed;
        final Random random;
        final OneStageTwoPlays real = new OneStageTwoPlays();
        final Model model = new Model();
        final StringBuilder log = new StringBuilder();
        int calls = 0;
        final boolean small;

        Run(int seed) {
            this.seed = seed;
            random = new Random(seed);
            small = seed % 4 != 0;
        }

        void go() {
            int before = wrong;
            for (int k = 0; k < MOST_STEPS && calls < LAST_STEP && wrong == before; k++) {
                step();
            }
            look("the end");
        }

        int pick(int low, int high) {
            return low + random.nextInt(high - low + 1);
        }

        /** Mostly within the bounds, at times one beyond or far off. */
        int arg(int low, int high) {
            int kind = random.nextInt(20);
            if (kind == 0) return low - 1;
            if (kind == 1) return high + 1;
            if (kind == 2) return new int[] {Integer.MIN_VALUE, Integer.MAX_VALUE, -1000, 1000}[random.nextInt(4)];
            if (kind == 3) return low;
            if (kind == 4) return high;
            return pick(low, high);
        }

        void step() {
            switch (random.nextInt(48)) {
                case 0: case 1: case 2: feed(sceneText()); call("scenes"); break;
                case 3: case 4: feed(ruleText()); call("rule"); break;
                case 5: feed(ruleText()); call("law"); break;
                case 6: case 7: feed(eveningText()); call("evening"); break;
                case 8: call("scene", arg(0, 12), arg(0, 7)); break;
                case 9: call("play", arg(0, 1), arg(0, 6)); break;
                case 10: call("sheet", arg(0, 3), arg(0, 12), pick(-300, 300), pick(-40000, 40000)); break;
                case 11: call("sheet", pick(0, 2), pick(0, 12), pick(0, 9), pick(-2, 2)); break;
                case 12: case 13: call("plays", arg(0, 1)); break;
                case 14: call("cut", arg(0, 11)); break;
                case 15: call("puts", arg(0, 11)); break;
                case 16: call("pause", arg(0, 99)); break;
                case 17: call("undo"); break;
                case 18: call("change", arg(0, 11), arg(0, 11)); break;
                case 19: call("weave"); break;
                case 20: call("soonest", arg(0, 1)); break;
                case 21: call("both", hour(), hour()); break;
                case 22: call("within", hour()); break;
                case 23: call("weaves"); break;
                case 24: call("turn", arg(0, 1)); break;
                case 25: call("over", arg(0, 11)); break;
                case 26: call("cuts", hour()); break;
                case 27: call("clash"); break;
                case 28: call("mend"); break;
                case 29: call("spare"); break;
                case 30: call("cheers", arg(0, 1)); break;
                case 31: call("who", arg(0, 5)); break;
                case 32: call("kings"); break;
                case 33: call("stand"); break;
                case 34: call("guard"); break;
                case 35: call("chance", arg(0, 1), arg(0, 10)); break;
                case 36: call("likely", arg(0, 10)); break;
                case 37: call("rests", arg(0, 20)); break;
                case 38: call("lamps", arg(1, 40)); break;
                case 39: call("bow", arg(0, 5), arg(0, 1)); break;
                case 40: if (random.nextInt(3) == 0) call("forget"); break;
                case 41: call("fits"); break;
                case 42: call("ask"); break;
                case 43: call("years", random.nextInt(), random.nextInt(3) == 0 ? arg(1, 60) : pick(1, 6)); break;
                case 44: call("keep", arg(0, 1)); break;
                case 45: call("again", arg(0, 1)); break;
                case 46: call("row", arg(0, 12)); break;
                default: call("sign", random.nextInt()); call("end", arg(0, 84)); break;
            }
        }

        /** At times near the minutes of the shortest weave, where cuts and ends are tight. */
        int hour() {
            int kind = random.nextInt(5);
            if (kind == 0 || kind == 1) {
                int least = model.weave();
                calls++;
                real.weave();
                return least - pick(-1, kind == 0 ? 3 : 20);
            }
            return random.nextInt(3) == 0 ? arg(0, 199) : pick(0, 70);
        }

        String sceneText() {
            StringBuilder out = new StringBuilder();
            int lines = pick(1, small ? 4 : 8);
            for (int k = 0; k < lines; k++) {
                if (k > 0) out.append(';');
                out.append((char) ('0' + pick(0, 1))).append((char) ('1' + pick(0, 8)));
                for (char c = 'A'; c <= 'F'; c++) if (random.nextInt(5) == 0) out.append(c);
                for (char c = '1'; c <= '4'; c++) if (random.nextInt(5) == 0) out.append(c);
                int facts = random.nextInt(3) == 0 ? 7 : 2;
                if (random.nextInt(2) == 0) out.append('>').append((char) ('a' + pick(0, facts)));
                if (random.nextInt(2) == 0) out.append('<').append((char) ('a' + pick(0, facts)));
                out.append('=').append((char) ('0' + pick(0, 9)));
            }
            return spoilt(out, "019ABF14>a<h=5;xi ");
        }

        String eveningText() {
            StringBuilder out = new StringBuilder();
            int acts = random.nextInt(6) == 0 ? pick(0, 40) : pick(0, 6);
            for (int k = 0; k < acts; k++) {
                int kind = random.nextInt(8);
                if (kind < 3) out.append('0');
                else if (kind < 6) out.append('1');
                else if (kind == 6) out.append('x').append((char) ('a' + pick(0, 11)));
                else out.append('w').append((char) ('0' + pick(0, 9)));
            }
            return spoilt(out, "01xwal9;2m");
        }

        String ruleText() {
            if (random.nextInt(8) == 0) return "";
            StringBuilder out = new StringBuilder();
            expression(out, 0);
            if (random.nextInt(4) == 0) out.append("+o+p*2+q*3");
            return spoilt(out, "opqmls0123456789+-*/<>=()x;");
        }

        void expression(StringBuilder out, int depth) {
            int terms = pick(1, 3);
            boolean compared = false;
            for (int k = 0; k < terms; k++) {
                if (k > 0) {
                    boolean compare = !compared && random.nextInt(5) == 0;
                    compared |= compare;
                    out.append(compare ? "<>=".charAt(random.nextInt(3)) : "+-*/".charAt(random.nextInt(4)));
                }
                while (random.nextInt(6) == 0) out.append('-');
                int kind = random.nextInt(8);
                if (kind == 0 && depth < 5) {
                    out.append('(');
                    expression(out, depth + 1);
                    out.append(')');
                } else if (kind < 3) {
                    out.append(random.nextInt(4) == 0 ? pick(0, 999) : pick(0, 9));
                } else {
                    out.append("opqmls".charAt(random.nextInt(6)));
                }
            }
        }

        String spoilt(StringBuilder out, String signs) {
            int kind = random.nextInt(8);
            if (kind == 0 && out.length() > 0) {
                out.setCharAt(random.nextInt(out.length()), signs.charAt(random.nextInt(signs.length())));
            } else if (kind == 1) {
                out.insert(random.nextInt(out.length() + 1), signs.charAt(random.nextInt(signs.length())));
            } else if (kind == 2 && out.length() > 0) {
                out.deleteCharAt(random.nextInt(out.length()));
            } else if (kind == 3 && out.length() > 0) {
                out.setLength(random.nextInt(out.length()));
            }
            if (out.length() > 80) out.setLength(80);
            return out.toString();
        }

        void feed(String text) {
            if (random.nextInt(12) > 0) call("end", 0);
            int had = model.text.length();
            for (int k = 0; k < text.length(); k += 4) {
                int v = 0;
                for (int b = 0; b < 4; b++) v = v << 8 | (k + b < text.length() ? text.charAt(k + b) : 0);
                call("sign", v);
            }
            if (had + text.length() <= 80) call("end", had + text.length());
        }

        void call(String name, int... a) {
            calls++;
            log.append(name).append(Arrays.toString(a)).append(' ');
            String got = outcome(real, name, a);
            String due = outcome(model, name, a);
            log.append("-> ").append(due).append('\n');
            compare(name, got, due);
            if (name.equals("sign") || name.equals("end")) {
                lookAt(10, name);
                return;
            }
            calls += model.count(9) + 3;
            compare("ROW behind " + name, rows(real), rows(model));
            if (random.nextInt(4) == 0) look(name);
        }

        void look(String behind) {
            for (int what = 0; what <= 11; what++) lookAt(what, behind);
            for (int k = 0; k < 4; k++) {
                calls++;
                int[] asked = {k / 2, 3 + k % 2};
                String told = Arrays.toString(asked);
                compare("play" + told + " behind " + behind, outcome(real, "play", asked), outcome(model, "play", asked));
            }
        }

        void lookAt(int what, String behind) {
            calls++;
            compare("count(" + what + ") behind " + behind, "" + real.count(what), "" + model.count(what));
        }

        void compare(String what, String got, String due) {
            if (got.equals(due)) return;
            if (wrong < 3) System.out.println("run " + seed + ", " + what + ": " + got + ", due is " + due + "\n" + log);
            wrong++;
        }

        static String rows(Object on) {
            StringBuilder out = new StringBuilder();
            int size = on instanceof OneStageTwoPlays r ? r.count(9) : ((Model) on).count(9);
            for (int k = -1; k <= size; k++) out.append(outcome(on, "row", new int[] {k})).append(' ');
            return out.toString();
        }

        static String outcome(Object on, String name, int[] a) {
            try {
                Class<?>[] types = new Class<?>[a.length];
                Object[] values = new Object[a.length];
                for (int k = 0; k < a.length; k++) {
                    types[k] = int.class;
                    values[k] = a[k];
                }
                return String.valueOf(on.getClass().getMethod(name, types).invoke(on, values));
            } catch (java.lang.reflect.InvocationTargetException e) {
                return e.getCause().getClass().getSimpleName();
            } catch (ReflectiveOperationException e) {
                return e.toString();
            }
        }
    }

    private record Scene(int play, int minutes, int persons, int props, int told, int needed, int cheer) {
        Scene lasting(int n) {
            return new Scene(play, n, persons, props, told, needed, cheer);
        }
    }

    /** What undo() and again() bring back. */
    private static final class State {
        int now = 0;
        int last = -1;
        List<Integer> state = new ArrayList<>();
        List<Set<Integer>> known = new ArrayList<>(List.of(new HashSet<>(), new HashSet<>()));
        int[] cheers = new int[2];

        State copy() {
            State s = new State();
            s.now = now;
            s.last = last;
            s.state = new ArrayList<>(state);
            s.known = new ArrayList<>(List.of(new HashSet<>(known.get(0)), new HashSet<>(known.get(1))));
            s.cheers = cheers.clone();
            return s;
        }
    }

    /** A place at which a rule can't go on. */
    private static final class Fault extends RuntimeException {
        final int place;

        Fault(int place) {
            this.place = place;
        }
    }

    /** A rule by recursive descent, read anew for each change. */
    private static final class Sum {
        final String text;
        final int[] things;
        int at = 0;

        Sum(String text, int[] things) {
            this.text = text;
            this.things = things;
        }

        char peek() {
            return at < text.length() ? text.charAt(at) : (char) 999;
        }

        int whole() {
            int v = compared(0);
            if (at < text.length()) throw new Fault(at);
            return v;
        }

        int compared(int depth) {
            int v = added(depth);
            char c = peek();
            if (c != '<' && c != '>' && c != '=') return v;
            at++;
            int w = added(depth);
            boolean is = c == '<' ? v < w : c == '>' ? v > w : v == w;
            return is ? 1 : 0;
        }

        int added(int depth) {
            int v = multiplied(depth);
            while (peek() == '+' || peek() == '-') {
                char c = text.charAt(at++);
                int w = multiplied(depth);
                v = c == '+' ? v + w : v - w;
            }
            return v;
        }

        int multiplied(int depth) {
            int v = signed(depth);
            while (peek() == '*' || peek() == '/') {
                char c = text.charAt(at++);
                int w = signed(depth);
                v = c == '*' ? v * w : w == 0 ? 0 : v / w;
            }
            return v;
        }

        int signed(int depth) {
            if (peek() == '-') {
                at++;
                return -signed(depth);
            }
            if (peek() == '(' && depth < 4) {
                at++;
                int v = compared(depth + 1);
                if (peek() != ')') throw new Fault(at);
                at++;
                return v;
            }
            if (Character.isDigit(peek()) && peek() < 128) {
                int v = 0;
                for (int k = 0; k < 3 && peek() >= '0' && peek() <= '9'; k++) v = v * 10 + text.charAt(at++) - '0';
                return v;
            }
            int k = "opqmls".indexOf(peek());
            if (k < 0) throw new Fault(at);
            at++;
            return things[k];
        }
    }

    /** The document, word by word. */
    public static final class Model {
        String text = "";
        final List<Scene> scenes = new ArrayList<>();
        String rule = "";
        State s = new State();
        final List<State> past = new ArrayList<>();
        final State[] kept = new State[2];
        final TreeMap<Integer, Integer> bows = new TreeMap<>();
        List<Long> row = new ArrayList<>();

        void tell(long... numbers) {
            row = new ArrayList<>();
            for (long n : numbers) row.add(n);
        }

        public int sign(int v) {
            if (text.length() > 76) return -1;
            for (int k = 3; k >= 0; k--) text += (char) (v >> 8 * k & 255);
            return text.length();
        }

        public boolean end(int n) {
            if (n < 0 || n > text.length()) return false;
            text = text.substring(0, n);
            return true;
        }

        String taken() {
            String t = text;
            text = "";
            return t;
        }

        /** The place of the first sign that can't stand there, by a pattern; -1 if there is none. */
        static int faultBy(Pattern pattern, String t, int limit) {
            for (int p = 1; p <= Math.min(limit, t.length()); p++) {
                Matcher m = pattern.matcher(t.substring(0, p));
                if (!m.matches() && !m.hitEnd()) return p - 1;
            }
            if (t.length() > limit) return limit;
            return pattern.matcher(t).matches() ? -1 : t.length();
        }

        static final String LINE = "[01][1-9]A?B?C?D?E?F?1?2?3?4?(>[a-h])?(<[a-h])?=[0-9]";
        static final Pattern LINES = Pattern.compile(LINE + "(;" + LINE + ")*");
        static final Pattern ACTS = Pattern.compile("([01]|x[a-l]|w[0-9])*");

        public int scenes() {
            String t = taken();
            if (t.isEmpty()) return 0;
            int fault = faultBy(LINES, t, 76);
            int room = 12 - scenes.size();
            int line = 0;
            for (int p = 0; p < Math.min(t.length(), 76); p++) {
                boolean starts = p == 0 || t.charAt(p - 1) == ';';
                if (starts && ++line > room && (fault < 0 || fault > p)) fault = p;
            }
            if (fault >= 0) return -1 - fault;
            String[] lines = t.split(";");
            for (String l : lines) {
                int persons = 0;
                int props = 0;
                for (int k = 2; k < l.indexOf('='); k++) {
                    char c = l.charAt(k);
                    if (c >= 'A' && c <= 'F') persons += 1 << c - 'A';
                    if (c >= '1' && c <= '4') props += 1 << c - '1';
                }
                scenes.add(new Scene(l.charAt(0) - '0', l.charAt(1) - '0', persons, props,
                        l.indexOf('>') < 0 ? -1 : l.charAt(l.indexOf('>') + 1) - 'a',
                        l.indexOf('<') < 0 ? -1 : l.charAt(l.indexOf('<') + 1) - 'a',
                        l.charAt(l.length() - 1) - '0'));
                s.state.add(0);
            }
            past.clear();
            kept[0] = null;
            kept[1] = null;
            return lines.length;
        }

        static int ruleFault(String t) {
            if (t.isEmpty()) return -1;
            String seen = t.substring(0, Math.min(40, t.length()));
            int fault = -1;
            try {
                new Sum(seen, new int[6]).whole();
            } catch (Fault f) {
                fault = f.place;
            }
            if (t.length() > 40 && (fault < 0 || fault == 40)) return 40;
            return fault;
        }

        public int rule() {
            String t = taken();
            int fault = ruleFault(t);
            if (fault >= 0) return -1 - fault;
            rule = t;
            return 0;
        }

        boolean has(int scene) {
            return scene >= 0 && scene < scenes.size();
        }

        public int scene(int scene, int what) {
            if (!has(scene)) throw new NoSuchElementException();
            Scene c = scenes.get(scene);
            switch (what) {
                case 0: return c.play();
                case 1: return c.minutes();
                case 2: return c.persons();
                case 3: return c.props();
                case 4: return c.told();
                case 5: return c.needed();
                case 6: return c.cheer();
                case 7: return s.state.get(scene);
                default: throw new NoSuchElementException();
            }
        }

        /** Of a PLAY (2: of both) the SCENES in a state (3: in any). */
        List<Integer> list(int play, int state) {
            List<Integer> out = new ArrayList<>();
            for (int k = 0; k < scenes.size(); k++) {
                if ((play == 2 || scenes.get(k).play() == play) && (state == 3 || s.state.get(k) == state)) out.add(k);
            }
            return out;
        }

        static int bits(Iterable<Integer> numbers) {
            int b = 0;
            for (int n : numbers) b |= 1 << n;
            return b;
        }

        public int play(int play, int what) {
            if (play < 0 || play > 1) throw new NoSuchElementException();
            if (what >= 0 && what <= 2) return bits(list(play, what));
            List<Integer> coming = list(play, 0);
            switch (what) {
                case 3: return bits(s.known.get(play));
                case 4: return s.cheers[play];
                case 5: return coming.isEmpty() ? -1 : coming.get(0);
                case 6: return coming.stream().mapToInt(k -> scenes.get(k).minutes()).sum();
                default: throw new NoSuchElementException();
            }
        }

        public int sheet(int kind, int n, int f, int step) {
            if (kind < 0 || kind > 3 || n > 12) return -1;
            if (kind < 3 && n < 0) return -2;
            int sum = 0;
            for (int k = 0; k < scenes.size(); k++) {
                int minutes = 1;
                if (kind < 3 && k < n) {
                    int e = f;
                    for (int i = 0; i < k; i++) e += step;
                    if (kind == 0) e = (byte) e;
                    if (kind == 1) e = (short) e;
                    minutes = e < 1 ? 1 : e > 9 ? 9 : e;
                }
                scenes.set(k, scenes.get(k).lasting(minutes));
                sum += minutes;
            }
            return kind == 3 ? -3 : sum;
        }

        void remember(State ahead) {
            past.add(ahead);
            if (past.size() > 12) past.remove(0);
        }

        int changeBy(String law, int one, int other) {
            if (one < 0) return 0;
            Scene a = scenes.get(one);
            Scene b = scenes.get(other);
            int[] things = {a.play() != b.play() ? 1 : 0, Integer.bitCount(a.persons() & b.persons()),
                Integer.bitCount(a.props() ^ b.props()), b.minutes(), a.minutes(), Integer.bitCount(b.persons())};
            int v = new Sum(law.isEmpty() ? "o*2+p+q" : law, things).whole();
            return v < 0 ? 0 : v > 99 ? 99 : v;
        }

        int[] perform(int scene) {
            Scene c = scenes.get(scene);
            int change = changeBy(rule, s.last, scene);
            s.now += change + c.minutes();
            boolean knows = c.needed() < 0 || s.known.get(c.play()).contains(c.needed());
            int brought = knows ? c.cheer() : c.cheer() / 2;
            s.cheers[c.play()] += brought;
            if (c.told() >= 0) s.known.get(c.play()).add(c.told());
            s.state.set(scene, 1);
            s.last = scene;
            return new int[] {change, brought};
        }

        int actPlays(int play) {
            if (play < 0 || play > 1) return -1;
            List<Integer> coming = list(play, 0);
            if (coming.isEmpty()) return -2;
            int[] got = perform(coming.get(0));
            tell(coming.get(0), got[0], got[1]);
            return s.now;
        }

        int actCut(int scene) {
            if (!has(scene)) return -1;
            if (s.state.get(scene) != 0) return -2;
            s.state.set(scene, 2);
            return list(scenes.get(scene).play(), 0).size();
        }

        int actPause(int n) {
            if (n < 0 || n > 99) return -1;
            s.now += n;
            return s.now;
        }

        public int plays(int play) {
            State ahead = s.copy();
            int answer = actPlays(play);
            if (answer >= 0) remember(ahead);
            return answer;
        }

        public int cut(int scene) {
            State ahead = s.copy();
            int answer = actCut(scene);
            if (answer >= 0) remember(ahead);
            return answer;
        }

        public int puts(int scene) {
            if (!has(scene)) return -1;
            if (s.state.get(scene) != 2) return -2;
            int play = scenes.get(scene).play();
            for (int k : list(play, 1)) if (k > scene) return -3;
            remember(s.copy());
            s.state.set(scene, 0);
            return list(play, 0).size();
        }

        public int pause(int n) {
            State ahead = s.copy();
            int answer = actPause(n);
            if (answer >= 0 && n > 0) remember(ahead);
            return answer;
        }

        public int evening() {
            String t = taken();
            int fault = faultBy(ACTS, t, 60);
            if (fault >= 0) return -1 - fault;
            State ahead = s.copy();
            int done = 0;
            int stuck = 0;
            for (int p = 0; p < t.length() && stuck == 0; p++) {
                char c = t.charAt(p);
                int answer;
                if (c == 'x') answer = actCut(t.charAt(++p) - 'a');
                else if (c == 'w') answer = actPause(t.charAt(++p) - '0');
                else answer = actPlays(c - '0');
                if (answer < 0) stuck = 1;
                else done++;
            }
            if (done > 0) remember(ahead);
            tell(stuck, s.now);
            return done;
        }

        public int undo() {
            if (past.isEmpty()) return -1;
            s = past.remove(past.size() - 1);
            return past.size();
        }

        public int change(int one, int other) {
            if (!has(one) || !has(other)) return -1;
            tell(scenes.get(one).persons() & scenes.get(other).persons(),
                    (scenes.get(one).props() | scenes.get(other).props())
                    & ~(scenes.get(one).props() & scenes.get(other).props()));
            return changeBy(rule, one, other);
        }

        /** All weaves of these SCENES, least row first. */
        List<List<Integer>> allWeaves(List<Integer> first, List<Integer> second) {
            List<List<Integer>> out = new ArrayList<>();
            if (first.isEmpty() && second.isEmpty()) {
                out.add(new ArrayList<>());
                return out;
            }
            for (int play = 0; play < 2; play++) {
                List<Integer> from = play == 0 ? first : second;
                if (from.isEmpty()) continue;
                List<Integer> less = from.subList(1, from.size());
                for (List<Integer> rest : play == 0 ? allWeaves(less, second) : allWeaves(first, less)) {
                    List<Integer> whole = new ArrayList<>();
                    whole.add(from.get(0));
                    whole.addAll(rest);
                    out.add(whole);
                }
            }
            return out;
        }

        List<List<Integer>> allWeaves() {
            return allWeaves(list(0, 0), list(1, 0));
        }

        final java.util.HashMap<String, Integer> changesSeen = new java.util.HashMap<>();

        /** Ends of the SCENES of a weave, in minutes from now. */
        int[] ends(String law, List<Integer> weave) {
            int[] out = new int[weave.size()];
            int last = s.last;
            int t = 0;
            for (int k = 0; k < out.length; k++) {
                int scene = weave.get(k);
                String key = law + "|" + scenes.get(scene) + "|" + (last < 0 ? "" : scenes.get(last));
                int before = last;
                t += changesSeen.computeIfAbsent(key, x -> changeBy(law, before, scene)) + scenes.get(scene).minutes();
                out[k] = t;
                last = scene;
            }
            return out;
        }

        int minutesOf(String law, List<Integer> weave) {
            int[] e = ends(law, weave);
            return e.length == 0 ? 0 : e[e.length - 1];
        }

        int least(String law, List<List<Integer>> weaves) {
            return weaves.stream().mapToInt(w -> minutesOf(law, w)).min().orElseThrow();
        }

        void tellTurns(List<Integer> weave) {
            row = new ArrayList<>();
            for (int k : weave) row.add((long) scenes.get(k).play());
        }

        public int weave() {
            List<List<Integer>> all = allWeaves();
            int best = least(rule, all);
            for (List<Integer> w : all) {
                if (minutesOf(rule, w) == best) {
                    tellTurns(w);
                    return best;
                }
            }
            throw new IllegalStateException();
        }

        int endOf(List<Integer> weave, int play) {
            int[] e = ends(rule, weave);
            int out = 0;
            for (int k = 0; k < e.length; k++) if (scenes.get(weave.get(k)).play() == play) out = e[k];
            return out;
        }

        public int soonest(int play) {
            if (play < 0 || play > 1) return -1;
            int best = Integer.MAX_VALUE;
            int others = 0;
            for (List<Integer> w : allWeaves()) {
                int e = endOf(w, play);
                int ahead = 0;
                int found = 0;
                for (int k = w.size() - 1; k >= 0; k--) {
                    boolean own = scenes.get(w.get(k)).play() == play;
                    if (own) found = 1;
                    else ahead += found;
                }
                if (e < best || e == best && ahead < others) {
                    best = e;
                    others = ahead;
                }
            }
            tell(others);
            return best;
        }

        static boolean isHour(int n) {
            return n >= 0 && n < 200;
        }

        public int both(int x, int y) {
            if (!isHour(x) || !isHour(y)) return -1;
            for (List<Integer> w : allWeaves()) {
                if (endOf(w, 0) <= x && endOf(w, 1) <= y) {
                    tellTurns(w);
                    return 1;
                }
            }
            tell();
            return 0;
        }

        public int within(int n) {
            if (!isHour(n)) return -1;
            int most = 0;
            int minutes = 0;
            for (List<Integer> w : allWeaves()) {
                int[] e = ends(rule, w);
                for (int k = 0; k < e.length && e[k] <= n; k++) {
                    if (k + 1 > most || k + 1 == most && e[k] < minutes) {
                        most = k + 1;
                        minutes = e[k];
                    }
                }
            }
            tell(minutes);
            return most;
        }

        public int weaves() {
            List<List<Integer>> all = allWeaves();
            tell(all.stream().mapToInt(w -> minutesOf(rule, w)).max().orElseThrow());
            return all.size();
        }

        public int turn(int play) {
            if (play < 0 || play > 1) return -1;
            if (list(play, 0).isEmpty()) return -2;
            List<List<Integer>> all = allWeaves();
            List<List<Integer>> some = new ArrayList<>(all);
            some.removeIf(w -> scenes.get(w.get(0)).play() != play);
            tell(least(rule, some));
            return least(rule, some) - least(rule, all);
        }

        public int over(int scene) {
            if (!has(scene)) return -1;
            if (s.state.get(scene) != 0) return -2;
            int best = Integer.MAX_VALUE;
            int ahead = 0;
            for (List<Integer> w : allWeaves()) {
                int k = w.indexOf(scene);
                int e = ends(rule, w)[k];
                if (e < best || e == best && k < ahead) {
                    best = e;
                    ahead = k;
                }
            }
            tell(ahead);
            return best;
        }

        public int cuts(int n) {
            if (!isHour(n)) return -1;
            List<Integer> coming = list(2, 0);
            int[] best = null;
            for (int set = 0; set < 1 << scenes.size(); set++) {
                if ((set & ~bits(coming)) != 0) continue;
                int cheer = 0;
                List<Integer> first = new ArrayList<>();
                List<Integer> second = new ArrayList<>();
                int plain = 0;
                for (int k : coming) {
                    if ((set >> k & 1) == 1) cheer += scenes.get(k).cheer();
                    else (scenes.get(k).play() == 0 ? first : second).add(k);
                    if ((set >> k & 1) == 0) plain += scenes.get(k).minutes();
                }
                int[] key = {cheer, Integer.bitCount(set), set, 0};
                if (plain > n || best != null && Arrays.compare(key, 0, 3, best, 0, 3) > 0) continue;
                key[3] = least(rule, allWeaves(first, second));
                if (key[3] <= n) best = key;
            }
            tell(best[2], best[3]);
            return best[0];
        }

        /** Clashing ones, if these are cut besides. */
        Set<Integer> clashing(int besides) {
            Set<Integer> out = new HashSet<>();
            for (int play = 0; play < 2; play++) {
                Set<Integer> known = new HashSet<>(s.known.get(play));
                for (int k : list(play, 0)) {
                    if (k == besides) continue;
                    Scene c = scenes.get(k);
                    if (c.needed() >= 0 && !known.contains(c.needed())) out.add(k);
                    if (c.told() >= 0) known.add(c.told());
                }
            }
            return out;
        }

        public int clash() {
            Set<Integer> c = clashing(-1);
            tell(c.size(), c.stream().mapToInt(k -> scenes.get(k).cheer() - scenes.get(k).cheer() / 2).sum());
            return bits(c);
        }

        public int mend() {
            State was = s;
            int[] best = null;
            for (int house = 0; house < 2; house++) {
                int fewest = 9;
                int facts = 0;
                for (int set = 0; set < 256; set++) {
                    s = was.copy();
                    for (int f = 0; f < 8; f++) if ((set >> f & 1) == 1) s.known.get(house).add(f);
                    Set<Integer> left = clashing(-1);
                    int h = house;
                    left.removeIf(k -> scenes.get(k).play() != h);
                    if (left.isEmpty() && Integer.bitCount(set) < fewest) {
                        fewest = Integer.bitCount(set);
                        facts = set;
                    }
                }
                best = house == 0 ? new int[] {facts, 0} : new int[] {best[0], facts};
            }
            s = was;
            tell(best[0], best[1]);
            return Integer.bitCount(best[0]) + Integer.bitCount(best[1]);
        }

        public int spare() {
            Set<Integer> now = clashing(-1);
            int out = 0;
            for (int k : list(2, 0)) {
                if (now.containsAll(clashing(k))) out |= 1 << k;
            }
            tell(Integer.bitCount(out));
            return out;
        }

        int bring(Set<Integer> known, List<Integer> order) {
            Set<Integer> k = new HashSet<>(known);
            int sum = 0;
            for (int scene : order) {
                Scene c = scenes.get(scene);
                sum += c.needed() < 0 || k.contains(c.needed()) ? c.cheer() : c.cheer() / 2;
                if (c.told() >= 0) k.add(c.told());
            }
            return sum;
        }

        /** The most by every order, as long as there are not too many; else by those sacrificed first. */
        int most(int play) {
            List<Integer> own = list(play, 0);
            if (own.size() <= 6) return mostOf(s.known.get(play), own);
            int best = 0;
            for (int set = 0; set < 1 << own.size(); set++) {
                List<Integer> order = new ArrayList<>();
                List<Integer> left = new ArrayList<>();
                for (int k = 0; k < own.size(); k++) ((set >> k & 1) == 1 ? order : left).add(own.get(k));
                Set<Integer> known = new HashSet<>(s.known.get(play));
                for (int k : order) known.add(scenes.get(k).told());
                boolean more = true;
                while (more) {
                    more = false;
                    for (int k : new ArrayList<>(left)) {
                        if (scenes.get(k).needed() < 0 || known.contains(scenes.get(k).needed())) {
                            order.add(k);
                            known.add(scenes.get(k).told());
                            left.remove((Integer) k);
                            more = true;
                        }
                    }
                }
                order.addAll(left);
                best = Math.max(best, bring(s.known.get(play), order));
            }
            return best;
        }

        int mostOf(Set<Integer> known, List<Integer> left) {
            int best = 0;
            for (int k : left) {
                Scene c = scenes.get(k);
                List<Integer> less = new ArrayList<>(left);
                less.remove((Integer) k);
                Set<Integer> more = new HashSet<>(known);
                if (c.told() >= 0) more.add(c.told());
                best = Math.max(best, bring(known, List.of(k)) + mostOf(more, less));
            }
            return best;
        }

        public int cheers(int play) {
            if (play < 0 || play > 1) return -1;
            tell(most(play));
            return bring(s.known.get(play), list(play, 0));
        }

        public int who(int person) {
            if (person < 0 || person > 5) return -1;
            long[] per = new long[2];
            int out = 0;
            for (int k = 0; k < scenes.size(); k++) {
                if ((scenes.get(k).persons() >> person & 1) == 1) {
                    out |= 1 << k;
                    per[scenes.get(k).play()]++;
                }
            }
            tell(per[0], per[1]);
            return out;
        }

        public int kings() {
            int out = 0;
            for (int p = 0; p < 6; p++) {
                boolean[] in = new boolean[2];
                for (int k : list(2, 0)) if ((scenes.get(k).persons() >> p & 1) == 1) in[scenes.get(k).play()] = true;
                if (in[0] && in[1]) out |= 1 << p;
            }
            int minutes = 0;
            for (int k : list(2, 0)) if ((scenes.get(k).persons() & out) != 0) minutes += scenes.get(k).minutes();
            tell(Integer.bitCount(out), minutes);
            return out;
        }

        public int stand() {
            int all = 15;
            int none = 15;
            for (int k : list(2, 0)) {
                all &= scenes.get(k).props();
                none &= ~scenes.get(k).props();
            }
            tell(none);
            return all;
        }

        public int guard() {
            for (int many = 0; many <= 6; many++) {
                for (int set = 0; set < 64; set++) {
                    if (Integer.bitCount(set) != many) continue;
                    boolean ok = true;
                    for (int k : list(2, 0)) {
                        int persons = scenes.get(k).persons();
                        ok &= persons == 0 || (persons & set) != 0;
                    }
                    if (ok) {
                        tell(set);
                        return many;
                    }
                }
            }
            throw new IllegalStateException();
        }

        void tellFraction(long up, long low) {
            long g = java.math.BigInteger.valueOf(up).gcd(java.math.BigInteger.valueOf(low)).longValue();
            tell(up / g, low / g);
        }

        /** How many of these can be played, with the weight of each number. */
        TreeMap<Integer, Long> weights(List<Integer> of, int p) {
            TreeMap<Integer, Long> out = new TreeMap<>();
            for (int missing = 0; missing < 64; missing++) {
                long w = 1;
                for (int k = 0; k < 6; k++) w *= (missing >> k & 1) == 1 ? p : 10 - p;
                int can = 0;
                for (int k : of) if ((scenes.get(k).persons() & missing) == 0) can++;
                out.merge(can, w, Long::sum);
            }
            return out;
        }

        public int chance(int play, int p) {
            if (play < 0 || play > 1 || p < 0 || p > 10) return -1;
            List<Integer> of = list(play, 0);
            tellFraction(weights(of, p).getOrDefault(of.size(), 0L), 1000000);
            return 0;
        }

        public int likely(int p) {
            if (p < 0 || p > 10) return -1;
            TreeMap<Integer, Long> weights = weights(list(2, 0), p);
            int best = -1;
            for (int k : weights.keySet()) if (best < 0 || weights.get(k) > weights.get(best)) best = k;
            tellFraction(weights.get(best), 1000000);
            return best;
        }

        static int has(int v, int own, int other) {
            if (own + other <= v) return own;
            int half = v / 2;
            int above = own > half ? own - half : 0;
            return half - above < 0 ? 0 : half - above;
        }

        public int rests(int v) {
            if (v < 0 || v > 20) return -1;
            List<int[]> found = new ArrayList<>();
            for (int a = 0; a <= v; a++) {
                for (int b = 0; b <= v; b++) {
                    boolean rest = true;
                    for (int c = 0; c <= v; c++) {
                        rest &= has(v, c, b) <= has(v, a, b) && has(v, c, a) <= has(v, b, a);
                    }
                    if (rest) found.add(new int[] {a, b});
                }
            }
            tell(found.get(0)[0], found.get(0)[1]);
            return found.size();
        }

        /** What who moves has more than the other one, by best play. */
        static int lead(int lamps, int[] kept) {
            if (kept[lamps] != Integer.MIN_VALUE) return kept[lamps];
            int best = Integer.MIN_VALUE;
            for (int k = 1; k <= 3 && k <= lamps; k++) best = Math.max(best, leadBy(lamps, k, kept));
            kept[lamps] = best;
            return best;
        }

        static int leadBy(int lamps, int k, int[] kept) {
            return k == lamps ? (k - 2) - 2 : k - lead(lamps - k, kept);
        }

        public int lamps(int n) {
            if (n < 1 || n > 40) return -1;
            int[] kept = new int[41];
            Arrays.fill(kept, Integer.MIN_VALUE);
            int best = lead(n, kept);
            int k = 1;
            while (leadBy(n, k, kept) != best) k++;
            tell(k);
            return 100 + best;
        }

        public int bow(int person, int is) {
            if (person < 0 || person > 5 || is < 0 || is > 1) return -1;
            bows.put(person, is);
            return bows.size();
        }

        public int forget() {
            int had = bows.size();
            bows.clear();
            return had;
        }

        List<Integer> fitting() {
            List<Integer> out = list(2, 3);
            for (int p : bows.keySet()) out.removeIf(k -> (scenes.get(k).persons() >> p & 1) != bows.get(p));
            return out;
        }

        public int fits() {
            List<Integer> f = fitting();
            tell(f.size(), f.stream().filter(k -> scenes.get(k).play() == 0).count());
            return bits(f);
        }

        public int ask() {
            List<Integer> f = fitting();
            if (f.isEmpty()) return -2;
            int best = -1;
            long fewest = 99;
            for (int p = 0; p < 6; p++) {
                int q = p;
                long with = f.stream().filter(k -> (scenes.get(k).persons() >> q & 1) == 1).count();
                long left = Math.max(with, f.size() - with);
                if (left < fewest) {
                    fewest = left;
                    best = p;
                }
            }
            tell(fewest);
            return best;
        }

        public int law() {
            String t = taken();
            int fault = ruleFault(t);
            if (fault >= 0) return -10000 - fault;
            List<List<Integer>> all = allWeaves();
            tell(least(t, all), least(rule, all));
            return least(t, all) - least(rule, all);
        }

        public int years(int seed, int n) {
            if (n < 1 || n > 60) return -1;
            State ahead = s.copy();
            int r = seed;
            int played = 0;
            for (int k = 0; k < n; k++) {
                r = r * 1103515245 + 12345;
                int draw = (int) (Integer.toUnsignedLong(r) / 65536 % 4);
                if (draw == 3) {
                    s.now++;
                    continue;
                }
                int play = draw;
                if (draw == 2) play = s.last < 0 ? 0 : scenes.get(s.last).play() == 0 ? 1 : 0;
                List<Integer> coming = list(play, 0);
                if (!coming.isEmpty()) {
                    perform(coming.get(0));
                    played++;
                }
            }
            tell(played, s.cheers[0] + s.cheers[1]);
            int then = s.now;
            s = ahead;
            return then;
        }

        public boolean keep(int i) {
            if (i < 0 || i > 1) return false;
            kept[i] = s.copy();
            return true;
        }

        public boolean again(int i) {
            if (i < 0 || i > 1 || kept[i] == null) return false;
            s = kept[i].copy();
            past.clear();
            return true;
        }

        public int count(int what) {
            switch (what) {
                case 0: return scenes.size();
                case 1: return s.now;
                case 2: return s.last;
                case 3: return bits(list(2, 0));
                case 4: return bits(list(2, 1));
                case 5: return bits(list(2, 2));
                case 6: return s.cheers[0] + s.cheers[1];
                case 7: return bits(bows.keySet());
                case 8: return past.size();
                case 9: return row.size();
                case 10: return text.length();
                default: return -100;
            }
        }

        public long row(int i) {
            if (i < 0 || i >= row.size()) throw new NoSuchElementException();
            return row.get(i);
        }
    }
}
