import java.util.ArrayDeque;
import java.util.ArrayList;
import java.util.Arrays;
import java.util.List;
import java.util.TreeMap;
import java.util.regex.Matcher;
import java.util.regex.Pattern;

/**
 * Plays long runs of calls on an object and on a model of the document that shares no code with it, and compares every
 * answer. The calls come from a fixed row of numbers, so that each run of the test is the same.
 */
public final class ModelTest {
    private static final int RUNS = 8000;
    // What an object answers behind its 512th call is free.
    private static final int CALLS = 512, MOST_CALLS_OF_A_STEP = 60;
    private static final int REASONS = 6;

    private static int wrong = 0;

    public static void main(String[] args) {
        long[] seen = new long[REASONS];
        long[] chains = new long[10];
        for (int run = 0; run < RUNS && wrong < 20; run++) {
            new Player(run, seen, chains).play();
        }
        for (int reason = 0; reason < REASONS; reason++) {
            if (seen[reason] < 100) {
                fail("the runs met reason " + reason + " only " + seen[reason] + " times");
            }
        }
        if (chains[9] == 0) {
            fail("the runs met no chain of 9 triggers");
        }
        System.out.println(RUNS + " runs; reasons met: " + Arrays.toString(seen) + ", lengths of chains: "
                + Arrays.toString(chains) + ", " + wrong + " wrong");
        if (wrong != 0) {
            System.exit(1);
        }
    }

    private static void fail(String text) {
        wrong++;
        System.out.println(text);
    }

    /** A row of numbers that looks random and is always the same. */
    private static final class Numbers {
        private long last;

        Numbers(long seed) {
            last = seed * 0x9E3779B97F4A7C15L + 1;
        }

        int below(int limit) {
            last = last * 6364136223846793005L + 1442695040888963407L;
            return (int) ((last >>> 33) % limit);
        }
    }

    /** One run of calls on a new object. */
    private static final class Player {
        private final int run;
        private final Numbers numbers;
        private final long[] seen;
        private final long[] chains;
        private final TriggerStages x = new TriggerStages();
        private final Model model = new Model();
        private final int keys;
        private final int bars;
        private final boolean adds;
        private int calls = 0;

        Player(int run, long[] seen, long[] chains) {
            this.run = run;
            this.seen = seen;
            this.chains = chains;
            numbers = new Numbers(run);
            keys = new int[] {4, 20, 100}[run / 3 % 3];
            bars = new int[] {1, 10, 1000}[run / 9 % 3];
            // Triggers that add 0 to rows that are there can go on for long.
            adds = run % 3 == 0;
        }

        void play() {
            for (int table = 0; adds && table < 4; table++) {
                due("state", x.state(0, table, 1, 2), model.state(0, table, 1, 2), table);
            }
            for (int step = 0; calls <= CALLS - MOST_CALLS_OF_A_STEP && wrong < 20; step++) {
                step(step);
            }
            if (calls > CALLS) {
                fail("run " + run + " has " + calls + " calls");
            }
        }

        private void due(String name, int got, int want, int... args) {
            calls++;
            if (got != want) {
                fail("run " + run + ", call " + calls + ": " + name + Arrays.toString(args) + " answered " + got
                        + ", due is " + want);
            }
        }

        /** Mostly a number below the limit, now and then one beside it. */
        private int around(int limit) {
            int turn = numbers.below(120);
            if (turn > 2) {
                return numbers.below(limit);
            }
            return new int[] {-1, limit, Integer.MIN_VALUE + numbers.below(2) * -1}[turn];
        }

        private int key() {
            return numbers.below(30) == 0 ? around(100) : adds ? numbers.below(3) : numbers.below(keys);
        }

        /** The key of a row that is there, if the table has one. */
        private int keyOfARow(int table) {
            int rows = Math.max(0, model.count(Math.floorMod(table, 4)));
            return rows == 0 ? key() : model.row(Math.floorMod(table, 4), numbers.below(rows), 0);
        }

        private int number() {
            return numbers.below(8) == 0 ? around(1000) : numbers.below(bars * 2);
        }

        private void step(int step) {
            int turn = numbers.below(100);
            if (step < 40 ? turn < 60 : turn < 12) {
                build();
            } else if (turn < 75) {
                carry();
            } else if (turn < 92) {
                look();
            } else {
                text();
            }
        }

        private void build() {
            int turn = numbers.below(20);
            if (turn < 7) {
                int[] a = {around(4), adds ? 1 : numbers.below(3) == 0 ? around(3) : numbers.below(2),
                    adds && numbers.below(4) != 0 ? 2 : around(3),
                    numbers.below(3) == 0 ? around(1000) : numbers.below(bars)};
                due("trigger", x.trigger(a[0], a[1], a[2], a[3]), model.trigger(a[0], a[1], a[2], a[3]), a);
                if (adds) {
                    int newest = model.now.triggers.size() - 1;
                    int target = numbers.below(4);
                    due("deed", x.deed(newest, 2, target, 0, 0), model.deed(newest, 2, target, 0, 0), newest);
                }
            } else if (turn < 16 && adds) {
                int[] a = {around(Math.max(1, model.now.triggers.size())), numbers.below(30) == 0 ? 0 : 2, around(4),
                    0, 0};
                due("deed", x.deed(a[0], a[1], a[2], a[3], a[4]),
                        model.deed(a[0], a[1], a[2], a[3], a[4]), a);
            } else if (turn < 16) {
                int[] a = {around(Math.max(1, model.now.triggers.size())),
                    numbers.below(8) == 0 ? around(4) : 1 + numbers.below(3), around(4),
                    numbers.below(2) == 0 ? numbers.below(3) : around(100), number()};
                due("deed", x.deed(a[0], a[1], a[2], a[3], a[4]),
                        model.deed(a[0], a[1], a[2], a[3], a[4]), a);
            } else if (turn < 17) {
                int a = around(12);
                due("dropTrigger", x.dropTrigger(a), model.dropTrigger(a), a);
            } else {
                int setting = around(2);
                int value = setting == 0 ? (numbers.below(adds ? 8 : 2) != 0 ? 8 : around(9)) : around(2);
                due("set", x.set(setting, value), model.set(setting, value), setting, value);
            }
        }

        private void carry() {
            int[] a = {numbers.below(3) == 0 ? around(3) : numbers.below(2), around(4), key(),
                adds ? numbers.below(3) : number()};
            if (a[0] != 0 && numbers.below(4) != 0) {
                a[2] = keyOfARow(a[1]);
            }
            int turn = numbers.below(10);
            if (turn < 3) {
                due("state", x.state(a[0], a[1], a[2], a[3]), model.state(a[0], a[1], a[2], a[3]), a);
            } else if (turn < 4) {
                due("culprits", x.culprits(a[0], a[1], a[2], a[3]),
                        model.culprits(a[0], a[1], a[2], a[3]), a);
            } else if (turn < 5) {
                due("leastDepth", x.leastDepth(a[0], a[1], a[2], a[3]),
                        model.leastDepth(a[0], a[1], a[2], a[3]), a);
            } else {
                boolean all = numbers.below(4) == 0;
                for (int what = -1; what < 22; what++) {
                    if (!all && what != 0 && what != 7 && numbers.below(8) != 0) {
                        continue;
                    }
                    int want = model.tried(a[0], a[1], a[2], a[3], what);
                    due("tried " + what, x.tried(a[0], a[1], a[2], a[3], what), want, a);
                    if (what == 0 && want >= 0) {
                        seen[want]++;
                    } else if (what == 7 && want >= 0) {
                        chains[want]++;
                    }
                }
            }
        }

        private void look() {
            int turn = numbers.below(5);
            int table = around(4);
            int place = around(12);
            for (int what = -1; what < 12; what++) {
                if (turn == 0) {
                    due("row", x.row(table, place, what), model.row(table, place, what), table, place, what);
                } else if (turn == 1) {
                    due("ofTrigger", x.ofTrigger(place, what), model.ofTrigger(place, what), place, what);
                } else if (turn == 2) {
                    due("count", x.count(what), model.count(what), what);
                } else if (turn == 3) {
                    int key = key();
                    due("value", x.value(table, key), model.value(table, key), table, key);
                } else {
                    lookAtTheJournal(what);
                }
            }
        }

        /** Looks mostly at places that are there, and at those just outside. */
        private void lookAtTheJournal(int what) {
            int place = numbers.below(4) == 0 ? around(100) : numbers.below(model.now.journal.size() + 2) - 1;
            due("journal", x.journal(place, what), model.journal(place, what), place, what);
            int right = numbers.below(6);
            due("journal", x.journal(place, right), model.journal(place, right), place, right);
        }

        private void text() {
            int turn = numbers.below(12);
            if (turn < 5) {
                write();
            } else if (turn < 7) {
                due("fault", x.fault(), model.fault());
                due("carryOut", x.carryOut(), model.carryOut());
                due("wipe", x.wipe(), model.wipe());
            } else if (turn < 9) {
                due("undo", x.undo(), model.undo());
            } else if (turn < 10) {
                int slot = around(2);
                due("save", x.save(slot), model.save(slot), slot);
            } else if (turn < 11) {
                int slot = around(2);
                due("restore", x.restore(slot), model.restore(slot), slot);
            } else {
                long high = (long) numbers.below(1 << 30) << 34;
                long odd = high | (long) numbers.below(1 << 30) << 8 | numbers.below(256);
                due("put " + odd, x.put(odd), model.put(odd));
            }
        }

        private void write() {
            StringBuilder text = new StringBuilder();
            int statements = 1 + numbers.below(4);
            for (int i = 0; i < statements; i++) {
                int kind = numbers.below(3);
                text.append("lad".charAt(kind)).append(numbers.below(4)).append('.').append(numbers.below(keys));
                if (kind < 2) {
                    text.append("=+".charAt(kind)).append(numbers.below(1000));
                }
                text.append(i < statements - 1 ? ";" : "");
            }
            if (numbers.below(4) == 0) {
                text.setCharAt(numbers.below(text.length()), "lad.=+;0123456789 x".charAt(numbers.below(17)));
            }
            for (int from = 0; from < text.length(); from += 8) {
                long characters = 0;
                for (int i = from; i < Math.min(text.length(), from + 8); i++) {
                    characters = characters << 8 | text.charAt(i);
                }
                due("put " + characters, x.put(characters), model.put(characters));
            }
            due("fault of " + text, x.fault(), model.fault());
        }
    }

    private record Trigger(int table, int kind, int stage, int bar, int deed, int target, int shift, int number) {
    }

    private record Done(int kind, int table, int key, int weight, int depth, int by) {
    }

    private record Wait(Trigger trigger, int number, int table, int key, int depth, List<Integer> chain) {
    }

    /** The failure of a statement, thrown up to the statement from outside. */
    private static final class Failed extends RuntimeException {
        private static final long serialVersionUID = 1L;
        final int reason;
        final int table;
        final int key;
        final transient List<Integer> chain;

        Failed(int reason, int table, int key, List<Integer> chain) {
            super(null, null, false, false);
            this.reason = reason;
            this.table = table;
            this.key = key;
            this.chain = chain;
        }
    }

    private static final class Snapshot {
        final List<TreeMap<Integer, Integer>> tables = new ArrayList<>();
        List<Trigger> triggers = new ArrayList<>();
        List<Done> journal = new ArrayList<>();
        int depth = 4;
        int lenient = 0;

        Snapshot() {
            for (int table = 0; table < 4; table++) {
                tables.add(new TreeMap<>());
            }
        }

        Snapshot copy() {
            Snapshot copy = new Snapshot();
            for (int table = 0; table < 4; table++) {
                copy.tables.get(table).putAll(tables.get(table));
            }
            copy.triggers = new ArrayList<>(triggers);
            copy.journal = new ArrayList<>(journal);
            copy.depth = depth;
            copy.lenient = lenient;
            return copy;
        }

        int rows() {
            return tables.stream().mapToInt(TreeMap::size).sum();
        }
    }

    /** A statement from outside on a snapshot of its own. */
    private static final class Trial {
        final Snapshot state;
        final int without;
        final boolean[] motion = new boolean[4];
        final ArrayDeque<Wait> waiting = new ArrayDeque<>();
        final List<Done> done = new ArrayList<>();
        int begun = 0;
        int left = 0;
        int deepest = -6;
        Failed failed = null;

        Trial(Snapshot from, int kind, int table, int key, int number, int depth, int without) {
            state = from.copy();
            state.depth = depth;
            this.without = without;
            try {
                statement(kind, table, key, number, 0, List.of());
                while (!waiting.isEmpty()) {
                    Wait w = waiting.poll();
                    act(w.trigger, w.number, w.table, w.key, w.depth, w.chain);
                }
                state.journal = done;
                state.depth = from.depth;
            } catch (Failed f) {
                failed = f;
            }
        }

        private void statement(int kind, int table, int key, int number, int depth, List<Integer> chain) {
            if (depth > state.depth) {
                throw new Failed(1, table, key, chain);
            }
            if (begun == 100) {
                throw new Failed(2, table, key, chain);
            }
            begun++;
            deepest = Math.max(deepest, depth);
            if (motion[table]) {
                throw new Failed(3, table, key, chain);
            }
            motion[table] = true;
            TreeMap<Integer, Integer> rows = state.tables.get(table);
            boolean possible = kind == 0 ? rows.size() < 12 && !rows.containsKey(key)
                    : rows.containsKey(key) && (kind == 2 || rows.get(key) + number <= 999);
            if (!possible) {
                motion[table] = false;
                throw new Failed(4, table, key, chain);
            }
            int weight = kind == 0 ? number : kind == 1 ? rows.get(key) + number : rows.get(key);
            stage(0, kind, table, key, weight, depth, chain);
            if (kind == 2) {
                rows.remove(key);
            } else {
                rows.put(key, weight);
            }
            done.add(new Done(kind, table, key, weight, depth, chain.isEmpty() ? -6 : chain.get(chain.size() - 1)));
            stage(1, kind, table, key, weight, depth, chain);
            stage(2, kind, table, key, weight, depth, chain);
            motion[table] = false;
        }

        private void stage(int stage, int kind, int table, int key, int weight, int depth, List<Integer> chain) {
            for (int i = 0; i < state.triggers.size(); i++) {
                Trigger t = state.triggers.get(i);
                if (i == without || t.stage != stage || t.table != table || t.kind != kind || weight < t.bar) {
                    continue;
                }
                if (stage == 2) {
                    waiting.add(new Wait(t, i, table, key, depth, chain));
                } else {
                    act(t, i, table, key, depth, chain);
                }
            }
        }

        private void act(Trigger t, int number, int table, int key, int depth, List<Integer> chain) {
            List<Integer> longer = new ArrayList<>(chain);
            longer.add(number);
            if (t.deed == 0) {
                throw new Failed(5, table, key, longer);
            }
            try {
                statement(t.deed - 1, t.target, (key + t.shift) % 100, t.number, depth + 1, longer);
            } catch (Failed f) {
                if (f.reason != 4 || state.lenient == 0) {
                    throw f;
                }
                left++;
            }
        }
    }

    private static final class Model {
        private static final Pattern TEXT = Pattern.compile("S(;S)*".replace("S",
                "(l[0-3]\\.K=N|a[0-3]\\.K\\+N|d[0-3]\\.K)")
                .replace("K", "(0|[1-9][0-9]?)").replace("N", "(0|[1-9][0-9]{0,2})"));

        Snapshot now = new Snapshot();
        private final List<Snapshot> history = new ArrayList<>();
        private final Snapshot[] slots = new Snapshot[2];
        private String pad = "";

        private void keep() {
            history.add(now.copy());
            if (history.size() > 6) {
                history.remove(0);
            }
        }

        private static boolean in(int value, int low, int high) {
            return low <= value && value <= high;
        }

        int set(int setting, int value) {
            if (!in(setting, 0, 1) || !in(value, 0, setting == 0 ? 8 : 1)) {
                return -2;
            }
            keep();
            int previous = setting == 0 ? now.depth : now.lenient;
            if (setting == 0) {
                now.depth = value;
            } else {
                now.lenient = value;
            }
            return previous;
        }

        int trigger(int table, int kind, int stage, int bar) {
            if (!in(table, 0, 3)) {
                return -1;
            }
            if (!in(kind, 0, 2) || !in(stage, 0, 2) || !in(bar, 0, 999)) {
                return -2;
            }
            if (now.triggers.size() == 12) {
                return -4;
            }
            keep();
            now.triggers.add(new Trigger(table, kind, stage, bar, 0, 0, 0, 0));
            return now.triggers.size() - 1;
        }

        int deed(int trigger, int deed, int target, int shift, int number) {
            if (!in(trigger, 0, now.triggers.size() - 1) || !in(target, 0, 3)) {
                return -1;
            }
            if (!in(deed, 0, 3) || !in(shift, 0, 99) || !in(number, 0, 999)) {
                return -2;
            }
            keep();
            Trigger t = now.triggers.get(trigger);
            now.triggers.set(trigger, new Trigger(t.table, t.kind, t.stage, t.bar, deed, target, shift, number));
            return t.deed;
        }

        int dropTrigger(int trigger) {
            if (!in(trigger, 0, now.triggers.size() - 1)) {
                return -1;
            }
            keep();
            now.triggers.remove(trigger);
            return now.triggers.size();
        }

        private static int error(int kind, int table, int key, int number) {
            if (!in(table, 0, 3)) {
                return -1;
            }
            return in(kind, 0, 2) && in(key, 0, 99) && in(number, 0, 999) ? 0 : -2;
        }

        private Trial trial(int kind, int table, int key, int number, int depth, int without) {
            return new Trial(now, kind, table, key, number, depth, without);
        }

        int state(int kind, int table, int key, int number) {
            if (error(kind, table, key, number) != 0) {
                return error(kind, table, key, number);
            }
            Trial trial = trial(kind, table, key, number, now.depth, -1);
            if (trial.failed != null) {
                return -5;
            }
            keep();
            now = trial.state;
            return now.journal.size();
        }

        int tried(int kind, int table, int key, int number, int what) {
            if (error(kind, table, key, number) != 0) {
                return error(kind, table, key, number);
            }
            if (!in(what, 0, 20)) {
                return -2;
            }
            Trial trial = trial(kind, table, key, number, now.depth, -1);
            Failed f = trial.failed;
            List<Integer> chain = f == null ? List.of() : f.chain;
            return switch (what) {
                case 0 -> f == null ? 0 : f.reason;
                case 1 -> f == null ? trial.done.size() : 0;
                case 2 -> trial.begun;
                case 3 -> trial.left;
                case 4 -> trial.deepest;
                case 5 -> f == null ? -6 : f.table;
                case 6 -> f == null ? -6 : f.key;
                case 7 -> chain.size();
                default -> what - 8 < chain.size() ? chain.get(what - 8) : -6;
            };
        }

        int row(int table, int place, int what) {
            if (!in(table, 0, 3) || !in(place, 0, now.tables.get(table).size() - 1)) {
                return -1;
            }
            int key = new ArrayList<>(now.tables.get(table).keySet()).get(place);
            return what == 0 ? key : what == 1 ? now.tables.get(table).get(key) : -2;
        }

        int value(int table, int key) {
            if (!in(table, 0, 3)) {
                return -1;
            }
            return in(key, 0, 99) ? now.tables.get(table).getOrDefault(key, -6) : -2;
        }

        private boolean leads(int from, int to) {
            Trigger a = now.triggers.get(from);
            Trigger b = now.triggers.get(to);
            return a.deed != 0 && a.target == b.table && a.deed - 1 == b.kind;
        }

        /** Marks all triggers that one leads to, by others between, too. */
        private void mark(int from, boolean[] marked) {
            for (int to = 0; to < now.triggers.size(); to++) {
                if (leads(from, to) && !marked[to]) {
                    marked[to] = true;
                    mark(to, marked);
                }
            }
        }

        private boolean circles(int trigger) {
            boolean[] marked = new boolean[12];
            mark(trigger, marked);
            return marked[trigger];
        }

        int ofTrigger(int trigger, int what) {
            if (!in(trigger, 0, now.triggers.size() - 1)) {
                return -1;
            }
            Trigger t = now.triggers.get(trigger);
            int set = 0;
            for (int to = 0; to < now.triggers.size(); to++) {
                set += leads(trigger, to) ? 1 << to : 0;
            }
            int[] all = {t.table, t.kind, t.stage, t.bar, t.deed, t.target, t.shift, t.number, set,
                circles(trigger) ? 1 : 0};
            return in(what, 0, 9) ? all[what] : -2;
        }

        int journal(int place, int what) {
            if (!in(place, 0, now.journal.size() - 1)) {
                return -1;
            }
            Done d = now.journal.get(place);
            return in(what, 0, 5) ? new int[] {d.kind, d.table, d.key, d.weight, d.depth, d.by}[what] : -2;
        }

        int count(int what) {
            if (in(what, 0, 3)) {
                return now.tables.get(what).size();
            }
            int set = 0;
            for (int i = 0; i < now.triggers.size(); i++) {
                set |= circles(i) ? 1 << i : 0;
            }
            int sum = now.tables.stream().flatMap(t -> t.values().stream()).mapToInt(i -> i).sum();
            int[] all = {now.triggers.size(), now.journal.size(), sum, now.depth, now.lenient, set, pad.length(),
                history.size()};
            return in(what, 4, 11) ? all[what - 4] : -2;
        }

        int culprits(int kind, int table, int key, int number) {
            if (error(kind, table, key, number) != 0) {
                return error(kind, table, key, number);
            }
            if (trial(kind, table, key, number, now.depth, -1).failed == null) {
                return -6;
            }
            int set = 0;
            for (int i = 0; i < now.triggers.size(); i++) {
                set |= trial(kind, table, key, number, now.depth, i).failed == null ? 1 << i : 0;
            }
            return set;
        }

        int leastDepth(int kind, int table, int key, int number) {
            if (error(kind, table, key, number) != 0) {
                return error(kind, table, key, number);
            }
            int depth = 0;
            while (depth < 9 && trial(kind, table, key, number, depth, -1).failed != null) {
                depth++;
            }
            return depth < 9 ? depth : -6;
        }

        int put(long characters) {
            String added = "";
            boolean ended = false;
            for (int i = 0; i < 8; i++) {
                int code = (int) (characters >> 8 * i & 255);
                ended |= code == 0;
                if (ended ? code != 0 : !in(code, 33, 126)) {
                    return -2;
                }
                added = ended ? added : (char) code + added;
            }
            if (added.isEmpty()) {
                return -2;
            }
            if (pad.length() + added.length() > 60) {
                return -4;
            }
            pad += added;
            return pad.length();
        }

        int wipe() {
            int length = pad.length();
            pad = "";
            return length;
        }

        int fault() {
            for (int end = 1; end <= pad.length(); end++) {
                Matcher matcher = TEXT.matcher(pad.substring(0, end));
                if (!matcher.matches() && !matcher.hitEnd()) {
                    return end - 1;
                }
            }
            return TEXT.matcher(pad).matches() ? -6 : pad.length();
        }

        int carryOut() {
            if (fault() != -6) {
                return -3;
            }
            keep();
            int carried = 0;
            for (String s : pad.split(";")) {
                String[] numbers = s.substring(1).split("[.=+]");
                Trial trial = trial("lad".indexOf(s.charAt(0)), Integer.parseInt(numbers[0]),
                        Integer.parseInt(numbers[1]), numbers.length > 2 ? Integer.parseInt(numbers[2]) : 0,
                        now.depth, -1);
                if (trial.failed != null) {
                    break;
                }
                now = trial.state;
                carried++;
            }
            pad = "";
            return carried;
        }

        int undo() {
            if (history.isEmpty()) {
                return -5;
            }
            now = history.remove(history.size() - 1);
            return history.size();
        }

        int save(int slot) {
            if (!in(slot, 0, 1)) {
                return -2;
            }
            slots[slot] = now.copy();
            return now.rows();
        }

        int restore(int slot) {
            if (!in(slot, 0, 1)) {
                return -2;
            }
            if (slots[slot] == null) {
                return -5;
            }
            keep();
            now = slots[slot].copy();
            return now.rows();
        }
    }
}
