import java.util.ArrayList;
import java.util.Comparator;
import java.util.List;
import java.util.Map;
import java.util.Random;
import java.util.TreeMap;
import java.util.TreeSet;
import java.util.function.ToIntFunction;

// Long runs of calls, the same each time, on PartPages and on a plain second program written from the document.
public final class PartPagesAgainstModel {
    private static final int RUNS = 500;
    private static final int STEPS = 512;
    // The document tells nothing of an object behind these; what is looked at then is looked at in a new one like it.
    private static final int MOST_CALLS = 512;
    // The last step may bring some more; the calls behind them are left for looks.
    private static final int MOST_CHANGES = 320;
    private static final int MOST_TOLD = 20;

    private static int wrong = 0;
    private static final Map<String, Integer> met = new TreeMap<>();

    public static void main(String[] args) {
        for (int run = 0; run < RUNS; run++) {
            new Run(run).go();
        }
        requireMet("page turns badly", "page turns well ahead of the last", "page shorter than high", "cue", "renew keeps some");
        for (int sort = 0; sort <= 5; sort++) {
            requireMet("condensed " + sort);
        }
        System.out.println(wrong == 0 ? "all answers are as the model's" : wrong + " answers are not as the model's");
        if (wrong != 0) {
            System.exit(1);
        }
    }

    /** A run that never comes to a case proves nothing of it. */
    private static void requireMet(String... cases) {
        for (String one : cases) {
            if (met.getOrDefault(one, 0) < 20) {
                wrong++;
                System.out.println("the runs hardly meet: " + one);
            }
        }
    }

    private static void meet(String one) {
        met.merge(one, 1, Integer::sum);
    }

    /** One run; its random numbers have a fixed beginning, so that it is always the same. */
    private static final class Run {
        final int number;
        final Random random;
        // Every call that may change something, so that an object can be made like the one before it.
        final List<ToIntFunction<PartPages>> changes = new ArrayList<>();
        PartPages real = new PartPages();
        int used = 0;
        final Model model = new Model();
        final int voices;
        final int dense;

        Run(int number) {
            this.number = number;
            this.random = new Random(7919L * number + 1);
            this.voices = 1 + random.nextInt(6);
            this.dense = 1 + random.nextInt(6);
        }

        void go() {
            for (int call = 0; call < voices; call++) {
                same("voice()", change(PartPages::voice), model.voice());
            }
            int bars = random.nextInt(8) == 0 ? random.nextInt(41) : 20 + random.nextInt(21);
            same("bars(" + bars + ")", change(x -> x.bars(bars)), model.bars(bars));
            for (int step = 0; step < STEPS && changes.size() < MOST_CHANGES; step++) {
                one(changes.size() < MOST_CHANGES / 2);
            }
        }

        /** The object for one call more; all that it has answered is as the model's. */
        PartPages real() {
            if (used == MOST_CALLS) {
                real = new PartPages();
                changes.forEach(call -> call.applyAsInt(real));
                used = changes.size();
            }
            used++;
            return real;
        }

        int change(ToIntFunction<PartPages> call) {
            int got = call.applyAsInt(real());
            changes.add(call);
            return got;
        }

        int voice() {
            return random.nextInt(40) == 0 ? odd(6) : random.nextInt(voices);
        }

        int bar() {
            int bars = model.bars;
            return bars == 0 || random.nextInt(60) == 0 ? odd(bars) : random.nextInt(bars);
        }

        int odd(int behind) {
            int[] some = {-1, behind, behind + 1, Integer.MIN_VALUE, Integer.MAX_VALUE, 0};
            return some[random.nextInt(some.length)];
        }

        int from(int least, int most) {
            if (random.nextInt(50) == 0) {
                return random.nextBoolean() ? least - 1 : most + 1;
            }
            return least + random.nextInt(most - least + 1);
        }

        void same(String call, int got, int want) {
            if (got != want) {
                wrong++;
                if (wrong <= MOST_TOLD) {
                    System.out.println("run " + number + ": " + call + " answered " + got + ", the model " + want);
                }
            }
        }

        void one(boolean filling) {
            int pick = random.nextInt(filling ? 12 : 30);
            switch (pick) {
                case 0, 1, 2, 3, 4, 5, 6, 7 -> notes();
                case 8 -> {
                    int bar = bar(), kind = from(0, 4);
                    int value = kind == 0 ? from(-7, 7) : from(0, 999);
                    same("mark", change(x -> x.mark(bar, kind, value)), model.mark(bar, kind, value));
                }
                case 9 -> {
                    int v = voice(), f = from(-6, 6), o = from(-2, 2);
                    same("instrument", change(x -> x.instrument(v, f, o)), model.instrument(v, f, o));
                }
                case 10 -> {
                    int n = random.nextInt(3) == 0 ? from(1, 40) : from(1, 5);
                    same("cueing", change(x -> x.cueing(n)), model.cueing(n));
                }
                case 11, 12 -> {
                    int v = voice();
                    same("extract", change(x -> x.extract(v)), model.extract(v));
                    lookAt(v);
                }
                case 13 -> {
                    int bar = bar(), kind = from(0, 4);
                    same("unmark", change(x -> x.unmark(bar, kind)), model.unmark(bar, kind));
                }
                case 14 -> {
                    int n = random.nextInt(4) == 0 ? from(0, 40) : Math.max(0, model.bars + random.nextInt(5) - 2);
                    same("bars(" + n + ")", change(x -> x.bars(n)), model.bars(n));
                }
                case 15, 16 -> {
                    int v = voice(), bar = bar();
                    same("drop", change(x -> x.drop(v, bar)), model.drop(v, bar));
                }
                case 17, 18, 19 -> {
                    int v = voice();
                    same("unlike(" + v + ")", real().unlike(v), model.unlike(v));
                }
                case 20, 21 -> {
                    int v = voice();
                    int kept = model.renew(v);
                    if (kept > 0 && kept < model.parts[v].pages(model.wide, model.high).size()) {
                        meet("renew keeps some");
                    }
                    same("renew(" + v + ")", change(x -> x.renew(v)), kept);
                    lookAt(v);
                }
                case 22 -> {
                    int v = voice();
                    same("tacet", real().tacet(v), model.tacet(v));
                }
                case 23, 24 -> {
                    int w = random.nextBoolean() ? from(8, 12) : from(8, 60);
                    int h = random.nextBoolean() ? from(1, 4) : from(1, 12);
                    same("lay(" + w + ", " + h + ")", change(x -> x.lay(w, h)), model.lay(w, h));
                    for (int v = 0; v < 6; v++) {
                        lookAtPages(v);
                    }
                }
                case 25, 26 -> {
                    int v = voice(), o = voice(), bar = bar();
                    int want = model.condensed(v, o, bar);
                    meet("condensed " + want);
                    same("condensed", real().condensed(v, o, bar), want);
                }
                case 27 -> {
                    int v = voice(), o = voice();
                    same("together", real().together(v, o), model.together(v, o));
                }
                case 28 -> {
                    int what = from(0, 5);
                    same("count(" + what + ")", real().count(what), model.count(what));
                }
                default -> {
                    if (random.nextInt(6) == 0) {
                        same("voice()", change(PartPages::voice), model.voice());
                    } else {
                        wrongLooks();
                    }
                }
            }
        }

        void notes() {
            int v = voice(), bar = bar();
            int many = random.nextInt(dense) + 1;
            for (int k = 0; k < many; k++) {
                int start = random.nextInt(3) == 0 ? from(0, 47) : 12 * random.nextInt(4);
                int length = random.nextInt(3) == 0 ? from(1, Math.max(1, 48 - start)) : 12;
                int spelling = from(-15, 19);
                int pitch = Math.floorMod(7 * spelling, 12) + 12 * random.nextInt(11);
                if (random.nextInt(4) != 0) {
                    spelling = random.nextInt(5);
                    pitch = 60 + 7 * spelling % 12;
                }
                if (random.nextInt(60) == 0) {
                    pitch++;
                }
                note(v, bar, start, length, pitch, spelling);
            }
            if (random.nextInt(4) == 0) {
                copyBar(v, bar);
            }
        }

        void note(int v, int bar, int start, int length, int pitch, int spelling) {
            same("note", change(x -> x.note(v, bar, start, length, pitch, spelling)),
                    model.note(v, bar, start, length, pitch, spelling));
        }

        /** UNISON and JOINED hardly come by chance. */
        void copyBar(int v, int bar) {
            if (!model.isVoice(v) || !model.isBar(bar)) {
                return;
            }
            int other = random.nextInt(voices);
            boolean alike = random.nextBoolean();
            same("drop", change(x -> x.drop(other, bar)), model.drop(other, bar));
            for (int[] n : new ArrayList<>(model.notes(v, bar))) {
                int pitch = alike || n[2] + 12 > 127 ? n[2] : n[2] + 12;
                note(other, bar, n[0], n[1], pitch, n[3]);
            }
        }

        void lookAt(int v) {
            if (!model.isPart(v)) {
                return;
            }
            int rows = model.parts[v].rows.size();
            for (int i = 0; i <= rows; i++) {
                for (int what = 0; what < 7; what++) {
                    same("row(" + v + ", " + i + ", " + what + ")", real().row(v, i, what), model.row(v, i, what));
                }
                if (model.row(v, i, 0) == 2) {
                    meet("cue");
                }
                for (int k = 0; k < 9; k++) {
                    for (int what = 0; what < 4; what++) {
                        same("written(" + v + ", " + i + ", " + k + ", " + what + ")",
                                real().written(v, i, k, what), model.written(v, i, k, what));
                    }
                }
            }
            lookAtPages(v);
        }

        void lookAtPages(int v) {
            int held = model.pages(v);
            same("pages(" + v + ")", real().pages(v), held);
            for (int p = 0; p <= Math.max(0, held); p++) {
                for (int what = 0; what < 5; what++) {
                    same("page(" + v + ", " + p + ", " + what + ")", real().page(v, p, what), model.page(v, p, what));
                }
                if (p < held - 1) {
                    meet(model.page(v, p, 3) == 1 ? "page turns well ahead of the last" : "page turns badly");
                    if (model.page(v, p, 2) < model.high) {
                        meet("page shorter than high");
                    }
                }
            }
            same("count(4)", real().count(4), model.count(4));
        }

        void wrongLooks() {
            int v = random.nextInt(8) - 1, i = odd(3), k = odd(2), what = odd(5);
            same("row", real().row(v, i, what), model.row(v, i, what));
            same("written", real().written(v, i, k, what), model.written(v, i, k, what));
            same("page", real().page(v, i, what), model.page(v, i, what));
            same("count", real().count(what), model.count(what));
        }
    }

    /** What the document says, in its own order, with lists. */
    private static final class Model {
        final List<TreeMap<Integer, List<int[]>>> voices = new ArrayList<>();
        final List<int[]> instruments = new ArrayList<>();
        final TreeMap<Integer, Integer> marks = new TreeMap<>();
        final ModelPart[] parts = new ModelPart[6];
        int bars = 0;
        int cueing = 8;
        int wide = 24;
        int high = 4;

        boolean isVoice(int v) {
            return v >= 0 && v < voices.size();
        }

        boolean isBar(int bar) {
            return bar >= 0 && bar < bars;
        }

        boolean isPart(int v) {
            return isVoice(v) && parts[v] != null;
        }

        List<int[]> notes(int v, int bar) {
            return voices.get(v).getOrDefault(bar, List.of());
        }

        int voice() {
            if (voices.size() == 6) {
                return PartPages.ROOM;
            }
            voices.add(new TreeMap<>());
            instruments.add(new int[2]);
            return voices.size() - 1;
        }

        int bars(int n) {
            if (n < 0 || n > 40) {
                return PartPages.OUTSIDE;
            }
            int before = bars;
            bars = n;
            voices.forEach(one -> one.tailMap(n).clear());
            marks.tailMap(n * 5).clear();
            return before;
        }

        int note(int v, int bar, int start, int length, int pitch, int spelling) {
            if (!isVoice(v) || !isBar(bar)) {
                return PartPages.UNKNOWN;
            }
            boolean fits = start >= 0 && start <= 47 && length >= 1 && length <= 48 - start && pitch >= 0 && pitch <= 127
                    && spelling >= -15 && spelling <= 19 && ((7 * spelling + 144 - pitch) % 12 == 0);
            if (!fits) {
                return PartPages.OUTSIDE;
            }
            List<int[]> there = voices.get(v).computeIfAbsent(bar, b -> new ArrayList<>());
            if (there.stream().anyMatch(n -> n[0] == start && n[2] == pitch)) {
                return PartPages.STATE;
            }
            if (there.size() == 8) {
                return PartPages.ROOM;
            }
            there.add(new int[] {start, length, pitch, spelling});
            there.sort(Comparator.<int[]>comparingInt(n -> n[0]).thenComparingInt(n -> n[2]));
            return there.size();
        }

        int drop(int v, int bar) {
            if (!isVoice(v) || !isBar(bar)) {
                return PartPages.UNKNOWN;
            }
            List<int[]> gone = voices.get(v).remove(bar);
            return gone == null ? 0 : gone.size();
        }

        int mark(int bar, int kind, int value) {
            if (!isBar(bar)) {
                return PartPages.UNKNOWN;
            }
            boolean fits = kind == 0 ? Math.abs(value) <= 7 : kind >= 1 && kind <= 4 && value >= 0 && value <= 999;
            if (!fits) {
                return PartPages.OUTSIDE;
            }
            Integer before = marks.put(bar * 5 + kind, value);
            return before == null ? PartPages.NONE : before;
        }

        int unmark(int bar, int kind) {
            if (!isBar(bar)) {
                return PartPages.UNKNOWN;
            }
            if (kind < 0 || kind > 4) {
                return PartPages.OUTSIDE;
            }
            Integer before = marks.remove(bar * 5 + kind);
            return before == null ? PartPages.NONE : before;
        }

        int instrument(int v, int fifths, int octaves) {
            if (!isVoice(v)) {
                return PartPages.UNKNOWN;
            }
            if (fifths < -6 || fifths > 6 || octaves < -2 || octaves > 2) {
                return PartPages.OUTSIDE;
            }
            instruments.set(v, new int[] {fifths, octaves});
            return 1;
        }

        int cueing(int n) {
            if (n < 1 || n > 40) {
                return PartPages.OUTSIDE;
            }
            int before = cueing;
            cueing = n;
            return before;
        }

        int key(int bar) {
            int key = 0;
            for (int b = 0; b <= bar; b++) {
                key = marks.getOrDefault(b * 5, key);
            }
            return key;
        }

        boolean needed(int bar) {
            return !marks.subMap(bar * 5, bar * 5 + 4).isEmpty();
        }

        /** For each BAR the VOICE that a CUE there is from, or -1. */
        int[] cues(int v) {
            int[] from = new int[bars];
            int empty = 0;
            for (int bar = 0; bar < bars; bar++) {
                from[bar] = -1;
                empty = notes(v, bar).isEmpty() ? empty + 1 : 0;
                if (empty < cueing || bar + 1 >= bars || notes(v, bar + 1).isEmpty()) {
                    continue;
                }
                for (int other = voices.size() - 1; other >= 0; other--) {
                    int held = notes(other, bar).size();
                    if (held > 0 && (from[bar] < 0 || held >= notes(from[bar], bar).size())) {
                        from[bar] = other;
                    }
                }
            }
            return from;
        }

        ModelPart make(int v) {
            ModelPart part = new ModelPart();
            if (tacet(v) == 1) {
                if (bars > 0) {
                    add(part, v, 3, 0, bars, -1);
                }
                return part;
            }
            int[] cues = cues(v);
            for (int bar = 0; bar < bars; bar++) {
                if (!notes(v, bar).isEmpty()) {
                    add(part, v, 0, bar, 1, v);
                } else if (cues[bar] >= 0) {
                    add(part, v, 2, bar, 1, cues[bar]);
                } else if (bar > 0 && !needed(bar) && notes(v, bar - 1).isEmpty() && cues[bar - 1] < 0) {
                    part.rows.get(part.rows.size() - 1)[2]++;
                } else {
                    add(part, v, 1, bar, 1, -1);
                }
            }
            return part;
        }

        void add(ModelPart part, int v, int sort, int bar, int length, int source) {
            List<int[]> anew = new ArrayList<>();
            TreeSet<Integer> starts = new TreeSet<>();
            int fifths = instruments.get(v)[0];
            int key = key(bar) + fifths;
            int turn = key > 7 ? -12 : key < -7 ? 12 : 0;
            int up = (7 * fifths + 48) % 12;
            if (source >= 0) {
                for (int[] n : notes(source, bar)) {
                    int spelling = n[3] + fifths + turn;
                    while (spelling > 19) {
                        spelling -= 12;
                    }
                    while (spelling < -15) {
                        spelling += 12;
                    }
                    anew.add(new int[] {n[0], n[1], n[2] + (up > 6 ? up - 12 : up) + 12 * instruments.get(v)[1], spelling});
                    starts.add(n[0]);
                }
            }
            int[] widths = {1 + starts.size(), 2, 1 + (int) Math.ceil(starts.size() / 2.0), 4};
            part.rows.add(new int[] {sort, bar, length, widths[sort] + (needed(bar) ? 1 : 0), key + turn, anew.size(),
                sort == 2 ? source : PartPages.NONE});
            part.notes.add(anew);
        }

        int extract(int v) {
            if (!isVoice(v)) {
                return PartPages.UNKNOWN;
            }
            parts[v] = make(v);
            return parts[v].rows.size();
        }

        int row(int v, int i, int what) {
            if (!isPart(v) || i < 0 || i >= parts[v].rows.size()) {
                return PartPages.UNKNOWN;
            }
            return what < 0 || what > 6 ? PartPages.OUTSIDE : parts[v].rows.get(i)[what];
        }

        int written(int v, int i, int k, int what) {
            if (!isPart(v) || i < 0 || i >= parts[v].rows.size() || k < 0 || k >= parts[v].notes.get(i).size()) {
                return PartPages.UNKNOWN;
            }
            return what < 0 || what > 3 ? PartPages.OUTSIDE : parts[v].notes.get(i).get(k)[what];
        }

        int unlike(int v) {
            if (!isPart(v)) {
                return PartPages.UNKNOWN;
            }
            List<String> before = parts[v].told();
            List<String> after = make(v).told();
            for (int i = 0; i < Math.max(before.size(), after.size()); i++) {
                if (i >= before.size() || i >= after.size() || !before.get(i).equals(after.get(i))) {
                    return i;
                }
            }
            return PartPages.NONE;
        }

        int renew(int v) {
            if (!isPart(v)) {
                return PartPages.UNKNOWN;
            }
            List<String> before = parts[v].toldByPages(wide, high);
            parts[v] = make(v);
            List<String> after = parts[v].toldByPages(wide, high);
            int kept = 0;
            while (kept < before.size() && kept < after.size() && before.get(kept).equals(after.get(kept))) {
                kept++;
            }
            return kept;
        }

        int tacet(int v) {
            if (!isVoice(v)) {
                return PartPages.UNKNOWN;
            }
            return voices.get(v).values().stream().allMatch(List::isEmpty) ? 1 : 0;
        }

        int lay(int w, int h) {
            if (w < 8 || w > 60 || h < 1 || h > 12) {
                return PartPages.OUTSIDE;
            }
            wide = w;
            high = h;
            int all = 0;
            for (int v = 0; v < voices.size(); v++) {
                all += Math.max(0, pages(v));
            }
            return all;
        }

        int pages(int v) {
            return isPart(v) ? parts[v].pages(wide, high).size() : PartPages.UNKNOWN;
        }

        int page(int v, int p, int what) {
            if (!isPart(v) || p < 0 || p >= pages(v)) {
                return PartPages.UNKNOWN;
            }
            if (what < 0 || what > 4) {
                return PartPages.OUTSIDE;
            }
            return what == 4 ? book().get(v).get(p) : parts[v].pages(wide, high).get(p)[what];
        }

        Map<Integer, List<Integer>> book() {
            Map<Integer, List<Integer>> book = new TreeMap<>();
            int free = 1;
            for (int v = 0; v < voices.size(); v++) {
                List<Integer> numbers = new ArrayList<>();
                for (int p = 0; p < pages(v); p++) {
                    if (p == 0 && free % 2 == 0) {
                        free++;
                    }
                    numbers.add(free++);
                }
                book.put(v, numbers);
            }
            return book;
        }

        int condensed(int v, int o, int bar) {
            if (!isVoice(v) || !isVoice(o) || !isBar(bar)) {
                return PartPages.UNKNOWN;
            }
            if (v == o) {
                return PartPages.STATE;
            }
            TreeSet<String> first = told(v, bar, 4);
            TreeSet<String> second = told(o, bar, 4);
            if (first.isEmpty() || second.isEmpty()) {
                return first.isEmpty() && second.isEmpty() ? 0 : second.isEmpty() ? 3 : 4;
            }
            if (first.equals(second)) {
                return 1;
            }
            return told(v, bar, 2).equals(told(o, bar, 2)) ? 2 : 5;
        }

        TreeSet<String> told(int v, int bar, int figures) {
            TreeSet<String> told = new TreeSet<>();
            for (int[] n : notes(v, bar)) {
                StringBuilder text = new StringBuilder();
                for (int what = 0; what < figures; what++) {
                    text.append(n[what]).append(' ');
                }
                told.add(text.toString());
            }
            return told;
        }

        int together(int v, int o) {
            if (!isVoice(v) || !isVoice(o)) {
                return PartPages.UNKNOWN;
            }
            if (v == o) {
                return PartPages.STATE;
            }
            int shared = 0;
            for (int bar = 0; bar < bars; bar++) {
                shared += condensed(v, o, bar) <= 4 ? 1 : 0;
            }
            return shared;
        }

        int count(int what) {
            return switch (what) {
                case 0 -> voices.size();
                case 1 -> bars;
                case 2 -> voices.stream().flatMap(one -> one.values().stream()).mapToInt(List::size).sum();
                case 3 -> (int) java.util.Arrays.stream(parts).filter(part -> part != null).count();
                case 4 -> book().values().stream().flatMap(List::stream).mapToInt(n -> n).max().orElse(0);
                case 5 -> marks.size();
                default -> PartPages.OUTSIDE;
            };
        }
    }

    private static final class ModelPart {
        final List<int[]> rows = new ArrayList<>();
        final List<List<int[]>> notes = new ArrayList<>();

        List<String> told() {
            List<String> told = new ArrayList<>();
            for (int i = 0; i < rows.size(); i++) {
                StringBuilder text = new StringBuilder(java.util.Arrays.toString(rows.get(i)));
                for (int[] n : notes.get(i)) {
                    text.append(java.util.Arrays.toString(n));
                }
                told.add(text.toString());
            }
            return told;
        }

        List<String> toldByPages(int wide, int high) {
            List<String> rowsTold = told();
            List<String> told = new ArrayList<>();
            for (int[] page : pages(wide, high)) {
                told.add(java.util.Arrays.toString(page) + rowsTold.subList(page[0], page[0] + page[1]));
            }
            return told;
        }

        /** SYSTEMS as lists of ROWS. */
        List<List<Integer>> systems(int wide) {
            List<List<Integer>> systems = new ArrayList<>();
            int room = -1;
            for (int i = 0; i < rows.size(); i++) {
                int width = rows.get(i)[3];
                if (systems.isEmpty() || width > room) {
                    systems.add(new ArrayList<>());
                    room = wide;
                }
                systems.get(systems.size() - 1).add(i);
                room -= width;
            }
            return systems;
        }

        List<int[]> pages(int wide, int high) {
            List<List<Integer>> left = systems(wide);
            List<int[]> pages = new ArrayList<>();
            while (!left.isEmpty()) {
                int held = Math.min(high, left.size());
                int turns = left.size() <= high ? 1 : 0;
                for (int less = 0; turns == 0 && less <= 2 && high - less >= 1; less++) {
                    List<Integer> ahead = left.get(high - less - 1);
                    if (isLongRest(ahead.get(ahead.size() - 1)) || isLongRest(left.get(high - less).get(0))) {
                        held = high - less;
                        turns = 1;
                    }
                }
                int many = left.subList(0, held).stream().mapToInt(List::size).sum();
                pages.add(new int[] {left.get(0).get(0), many, held, turns});
                left = left.subList(held, left.size());
            }
            return pages;
        }

        boolean isLongRest(int i) {
            return rows.get(i)[0] == 1 && rows.get(i)[2] >= 2;
        }
    }
}
