import java.util.ArrayList;
import java.util.List;
import java.util.function.Supplier;
import java.util.function.ToIntFunction;

// "Refused, and nothing changes: UNKNOWN, OUTSIDE, STATE, ROOM: the first in this order."
// Each call of the face: just inside each bound, just outside it and far outside, which refusal comes first,
// and that an object with the refused call answers all others as one without it.
public final class PartPagesRefusals {
    private static final int NONE = PartPages.NONE;
    private static final int UNKNOWN = PartPages.UNKNOWN;
    private static final int OUTSIDE = PartPages.OUTSIDE;
    private static final int STATE = PartPages.STATE;
    private static final int ROOM = PartPages.ROOM;
    private static final int LEAST = Integer.MIN_VALUE;
    private static final int MOST = Integer.MAX_VALUE;

    // What the busy score has; the first VOICE's PART has a ROW for each BAR.
    private static final int VOICES = 3;
    private static final int BARS = 7;
    private static final int ROWS = 7;
    private static final int VOICE_WITHOUT_PART = 2;
    private static final int FULL_BAR = 6;
    private static final int[] NO_VOICES = {LEAST, -1, VOICES, 5, 6, MOST};
    private static final int[] NO_BARS = {LEAST, -1, BARS, 39, 40, MOST};
    private static final int[] NOT_MADE = {LEAST, -1, VOICE_WITHOUT_PART, VOICES, 6, MOST};

    // An object answers as promised for 512 calls only, so what can be seen of it is seen on several like ones.
    private static final int LOOKS = 4;
    private static final int MOST_CALLS = 512;

    private static int wrong = 0;

    public static void main(String[] args) {
        constants();
        looksSeeChanges();
        voice();
        bars();
        noteUnknown();
        noteOutside();
        noteStateAndRoom();
        noteOrderOfRefusals();
        drop();
        mark();
        unmark();
        instrument();
        cueing();
        extract();
        row();
        written();
        unlikeAndRenew();
        tacet();
        lay();
        pages();
        page();
        condensed();
        together();
        count();
        newObjectRefuses();
        System.out.println(wrong == 0 ? "all refusals are as due" : wrong + " answers are not as due");
        if (wrong != 0) {
            System.exit(1);
        }
    }

    private static void fault(String text) {
        wrong++;
        System.out.println(text);
    }

    private static void due(String call, int want, int got) {
        if (got != want) {
            fault(call + ": answered " + got + ", due is " + want);
        }
    }

    // ---- objects to be refused by

    /** Some of everything, and PARTS that are no longer as THE SCORE is, so that making one anew would show. */
    private static PartPages busy() {
        PartPages x = new PartPages();
        for (int v = 0; v < VOICES; v++) {
            x.voice();
        }
        x.bars(BARS);
        x.note(0, 0, 0, 12, 60, 0);
        x.note(0, 0, 12, 36, 64, 4);
        x.note(0, 4, 0, 48, 62, 2);
        x.note(1, 3, 0, 24, 67, 1);
        x.note(1, 3, 24, 24, 65, -1);
        x.note(2, 0, 0, 48, 55, 1);
        for (int k = 0; k < 8; k++) {
            x.note(0, FULL_BAR, 6 * k, 6, 60, 0);
        }
        x.mark(0, 0, 6);
        x.mark(2, 1, 120);
        x.mark(5, 4, 7);
        x.instrument(0, 2, -1);
        x.instrument(1, -3, 1);
        x.cueing(2);
        x.lay(9, 1);
        x.extract(0);
        x.extract(1);
        x.note(1, 1, 0, 48, 60, 0);
        x.note(0, 5, 0, 48, 60, 12);
        x.mark(4, 2, 0);
        x.instrument(1, 1, 0);
        x.cueing(3);
        x.lay(8, 2);
        return x;
    }

    private static PartPages sixVoices() {
        PartPages x = busy();
        for (int v = VOICES; v < 6; v++) {
            x.voice();
        }
        return x;
    }

    // ---- what can be seen of an object

    /** Answers of one object, and how many calls they took. */
    private static final class Seen {
        final PartPages x;
        final StringBuilder text = new StringBuilder();
        int calls = 0;

        Seen(PartPages x) {
            this.x = x;
        }

        int add(int answer) {
            calls++;
            text.append(answer).append(' ');
            return answer;
        }

        boolean isThere(int answer) {
            return add(answer) != UNKNOWN;
        }

        void score() {
            for (int what = 0; what <= 5; what++) {
                add(x.count(what));
            }
            for (int v = 0; v < VOICES; v++) {
                add(x.tacet(v));
                add(x.pages(v));
                add(x.unlike(v));
                add(x.together(v, (v + 1) % VOICES));
                for (int bar = 0; bar < BARS; bar++) {
                    add(x.condensed(v, (v + 1) % VOICES, bar));
                }
            }
        }

        void part(int v) {
            for (int i = 0; isThere(x.row(v, i, 0)); i++) {
                for (int what = 1; what <= 6; what++) {
                    add(x.row(v, i, what));
                }
                for (int k = 0; isThere(x.written(v, i, k, 0)); k++) {
                    for (int what = 1; what <= 3; what++) {
                        add(x.written(v, i, k, what));
                    }
                }
            }
            for (int p = 0; isThere(x.page(v, p, 0)); p++) {
                for (int what = 1; what <= 4; what++) {
                    add(x.page(v, p, what));
                }
            }
        }

        void takeApart() {
            for (int v = 0; v < VOICES; v++) {
                add(x.renew(v));
                for (int bar = 0; bar < BARS; bar++) {
                    add(x.drop(v, bar));
                }
            }
            for (int bar = 0; bar < BARS; bar++) {
                for (int kind = 0; kind <= 4; kind++) {
                    add(x.unmark(bar, kind));
                }
            }
            add(x.cueing(5));
            add(x.voice());
            add(x.bars(9));
        }
    }

    private static String look(PartPages x, int number) {
        Seen seen = new Seen(x);
        if (number == 0) {
            seen.score();
            seen.part(0);
        } else if (number == 1) {
            seen.part(1);
            seen.part(VOICE_WITHOUT_PART);
            seen.takeApart();
        } else if (number == 2) {
            seen.add(x.extract(0));
            seen.part(0);
        } else {
            seen.add(x.extract(1));
            seen.add(x.extract(VOICE_WITHOUT_PART));
            seen.part(1);
            seen.part(VOICE_WITHOUT_PART);
        }
        // Some 60 calls make the object.
        if (seen.calls + 60 > MOST_CALLS) {
            fault("look " + number + " takes " + seen.calls + " calls, too many to be promised");
        }
        return seen.text.toString();
    }

    private static void refused(String name, int want, Supplier<PartPages> make, ToIntFunction<PartPages> call) {
        for (int number = 0; number < LOOKS; number++) {
            PartPages touched = make.get();
            due(name, want, call.applyAsInt(touched));
            if (!look(touched, number).equals(look(make.get(), number))) {
                fault(name + ": refused, but look " + number + " is another one");
            }
        }
    }

    private static void refused(String name, int want, ToIntFunction<PartPages> call) {
        refused(name, want, PartPagesRefusals::busy, call);
    }

    private static void taken(String name, int want, ToIntFunction<PartPages> call) {
        due(name, want, call.applyAsInt(busy()));
    }

    /** Whether some look shows what a call that is not refused has changed. */
    private static boolean isSeen(ToIntFunction<PartPages> call) {
        for (int number = 0; number < LOOKS; number++) {
            PartPages touched = busy();
            call.applyAsInt(touched);
            if (!look(touched, number).equals(look(busy(), number))) {
                return true;
            }
        }
        return false;
    }

    private static void shows(String name, ToIntFunction<PartPages> call) {
        if (!isSeen(call)) {
            fault(name + ": changes something, but no look shows it");
        }
    }

    /** Looks that saw no change would let each refusal pass. */
    private static void looksSeeChanges() {
        shows("voice", x -> x.voice());
        shows("bars", x -> x.bars(BARS + 1));
        shows("note", x -> x.note(2, 6, 0, 1, 60, 0));
        shows("drop", x -> x.drop(2, 0));
        shows("mark in place of another", x -> x.mark(2, 1, 121));
        shows("unmark", x -> x.unmark(5, 4));
        shows("fifths", x -> x.instrument(2, 1, 0));
        shows("octaves", x -> x.instrument(0, 2, 0));
        shows("cueing", x -> x.cueing(4));
        shows("extract", x -> x.extract(0));
        shows("a first extract", x -> x.extract(VOICE_WITHOUT_PART));
        shows("renew", x -> x.renew(1));
        shows("wide", x -> x.lay(9, 2));
        shows("high", x -> x.lay(8, 1));
        if (isSeen(x -> x.unlike(0)) || isSeen(x -> x.page(1, 0, 4)) || isSeen(x -> x.count(4))) {
            fault("a call that only tells changes something");
        }
    }

    // ---- the score

    private static void constants() {
        due("NONE", -100, NONE);
        due("UNKNOWN", -101, UNKNOWN);
        due("OUTSIDE", -102, OUTSIDE);
        due("STATE", -103, STATE);
        due("ROOM", -104, ROOM);
    }

    private static void voice() {
        taken("voice: a fourth", VOICES, x -> x.voice());
        PartPages x = busy();
        for (int v = VOICES; v < 6; v++) {
            due("voice " + v, v, x.voice());
        }
        refused("voice: a seventh", ROOM, PartPagesRefusals::sixVoices, y -> y.voice());
        refused("voice: an eighth", ROOM, PartPagesRefusals::sixVoices, y -> {
            y.voice();
            return y.voice();
        });
    }

    private static void bars() {
        taken("bars: least", BARS, x -> x.bars(0));
        taken("bars: most", BARS, x -> x.bars(40));
        for (int n : new int[] {LEAST, -40, -1, 41, 1000, MOST}) {
            refused("bars " + n, OUTSIDE, x -> x.bars(n));
        }
    }

    private static void noteUnknown() {
        taken("note: first voice, first bar", 3, x -> x.note(0, 0, 0, 1, 61, 7));
        taken("note: last voice, last bar", 1, x -> x.note(VOICES - 1, BARS - 1, 0, 1, 61, 7));
        for (int v : NO_VOICES) {
            refused("note: voice " + v, UNKNOWN, x -> x.note(v, 0, 0, 1, 61, 7));
        }
        for (int bar : NO_BARS) {
            refused("note: bar " + bar, UNKNOWN, x -> x.note(0, bar, 0, 1, 61, 7));
        }
    }

    private static void noteOutside() {
        taken("note: least start", 1, x -> x.note(2, 1, 0, 1, 60, 0));
        taken("note: most start", 1, x -> x.note(2, 1, 47, 1, 60, 0));
        for (int start : new int[] {LEAST, -1, 48, 49, MOST}) {
            refused("note: start " + start, OUTSIDE, x -> x.note(2, 1, start, 1, 60, 0));
        }
        // 48 less START is more than an int can hold here.
        refused("note: start least, length most", OUTSIDE, x -> x.note(2, 1, LEAST, MOST, 60, 0));
        refused("note: start least, length least", OUTSIDE, x -> x.note(2, 1, LEAST, LEAST, 60, 0));
        taken("note: least length", 1, x -> x.note(2, 1, 0, 1, 60, 0));
        taken("note: most length", 1, x -> x.note(2, 1, 0, 48, 60, 0));
        taken("note: up to the bar's end", 1, x -> x.note(2, 1, 20, 28, 60, 0));
        refused("note: a tick beyond the bar's end", OUTSIDE, x -> x.note(2, 1, 20, 29, 60, 0));
        for (int length : new int[] {LEAST, -1, 0, 49, MOST}) {
            refused("note: length " + length, OUTSIDE, x -> x.note(2, 1, 0, length, 60, 0));
        }
        taken("note: least pitch", 1, x -> x.note(2, 1, 0, 1, 0, 0));
        taken("note: most pitch", 1, x -> x.note(2, 1, 0, 1, 127, 1));
        // With SPELLINGS that would be theirs.
        refused("note: pitch -1", OUTSIDE, x -> x.note(2, 1, 0, 1, -1, 5));
        refused("note: pitch -12", OUTSIDE, x -> x.note(2, 1, 0, 1, -12, 0));
        refused("note: pitch 128", OUTSIDE, x -> x.note(2, 1, 0, 1, 128, 8));
        refused("note: pitch 132", OUTSIDE, x -> x.note(2, 1, 0, 1, 132, 0));
        refused("note: pitch least", OUTSIDE, x -> x.note(2, 1, 0, 1, LEAST, 8));
        refused("note: pitch most", OUTSIDE, x -> x.note(2, 1, 0, 1, MOST, 1));
        noteSpellingOutside();
    }

    private static void noteSpellingOutside() {
        taken("note: least spelling", 1, x -> x.note(2, 1, 0, 1, 63, -15));
        taken("note: most spelling", 1, x -> x.note(2, 1, 0, 1, 61, 19));
        // Each with the PITCH that it would be the SPELLING of.
        refused("note: spelling -16", OUTSIDE, x -> x.note(2, 1, 0, 1, 68, -16));
        refused("note: spelling 20", OUTSIDE, x -> x.note(2, 1, 0, 1, 68, 20));
        refused("note: spelling -24", OUTSIDE, x -> x.note(2, 1, 0, 1, 60, -24));
        refused("note: spelling 24", OUTSIDE, x -> x.note(2, 1, 0, 1, 60, 24));
        refused("note: spelling least", OUTSIDE, x -> x.note(2, 1, 0, 1, 68, LEAST));
        refused("note: spelling most", OUTSIDE, x -> x.note(2, 1, 0, 1, 61, MOST));
        refused("note: a spelling of the next pitch", OUTSIDE, x -> x.note(2, 1, 0, 1, 60, 7));
        refused("note: a spelling of the pitch before", OUTSIDE, x -> x.note(2, 1, 0, 1, 60, 5));
    }

    private static void noteStateAndRoom() {
        refused("note: one of that start and pitch", STATE, x -> x.note(0, 0, 0, 12, 60, 0));
        refused("note: with another length", STATE, x -> x.note(0, 0, 0, 13, 60, 0));
        refused("note: with another spelling", STATE, x -> x.note(0, 0, 0, 12, 60, 12));
        refused("note: that of the last one", STATE, x -> x.note(0, 0, 12, 1, 64, 4));
        taken("note: the same start", 3, x -> x.note(0, 0, 0, 12, 72, 0));
        taken("note: the same pitch", 3, x -> x.note(0, 0, 1, 12, 60, 0));
        taken("note: in another bar", 1, x -> x.note(0, 1, 0, 12, 60, 0));
        taken("note: of another voice", 2, x -> x.note(2, 0, 0, 12, 60, 0));
        refused("note: a ninth", ROOM, x -> x.note(0, FULL_BAR, 1, 1, 60, 0));
        refused("note: a ninth behind all", ROOM, x -> x.note(0, FULL_BAR, 47, 1, 127, 1));
        refused("note: a ninth ahead of all", ROOM, x -> x.note(0, FULL_BAR, 0, 1, 0, 0));
        taken("note: the voice has room elsewhere", 1, x -> x.note(0, 3, 1, 1, 60, 0));
        taken("note: another voice has room there", 1, x -> x.note(1, FULL_BAR, 1, 1, 60, 0));
    }

    private static void noteOrderOfRefusals() {
        refused("note: voice before start", UNKNOWN, x -> x.note(VOICES, 0, -1, 1, 60, 0));
        refused("note: voice before spelling", UNKNOWN, x -> x.note(-1, 0, 0, 1, 60, 1));
        refused("note: bar before length", UNKNOWN, x -> x.note(0, BARS, 0, 0, 60, 0));
        refused("note: bar before pitch", UNKNOWN, x -> x.note(0, -1, 0, 1, 128, 0));
        refused("note: start before room", OUTSIDE, x -> x.note(0, FULL_BAR, 48, 1, 60, 0));
        refused("note: length before state", OUTSIDE, x -> x.note(0, 0, 0, 49, 60, 0));
        refused("note: spelling before state", OUTSIDE, x -> x.note(0, 0, 0, 12, 60, 1));
        refused("note: spelling before room", OUTSIDE, x -> x.note(0, FULL_BAR, 1, 1, 60, 1));
        refused("note: state before room", STATE, x -> x.note(0, FULL_BAR, 42, 6, 60, 0));
        refused("note: length before state and room", OUTSIDE, x -> x.note(0, FULL_BAR, 42, 7, 60, 0));
    }

    private static void drop() {
        taken("drop: first voice, first bar", 2, x -> x.drop(0, 0));
        taken("drop: last voice, last bar", 0, x -> x.drop(VOICES - 1, BARS - 1));
        taken("drop: a full bar", 8, x -> x.drop(0, FULL_BAR));
        for (int v : NO_VOICES) {
            refused("drop: voice " + v, UNKNOWN, x -> x.drop(v, 0));
        }
        for (int bar : NO_BARS) {
            refused("drop: bar " + bar, UNKNOWN, x -> x.drop(0, bar));
        }
    }

    private static void mark() {
        taken("mark: first bar", 6, x -> x.mark(0, 0, 1));
        taken("mark: last bar", NONE, x -> x.mark(BARS - 1, 0, 1));
        for (int bar : NO_BARS) {
            refused("mark: bar " + bar, UNKNOWN, x -> x.mark(bar, 0, 0));
            refused("mark: bar before kind " + bar, UNKNOWN, x -> x.mark(bar, 5, 0));
            refused("mark: bar before value " + bar, UNKNOWN, x -> x.mark(bar, 0, 8));
        }
        for (int kind : new int[] {LEAST, -1, 5, MOST}) {
            refused("mark: kind " + kind, OUTSIDE, x -> x.mark(0, kind, 0));
        }
        taken("mark: least key", 6, x -> x.mark(0, 0, -7));
        taken("mark: most key", 6, x -> x.mark(0, 0, 7));
        for (int key : new int[] {LEAST, NONE, -8, 8, 999, MOST}) {
            refused("mark: key " + key, OUTSIDE, x -> x.mark(0, 0, key));
            refused("mark: key where there is none " + key, OUTSIDE, x -> x.mark(1, 0, key));
        }
        for (int k = 1; k <= 4; k++) {
            int kind = k;
            taken("mark: least value of kind " + kind, NONE, x -> x.mark(1, kind, 0));
            taken("mark: most value of kind " + kind, NONE, x -> x.mark(1, kind, 999));
            for (int value : new int[] {LEAST, NONE, -7, -1, 1000, MOST}) {
                refused("mark: kind " + kind + " value " + value, OUTSIDE, x -> x.mark(1, kind, value));
            }
        }
        refused("mark: in place of a tempo", OUTSIDE, x -> x.mark(2, 1, 1000));
        refused("mark: in place of a word", OUTSIDE, x -> x.mark(5, 4, -1));
    }

    private static void unmark() {
        taken("unmark: first kind", 6, x -> x.unmark(0, 0));
        taken("unmark: last kind", 7, x -> x.unmark(5, 4));
        taken("unmark: first bar, none there", NONE, x -> x.unmark(0, 4));
        taken("unmark: last bar, none there", NONE, x -> x.unmark(BARS - 1, 0));
        for (int bar : NO_BARS) {
            refused("unmark: bar " + bar, UNKNOWN, x -> x.unmark(bar, 0));
            refused("unmark: bar before kind " + bar, UNKNOWN, x -> x.unmark(bar, -1));
        }
        for (int kind : new int[] {LEAST, -1, 5, MOST}) {
            refused("unmark: kind " + kind, OUTSIDE, x -> x.unmark(0, kind));
            refused("unmark: kind beside a word " + kind, OUTSIDE, x -> x.unmark(5, kind));
        }
    }

    private static void instrument() {
        for (int fifths : new int[] {-6, 6}) {
            for (int octaves : new int[] {-2, 2}) {
                taken("instrument " + fifths + " " + octaves, 1, x -> x.instrument(0, fifths, octaves));
                taken("instrument of the last voice", 1, x -> x.instrument(VOICES - 1, fifths, octaves));
            }
        }
        for (int v : NO_VOICES) {
            refused("instrument: voice " + v, UNKNOWN, x -> x.instrument(v, 0, 0));
            refused("instrument: voice before fifths " + v, UNKNOWN, x -> x.instrument(v, 7, 0));
            refused("instrument: voice before octaves " + v, UNKNOWN, x -> x.instrument(v, 0, 3));
        }
        // The other number is one that would show.
        for (int fifths : new int[] {LEAST, -7, 7, MOST}) {
            refused("instrument: fifths " + fifths, OUTSIDE, x -> x.instrument(0, fifths, 2));
        }
        for (int octaves : new int[] {LEAST, -3, 3, MOST}) {
            refused("instrument: octaves " + octaves, OUTSIDE, x -> x.instrument(0, 5, octaves));
        }
    }

    private static void cueing() {
        taken("cueing: least", 3, x -> x.cueing(1));
        taken("cueing: most", 3, x -> x.cueing(40));
        for (int bars : new int[] {LEAST, -1, 0, 41, MOST}) {
            refused("cueing " + bars, OUTSIDE, x -> x.cueing(bars));
        }
    }

    // ---- parts

    private static void extract() {
        taken("extract: the first voice", ROWS, x -> x.extract(0));
        taken("extract: the last voice", 4, x -> x.extract(VOICES - 1));
        for (int v : NO_VOICES) {
            refused("extract: voice " + v, UNKNOWN, x -> x.extract(v));
        }
    }

    private static void row() {
        taken("row: first", 0, x -> x.row(0, 0, 0));
        taken("row: last", BARS - 1, x -> x.row(0, ROWS - 1, 1));
        taken("row: the last figure", NONE, x -> x.row(0, 0, 6));
        for (int v : NOT_MADE) {
            refused("row: voice " + v, UNKNOWN, x -> x.row(v, 0, 0));
            refused("row: part before what " + v, UNKNOWN, x -> x.row(v, 0, 7));
        }
        for (int i : new int[] {LEAST, -1, ROWS, 40, MOST}) {
            refused("row " + i, UNKNOWN, x -> x.row(0, i, 0));
            refused("row: row before what " + i, UNKNOWN, x -> x.row(0, i, -1));
        }
        for (int what : new int[] {LEAST, -1, 7, MOST}) {
            refused("row: what " + what, OUTSIDE, x -> x.row(0, 0, what));
        }
    }

    private static void written() {
        taken("written: the first note", 0, x -> x.written(0, 0, 0, 0));
        taken("written: the second note", 36, x -> x.written(0, 0, 1, 1));
        taken("written: the eighth note", 42, x -> x.written(0, ROWS - 1, 7, 0));
        taken("written: the last figure", 2 - 12 + 4, x -> x.written(0, 0, 1, 3));
        for (int v : NOT_MADE) {
            refused("written: voice " + v, UNKNOWN, x -> x.written(v, 0, 0, 0));
            refused("written: part before what " + v, UNKNOWN, x -> x.written(v, 0, 0, 4));
        }
        for (int i : new int[] {LEAST, -1, ROWS, 40, MOST}) {
            refused("written: row " + i, UNKNOWN, x -> x.written(0, i, 0, 0));
            refused("written: row before what " + i, UNKNOWN, x -> x.written(0, i, 0, -1));
        }
        for (int k : new int[] {LEAST, -1, 2, 8, MOST}) {
            refused("written: note " + k, UNKNOWN, x -> x.written(0, 0, k, 0));
            refused("written: note before what " + k, UNKNOWN, x -> x.written(0, 0, k, 4));
        }
        refused("written: a ninth note", UNKNOWN, x -> x.written(0, ROWS - 1, 8, 0));
        refused("written: a rest's first note", UNKNOWN, x -> x.written(0, 1, 0, 0));
        for (int what : new int[] {LEAST, -1, 4, MOST}) {
            refused("written: what " + what, OUTSIDE, x -> x.written(0, 0, 0, what));
        }
    }

    private static void unlikeAndRenew() {
        // BAR 4 has got a LETTER; it is on the first PAGE.
        taken("unlike: of a part", 4, x -> x.unlike(0));
        taken("renew: of a part", 0, x -> x.renew(0));
        for (int v : NOT_MADE) {
            refused("unlike: voice " + v, UNKNOWN, x -> x.unlike(v));
            refused("renew: voice " + v, UNKNOWN, x -> x.renew(v));
        }
    }

    private static void tacet() {
        taken("tacet: the first voice", 0, x -> x.tacet(0));
        taken("tacet: the last voice", 0, x -> x.tacet(VOICES - 1));
        for (int v : NO_VOICES) {
            refused("tacet: voice " + v, UNKNOWN, x -> x.tacet(v));
        }
    }

    // ---- pages

    private static void lay() {
        for (int wide : new int[] {8, 60}) {
            for (int high : new int[] {1, 12}) {
                PartPages x = busy();
                int all = x.lay(wide, high);
                due("lay " + wide + " " + high, x.pages(0) + x.pages(1), all);
            }
        }
        // The other number is one that would show.
        for (int wide : new int[] {LEAST, -1, 0, 7, 61, MOST}) {
            refused("lay: wide " + wide, OUTSIDE, x -> x.lay(wide, 1));
        }
        for (int high : new int[] {LEAST, -1, 0, 13, MOST}) {
            refused("lay: high " + high, OUTSIDE, x -> x.lay(9, high));
        }
    }

    private static void pages() {
        taken("pages: of a part", 2, x -> x.pages(0));
        for (int v : NOT_MADE) {
            refused("pages: voice " + v, UNKNOWN, x -> x.pages(v));
        }
    }

    private static void page() {
        taken("page: first", 0, x -> x.page(0, 0, 0));
        taken("page: last", 2, x -> x.page(0, 1, 4));
        for (int v : NOT_MADE) {
            refused("page: voice " + v, UNKNOWN, x -> x.page(v, 0, 0));
            refused("page: part before what " + v, UNKNOWN, x -> x.page(v, 0, 5));
        }
        for (int p : new int[] {LEAST, -1, 2, 40, MOST}) {
            refused("page " + p, UNKNOWN, x -> x.page(0, p, 0));
            refused("page: number in the book " + p, UNKNOWN, x -> x.page(0, p, 4));
            refused("page: page before what " + p, UNKNOWN, x -> x.page(0, p, -1));
        }
        for (int what : new int[] {LEAST, -1, 5, MOST}) {
            refused("page: what " + what, OUTSIDE, x -> x.page(0, 0, what));
        }
    }

    // ---- two voices

    private static void condensed() {
        taken("condensed: the first bar", 5, x -> x.condensed(0, VOICES - 1, 0));
        taken("condensed: the last bar", 4, x -> x.condensed(VOICES - 1, 0, BARS - 1));
        for (int v : NO_VOICES) {
            refused("condensed: voice " + v, UNKNOWN, x -> x.condensed(v, 0, 0));
            refused("condensed: other " + v, UNKNOWN, x -> x.condensed(0, v, 0));
            refused("condensed: unknown before state " + v, UNKNOWN, x -> x.condensed(v, v, 0));
        }
        for (int bar : NO_BARS) {
            refused("condensed: bar " + bar, UNKNOWN, x -> x.condensed(0, 1, bar));
            refused("condensed: bar before state " + bar, UNKNOWN, x -> x.condensed(1, 1, bar));
        }
        for (int v = 0; v < VOICES; v++) {
            int one = v;
            refused("condensed: one " + one, STATE, x -> x.condensed(one, one, 0));
            refused("condensed: one, in the last bar " + one, STATE, x -> x.condensed(one, one, BARS - 1));
        }
    }

    private static void together() {
        taken("together", 6, x -> x.together(0, VOICES - 1));
        for (int v : NO_VOICES) {
            refused("together: voice " + v, UNKNOWN, x -> x.together(v, 0));
            refused("together: other " + v, UNKNOWN, x -> x.together(0, v));
            refused("together: unknown before state " + v, UNKNOWN, x -> x.together(v, v));
        }
        for (int v = 0; v < VOICES; v++) {
            int one = v;
            refused("together: one " + one, STATE, x -> x.together(one, one));
        }
    }

    private static void count() {
        taken("count: first", VOICES, x -> x.count(0));
        taken("count: last", 4, x -> x.count(5));
        for (int what : new int[] {LEAST, -1, 6, MOST}) {
            refused("count " + what, OUTSIDE, x -> x.count(what));
        }
    }

    /** "No VOICES, no BARS, no MARKS, no PARTS": whatever needs one of them does not know it. */
    private static void newObjectRefuses() {
        List<ToIntFunction<PartPages>> calls = new ArrayList<>();
        calls.add(x -> x.note(0, 0, 0, 1, 60, 0));
        calls.add(x -> x.drop(0, 0));
        calls.add(x -> x.mark(0, 0, 0));
        calls.add(x -> x.unmark(0, 0));
        calls.add(x -> x.instrument(0, 0, 0));
        calls.add(x -> x.extract(0));
        calls.add(x -> x.row(0, 0, 0));
        calls.add(x -> x.written(0, 0, 0, 0));
        calls.add(x -> x.unlike(0));
        calls.add(x -> x.renew(0));
        calls.add(x -> x.tacet(0));
        calls.add(x -> x.pages(0));
        calls.add(x -> x.page(0, 0, 0));
        calls.add(x -> x.condensed(0, 1, 0));
        calls.add(x -> x.together(0, 1));
        for (int k = 0; k < calls.size(); k++) {
            PartPages x = new PartPages();
            due("a new object: call " + k, UNKNOWN, calls.get(k).applyAsInt(x));
            for (int what = 0; what <= 5; what++) {
                due("a new object: count " + what + " behind call " + k, 0, x.count(what));
            }
        }
        due("a new object: one voice that is unknown", UNKNOWN, new PartPages().condensed(0, 0, 0));
        due("a new object: one voice that is unknown", UNKNOWN, new PartPages().together(0, 0));
    }
}
