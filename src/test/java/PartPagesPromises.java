// Each promise of the document: ordinary inputs, the edges that it names, and wrong inputs.
public final class PartPagesPromises {
    private static final int NONE = PartPages.NONE;
    private static final int UNKNOWN = PartPages.UNKNOWN;
    private static final int OUTSIDE = PartPages.OUTSIDE;
    private static final int STATE = PartPages.STATE;
    private static final int ROOM = PartPages.ROOM;
    private static final int LEAST = Integer.MIN_VALUE;
    private static final int MOST = Integer.MAX_VALUE;

    private static int wrong = 0;

    public static void main(String[] args) {
        newObject();
        voice();
        bars();
        note();
        noteOrder();
        drop();
        mark();
        unmark();
        instrumentRefusals();
        instrumentPitch();
        instrumentKeyAndSpelling();
        cueing();
        cueSource();
        extractRests();
        extractTacet();
        row();
        rowWidths();
        written();
        unlike();
        renew();
        tacet();
        systems();
        turns();
        pagesAndBook();
        layRefusals();
        page();
        condensed();
        together();
        count();
        System.out.println(wrong == 0 ? "all promises hold" : wrong + " answers are not as due");
        if (wrong != 0) {
            System.exit(1);
        }
    }

    private static void due(String what, int want, int got) {
        if (got != want) {
            wrong++;
            System.out.println(what + ": answered " + got + ", due is " + want);
        }
    }

    /** The C of a BAR, a whole BAR long. */
    private static void c(PartPages x, int voice, int... inBars) {
        for (int bar : inBars) {
            due("note in bar " + bar, 1, x.note(voice, bar, 0, 48, 60, 0));
        }
    }

    /** NOTES at as many unlike STARTS as told. */
    private static void starts(PartPages x, int voice, int bar, int many) {
        for (int k = 0; k < many; k++) {
            due("start " + k, k + 1, x.note(voice, bar, 6 * k, 6, 60, 0));
        }
    }

    private static PartPages scoreOf(int voices, int bars) {
        PartPages x = new PartPages();
        for (int v = 0; v < voices; v++) {
            due("voice", v, x.voice());
        }
        due("bars", 0, x.bars(bars));
        return x;
    }

    /** What all figures of a ROW are due to be. */
    private static void rowIs(String name, PartPages x, int voice, int i, int... figures) {
        for (int what = 0; what < figures.length; what++) {
            due(name + ": row " + i + " figure " + what, figures[what], x.row(voice, i, what));
        }
    }

    private static void noteIs(String name, PartPages x, int voice, int i, int k, int... figures) {
        for (int what = 0; what < figures.length; what++) {
            due(name + ": row " + i + " note " + k + " figure " + what, figures[what], x.written(voice, i, k, what));
        }
    }

    private static void pageIs(String name, PartPages x, int voice, int p, int... figures) {
        for (int what = 0; what < figures.length; what++) {
            due(name + ": page " + p + " figure " + what, figures[what], x.page(voice, p, what));
        }
    }

    // promise 1

    private static void newObject() {
        PartPages x = new PartPages();
        for (int what = 0; what <= 5; what++) {
            due("new: count " + what, 0, x.count(what));
        }
        due("new: cueing", 8, x.cueing(8));
        due("new: lay", 0, x.lay(24, 4));
        due("new: no voice", UNKNOWN, x.tacet(0));
        due("new: no bar", UNKNOWN, x.mark(0, 0, 0));
        due("new: no part", UNKNOWN, x.pages(0));

        PartPages wide = scoreOf(1, 12);
        c(wide, 0, 0, 1, 2, 3, 4, 5, 6, 7, 8, 9, 10, 11);
        due("new: rows", 12, wide.extract(0));
        due("new: wide is 24", 1, wide.pages(0));
        due("new: one system of width 24", 1, wide.page(0, 0, 2));
        wide.mark(0, 1, 0);
        wide.extract(0);
        due("new: width 25 is two systems", 2, wide.page(0, 0, 2));

        PartPages high = scoreOf(1, 20);
        for (int bar = 0; bar < 20; bar++) {
            starts(high, 0, bar, 5);
        }
        due("new: rows of width 6", 20, high.extract(0));
        due("new: high is 4", 2, high.pages(0));
        due("new: 4 systems on the first page", 4, high.page(0, 0, 2));
    }

    // promise 2

    private static void voice() {
        PartPages x = new PartPages();
        for (int v = 0; v < 6; v++) {
            due("voice", v, x.voice());
            due("voice: new one is silent", 1, x.tacet(v));
        }
        due("voice: a seventh", ROOM, x.voice());
        due("voice: still six", 6, x.count(0));
        due("voice: no seventh", UNKNOWN, x.tacet(6));
    }

    // promise 3

    private static void bars() {
        PartPages x = scoreOf(2, 40);
        due("bars: 41", OUTSIDE, x.bars(41));
        due("bars: -1", OUTSIDE, x.bars(-1));
        due("bars: least", OUTSIDE, x.bars(LEAST));
        due("bars: most", OUTSIDE, x.bars(MOST));
        due("bars: refused ones change nothing", 40, x.count(1));
        c(x, 0, 4, 5, 39);
        c(x, 1, 5);
        x.mark(4, 0, 3);
        x.mark(5, 1, 9);
        x.mark(39, 4, 9);
        due("bars: fewer", 40, x.bars(5));
        due("bars: notes left", 1, x.count(2));
        due("bars: marks left", 1, x.count(5));
        due("bars: bar 5 is gone", UNKNOWN, x.drop(0, 5));
        due("bars: more again", 5, x.bars(40));
        due("bars: new ones are empty", 0, x.drop(0, 5));
        due("bars: new ones have no marks", NONE, x.unmark(5, 1));
        due("bars: old ones have theirs", 3, x.unmark(4, 0));
        due("bars: old ones have notes", 1, x.drop(0, 4));
        for (int kind = 0; kind <= 4; kind++) {
            x.mark(0, kind, 1);
            x.mark(39, kind, 1);
        }
        due("bars: marks in the first and the last", 10, x.count(5));
        due("bars: to none", 40, x.bars(0));
        due("bars: all marks are gone", 0, x.count(5));
        due("bars: from none", 0, x.bars(40));
        due("bars: none comes back", 0, x.count(5));
    }

    // promise 4

    private static void note() {
        PartPages x = scoreOf(1, 2);
        due("note: voice -1", UNKNOWN, x.note(-1, 0, 0, 1, 60, 0));
        due("note: voice 1", UNKNOWN, x.note(1, 0, 0, 1, 60, 0));
        due("note: bar -1", UNKNOWN, x.note(0, -1, 0, 1, 60, 0));
        due("note: bar 2, unknown before outside", UNKNOWN, x.note(0, 2, -1, 1, 60, 0));
        due("note: start -1", OUTSIDE, x.note(0, 0, -1, 1, 60, 0));
        due("note: start 48", OUTSIDE, x.note(0, 0, 48, 1, 60, 0));
        due("note: start least", OUTSIDE, x.note(0, 0, LEAST, MOST, 60, 0));
        due("note: length 0", OUTSIDE, x.note(0, 0, 0, 0, 60, 0));
        due("note: length 49", OUTSIDE, x.note(0, 0, 0, 49, 60, 0));
        due("note: beyond the bar", OUTSIDE, x.note(0, 0, 47, 2, 60, 0));
        due("note: pitch -1", OUTSIDE, x.note(0, 0, 0, 1, -1, 5));
        due("note: pitch 128", OUTSIDE, x.note(0, 0, 0, 1, 128, 8));
        due("note: spelling -16", OUTSIDE, x.note(0, 0, 0, 1, 68, -16));
        due("note: spelling 20", OUTSIDE, x.note(0, 0, 0, 1, 68, 20));
        due("note: spelling of another pitch", OUTSIDE, x.note(0, 0, 0, 1, 60, 1));
        due("note: none came", 0, x.count(2));
        due("note: least spelling", 1, x.note(0, 0, 0, 48, 63, -15));
        due("note: most spelling", 2, x.note(0, 0, 47, 1, 61, 19));
        due("note: least pitch", 3, x.note(0, 0, 0, 1, 0, -12));
        due("note: most pitch", 4, x.note(0, 0, 0, 1, 127, 1));
        due("note: same start and pitch", STATE, x.note(0, 0, 0, 7, 127, 13));
        due("note: outside before state", OUTSIDE, x.note(0, 0, 0, 49, 127, 1));
        due("note: same pitch elsewhere", 5, x.note(0, 0, 1, 7, 127, 13));
        due("note: 6", 6, x.note(0, 0, 2, 1, 60, 0));
        due("note: 7", 7, x.note(0, 0, 3, 1, 60, 0));
        due("note: 8", 8, x.note(0, 0, 4, 1, 60, 0));
        due("note: 9", ROOM, x.note(0, 0, 5, 1, 60, 0));
        due("note: state before room", STATE, x.note(0, 0, 4, 1, 60, 0));
        due("note: state of the first one", STATE, x.note(0, 0, 0, 1, 0, 0));
        due("note: outside before room", OUTSIDE, x.note(0, 0, 5, 1, 60, 1));
        due("note: room is by bars", 1, x.note(0, 1, 5, 1, 60, 0));
        due("note: all", 9, x.count(2));
    }

    private static void noteOrder() {
        PartPages x = scoreOf(1, 1);
        x.note(0, 0, 24, 3, 60, 0);
        x.note(0, 0, 0, 4, 67, 1);
        x.note(0, 0, 24, 5, 48, 0);
        x.note(0, 0, 0, 6, 62, 2);
        x.note(0, 0, 12, 7, 0, 0);
        x.extract(0);
        noteIs("order", x, 0, 0, 0, 0, 6, 62, 2);
        noteIs("order", x, 0, 0, 1, 0, 4, 67, 1);
        noteIs("order", x, 0, 0, 2, 12, 7, 0, 0);
        noteIs("order", x, 0, 0, 3, 24, 5, 48, 0);
        noteIs("order", x, 0, 0, 4, 24, 3, 60, 0);
        x.drop(0, 0);
        x.note(0, 0, 0, 1, 61, 19);
        x.note(0, 0, 1, 1, 63, -15);
        x.extract(0);
        noteIs("most spelling stays", x, 0, 0, 0, 0, 1, 61, 19);
        noteIs("least spelling stays", x, 0, 0, 1, 1, 1, 63, -15);
    }

    // promise 5

    private static void drop() {
        PartPages x = scoreOf(2, 2);
        starts(x, 0, 0, 3);
        c(x, 0, 1);
        c(x, 1, 0);
        due("drop: voice 2", UNKNOWN, x.drop(2, 0));
        due("drop: voice -1", UNKNOWN, x.drop(-1, 0));
        due("drop: bar 2", UNKNOWN, x.drop(0, 2));
        due("drop: bar -1", UNKNOWN, x.drop(0, -1));
        due("drop: bar most", UNKNOWN, x.drop(0, MOST));
        due("drop: three", 3, x.drop(0, 0));
        due("drop: none is left", 0, x.drop(0, 0));
        due("drop: others stay", 2, x.count(2));
        due("drop: the bar takes notes again", 1, x.note(0, 0, 0, 6, 60, 0));
    }

    // promise 6

    private static void mark() {
        PartPages x = scoreOf(0, 2);
        due("mark: bar 2, unknown before outside", UNKNOWN, x.mark(2, 5, 0));
        due("mark: bar -1", UNKNOWN, x.mark(-1, 0, 0));
        due("mark: kind -1", OUTSIDE, x.mark(0, -1, 0));
        due("mark: kind 5", OUTSIDE, x.mark(0, 5, 0));
        due("mark: key -8", OUTSIDE, x.mark(0, 0, -8));
        due("mark: key 8", OUTSIDE, x.mark(0, 0, 8));
        for (int kind = 1; kind <= 4; kind++) {
            due("mark: value -1", OUTSIDE, x.mark(0, kind, -1));
            due("mark: value 1000", OUTSIDE, x.mark(0, kind, 1000));
        }
        due("mark: none came", 0, x.count(5));
        due("mark: least key", NONE, x.mark(0, 0, -7));
        due("mark: most key", -7, x.mark(0, 0, 7));
        due("mark: key was 7", 7, x.mark(0, 0, 0));
        for (int kind = 1; kind <= 4; kind++) {
            due("mark: least value", NONE, x.mark(0, kind, 0));
            due("mark: most value", 0, x.mark(0, kind, 999));
            due("mark: value was 999", 999, x.mark(0, kind, kind));
        }
        due("mark: another bar", NONE, x.mark(1, 0, 0));
        due("mark: six", 6, x.count(5));
    }

    // promise 7

    private static void unmark() {
        PartPages x = scoreOf(0, 1);
        x.mark(0, 0, -3);
        x.mark(0, 4, 17);
        due("unmark: bar 1, unknown before outside", UNKNOWN, x.unmark(1, 9));
        due("unmark: bar -1", UNKNOWN, x.unmark(-1, 0));
        due("unmark: kind -1", OUTSIDE, x.unmark(0, -1));
        due("unmark: kind 5", OUTSIDE, x.unmark(0, 5));
        due("unmark: none of this kind", NONE, x.unmark(0, 3));
        due("unmark: key", -3, x.unmark(0, 0));
        due("unmark: key is gone", NONE, x.unmark(0, 0));
        due("unmark: word stays", 1, x.count(5));
        due("unmark: word", 17, x.unmark(0, 4));
    }

    // promise 8

    private static void instrumentRefusals() {
        PartPages x = scoreOf(1, 1);
        c(x, 0, 0);
        due("instrument: voice 1, unknown before outside", UNKNOWN, x.instrument(1, 7, 0));
        due("instrument: voice -1", UNKNOWN, x.instrument(-1, 0, 0));
        due("instrument: fifths -7", OUTSIDE, x.instrument(0, -7, 0));
        due("instrument: fifths 7", OUTSIDE, x.instrument(0, 7, 0));
        due("instrument: octaves -3", OUTSIDE, x.instrument(0, 1, -3));
        due("instrument: octaves 3", OUTSIDE, x.instrument(0, 1, 3));
        x.extract(0);
        noteIs("instrument: none is as it is", x, 0, 0, 0, 0, 48, 60, 0);
        due("instrument", 1, x.instrument(0, 6, 2));
        noteIs("instrument: a part stays as it was", x, 0, 0, 0, 0, 48, 60, 0);
    }

    private static void instrumentPitch() {
        int[] up = {6, 1, -4, 3, -2, 5, 0, -5, 2, -3, 4, -1, 6};
        PartPages x = scoreOf(1, 1);
        x.note(0, 0, 0, 48, 0, 0);
        for (int fifths = -6; fifths <= 6; fifths++) {
            for (int octaves = -2; octaves <= 2; octaves++) {
                due("instrument", 1, x.instrument(0, fifths, octaves));
                x.extract(0);
                noteIs("fifths " + fifths + " octaves " + octaves, x, 0, 0, 0,
                        0, 48, up[fifths + 6] + 12 * octaves, fifths);
            }
        }
    }

    private static void instrumentKeyAndSpelling() {
        PartPages x = scoreOf(1, 4);
        x.note(0, 0, 0, 48, 61, 19);
        x.note(0, 1, 0, 48, 63, -15);
        x.note(0, 2, 0, 48, 61, 19);
        x.note(0, 3, 0, 48, 63, -15);
        x.mark(0, 0, 7);
        x.mark(2, 0, -7);
        x.instrument(0, 1, 0);
        x.extract(0);
        // KEY 7 + 1 is 8, made - 4; SPELLINGS go 12 less with it.
        due("key 8", -4, x.row(0, 0, 4));
        due("key goes on", -4, x.row(0, 1, 4));
        due("spelling 19 + 1 - 12", 8, x.written(0, 0, 0, 3));
        due("spelling -15 + 1 - 12 + 12", -14, x.written(0, 1, 0, 3));
        due("key -6", -6, x.row(0, 2, 4));
        due("spelling 19 + 1 by 12 less", 8, x.written(0, 2, 0, 3));
        due("spelling -15 + 1", -14, x.written(0, 3, 0, 3));
        x.instrument(0, -6, 0);
        x.extract(0);
        due("key 1", 1, x.row(0, 0, 4));
        due("spelling 19 - 6", 13, x.written(0, 0, 0, 3));
        due("spelling -15 - 6 + 12", -9, x.written(0, 1, 0, 3));
        due("key -13 made -1", -1, x.row(0, 2, 4));
        due("spelling 19 - 6 + 12 - 12", 13, x.written(0, 2, 0, 3));
        due("spelling -15 - 6 + 12", -9, x.written(0, 3, 0, 3));
        x.mark(2, 0, -1);
        x.extract(0);
        due("key -7 stays", -7, x.row(0, 2, 4));
        x.mark(0, 0, 1);
        x.instrument(0, 6, 0);
        x.extract(0);
        due("key 7 stays", 7, x.row(0, 0, 4));
        x.unmark(0, 0);
        x.extract(0);
        due("key without marks is 0", 6, x.row(0, 1, 4));
        // The KEY goes 12 more, and the SPELLING with it, then back within its numbers.
        x.mark(0, 0, -7);
        x.instrument(0, -1, 0);
        x.drop(0, 0);
        x.note(0, 0, 0, 48, 61, 19);
        x.extract(0);
        due("key -8 made 4", 4, x.row(0, 0, 4));
        due("spelling 19 - 1 + 12 - 12", 18, x.written(0, 0, 0, 3));
    }

    // promise 9

    private static void cueing() {
        PartPages x = scoreOf(2, 9);
        due("cueing: 0", OUTSIDE, x.cueing(0));
        due("cueing: 41", OUTSIDE, x.cueing(41));
        due("cueing: least", OUTSIDE, x.cueing(LEAST));
        c(x, 0, 8);
        c(x, 1, 7);
        due("cueing: 8 bars up to the entry", 3, x.extract(0));
        rowIs("cueing", x, 0, 0, 1, 0, 7, 2, 0, 0, NONE);
        rowIs("cueing", x, 0, 1, 2, 7, 1, 2, 0, 1, 1);
        rowIs("cueing", x, 0, 2, 0, 8, 1, 2, 0, 1, NONE);
        due("cueing: was 8", 8, x.cueing(9));
        due("cueing: one too few", 2, x.extract(0));
        rowIs("cueing", x, 0, 0, 1, 0, 8, 2, 0, 0, NONE);
        due("cueing: was 9", 9, x.cueing(40));
        due("cueing: was 40", 40, x.cueing(1));
        due("cueing: from 1 on", 3, x.extract(0));
        x.drop(0, 8);
        c(x, 0, 0);
        due("cueing: none without an entry behind", 2, x.extract(0));
        c(x, 0, 6);
        c(x, 0, 8);
        due("cueing: a single bar", 5, x.extract(0));
        rowIs("cueing: a single bar", x, 0, 3, 2, 7, 1, 2, 0, 1, 1);
        x.drop(1, 7);
        x.extract(0);
        due("cueing: none when all are empty", 1, x.row(0, 3, 0));
        x.bars(40);
        c(x, 1, 39);
        x.extract(0);
        rowIs("cueing: none in the last bar of all", x, 0, 5, 1, 9, 31, 2, 0, 0, NONE);
    }

    private static void cueSource() {
        PartPages x = scoreOf(4, 3);
        x.cueing(2);
        c(x, 1, 2);
        c(x, 0, 1);
        starts(x, 2, 1, 3);
        x.note(3, 1, 0, 6, 60, 0);
        x.note(3, 1, 0, 6, 64, 4);
        x.note(3, 1, 0, 6, 67, 1);
        x.instrument(1, 2, 0);
        x.instrument(2, -3, 1);
        x.mark(1, 2, 5);
        due("cue: rows", 3, x.extract(1));
        // Of VOICES 2 and 3, with 3 NOTES each, it is the lesser; WRITTEN for VOICE 1.
        rowIs("cue", x, 1, 1, 2, 1, 1, 4, 2, 3, 2);
        noteIs("cue", x, 1, 1, 0, 0, 6, 62, 2);
        noteIs("cue", x, 1, 1, 2, 12, 6, 62, 2);
        x.drop(2, 1);
        x.extract(1);
        rowIs("cue: a chord is one start", x, 1, 1, 2, 1, 1, 3, 2, 3, 3);
        x.drop(3, 1);
        x.extract(1);
        rowIs("cue: from voice 0", x, 1, 1, 2, 1, 1, 3, 2, 1, 0);
    }

    // promise 10

    private static void extractRests() {
        PartPages x = scoreOf(1, 12);
        c(x, 0, 0, 1, 5);
        x.mark(1, 1, 1);
        x.mark(3, 4, 1);
        for (int kind = 0; kind <= 3; kind++) {
            x.mark(7 + kind, kind, 1);
        }
        due("extract: voice 1", UNKNOWN, x.extract(1));
        due("extract: voice -1", UNKNOWN, x.extract(-1));
        due("extract", 9, x.extract(0));
        rowIs("extract", x, 0, 0, 0, 0, 1, 2, 0, 1, NONE);
        rowIs("extract", x, 0, 1, 0, 1, 1, 3, 0, 1, NONE);
        rowIs("extract: words do not part rests", x, 0, 2, 1, 2, 3, 2, 0, 0, NONE);
        rowIs("extract", x, 0, 3, 0, 5, 1, 2, 0, 1, NONE);
        rowIs("extract", x, 0, 4, 1, 6, 1, 2, 0, 0, NONE);
        rowIs("extract: key", x, 0, 5, 1, 7, 1, 3, 1, 0, NONE);
        rowIs("extract: tempo", x, 0, 6, 1, 8, 1, 3, 1, 0, NONE);
        rowIs("extract: letter", x, 0, 7, 1, 9, 1, 3, 1, 0, NONE);
        rowIs("extract: line", x, 0, 8, 1, 10, 2, 3, 1, 0, NONE);
        for (int bar = 0; bar < 12; bar++) {
            x.drop(0, bar);
        }
        for (int bar = 0; bar < 12; bar++) {
            c(x, 0, bar);
        }
        due("extract: a row a bar", 12, x.extract(0));
        x.bars(40);
        for (int bar = 12; bar < 40; bar++) {
            c(x, 0, bar);
        }
        due("extract: 40 rows", 40, x.extract(0));
        due("extract: it is one part", 1, x.count(3));
    }

    private static void extractTacet() {
        PartPages x = scoreOf(2, 0);
        due("tacet: no bars, no row", 0, x.extract(0));
        due("tacet: but a part", 1, x.count(3));
        due("tacet: no row 0", UNKNOWN, x.row(0, 0, 0));
        x.bars(40);
        c(x, 1, 3);
        x.mark(20, 1, 60);
        due("tacet: one row", 1, x.extract(0));
        rowIs("tacet", x, 0, 0, 3, 0, 40, 4, 0, 0, NONE);
        x.mark(0, 0, 2);
        x.instrument(0, 6, 0);
        x.extract(0);
        rowIs("tacet", x, 0, 0, 3, 0, 40, 5, -4, 0, NONE);
        due("tacet: no notes", UNKNOWN, x.written(0, 0, 0, 0));
    }

    // promise 11

    private static void row() {
        PartPages x = scoreOf(2, 3);
        c(x, 0, 1);
        due("row: no part yet", UNKNOWN, x.row(0, 0, 0));
        x.extract(0);
        due("row: voice 2", UNKNOWN, x.row(2, 0, 0));
        due("row: voice -1", UNKNOWN, x.row(-1, 0, 0));
        due("row: voice 1 has no part", UNKNOWN, x.row(1, 0, 9));
        due("row: row 3", UNKNOWN, x.row(0, 3, 0));
        due("row: row -1, unknown before outside", UNKNOWN, x.row(0, -1, 7));
        due("row: what -1", OUTSIDE, x.row(0, 0, -1));
        due("row: what 7", OUTSIDE, x.row(0, 0, 7));
        // It stays, whatever becomes of THE SCORE.
        x.bars(0);
        x.instrument(0, 3, 0);
        rowIs("row: stays", x, 0, 0, 1, 0, 1, 2, 0, 0, NONE);
        rowIs("row: stays", x, 0, 1, 0, 1, 1, 2, 0, 1, NONE);
        rowIs("row: stays", x, 0, 2, 1, 2, 1, 2, 0, 0, NONE);
        noteIs("row: stays", x, 0, 1, 0, 0, 48, 60, 0);
    }

    private static void rowWidths() {
        for (int many = 1; many <= 8; many++) {
            PartPages x = scoreOf(2, 2);
            x.cueing(1);
            starts(x, 0, 0, many);
            c(x, 1, 1);
            x.extract(0);
            due("width of notes", 1 + many, x.row(0, 0, 3));
            x.extract(1);
            due("sort of a cue", 2, x.row(1, 0, 0));
            due("width of a cue", 1 + (many + 1) / 2, x.row(1, 0, 3));
            x.mark(0, 4, 0);
            x.extract(0);
            due("width beside a word", 1 + many, x.row(0, 0, 3));
            x.mark(0, 3, 0);
            x.mark(0, 1, 0);
            x.extract(0);
            due("width of notes with marks", 2 + many, x.row(0, 0, 3));
        }
        PartPages x = scoreOf(1, 1);
        x.note(0, 0, 0, 6, 60, 0);
        x.note(0, 0, 0, 6, 64, 4);
        x.note(0, 0, 6, 6, 60, 0);
        x.extract(0);
        due("width of a chord and a note", 3, x.row(0, 0, 3));
    }

    // promise 12

    private static void written() {
        PartPages x = scoreOf(2, 2);
        x.note(0, 0, 0, 12, 0, 0);
        x.note(0, 0, 12, 6, 1, 7);
        x.instrument(0, 1, -2);
        due("written: no part yet", UNKNOWN, x.written(0, 0, 0, 0));
        x.extract(0);
        due("written: voice -1", UNKNOWN, x.written(-1, 0, 0, 0));
        due("written: voice 2", UNKNOWN, x.written(2, 0, 0, 0));
        due("written: row -1", UNKNOWN, x.written(0, -1, 0, 0));
        due("written: row 2", UNKNOWN, x.written(0, 2, 0, 0));
        due("written: a rest has none", UNKNOWN, x.written(0, 1, 0, 0));
        due("written: note -1", UNKNOWN, x.written(0, 0, -1, 0));
        due("written: note 2, unknown before outside", UNKNOWN, x.written(0, 0, 2, 4));
        due("written: what -1", OUTSIDE, x.written(0, 0, 0, -1));
        due("written: what 4", OUTSIDE, x.written(0, 0, 0, 4));
        noteIs("written: below 0", x, 0, 0, 0, 0, 12, -29, 1);
        noteIs("written", x, 0, 0, 1, 12, 6, -28, 8);
    }

    // promise 13

    private static void unlike() {
        PartPages x = scoreOf(2, 12);
        c(x, 0, 0, 10);
        due("unlike: no part", UNKNOWN, x.unlike(0));
        due("unlike: voice 2", UNKNOWN, x.unlike(2));
        due("unlike: voice -1", UNKNOWN, x.unlike(-1));
        due("unlike: rows", 4, x.extract(0));
        due("unlike: none", NONE, x.unlike(0));
        c(x, 1, 9);
        due("unlike: a cue comes", 1, x.unlike(0));
        x.drop(1, 9);
        due("unlike: none again", NONE, x.unlike(0));
        x.bars(11);
        due("unlike: the last is not there", 3, x.unlike(0));
        x.bars(13);
        due("unlike: the last is longer", 3, x.unlike(0));
        x.bars(12);
        c(x, 0, 11);
        due("unlike: the last is of notes", 3, x.unlike(0));
        x.drop(0, 11);
        x.mark(11, 4, 1);
        due("unlike: a word tells nothing", NONE, x.unlike(0));
        x.mark(10, 0, 0);
        due("unlike: width", 2, x.unlike(0));
        x.unmark(10, 0);
        x.instrument(0, 0, 1);
        due("unlike: pitch", 0, x.unlike(0));
        x.instrument(0, 0, 0);
        x.drop(0, 10);
        x.note(0, 10, 0, 48, 60, 12);
        due("unlike: spelling", 2, x.unlike(0));
        x.drop(0, 10);
        x.note(0, 10, 0, 47, 60, 0);
        due("unlike: length", 2, x.unlike(0));
        x.drop(0, 10);
        x.note(0, 10, 1, 47, 60, 0);
        due("unlike: start and length", 2, x.unlike(0));
        x.extract(0);
        x.drop(0, 10);
        x.note(0, 10, 0, 47, 60, 0);
        due("unlike: start", 2, x.unlike(0));
        due("unlike: the part stays", 4, x.page(0, 0, 1));
        x.extract(0);
        due("unlike: made anew", NONE, x.unlike(0));
        x.mark(0, 1, 1);
        x.extract(0);
        x.unmark(0, 1);
        x.mark(0, 0, 3);
        due("unlike: key alone", 0, x.unlike(0));
        PartPages empty = scoreOf(1, 0);
        empty.extract(0);
        due("unlike: no rows", NONE, empty.unlike(0));
        empty.bars(1);
        due("unlike: a row would be there", 0, empty.unlike(0));
    }

    // promise 14

    private static void renew() {
        PartPages x = scoreOf(2, 8);
        for (int bar = 0; bar < 8; bar++) {
            starts(x, 0, bar, 6);
        }
        due("renew: no part", UNKNOWN, x.renew(0));
        due("renew: voice 2", UNKNOWN, x.renew(2));
        due("renew: voice -1", UNKNOWN, x.renew(-1));
        x.extract(0);
        // One ROW a SYSTEM, two SYSTEMS a PAGE.
        due("renew: pages", 4, x.lay(8, 2));
        due("renew: all are as they were", 4, x.renew(0));
        x.drop(0, 5);
        starts(x, 0, 5, 6);
        due("renew: the same notes", 4, x.renew(0));
        x.note(0, 5, 40, 1, 62, 2);
        due("renew: the third is another", 2, x.renew(0));
        due("renew: it is made anew", 7, x.row(0, 5, 5));
        due("renew: now all", 4, x.renew(0));
        x.drop(0, 5);
        x.note(0, 5, 0, 48, 60, 0);
        x.extract(0);
        x.drop(0, 5);
        x.note(0, 5, 0, 48, 60, 12);
        due("renew: a spelling", 2, x.renew(0));
        x.drop(0, 5);
        starts(x, 0, 5, 6);
        x.extract(0);
        x.bars(7);
        due("renew: the last has a row less", 3, x.renew(0));
        x.bars(6);
        // The third PAGE did not turn well; as the last one it does.
        due("renew: the last is gone", 2, x.renew(0));
        x.bars(9);
        // A REST of 3 BARS behind: the third PAGE turns well still.
        due("renew: a page more", 3, x.renew(0));
        due("renew: it turns well", 1, x.page(0, 2, 3));
        x.bars(6);
        due("renew: a page less", 3, x.renew(0));
        x.bars(7);
        due("renew: a rest of 1 bar is no turn", 2, x.renew(0));
        x.bars(0);
        due("renew: tacet without bars", 0, x.renew(0));
        due("renew: no pages", 0, x.pages(0));
        due("renew: none of none", 0, x.renew(0));
        PartPages book = scoreOf(2, 1);
        book.extract(1);
        book.extract(0);
        due("renew: the number in the book tells nothing", 1, book.renew(1));
        turnAlone();
    }

    /** A PAGE of the same ROWS is another one if it turns otherwise. */
    private static void turnAlone() {
        PartPages x = scoreOf(1, 4);
        for (int bar = 0; bar < 2; bar++) {
            starts(x, 0, bar, 8);
        }
        x.extract(0);
        x.lay(8, 2);
        pageIs("turn: rest behind", x, 0, 0, 0, 2, 2, 1, 1);
        x.bars(3);
        due("turn: it turns no more, the second is shorter", 0, x.renew(0));
        pageIs("turn: no rest behind", x, 0, 0, 0, 2, 2, 0, 1);
    }

    // promise 15

    private static void tacet() {
        PartPages x = scoreOf(2, 40);
        due("tacet: voice 2", UNKNOWN, x.tacet(2));
        due("tacet: voice -1", UNKNOWN, x.tacet(-1));
        due("tacet: no notes", 1, x.tacet(0));
        c(x, 0, 39);
        due("tacet: a note", 0, x.tacet(0));
        due("tacet: of another", 1, x.tacet(1));
        x.extract(0);
        x.bars(39);
        due("tacet: by the score, not the part", 1, x.tacet(0));
    }

    // promises 16 to 18

    private static void systems() {
        PartPages x = scoreOf(1, 5);
        for (int bar = 0; bar < 5; bar++) {
            starts(x, 0, bar, 3);
        }
        x.extract(0);
        x.lay(8, 12);
        pageIs("systems: two of width 4 in 8", x, 0, 0, 0, 5, 3, 1, 1);
        x.lay(11, 12);
        due("systems: not three in 11", 3, x.page(0, 0, 2));
        x.lay(12, 12);
        due("systems: three in 12", 2, x.page(0, 0, 2));
        x.note(0, 1, 47, 1, 60, 0);
        starts18(x, 2);
        x.extract(0);
        x.lay(8, 12);
        // WIDTHS 4, 5, 10, 4, 4: each of the first three alone.
        due("systems: one that is wider", 10, x.row(0, 2, 3));
        due("systems: stands alone", 4, x.page(0, 0, 2));
        x.lay(8, 1);
        // BAR 2's SYSTEM is the third PAGE.
        pageIs("systems: alone", x, 0, 2, 2, 1, 1, 0, 3);
        pageIs("systems: behind", x, 0, 3, 3, 2, 1, 1, 4);
    }

    private static void starts18(PartPages x, int bar) {
        x.drop(0, bar);
        starts(x, 0, bar, 8);
        x.mark(bar, 2, 1);
    }

    /** A VOICE with a SYSTEM for each BAR of NOTES at WIDE 8: letters n for such, r for an empty BAR. */
    private static PartPages line(String bars) {
        PartPages x = scoreOf(1, bars.length());
        for (int bar = 0; bar < bars.length(); bar++) {
            if (bars.charAt(bar) == 'n') {
                starts(x, 0, bar, 7);
            }
        }
        x.extract(0);
        return x;
    }

    private static void turns() {
        // HIGH 4, a REST of 2 BARS as SYSTEM 4: the first behind.
        PartPages x = line("nnnnrrnnn");
        x.lay(8, 4);
        pageIs("turns by the first behind", x, 0, 0, 0, 4, 4, 1, 1);
        pageIs("turns: all that are left", x, 0, 1, 4, 4, 4, 1, 2);
        // as SYSTEM 3: the last ahead.
        x = line("nnnrrnnnn");
        x.lay(8, 4);
        pageIs("turns by the last ahead", x, 0, 0, 0, 4, 4, 1, 1);
        // as SYSTEM 2: behind 3 of them; the most that turn well.
        x = line("nnrrnnnnn");
        x.lay(8, 4);
        pageIs("turns by one less", x, 0, 0, 0, 3, 3, 1, 1);
        // as SYSTEM 1: behind 2 of them.
        x = line("nrrnnnnnn");
        x.lay(8, 4);
        pageIs("turns by two less", x, 0, 0, 0, 2, 2, 1, 1);
        // as SYSTEM 0: behind 1, which is three less.
        x = line("rrnnnnnnn");
        x.lay(8, 4);
        pageIs("does not turn by three less", x, 0, 0, 0, 4, 4, 0, 1);
        pageIs("all that are left", x, 0, 1, 4, 4, 4, 1, 2);
        due("two pages", 2, x.pages(0));
        // a REST of one BAR is too short.
        x = line("nnnnrnnn");
        x.lay(8, 4);
        pageIs("does not turn by one bar", x, 0, 0, 0, 4, 4, 0, 1);
        // HIGH 1 and 2 have no less than 1.
        x = line("nnrrn");
        due("high 1", 4, x.lay(8, 1));
        pageIs("high 1", x, 0, 0, 0, 1, 1, 0, 1);
        pageIs("high 1", x, 0, 1, 1, 1, 1, 1, 2);
        pageIs("high 1", x, 0, 2, 2, 1, 1, 1, 3);
        pageIs("high 1", x, 0, 3, 3, 1, 1, 1, 4);
        x = line("nrrnnnnn");
        x.lay(8, 2);
        pageIs("high 2", x, 0, 0, 0, 2, 2, 1, 1);
        pageIs("high 2", x, 0, 1, 2, 2, 2, 0, 2);
        x = line("rrnnnnnn");
        x.lay(8, 2);
        pageIs("high 2, one less", x, 0, 0, 0, 1, 1, 1, 1);
        // A REST amid a SYSTEM does not count.
        x = line("nnrr");
        x.drop(0, 0);
        x.drop(0, 1);
        x.bars(6);
        x.note(0, 0, 0, 1, 60, 0);
        x.note(0, 3, 0, 1, 60, 0);
        starts(x, 0, 4, 7);
        starts(x, 0, 5, 7);
        x.extract(0);
        due("turns: rest amid a system", 3, x.lay(8, 1));
        pageIs("turns: rest amid a system", x, 0, 0, 0, 3, 1, 0, 1);
    }

    private static void pagesAndBook() {
        PartPages x = scoreOf(4, 3);
        for (int bar = 0; bar < 3; bar++) {
            starts(x, 0, bar, 7);
            starts(x, 2, bar, 7);
        }
        starts(x, 3, 0, 7);
        starts(x, 3, 1, 7);
        due("book: none", 0, x.count(4));
        due("pages: no part", UNKNOWN, x.pages(0));
        due("pages: voice -1", UNKNOWN, x.pages(-1));
        due("pages: voice 4", UNKNOWN, x.pages(4));
        x.extract(3);
        due("lay: all", 3, x.lay(8, 1));
        due("book: of voice 3", 3, x.count(4));
        x.extract(0);
        due("pages", 3, x.pages(0));
        due("lay: all", 6, x.lay(8, 1));
        // VOICE 0 has 1 to 3, VOICE 3 5 to 7.
        due("book: begins at an odd one", 5, x.page(3, 0, 4));
        due("book: goes on", 7, x.page(3, 2, 4));
        due("book: last", 7, x.count(4));
        x.extract(2);
        due("book: by voices", 9, x.page(3, 0, 4));
        x.lay(8, 2);
        // 2 PAGES, 2 PAGES and 1 or 2: no gap behind an even number.
        due("book: no gap", 3, x.page(2, 0, 4));
        due("book: no gap", 5, x.page(3, 0, 4));
        x.bars(0);
        x.extract(0);
        due("book: a part without pages has no number", 1, x.page(2, 0, 4));
        x.extract(2);
        x.extract(3);
        due("book: no pages at all", 0, x.count(4));
        due("book: but three parts", 3, x.count(3));
        x.bars(1);
        x.extract(0);
        due("book: last is one that is there", 1, x.count(4));
    }

    private static void layRefusals() {
        PartPages x = scoreOf(1, 40);
        for (int bar = 0; bar < 40; bar++) {
            starts(x, 0, bar, 8);
        }
        x.extract(0);
        due("lay: wide 7", OUTSIDE, x.lay(7, 4));
        due("lay: wide 61", OUTSIDE, x.lay(61, 4));
        due("lay: high 0", OUTSIDE, x.lay(8, 0));
        due("lay: high 13", OUTSIDE, x.lay(8, 13));
        due("lay: refused ones change nothing", 5, x.pages(0));
        due("lay: least", 40, x.lay(8, 1));
        due("lay: 40 in the book", 40, x.count(4));
        pageIs("lay: the last of 40", x, 0, 39, 39, 1, 1, 1, 40);
        due("lay: most", 1, x.lay(60, 12));
        due("lay: 6 of width 9 in 60", 7, x.page(0, 0, 2));
        due("lay: wide 8, high 12", 4, x.lay(8, 12));
    }

    private static void page() {
        PartPages x = scoreOf(2, 3);
        due("page: no part", UNKNOWN, x.page(0, 0, 0));
        x.extract(0);
        due("page: voice 2", UNKNOWN, x.page(2, 0, 0));
        due("page: voice -1", UNKNOWN, x.page(-1, 0, 0));
        due("page: no part of voice 1", UNKNOWN, x.page(1, 0, 0));
        due("page: page 1, unknown before outside", UNKNOWN, x.page(0, 1, 5));
        due("page: page -1", UNKNOWN, x.page(0, -1, 0));
        due("page: what -1", OUTSIDE, x.page(0, 0, -1));
        due("page: what 5", OUTSIDE, x.page(0, 0, 5));
        pageIs("page", x, 0, 0, 0, 1, 1, 1, 1);
    }

    // promise 19

    private static void condensed() {
        PartPages x = scoreOf(3, 1);
        due("condensed: voice 3", UNKNOWN, x.condensed(3, 0, 0));
        due("condensed: other -1", UNKNOWN, x.condensed(0, -1, 0));
        due("condensed: bar 1", UNKNOWN, x.condensed(0, 1, 1));
        due("condensed: bar -1, unknown before state", UNKNOWN, x.condensed(0, 0, -1));
        due("condensed: no voice with itself", UNKNOWN, x.condensed(3, 3, 0));
        due("condensed: one", STATE, x.condensed(1, 1, 0));
        due("condensed: both empty", 0, x.condensed(0, 1, 0));
        x.note(0, 0, 0, 12, 60, 0);
        due("condensed: first alone", 3, x.condensed(0, 1, 0));
        due("condensed: second alone", 4, x.condensed(1, 0, 0));
        x.note(1, 0, 0, 12, 60, 0);
        due("condensed: unison", 1, x.condensed(0, 1, 0));
        x.note(1, 0, 0, 12, 64, 4);
        due("condensed: a chord beside a note is joined", 2, x.condensed(0, 1, 0));
        due("condensed: the other way round, too", 2, x.condensed(1, 0, 0));
        x.note(1, 0, 12, 12, 64, 4);
        due("condensed: one start more", 5, x.condensed(0, 1, 0));
        due("condensed: one start more", 5, x.condensed(1, 0, 0));
        x.note(0, 0, 12, 6, 64, 4);
        due("condensed: another length", 5, x.condensed(0, 1, 0));
        x.note(2, 0, 0, 12, 60, 12);
        x.drop(0, 0);
        x.note(0, 0, 0, 12, 60, 0);
        due("condensed: another spelling is no unison", 2, x.condensed(0, 2, 0));
        x.drop(2, 0);
        x.note(2, 0, 0, 12, 72, 0);
        due("condensed: another pitch", 2, x.condensed(0, 2, 0));
        x.drop(0, 0);
        x.drop(2, 0);
        x.note(0, 0, 0, 12, 60, 0);
        x.note(0, 0, 12, 6, 60, 0);
        x.note(2, 0, 0, 6, 60, 0);
        x.note(2, 0, 12, 12, 60, 0);
        due("condensed: starts and lengths go together", 5, x.condensed(0, 2, 0));
    }

    // promise 20

    private static void together() {
        PartPages x = scoreOf(2, 40);
        due("together: voice 2", UNKNOWN, x.together(2, 0));
        due("together: other -1", UNKNOWN, x.together(0, -1));
        due("together: no voice with itself", UNKNOWN, x.together(2, 2));
        due("together: one", STATE, x.together(0, 0));
        due("together: all empty", 40, x.together(0, 1));
        c(x, 0, 0, 1, 2, 39);
        c(x, 1, 1, 3);
        x.note(1, 2, 0, 48, 62, 2);
        x.note(1, 39, 0, 47, 60, 0);
        due("together: one is divided", 39, x.together(0, 1));
        due("together: the other way round", 39, x.together(1, 0));
        x.bars(0);
        due("together: no bars", 0, x.together(0, 1));
    }

    // promise 21

    private static void count() {
        PartPages x = scoreOf(3, 5);
        c(x, 0, 0, 1);
        c(x, 2, 4);
        x.extract(2);
        x.extract(1);
        x.extract(1);
        x.mark(0, 4, 0);
        x.mark(0, 4, 1);
        x.mark(4, 0, 0);
        due("count: voices", 3, x.count(0));
        due("count: bars", 5, x.count(1));
        due("count: notes", 3, x.count(2));
        due("count: parts", 2, x.count(3));
        due("count: last number", 3, x.count(4));
        due("count: marks", 2, x.count(5));
        due("count: -1", OUTSIDE, x.count(-1));
        due("count: 6", OUTSIDE, x.count(6));
        due("count: least", OUTSIDE, x.count(LEAST));
    }
}
