/** At least one test for each promise: ordinary calls, the edges that the document names, wrong calls. */
public final class PromisesTest {
    private static final int NONE = LikeTales.NONE, UNKNOWN = LikeTales.UNKNOWN, OUTSIDE = LikeTales.OUTSIDE;
    private static final int STATE = LikeTales.STATE, FULL = LikeTales.FULL, NO = LikeTales.NO;
    private static int wrong = 0;
    private static int promise = 0;

    private static void due(String call, int got, int want) {
        if (got != want) {
            wrong++;
            System.out.println("promise " + promise + ": " + call + " answered " + got + ", due is " + want);
        }
    }

    public static void main(String[] args) {
        promise = 1; aNewObject();
        promise = 2; kind();
        promise = 3; wider();
        promise = 4; opposite();
        promise = 5; ofKind();
        promise = 6; alike();
        promise = 7; timed();
        promise = 8; tale();
        promise = 9; sort();
        promise = 10; label();
        promise = 11; tie();
        promise = 12; ofTie();
        promise = 13; ofTale();
        promise = 14; copy();
        promise = 15; like(); likeAtLevels(); likeInTime(); likeIsKept();
        promise = 16; partner();
        promise = 17; answer();
        promise = 18; likes();
        promise = 19; worth();
        promise = 20; same();
        promise = 21; guess();
        promise = 22; ofGuess(); evenGuess();
        promise = 23; giveUp();
        promise = 24; bound();
        promise = 25; seek();
        promise = 26; sought();
        promise = 27; common();
        promise = 28; series();
        promise = 29; leftOut();
        promise = 30; trial();
        System.out.println(wrong == 0 ? "promises: all answers are as due" : wrong + " answers are not as due");
        if (wrong != 0) {
            System.exit(1);
        }
    }

    private static void aNewObject() {
        due("NONE", NONE, -6);
        due("UNKNOWN", UNKNOWN, -1);
        due("OUTSIDE", OUTSIDE, -2);
        due("STATE", STATE, -3);
        due("FULL", FULL, -4);
        due("NO", NO, -5);
        LikeTales x = new LikeTales();
        for (int k = 0; k < 16; k++) {
            due("ofKind ends", x.ofKind(k, 0), 2);
            due("ofKind even", x.ofKind(k, 1), 0);
            due("ofKind wider", x.ofKind(k, 2), NONE);
            due("ofKind opposite", x.ofKind(k, 3), NONE);
            due("ofKind ties", x.ofKind(k, 4), 0);
        }
        for (int t = 0; t < 12; t++) {
            due("ofTale things", x.ofTale(t, 0), 0);
            due("ofTale ties", x.ofTale(t, 1), 0);
            due("ofTale label", x.ofTale(t, 2), 0);
            due("ofTale height", x.ofTale(t, 3), 0);
        }
        due("timed", x.timed(1), 0);
        due("partner", x.partner(0), STATE);
        due("sought", x.sought(0), STATE);
        LikeTales y = new LikeTales();
        due("another's timed", y.timed(0), 0);
    }

    private static void kind() {
        LikeTales x = new LikeTales();
        due("kind low", x.kind(-1, 2, false), UNKNOWN);
        due("kind high", x.kind(16, 9, false), UNKNOWN);
        due("kind no ends", x.kind(3, 0, false), OUTSIDE);
        due("kind four ends", x.kind(3, 4, false), OUTSIDE);
        due("kind one end", x.kind(3, 1, true), 2);
        due("one end is not even", x.ofKind(3, 1), 0);
        due("kind three ends", x.kind(3, 3, true), 1);
        due("three ends are not even", x.ofKind(3, 1), 0);
        due("kind two even ends", x.kind(3, 2, true), 3);
        due("two ends are even", x.ofKind(3, 1), 1);
        due("kind not even again", x.kind(3, 2, false), 2);
        due("not even again", x.ofKind(3, 1), 0);
        x.wider(3, 4);
        due("has a wider one", x.kind(3, 2, true), STATE);
        due("is a wider one", x.kind(4, 2, true), STATE);
        due("outside ahead of state", x.kind(4, 5, true), OUTSIDE);
        x.wider(3, -1);
        due("is none any more", x.kind(4, 2, true), 2);
        x.opposite(5, 6);
        due("has an opposite", x.kind(5, 1, false), STATE);
        due("is an opposite", x.kind(6, 1, false), STATE);
        x.opposite(6, 6);
        due("has none any more", x.kind(5, 1, false), 2);
        x.tale(0, 2);
        x.tie(0, 7, 0, 1, -1, -1);
        due("a tale has a tie of it", x.kind(7, 3, false), STATE);
        x.like(1, 0, 0);
        x.tale(0, 0);
        due("the likeness kept has a tie of it", x.kind(7, 3, false), STATE);
        x.like(0, 1, 0);
        due("none has a tie of it", x.kind(7, 3, false), 2);
        due("ends are told", x.ofKind(7, 0), 3);
    }

    private static void wider() {
        LikeTales x = new LikeTales();
        due("wider low", x.wider(-1, 0), UNKNOWN);
        due("wider of none", x.wider(16, 0), UNKNOWN);
        due("wider over none", x.wider(0, 16), UNKNOWN);
        due("wider over -2", x.wider(0, -2), UNKNOWN);
        due("wider", x.wider(0, 1), NONE);
        due("wider again", x.wider(0, 2), 1);
        due("wider none", x.wider(0, -1), 2);
        due("wider is none", x.ofKind(0, 2), NONE);
        due("above itself", x.wider(0, 0), NO);
        x.wider(0, 1);
        x.wider(1, 2);
        due("a ring", x.wider(2, 0), NO);
        due("a small ring", x.wider(1, 0), NO);
        due("it stays", x.ofKind(1, 2), 2);
        x.kind(5, 3, false);
        due("not as many ends", x.wider(0, 5), NO);
        x.tale(0, 1);
        x.tie(0, 0, 0, 0, -1, -1);
        due("a tale has a tie of it", x.wider(0, 3), STATE);
        due("state ahead of no", x.wider(0, 0), STATE);
        due("the one above has none", x.wider(1, -1), 2);
        x.like(0, 0, 0);
        x.tale(0, 1);
        due("the likeness kept has a tie of it", x.wider(0, -1), STATE);
        x.like(3, 3, 0);
        due("none has", x.wider(0, -1), 1);
    }

    private static void opposite() {
        LikeTales x = new LikeTales();
        due("opposite low", x.opposite(-1, 0), UNKNOWN);
        due("opposite high", x.opposite(0, 16), UNKNOWN);
        due("opposite", x.opposite(0, 1), 1);
        due("the one has the other", x.ofKind(0, 3), 1);
        due("the other has the one", x.ofKind(1, 3), 0);
        due("opposite of two that have", x.opposite(2, 3), 1);
        due("opposite crossed", x.opposite(1, 2), 1);
        due("former 0", x.ofKind(0, 3), NONE);
        due("former 3", x.ofKind(3, 3), NONE);
        due("now 1", x.ofKind(1, 3), 2);
        due("now 2", x.ofKind(2, 3), 1);
        due("opposite again", x.opposite(2, 1), 1);
        due("still 1", x.ofKind(1, 3), 2);
        due("of itself", x.opposite(1, 1), 1);
        due("none 1", x.ofKind(1, 3), NONE);
        due("none 2", x.ofKind(2, 3), NONE);
        x.kind(5, 1, false);
        due("not as many ends", x.opposite(0, 5), NO);
        x.tale(0, 1);
        x.tie(0, 0, 0, 0, -1, -1);
        due("of one with a tie", x.opposite(0, 1), 1);
    }

    private static void ofKind() {
        LikeTales x = new LikeTales();
        x.kind(0, 2, true);
        x.wider(0, 3);
        x.opposite(0, 4);
        x.tale(0, 3);
        x.tie(0, 0, 0, 1, -1, -1);
        x.tie(0, 0, 0, 2, -1, -1);
        x.copy(0, 11);
        due("ends", x.ofKind(0, 0), 2);
        due("even", x.ofKind(0, 1), 1);
        due("wider", x.ofKind(0, 2), 3);
        due("opposite", x.ofKind(0, 3), 4);
        due("ties", x.ofKind(0, 4), 4);
        due("ties of the wider one", x.ofKind(3, 4), 0);
        x.like(0, 11, 0);
        x.tale(0, 0);
        due("ties of tales alone", x.ofKind(0, 4), 2);
        due("unknown", x.ofKind(16, 9), UNKNOWN);
        due("unknown low", x.ofKind(-1, 0), UNKNOWN);
        due("outside", x.ofKind(0, 5), OUTSIDE);
        due("outside low", x.ofKind(0, -1), OUTSIDE);
    }

    private static void alike() {
        LikeTales x = new LikeTales();
        x.wider(0, 1);
        x.wider(1, 2);
        x.wider(2, 3);
        x.wider(4, 1);
        x.wider(5, 2);
        x.wider(6, 3);
        due("one", x.alike(0, 0), 0);
        due("with the wider one", x.alike(0, 1), NONE);
        due("with the top one", x.alike(2, 3), 1);
        due("two below the top", x.alike(1, 3), 2);
        due("three below the top", x.alike(0, 3), NONE);
        due("under one", x.alike(0, 4), 1);
        due("turned", x.alike(4, 0), 1);
        due("at same levels alone", x.alike(0, 5), NONE);
        due("under the top at two", x.alike(1, 6), 2);
        due("strangers", x.alike(0, 9), NONE);
        due("unknown", x.alike(0, 16), UNKNOWN);
        due("unknown low", x.alike(-1, 0), UNKNOWN);
    }

    private static void timed() {
        LikeTales x = new LikeTales();
        due("to 1", x.timed(1), 0);
        due("to 1 again", x.timed(1), 1);
        due("outside", x.timed(2), OUTSIDE);
        due("outside low", x.timed(-1), OUTSIDE);
        due("to 0", x.timed(0), 1);
    }

    private static void tale() {
        LikeTales x = new LikeTales();
        due("unknown", x.tale(12, 9), UNKNOWN);
        due("unknown low", x.tale(-1, 0), UNKNOWN);
        due("outside", x.tale(0, 7), OUTSIDE);
        due("outside low", x.tale(0, -1), OUTSIDE);
        due("six", x.tale(11, 6), 1);
        x.sort(11, 5, 3);
        x.label(11, 4);
        x.tie(11, 0, 0, 1, -1, -1);
        due("refused", x.tale(11, 7), OUTSIDE);
        due("nothing changed", x.ofTale(11, 1), 1);
        due("anew", x.tale(11, 6), 1);
        due("sort 0", x.ofTale(11, 15), 0);
        due("label 0", x.ofTale(11, 2), 0);
        due("no ties", x.ofTale(11, 1), 0);
        due("none", x.tale(11, 0), 1);
        due("no things", x.ofTale(11, 0), 0);
    }

    private static void sort() {
        LikeTales x = new LikeTales();
        x.tale(0, 2);
        due("unknown tale", x.sort(12, 0, 0), UNKNOWN);
        due("unknown thing", x.sort(0, 2, 99), UNKNOWN);
        due("unknown low", x.sort(0, -1, 0), UNKNOWN);
        due("outside", x.sort(0, 1, 10), OUTSIDE);
        due("outside low", x.sort(0, 1, -1), OUTSIDE);
        due("to 9", x.sort(0, 1, 9), 0);
        due("to 2", x.sort(0, 1, 2), 9);
        due("it is told", x.ofTale(0, 11), 2);
        due("the other", x.ofTale(0, 10), 0);
    }

    private static void label() {
        LikeTales x = new LikeTales();
        due("unknown", x.label(12, 99), UNKNOWN);
        due("unknown low", x.label(-1, 0), UNKNOWN);
        due("outside", x.label(0, 10), OUTSIDE);
        due("outside low", x.label(0, -1), OUTSIDE);
        due("to 9", x.label(0, 9), 0);
        due("to 0", x.label(0, 0), 9);
    }

    private static void tie() {
        LikeTales x = new LikeTales();
        x.kind(1, 1, false);
        x.kind(2, 2, true);
        x.kind(3, 3, false);
        x.tale(0, 2);
        due("unknown tale", x.tie(12, 0, 0, 1, -1, -1), UNKNOWN);
        due("unknown kind", x.tie(0, 16, 0, 1, -1, 99), UNKNOWN);
        due("unknown low", x.tie(0, -1, 0, 1, -1, -1), UNKNOWN);
        due("moment high", x.tie(0, 0, 0, 1, -1, 10), OUTSIDE);
        due("moment low", x.tie(0, 0, 0, 1, -1, -2), OUTSIDE);
        due("no such thing", x.tie(0, 0, 0, 2, -1, -1), OUTSIDE);
        due("no such end", x.tie(0, 0, 9, 0, -1, -1), OUTSIDE);
        due("a low end", x.tie(0, 0, -1, 0, -1, -1), OUTSIDE);
        due("itself as an end", x.tie(0, 0, 0, 10, -1, -1), OUTSIDE);
        due("an end too many", x.tie(0, 0, 0, 1, 0, -1), OUTSIDE);
        due("an end too few", x.tie(0, 3, 0, 1, -1, -1), OUTSIDE);
        due("two ends for one", x.tie(0, 1, 0, 1, -1, -1), OUTSIDE);
        due("one end", x.tie(0, 1, 0, -1, -1, 0), 0);
        due("three ends", x.tie(0, 3, 0, 10, 1, 9), 1);
        due("two ends", x.tie(0, 0, 0, 1, -1, -1), 2);
        due("the other way round", x.tie(0, 0, 1, 0, -1, -1), 3);
        due("it is there, at another moment", x.tie(0, 0, 0, 1, -1, 4), NO);
        due("even", x.tie(0, 2, 0, 13, -1, -1), 4);
        due("even the other way round", x.tie(0, 2, 13, 0, -1, 3), NO);
        due("of another kind", x.tie(0, 4, 0, 1, -1, -1), 5);
        for (int i = 6; i < 14; i++) {
            due("more", x.tie(0, 1, 10 + i - 1, -1, -1, -1), i);
        }
        due("full", x.tie(0, 5, 0, 0, -1, -1), FULL);
        due("full ahead of no", x.tie(0, 0, 0, 1, -1, -1), FULL);
        due("outside ahead of full", x.tie(0, 5, 0, 24, -1, -1), OUTSIDE);
        due("fourteen", x.ofTale(0, 1), 14);
    }

    private static void ofTie() {
        LikeTales x = new LikeTales();
        x.kind(1, 1, false);
        x.kind(3, 3, false);
        x.tale(0, 3);
        x.tie(0, 1, 2, -1, -1, -1);
        x.tie(0, 3, 1, 10, 0, 7);
        x.tie(0, 0, 11, 10, -1, 0);
        due("kind", x.ofTie(0, 1, 0), 3);
        due("end 1", x.ofTie(0, 1, 1), 1);
        due("end 2", x.ofTie(0, 1, 2), 10);
        due("end 3", x.ofTie(0, 1, 3), 0);
        due("moment", x.ofTie(0, 1, 4), 7);
        due("height", x.ofTie(0, 1, 5), 2);
        due("no moment", x.ofTie(0, 0, 4), -1);
        due("height of things", x.ofTie(0, 0, 5), 1);
        due("height of the greater", x.ofTie(0, 2, 5), 3);
        due("no end 2", x.ofTie(0, 0, 2), NONE);
        due("no end 3", x.ofTie(0, 2, 3), NONE);
        due("unknown tale", x.ofTie(12, 0, 0), UNKNOWN);
        due("unknown tie", x.ofTie(0, 3, 9), UNKNOWN);
        due("unknown low", x.ofTie(0, -1, 0), UNKNOWN);
        due("outside", x.ofTie(0, 0, 6), OUTSIDE);
        due("outside low", x.ofTie(0, 0, -1), OUTSIDE);
    }

    private static void ofTale() {
        LikeTales x = new LikeTales();
        x.tale(2, 3);
        x.sort(2, 1, 8);
        x.label(2, 5);
        due("height of none", x.ofTale(2, 3), 0);
        x.tie(2, 0, 0, 1, -1, -1);
        x.tie(2, 0, 10, 1, -1, -1);
        x.tie(2, 0, 2, 2, -1, -1);
        due("things", x.ofTale(2, 0), 3);
        due("ties", x.ofTale(2, 1), 3);
        due("label", x.ofTale(2, 2), 5);
        due("height", x.ofTale(2, 3), 2);
        due("sort", x.ofTale(2, 11), 8);
        due("no such thing", x.ofTale(2, 13), UNKNOWN);
        due("no thing 5", x.ofTale(2, 15), UNKNOWN);
        due("outside high", x.ofTale(2, 16), OUTSIDE);
        due("outside", x.ofTale(2, 4), OUTSIDE);
        due("outside low", x.ofTale(2, -1), OUTSIDE);
        due("unknown", x.ofTale(12, 0), UNKNOWN);
    }

    private static void copy() {
        LikeTales x = new LikeTales();
        x.tale(0, 2);
        x.sort(0, 1, 6);
        x.label(0, 3);
        x.tie(0, 4, 1, 0, -1, 2);
        x.tie(0, 4, 10, 0, -1, -1);
        x.tale(1, 5);
        due("copy", x.copy(0, 1), 2);
        due("things", x.ofTale(1, 0), 2);
        due("sort", x.ofTale(1, 11), 6);
        due("label", x.ofTale(1, 2), 3);
        due("kind", x.ofTie(1, 0, 0), 4);
        due("end", x.ofTie(1, 0, 1), 1);
        due("moment", x.ofTie(1, 0, 4), 2);
        due("height", x.ofTie(1, 1, 5), 2);
        x.sort(0, 1, 1);
        due("each its own", x.ofTale(1, 11), 6);
        due("of itself", x.copy(1, 1), 2);
        due("of an empty one", x.copy(5, 1), 0);
        due("unknown", x.copy(12, 0), UNKNOWN);
        due("unknown other", x.copy(0, -1), UNKNOWN);
    }

    private static void like() {
        LikeTales x = new LikeTales();
        due("unknown", x.like(12, 0, 9), UNKNOWN);
        due("unknown other", x.like(0, -1, 0), UNKNOWN);
        due("outside", x.like(0, 0, 3), OUTSIDE);
        due("outside low", x.like(0, 0, -1), OUTSIDE);
        due("none is kept", x.partner(0), STATE);
        due("of empty ones", x.like(0, 1, 0), 0);
        x.tale(0, 2);
        x.tale(1, 3);
        due("of two pairs of one sort", x.like(0, 1, 0), 2);
        due("first by rows", x.partner(1), 1);
        x.sort(1, 0, 1);
        due("other sorts", x.like(0, 1, 0), 2);
        due("past the other sort", x.partner(0), 1);
        x.tie(0, 0, 0, 1, -1, -1);
        x.tie(0, 1, 10, 0, -1, -1);
        x.tie(1, 0, 2, 0, -1, -1);
        x.tie(1, 1, 10, 2, -1, -1);
        due("heights 1 and 2 and a sort", x.like(0, 1, 0), 6 + 12 + 1);
        due("by the ties", x.partner(0), 2);
        due("by the ties too", x.partner(1), 0);
        due("the other way", x.like(1, 0, 0), 19);
        due("one is left", x.partner(1), NONE);
        // Three ends, and more pairs than are worth anything.
        LikeTales y = new LikeTales();
        y.kind(0, 3, false);
        y.tale(0, 6);
        y.tale(1, 6);
        for (int s = 0; s < 6; s++) {
            y.sort(0, s, 1);
            y.sort(1, s, 2);
        }
        y.tie(0, 0, 0, 1, 2, -1);
        y.tie(1, 0, 5, 4, 3, -1);
        due("three ends", y.like(0, 1, 0), 6);
        due("partner 0", y.partner(0), 5);
        due("partner 3", y.partner(3), 0);
        due("partner 5", y.partner(5), 2);
    }

    private static void likeAtLevels() {
        LikeTales x = new LikeTales();
        x.wider(0, 2);
        x.wider(1, 2);
        x.wider(2, 5);
        x.wider(3, 4);
        x.wider(4, 5);
        x.tale(0, 2);
        x.sort(0, 0, 1);
        x.sort(0, 1, 1);
        x.tale(1, 2);
        x.tie(0, 0, 0, 1, -1, -1);
        x.tie(1, 1, 0, 1, -1, -1);
        due("level 0", x.like(0, 1, 0), 0);
        due("level 1", x.like(0, 1, 1), 4);
        due("level 2, alike at 1", x.like(0, 1, 2), 4);
        x.tale(1, 2);
        x.tie(1, 3, 0, 1, -1, -1);
        due("not at level 1", x.like(0, 1, 1), 0);
        due("alike at 2", x.like(0, 1, 2), 3);
        x.tie(1, 0, 0, 1, -1, -1);
        due("the first alike, not the best", x.like(0, 1, 2), 3);
        due("which is the first", x.answer(0), 0);
        due("at level 0 the very kind", x.like(0, 1, 0), 6);
        due("which is the second", x.answer(0), 1);
        x.tie(0, 1, 0, 1, -1, -1);
        due("each comes to one", x.like(0, 1, 2), 3 + 4);
        due("the second to the second", x.answer(1), 1);
        x.wider(6, 5);
        x.tie(0, 2, 0, 1, -1, -1);
        due("none is left for the third", x.like(0, 1, 2), 3 + 4);
        due("the third has none", x.answer(2), NONE);
        // Even, if both are.
        LikeTales y = new LikeTales();
        y.kind(0, 2, true);
        y.kind(1, 2, true);
        y.wider(0, 3);
        y.wider(1, 3);
        y.wider(2, 3);
        y.tale(0, 2);
        y.sort(0, 0, 1);
        y.tale(1, 2);
        y.sort(1, 0, 1);
        y.tie(0, 0, 0, 1, -1, -1);
        y.tie(1, 1, 1, 0, -1, -1);
        due("both are even", y.like(0, 1, 1), 4 + 2);
        y.tale(1, 2);
        y.sort(1, 0, 1);
        y.tie(1, 2, 1, 0, -1, -1);
        due("one is even", y.like(0, 1, 1), 4);
        due("so it is turned", y.partner(0), 1);
    }

    private static void likeInTime() {
        LikeTales x = new LikeTales();
        x.timed(1);
        x.tale(0, 1);
        x.tie(0, 0, 0, 0, -1, 2);
        x.tie(0, 1, 0, 0, -1, 2);
        x.tie(0, 2, 0, 0, -1, -1);
        x.tie(0, 3, 0, 0, -1, 5);
        x.tale(1, 1);
        x.tie(1, 0, 0, 0, -1, 4);
        x.tie(1, 1, 0, 0, -1, 4);
        x.tie(1, 2, 0, 0, -1, 0);
        x.tie(1, 3, 0, 0, -1, 9);
        due("at once, none, behind", x.like(0, 1, 0), 24 + 1);
        x.tale(1, 1);
        x.tie(1, 0, 0, 0, -1, 4);
        x.tie(1, 1, 0, 0, -1, 5);
        x.tie(1, 2, 0, 0, -1, 0);
        x.tie(1, 3, 0, 0, -1, 4);
        due("not at once, not behind", x.like(0, 1, 0), 12 + 1);
        due("at once", x.answer(0), 0);
        due("behind", x.answer(1), NONE);
        due("none", x.answer(2), 2);
        due("at once with the first", x.answer(3), NONE);
        x.timed(0);
        due("kept as it was", x.answer(1), NONE);
        due("no time", x.like(0, 1, 0), 24 + 1);
        // A pair less may be worth more: the first tie of a keeps the later ones from answering.
        LikeTales y = new LikeTales();
        y.timed(1);
        y.kind(0, 1, false);
        y.tale(0, 2);
        y.sort(0, 0, 1);
        y.sort(0, 1, 1);
        y.tie(0, 0, 0, -1, -1, 5);
        y.tie(0, 1, 1, 1, -1, 6);
        y.tie(0, 2, 1, 1, -1, 7);
        y.tale(1, 2);
        y.tie(1, 0, 0, -1, -1, 9);
        y.tie(1, 1, 1, 1, -1, 3);
        y.tie(1, 2, 1, 1, -1, 4);
        due("by a pair less", y.like(0, 1, 0), 12);
        due("thing 0 goes without", y.partner(0), NONE);
        due("thing 1", y.partner(1), 1);
        LikeTales w = new LikeTales();
        w.timed(1);
        w.tale(0, 1);
        w.tie(0, 0, 0, 0, -1, 0);
        w.tie(0, 1, 0, 0, -1, 9);
        w.tale(1, 1);
        w.tie(1, 0, 0, 0, -1, 9);
        w.tie(1, 1, 0, 0, -1, 0);
        due("moments 0 and 9", w.like(0, 1, 0), 6 + 1);
        // At a level the first one in order is taken.
        LikeTales z = new LikeTales();
        z.timed(1);
        z.wider(1, 3);
        z.wider(2, 3);
        z.tale(0, 1);
        z.tie(0, 0, 0, 0, -1, 1);
        z.tie(0, 1, 0, 0, -1, 2);
        z.copy(0, 1);
        z.tale(1, 1);
        z.tie(1, 0, 0, 0, -1, 5);
        z.tie(1, 2, 0, 0, -1, 5);
        z.tie(1, 1, 0, 0, -1, 6);
        due("the first in order", z.like(0, 1, 1), 6 + 6 + 1);
        due("past the one at once", z.answer(1), 2);
    }

    private static void likeIsKept() {
        LikeTales x = new LikeTales();
        x.tale(0, 2);
        x.tie(0, 0, 0, 1, -1, -1);
        x.tale(1, 2);
        x.tie(1, 0, 1, 0, -1, -1);
        due("like", x.like(0, 1, 0), 8);
        x.tale(0, 0);
        x.tale(1, 0);
        x.timed(1);
        due("partner is kept", x.partner(0), 1);
        due("answer is kept", x.answer(0), 0);
        due("refused", x.like(0, 1, 3), OUTSIDE);
        due("partner is still kept", x.partner(1), 0);
        x.likes(0, 1, 0, -1);
        x.seek(0);
        x.leftOut(0, 1);
        x.common(0, 1, 2, 0);
        x.series(0, 1, 2, 3);
        x.trial(0);
        x.same(0, 1);
        x.worth(0, 1, 0, 0);
        due("other calls do not matter", x.partner(1), 0);
        due("give up neither", x.giveUp(), 0);
        due("answer as ever", x.answer(0), 0);
    }

    private static void partner() {
        LikeTales x = new LikeTales();
        due("none is kept", x.partner(-1), STATE);
        x.tale(0, 3);
        x.tale(1, 2);
        x.like(0, 1, 0);
        due("first", x.partner(0), 0);
        due("second", x.partner(1), 1);
        due("without", x.partner(2), NONE);
        due("no such thing", x.partner(3), UNKNOWN);
        due("no such thing low", x.partner(-1), UNKNOWN);
    }

    private static void answer() {
        LikeTales x = new LikeTales();
        due("none is kept", x.answer(99), STATE);
        x.tale(0, 2);
        x.tie(0, 1, 0, 1, -1, -1);
        x.tie(0, 0, 0, 1, -1, -1);
        x.tie(0, 2, 10, 11, -1, -1);
        x.tie(0, 2, 11, 10, -1, -1);
        x.tale(1, 2);
        x.tie(1, 0, 0, 1, -1, -1);
        x.tie(1, 1, 0, 1, -1, -1);
        x.tie(1, 2, 11, 10, -1, -1);
        x.like(0, 1, 0);
        due("answer 0", x.answer(0), 1);
        due("answer 1", x.answer(1), 0);
        due("answer 2", x.answer(2), 2);
        due("turned", x.answer(3), NONE);
        due("no such tie", x.answer(4), UNKNOWN);
        due("no such tie low", x.answer(-1), UNKNOWN);
    }

    private static void likes() {
        LikeTales x = new LikeTales();
        due("unknown", x.likes(12, 0, 9, 0), UNKNOWN);
        due("outside", x.likes(0, 0, 3, 0), OUTSIDE);
        due("of empty ones", x.likes(0, 0, 0, -1), 1);
        due("of empty ones, the one", x.likes(0, 0, 0, 0), 0);
        x.tale(0, 3);
        x.tale(1, 2);
        due("how many", x.likes(0, 1, 0, -1), 6);
        due("0", x.likes(0, 1, 0, 0), 19);
        due("1", x.likes(0, 1, 0, 1), 91);
        due("2", x.likes(0, 1, 0, 2), 109);
        due("3", x.likes(0, 1, 0, 3), 190);
        due("4", x.likes(0, 1, 0, 4), 901);
        due("5", x.likes(0, 1, 0, 5), 910);
        due("6", x.likes(0, 1, 0, 6), NONE);
        due("far", x.likes(0, 1, 0, Integer.MAX_VALUE), NONE);
        due("low", x.likes(0, 1, 0, -2), NONE);
        due("to none", x.likes(0, 5, 0, 0), 999);
        x.tale(2, 6);
        due("of six", x.likes(2, 2, 0, -1), 720);
        due("the last", x.likes(2, 2, 0, 719), 543210);
        due("none is kept", x.partner(0), STATE);
        x.sort(1, 0, 7);
        x.sort(0, 2, 7);
        due("of sorts", x.likes(0, 1, 0, -1), 2);
        due("first of sorts", x.likes(0, 1, 0, 0), 190);
        due("second of sorts", x.likes(0, 1, 0, 1), 910);
    }

    private static void worth() {
        LikeTales x = new LikeTales();
        x.wider(0, 2);
        x.wider(1, 2);
        x.tale(0, 2);
        x.tale(1, 3);
        x.sort(1, 2, 1);
        x.tie(0, 0, 0, 1, -1, -1);
        x.tie(1, 1, 0, 1, -1, -1);
        x.tie(1, 0, 0, 2, -1, -1);
        due("unknown", x.worth(12, 0, 9, 99), UNKNOWN);
        due("outside level", x.worth(0, 1, 3, 1), OUTSIDE);
        due("very kind", x.worth(0, 1, 0, 2), 6 + 1);
        due("alike", x.worth(0, 1, 1, 1), 4 + 2);
        due("not alike", x.worth(0, 1, 0, 1), 2);
        due("one alone", x.worth(0, 1, 0, 91), 1);
        due("none", x.worth(0, 1, 0, 99), 0);
        due("twice", x.worth(0, 1, 0, 11), OUTSIDE);
        due("that is none", x.worth(0, 1, 0, 13), OUTSIDE);
        due("too many", x.worth(0, 1, 0, 102), OUTSIDE);
        due("low", x.worth(0, 1, 0, -1), OUTSIDE);
        due("of none", x.worth(5, 1, 0, 0), 0);
        due("of none, too many", x.worth(5, 1, 0, 9), OUTSIDE);
        x.timed(1);
        x.tale(3, 1);
        x.tie(3, 0, 0, 0, -1, 1);
        x.tie(3, 1, 0, 0, -1, 2);
        x.tale(4, 1);
        x.tie(4, 0, 0, 0, -1, 2);
        x.tie(4, 1, 0, 0, -1, 1);
        due("in time", x.worth(3, 4, 0, 0), 7);
        x.timed(0);
        due("without time", x.worth(3, 4, 0, 0), 13);
    }

    private static void same() {
        LikeTales x = new LikeTales();
        due("unknown", x.same(12, 0), UNKNOWN);
        due("unknown other", x.same(0, -1), UNKNOWN);
        due("empty ones", x.same(0, 1), 1);
        x.tale(0, 3);
        due("not as many things", x.same(0, 1), 0);
        x.sort(0, 0, 1);
        x.tie(0, 0, 0, 1, -1, 3);
        x.tie(0, 0, 1, 2, -1, -1);
        x.tie(0, 1, 10, 2, -1, -1);
        x.tale(1, 3);
        x.sort(1, 2, 1);
        x.tie(1, 0, 1, 0, -1, -1);
        x.tie(1, 0, 2, 1, -1, 3);
        due("not as many ties", x.same(0, 1), 0);
        x.tie(1, 1, 11, 0, -1, -1);
        x.label(1, 5);
        due("but for names", x.same(0, 1), 1);
        due("the other way", x.same(1, 0), 1);
        x.timed(1);
        due("in time", x.same(0, 1), 1);
        x.timed(0);
        x.sort(1, 2, 2);
        due("another sort", x.same(0, 1), 0);
        x.sort(1, 2, 0);
        x.sort(1, 0, 1);
        due("a sort elsewhere", x.same(0, 1), 0);
        x.tale(1, 3);
        x.sort(1, 2, 1);
        x.tie(1, 0, 1, 0, -1, -1);
        x.tie(1, 0, 2, 1, -1, 4);
        x.tie(1, 1, 11, 0, -1, -1);
        due("another moment", x.same(0, 1), 0);
        x.tale(2, 1);
        x.tale(3, 1);
        x.sort(3, 0, 1);
        due("one thing of another sort", x.same(2, 3), 0);
        x.wider(5, 6);
        x.wider(7, 6);
        x.tale(2, 1);
        x.tale(3, 1);
        x.tie(2, 5, 0, 0, -1, -1);
        x.tie(3, 7, 0, 0, -1, -1);
        due("kinds alike are not enough", x.same(2, 3), 0);
    }

    private static LikeTales withGuesses() {
        LikeTales x = new LikeTales();
        x.kind(4, 1, false);
        x.tale(0, 3);
        x.sort(0, 2, 5);
        x.tie(0, 0, 0, 1, -1, -1);
        x.tie(0, 1, 1, 0, -1, -1);
        x.tie(0, 2, 10, 11, -1, -1);
        x.tie(0, 4, 2, -1, -1, -1);
        x.tie(0, 3, 13, 12, -1, -1);
        x.tie(0, 3, 12, 0, -1, -1);
        x.tale(1, 2);
        x.tie(1, 3, 0, 0, -1, -1);
        x.tie(1, 0, 1, 0, -1, -1);
        return x;
    }

    private static void guess() {
        LikeTales x = withGuesses();
        due("none is kept", x.guess(-1), STATE);
        due("like", x.like(0, 1, 0), 6 + 2);
        due("how many", x.guess(-1), 3);
        due("0", x.guess(0), 1);
        due("1", x.guess(1), 2);
        due("2", x.guess(2), 5);
        due("3", x.guess(3), NONE);
        due("low", x.guess(-2), NONE);
        x.tale(1, 0);
        due("kept", x.guess(-1), 3);
        x.like(0, 1, 0);
        due("without partners", x.guess(-1), 0);
        due("no first", x.guess(0), NONE);
    }

    private static void ofGuess() {
        LikeTales x = withGuesses();
        due("none is kept", x.ofGuess(0, 9), STATE);
        x.like(0, 1, 0);
        due("outside", x.ofGuess(0, 5), OUTSIDE);
        due("outside low", x.ofGuess(9, -1), OUTSIDE);
        due("no such guess", x.ofGuess(3, 0), NONE);
        due("no such guess low", x.ofGuess(-1, 3), NONE);
        due("things put over", x.ofGuess(0, 0), 0);
        due("things put over, 2", x.ofGuess(0, 1), 1);
        due("beyond", x.ofGuess(0, 2), NONE);
        due("a tie put over", x.ofGuess(1, 0), 11);
        due("a guess put over", x.ofGuess(1, 1), 30);
        due("the second guess put over", x.ofGuess(2, 0), 31);
        due("a thing beside it", x.ofGuess(2, 1), 1);
        due("not held", x.ofGuess(0, 3), 0);
        due("not against", x.ofGuess(0, 4), 0);
        x.opposite(1, 6);
        x.tie(1, 6, 0, 1, -1, 3);
        x.tie(1, 6, 1, 1, -1, 3);
        due("as tales were", x.ofGuess(0, 4), 0);
        x.like(0, 1, 0);
        due("against", x.ofGuess(0, 4), 1);
        due("with a guess never", x.ofGuess(1, 4), 0);
        x.opposite(1, 1);
        due("by opposites of now", x.ofGuess(0, 4), 0);
        // Held: out of order alone keeps it from answering.
        LikeTales y = new LikeTales();
        y.timed(1);
        y.tale(0, 1);
        y.tie(0, 0, 0, 0, -1, 1);
        y.tie(0, 1, 0, 0, -1, 2);
        y.tie(0, 2, 11, 0, -1, -1);
        y.tale(1, 1);
        y.tie(1, 0, 0, 0, -1, 5);
        y.tie(1, 1, 0, 0, -1, 4);
        y.tie(1, 2, 11, 0, -1, -1);
        y.like(0, 1, 0);
        due("it does not answer", y.guess(0), 1);
        due("held", y.ofGuess(0, 3), 1);
        due("with a guess not held", y.ofGuess(1, 3), 0);
        due("a guess as an end", y.ofGuess(1, 0), 30);
    }

    private static void evenGuess() {
        LikeTales x = new LikeTales();
        x.kind(0, 2, true);
        x.kind(1, 2, true);
        x.opposite(0, 1);
        x.tale(0, 2);
        x.sort(0, 0, 1);
        x.tie(0, 0, 0, 1, -1, -1);
        x.tale(1, 2);
        x.sort(1, 0, 1);
        x.tie(1, 1, 1, 0, -1, -1);
        x.like(0, 1, 0);
        due("end 0", x.ofGuess(0, 0), 0);
        due("end 1", x.ofGuess(0, 1), 1);
        due("against the other way round", x.ofGuess(0, 4), 1);
        due("held is another thing", x.ofGuess(0, 3), 0);
        LikeTales y = new LikeTales();
        y.kind(0, 2, true);
        y.timed(1);
        y.tale(0, 2);
        y.sort(0, 0, 1);
        y.tie(0, 5, 0, 1, -1, 1);
        y.tie(0, 0, 0, 1, -1, 2);
        y.tale(1, 2);
        y.sort(1, 0, 1);
        y.tie(1, 5, 0, 1, -1, 2);
        y.tie(1, 0, 1, 0, -1, 1);
        y.like(0, 1, 0);
        due("held the other way round", y.ofGuess(0, 3), 1);
    }

    private static void giveUp() {
        LikeTales x = new LikeTales();
        due("none is kept", x.giveUp(), STATE);
        x.opposite(1, 2);
        x.tale(0, 4);
        x.tale(1, 4);
        for (int s = 0; s < 4; s++) {
            x.sort(0, s, s);
            x.sort(1, s, s);
        }
        x.tie(0, 1, 0, 1, -1, -1);
        x.tie(0, 1, 1, 2, -1, -1);
        x.tie(0, 1, 3, 3, -1, -1);
        x.tie(1, 2, 0, 1, -1, -1);
        due("like", x.like(0, 1, 0), 4);
        due("the least of two", x.giveUp(), 1);
        x.tie(1, 2, 1, 2, -1, -1);
        x.like(0, 1, 0);
        due("one for both", x.giveUp(), 2);
        x.tie(1, 2, 3, 3, -1, -1);
        x.like(0, 1, 0);
        due("and another", x.giveUp(), 2 + 8);
        x.opposite(1, 1);
        due("nothing speaks against", x.giveUp(), 0);
        // Each of six things speaks against itself.
        LikeTales z = new LikeTales();
        z.opposite(1, 2);
        z.tale(0, 6);
        z.tale(1, 6);
        for (int s = 0; s < 6; s++) {
            z.tie(0, 1, s, s, -1, -1);
            z.tie(1, 2, s, s, -1, -1);
        }
        z.like(0, 1, 0);
        due("all six", z.giveUp(), 63);
        // Only a thing with a partner can be given up, and ties answer anew.
        LikeTales y = new LikeTales();
        y.timed(1);
        y.kind(0, 1, false);
        y.opposite(1, 2);
        y.tale(0, 2);
        y.sort(0, 0, 1);
        y.sort(0, 1, 2);
        y.tie(0, 0, 0, -1, -1, 5);
        y.tie(0, 1, 1, 1, -1, 6);
        y.tale(1, 2);
        y.sort(1, 0, 1);
        y.sort(1, 1, 2);
        y.tie(1, 0, 0, -1, -1, 9);
        y.tie(1, 1, 1, 1, -1, 3);
        y.tie(1, 2, 1, 1, -1, 3);
        due("like in time", y.like(0, 1, 0), 6 + 2);
        due("it is held, and against", y.ofGuess(0, 4), 1);
        due("without thing 0 it answers", y.giveUp(), 1);
    }

    private static void bound() {
        LikeTales x = new LikeTales();
        due("unknown", x.bound(0, 12), UNKNOWN);
        due("unknown low", x.bound(-1, 0), UNKNOWN);
        due("empty ones", x.bound(0, 1), 0);
        x.tale(0, 4);
        x.tale(1, 3);
        x.sort(0, 3, 2);
        x.sort(1, 2, 3);
        x.tie(0, 0, 0, 1, -1, -1);
        x.tie(0, 0, 10, 1, -1, -1);
        x.tie(0, 0, 2, 1, -1, -1);
        x.tie(0, 1, 2, 1, -1, -1);
        x.tie(1, 0, 0, 0, -1, -1);
        x.tie(1, 0, 0, 1, -1, -1);
        x.tie(1, 2, 0, 1, -1, -1);
        due("by the heights of a", x.bound(0, 1), 2 * 6 * 2 + 2);
        due("the other way", x.bound(1, 0), 2 * 6 * 1 + 2);
        due("of itself", x.bound(0, 0), 3 * 12 + 6 + 4);
    }

    private static void seek() {
        LikeTales x = new LikeTales();
        due("unknown", x.seek(12), UNKNOWN);
        due("unknown low", x.seek(-1), UNKNOWN);
        due("there is none", x.seek(0), NONE);
        x.tale(0, 2);
        x.tie(0, 0, 0, 1, -1, -1);
        due("none but itself", x.seek(0), NONE);
        x.tale(1, 6);
        due("one without ties is none", x.seek(0), NONE);
        x.tale(5, 2);
        x.sort(5, 0, 1);
        x.sort(5, 1, 1);
        x.tie(5, 3, 0, 1, -1, -1);
        due("one that is worth nothing", x.seek(0), 5);
        due("worth", x.sought(1), 0);
        x.copy(0, 7);
        x.copy(0, 9);
        due("the least number of the likest", x.seek(0), 7);
        due("worth of it", x.sought(1), 8);
        due("held", x.sought(0), 1);
        due("of one without ties", x.seek(1), 0);
        // A greater bound, but a lesser worth; a bound as great with a lesser number is held, a greater one not.
        LikeTales y = new LikeTales();
        y.tale(0, 3);
        y.tie(0, 0, 0, 1, -1, -1);
        y.tie(0, 0, 1, 2, -1, -1);
        y.tale(1, 2);
        y.tie(1, 0, 0, 1, -1, -1);
        y.tale(2, 3);
        y.tie(2, 0, 0, 0, -1, -1);
        y.tie(2, 0, 1, 1, -1, -1);
        y.copy(1, 3);
        y.tale(4, 2);
        y.tie(4, 5, 0, 0, -1, -1);
        due("missed by none", y.seek(0), 1);
        due("held to 2 and 1", y.sought(0), 2);
        due("of worth", y.sought(1), 8);
        // Bounds 15 (2), 8 (1), 8 (3), 2 (4): 3 has the bound of the best, and a greater number.
        y.tale(1, 0);
        y.tale(2, 3);
        y.tie(2, 0, 0, 0, -1, -1);
        y.tie(2, 0, 0, 1, -1, -1);
        y.copy(3, 1);
        due("2 has 9", y.seek(0), 2);
        due("held to 2", y.sought(0), 1);
        due("nine", y.sought(1), 9);
    }

    private static void sought() {
        LikeTales x = new LikeTales();
        due("there was none", x.sought(0), STATE);
        due("outside ahead", x.sought(2), OUTSIDE);
        due("outside low", x.sought(-1), OUTSIDE);
        x.seek(12);
        due("a refused one is none", x.sought(0), STATE);
        x.seek(0);
        due("held to none", x.sought(0), 0);
        due("no worth", x.sought(1), NONE);
        x.tale(1, 1);
        x.tie(1, 0, 0, 0, -1, -1);
        x.copy(1, 2);
        x.seek(1);
        due("held", x.sought(0), 1);
        due("worth", x.sought(1), 7);
        x.seek(-1);
        x.trial(0);
        due("the latest seek", x.sought(1), 7);
        x.seek(5);
        due("the latest seek of now", x.sought(1), 0);
    }

    private static void common() {
        LikeTales x = new LikeTales();
        due("unknown", x.common(0, 1, 12, 9), UNKNOWN);
        due("outside ahead of no", x.common(0, 1, 1, 3), OUTSIDE);
        due("c is a", x.common(0, 1, 0, 0), NO);
        due("c is b", x.common(0, 1, 1, 0), NO);
        x.wider(0, 2);
        x.wider(1, 2);
        x.tale(0, 4);
        x.sort(0, 1, 3);
        x.sort(0, 2, 4);
        x.sort(0, 3, 9);
        x.tie(0, 5, 1, 2, -1, 6);
        x.tie(0, 0, 1, 2, -1, -1);
        x.tie(0, 6, 0, 0, -1, -1);
        x.tie(0, 7, 11, 2, -1, 2);
        x.tie(0, 5, 3, 2, -1, 6);
        x.tale(1, 3);
        x.sort(1, 0, 3);
        x.sort(1, 1, 5);
        x.sort(1, 2, 9);
        x.tie(1, 1, 0, 1, -1, -1);
        x.tie(1, 7, 10, 1, -1, 4);
        x.tie(1, 5, 0, 1, -1, -1);
        x.tie(1, 5, 2, 1, -1, -1);
        x.tale(2, 6);
        x.label(2, 7);
        due("common", x.common(0, 1, 2, 1), 4);
        due("things", x.ofTale(2, 0), 3);
        due("label", x.ofTale(2, 2), 0);
        due("sort of both", x.ofTale(2, 10), 3);
        due("sorts that differ", x.ofTale(2, 11), 0);
        due("another sort of both", x.ofTale(2, 12), 9);
        due("very kind", x.ofTie(2, 0, 0), 5);
        due("end by its new number", x.ofTie(2, 0, 1), 0);
        due("moment", x.ofTie(2, 0, 4), -1);
        due("kind above both", x.ofTie(2, 1, 0), 2);
        due("tie by its new number", x.ofTie(2, 2, 1), 11);
        due("thing by its new number", x.ofTie(2, 2, 2), 1);
        due("last", x.ofTie(2, 3, 1), 2);
        due("height", x.ofTale(2, 3), 2);
        due("at level 0", x.common(0, 1, 2, 0), 2);
        // Two that become one: the second goes without, and its ties have the first.
        LikeTales y = new LikeTales();
        y.wider(0, 2);
        y.wider(1, 2);
        y.tale(0, 2);
        y.tie(0, 0, 0, 1, -1, -1);
        y.tie(0, 1, 0, 1, -1, -1);
        y.tie(0, 3, 11, 0, -1, -1);
        y.tale(1, 2);
        y.tie(1, 1, 0, 1, -1, -1);
        y.tie(1, 0, 0, 1, -1, -1);
        y.tie(1, 3, 11, 0, -1, -1);
        due("two become one", y.common(0, 1, 2, 1), 2);
        due("the one", y.ofTie(2, 0, 0), 2);
        due("its end has the one", y.ofTie(2, 1, 1), 10);
        due("of empty ones", y.common(5, 6, 2, 0), 0);
        due("no things", y.ofTale(2, 0), 0);
    }

    private static void series() {
        LikeTales x = new LikeTales();
        due("unknown", x.series(0, 0, 0, 12), UNKNOWN);
        due("unknown a", x.series(-1, 0, 0, 0), UNKNOWN);
        // a: 0 over 1 over 2; b: 2 is now over 0 (won), 1 is not over 2 (lost).
        x.tale(0, 3);
        x.tie(0, 0, 0, 1, -1, -1);
        x.tie(0, 1, 1, 2, -1, -1);
        x.tie(0, 2, 11, 0, -1, -1);
        x.tale(1, 3);
        x.sort(1, 2, 5);
        x.sort(0, 2, 5);
        x.tie(1, 0, 0, 1, -1, -1);
        x.tie(1, 3, 2, 0, -1, 8);
        x.tie(1, 4, 11, 10, -1, -1);
        // c: as a, by other numbers, with one more thing and one more tie.
        x.tale(2, 4);
        x.label(2, 6);
        x.sort(2, 0, 5);
        x.tie(2, 1, 1, 0, -1, 3);
        x.tie(2, 2, 10, 2, -1, -1);
        x.tie(2, 0, 2, 1, -1, 4);
        x.tie(2, 9, 3, 3, -1, -1);
        due("series", x.series(0, 1, 2, 3), 4);
        due("things", x.ofTale(3, 0), 4);
        due("sort", x.ofTale(3, 10), 5);
        due("label", x.ofTale(3, 2), 6);
        due("left", x.ofTie(3, 0, 0), 0);
        due("left with its moment", x.ofTie(3, 0, 4), 4);
        due("left as well", x.ofTie(3, 1, 0), 9);
        due("won", x.ofTie(3, 2, 0), 3);
        due("won, end 0", x.ofTie(3, 2, 1), 0);
        due("won, end 1", x.ofTie(3, 2, 2), 2);
        due("won with its moment", x.ofTie(3, 2, 4), 8);
        due("won, a won one at its end", x.ofTie(3, 3, 1), 12);
        due("won, a left one at its end", x.ofTie(3, 3, 2), 10);
        due("into c itself", x.series(0, 1, 2, 2), 4);
        due("c has changed", x.ofTie(2, 2, 0), 3);
        // Kinds alike do not make a likeness at level 0: c has no tie that answers what is lost.
        LikeTales z = new LikeTales();
        z.wider(0, 1);
        z.tale(0, 2);
        z.tie(0, 0, 0, 1, -1, -1);
        z.tale(1, 2);
        z.tie(1, 5, 0, 1, -1, -1);
        z.tale(2, 2);
        z.tie(2, 1, 1, 0, -1, -1);
        due("at level 0", z.series(0, 1, 2, 3), 2);
        due("nothing goes", z.ofTie(3, 0, 0), 1);
        due("put by the first row", z.ofTie(3, 1, 1), 0);
        z.tale(1, 2);
        z.tie(1, 1, 0, 1, -1, -1);
        due("the first at level 0 too", z.series(0, 1, 0, 3), 1);
        due("lost and won", z.ofTie(3, 0, 0), 1);
        // What is won and is there is meant by later ones; what has no partner is not put.
        LikeTales y = new LikeTales();
        y.tale(0, 1);
        y.tie(0, 0, 0, 0, -1, -1);
        y.tale(1, 2);
        y.tie(1, 0, 0, 0, -1, -1);
        y.tie(1, 1, 0, 0, -1, 5);
        y.tie(1, 2, 11, 0, -1, -1);
        y.tie(1, 3, 1, 0, -1, -1);
        y.tie(1, 4, 13, 0, -1, -1);
        y.tale(2, 1);
        y.tie(2, 1, 0, 0, -1, 7);
        y.tie(2, 0, 0, 0, -1, -1);
        due("is there", y.series(0, 1, 2, 3), 3);
        due("with its own moment", y.ofTie(3, 0, 4), 7);
        due("it is meant", y.ofTie(3, 2, 1), 10);
        for (int k = 3; k < 15; k++) {
            y.tie(2, k, 0, 0, -1, -1);
        }
        due("full", y.ofTale(2, 1), 14);
        due("it would have more", y.series(0, 1, 2, 3), FULL);
        due("nothing changed", y.ofTale(3, 1), 3);
        due("what goes makes room", y.series(2, 1, 2, 4), 3);
        due("into a", y.series(0, 0, 2, 0), 14);
    }

    private static void leftOut() {
        LikeTales x = new LikeTales();
        due("unknown", x.leftOut(0, 12), UNKNOWN);
        due("unknown low", x.leftOut(-1, 0), UNKNOWN);
        due("of none", x.leftOut(0, 1), 0);
        x.tale(0, 3);
        // Heights 1 to 3 at one thing against four of height 1: the likeness takes those, the most are four.
        x.kind(0, 1, false);
        x.tie(0, 0, 0, -1, -1, -1);
        x.tie(0, 1, 0, 10, -1, -1);
        x.tie(0, 2, 0, 11, -1, -1);
        x.tie(0, 3, 1, 1, -1, -1);
        x.tie(0, 4, 1, 1, -1, -1);
        x.tie(0, 5, 1, 1, -1, -1);
        x.tie(0, 6, 1, 1, -1, -1);
        due("all", x.leftOut(0, 1), 7);
        x.tale(1, 1);
        x.tie(1, 0, 0, -1, -1, -1);
        x.tie(1, 1, 0, 10, -1, -1);
        x.tie(1, 2, 0, 11, -1, -1);
        x.tie(1, 3, 0, 0, -1, -1);
        x.tie(1, 4, 0, 0, -1, -1);
        x.tie(1, 5, 0, 0, -1, -1);
        x.tie(1, 6, 0, 0, -1, -1);
        due("less the most", x.leftOut(0, 1), 3);
        due("while worth is another thing", x.like(0, 1, 0), 36 + 1);
        x.tale(2, 1);
        x.tie(2, 7, 0, 0, -1, 1);
        x.tie(2, 8, 0, 0, -1, 2);
        x.tale(3, 1);
        x.tie(3, 7, 0, 0, -1, 2);
        x.tie(3, 8, 0, 0, -1, 1);
        due("without time", x.leftOut(2, 3), 0);
        x.timed(1);
        due("in time", x.leftOut(2, 3), 1);
    }

    private static void trial() {
        LikeTales x = new LikeTales();
        due("outside low", x.trial(-1), OUTSIDE);
        due("outside", x.trial(2), OUTSIDE);
        due("outside 9", x.trial(9), OUTSIDE);
        due("outside 20", x.trial(20), OUTSIDE);
        due("right of none", x.trial(0), 0);
        due("tales", x.trial(1), 0);
        x.tale(0, 1);
        x.tie(0, 0, 0, 0, -1, -1);
        x.tale(6, 3);
        due("alone it is not right", x.trial(0), 0);
        due("one tale", x.trial(1), 1);
        x.copy(0, 3);
        x.tale(4, 1);
        x.tie(4, 1, 0, 0, -1, -1);
        x.copy(4, 5);
        x.label(4, 9);
        x.label(5, 9);
        due("all are right", x.trial(0), 4);
        due("four tales", x.trial(1), 4);
        due("label 0", x.trial(10), 2);
        due("label 9", x.trial(19), 2);
        due("label 1", x.trial(11), 0);
        x.label(3, 1);
        due("two are wrong", x.trial(0), 2);
        due("label 0 is wrong", x.trial(10), 0);
        due("no seek was", x.sought(0), STATE);
    }
}
