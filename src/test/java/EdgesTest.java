/** The edges that the document names, worked out by hand: least and greatest numbers, empty and full tales. */
public final class EdgesTest {
    private static final int NONE = LikeTales.NONE, UNKNOWN = LikeTales.UNKNOWN, OUTSIDE = LikeTales.OUTSIDE;
    private static final int STATE = LikeTales.STATE, FULL = LikeTales.FULL, NO = LikeTales.NO;
    // The weight of heights 1 to 14.
    private static final int TOWER = 14 * 15 / 2;

    public static void main(String[] args) {
        kindEnds();
        kindInUse();
        widerRings();
        widerAndOppositeEnds();
        aboveAtLevels();
        countsOfTies();
        timedTellsWhatItWas();
        emptyTales();
        taleAnew();
        fullTale();
        sameTieTwice();
        heights();
        copies();
        likenessOfNone();
        likenessOfFullTales();
        worthAtLevels();
        evenIfBothAre();
        endsThatAreTies();
        ordersOfMoments();
        firstOfTheBest();
        morePairs();
        rowsInOrder();
        likenessKept();
        sameButForNames();
        manyGuesses();
        guessesWithLateTies();
        heldGuesses();
        speakingAgainst();
        fewestGivenUp();
        givingUpAsKept();
        bounds();
        boundsThatTie();
        storeOfAll();
        commonOfFullTales();
        commonKinds();
        seriesFull();
        seriesIntoItsOwn();
        seriesGone();
        seriesWon();
        leftOutOfAll();
        trialsOfAll();
        lastCall();
        Asked.end("edges");
    }

    /** Tale t: one thing, and a tie on each tie, 14 high. */
    private static String tower(int t, int kind) {
        String text = "tale " + t + " 1, tie " + t + " " + kind + " 0 0 -1 -1";
        for (int i = 1; i < 14; i++) {
            text += ", tie " + t + " " + kind + " " + (9 + i) + " 0 -1 -1";
        }
        return text;
    }

    /** Tale t: six things, 14 ties of one kind between them. */
    private static String flat(int t, int kind) {
        String text = "tale " + t + " 6";
        for (int i = 0; i < 14; i++) {
            text += ", tie " + t + " " + kind + " " + i / 6 + " " + i % 6 + " -1 -1";
        }
        return text;
    }

    // ---- the language

    private static void kindEnds() {
        Asked x = new Asked();
        for (int k = 0; k < 16; k += 15) {
            x.due("kind " + k + " 1 1", 2);
            x.due("ofKind " + k + " 1", 0);
            x.due("kind " + k + " 2 1", 1);
            x.due("ofKind " + k + " 1", 1);
            x.due("kind " + k + " 2 1", 2);
            x.due("kind " + k + " 4 0", OUTSIDE);
            x.due("kind " + k + " 0 0", OUTSIDE);
            x.due("ofKind " + k + " 1", 1);
            x.due("kind " + k + " 3 1", 2);
            x.due("ofKind " + k + " 1", 0);
            x.due("ofKind " + k + " 0", 3);
            x.due("kind " + k + " 2 0", 3);
            x.due("ofKind " + k + " 1", 0);
        }
        x.due("ofKind 1 0", 2);
        x.due("ofKind 14 0", 2);
    }

    private static void kindInUse() {
        for (int t = 0; t < 12; t += 11) {
            Asked x = new Asked();
            x.tell(flat(t, 3));
            x.due("kind 3 2 0", STATE);
            x.due("wider 3 4", STATE);
            x.due("wider 3 -1", STATE);
            x.due("kind 4 1 0", 2);
            x.due("kind 4 2 0", 1);
            // Another may have it above itself, or as its opposite.
            x.due("wider 4 3", NONE);
            x.due("opposite 3 5", 1);
            x.due("opposite 3 3", 1);
            x.due("wider 4 -1", 3);
            x.tell("tale " + t + " 6");
            x.due("wider 3 4", NONE);
            x.due("wider 3 -1", 4);
            x.due("kind 3 1 0", 2);
        }
        // The last of the ties of a full tale counts as well, also if other calls put it there.
        Asked y = new Asked();
        y.tell(tower(0, 0)).tell("copy 0 1, tale 2 1");
        for (int i = 0; i < 13; i++) {
            y.tell("tie 2 1 " + (i == 0 ? 0 : 9 + i) + " 0 -1 -1");
        }
        y.tell("tie 2 2 0 0 -1 -1");
        y.due("kind 2 2 0", STATE);
        y.tell("copy 2 9, tale 2 0");
        y.due("kind 2 2 0", STATE);
        y.tell("common 9 9 3 0, tale 9 0");
        y.due("wider 2 5", STATE);
        y.tell("series 0 0 3 11, tale 3 0");
        y.due("wider 2 5", STATE);
        y.tell("tale 11 0");
        y.due("wider 2 5", NONE);
        // One that is wider than the first kind or the last alone is a wider one, too.
        Asked w = new Asked();
        w.tell("wider 0 5, wider 15 6");
        w.due("kind 5 1 0", STATE);
        w.due("kind 6 1 0", STATE);
        w.due("wider 0 -1", 5);
        w.due("kind 5 1 0", 2);
        w.due("kind 6 1 0", STATE);
        // What the likeness kept has, in the one tale or in the other.
        Asked z = new Asked();
        z.tell("tale 0 1, tie 0 3 0 0 -1 -1, tale 1 1, tie 1 4 0 0 -1 -1, like 0 1 0, tale 0 0, tale 1 0");
        for (int k = 3; k < 5; k++) {
            z.due("ofKind " + k + " 4", 0);
            z.due("kind " + k + " 2 0", STATE);
            z.due("wider " + k + " 5", STATE);
            z.due("wider " + k + " -1", STATE);
        }
        z.due("like 0 12 0", UNKNOWN);
        z.due("kind 3 2 0", STATE);
        z.tell("like 0 1 0");
        z.due("kind 3 1 0", 2);
        z.due("wider 4 5", NONE);
    }

    private static void widerRings() {
        Asked x = new Asked();
        for (int k = 0; k < 15; k++) {
            x.due("wider " + k + " " + k, NO);
            x.due("wider " + k + " " + (k + 1), NONE);
        }
        x.due("wider 15 15", NO);
        x.due("wider 15 14", NO);
        x.due("wider 15 0", NO);
        x.due("wider 7 0", NO);
        x.due("ofKind 15 2", NONE);
        x.due("ofKind 7 2", 8);
        x.due("alike 14 15", 1);
        x.due("alike 13 14", 2);
        x.due("alike 13 15", 2);
        x.due("alike 12 15", NONE);
        x.due("alike 12 13", NONE);
        x.due("wider 7 -1", 8);
        x.due("wider 7 -1", NONE);
        x.due("wider 15 0", NONE);
        x.due("wider 7 8", NO);
        x.due("wider 7 15", NO);
        x.due("wider 0 7", 1);
        x.due("wider 0 -1", 7);
        x.due("wider 7 8", NONE);
    }

    private static void widerAndOppositeEnds() {
        Asked x = new Asked();
        x.tell("kind 1 1 0, kind 3 3 0, kind 4 1 0, kind 5 2 1, kind 6 3 0");
        int[] ends = {0, 1, 2, 3, 1, 2, 3};
        for (int k = 1; k < 7; k++) {
            for (int l = 1; l < 7; l++) {
                if (ends[k] != ends[l]) {
                    x.due("wider " + k + " " + l, NO);
                    x.due("opposite " + k + " " + l, NO);
                }
            }
            x.due("ofKind " + k + " 2", NONE);
            x.due("ofKind " + k + " 3", NONE);
        }
        for (int k = 1; k < 4; k++) {
            x.due("wider " + k + " " + (k + 3), NONE);
            x.due("opposite " + k + " " + (k + 3), 1);
            x.due("ofKind " + k + " 2", k + 3);
            x.due("ofKind " + (k + 3) + " 2", NONE);
            x.due("ofKind " + k + " 3", k + 3);
            x.due("ofKind " + (k + 3) + " 3", k);
        }
        // A refused one leaves the opposite that either had.
        x.due("opposite 1 2", NO);
        x.due("ofKind 1 3", 4);
        x.due("ofKind 2 3", 5);
        x.due("opposite 0 2", 1);
        x.due("ofKind 5 3", NONE);
        x.due("opposite 15 0", 1);
        x.due("ofKind 2 3", NONE);
        x.due("ofKind 0 3", 15);
        x.due("opposite 0 0", 1);
        x.due("ofKind 15 3", NONE);
        x.due("opposite 0 0", 1);
        x.due("ofKind 0 3", NONE);
    }

    private static void aboveAtLevels() {
        Asked x = new Asked();
        x.tell("wider 0 1, wider 1 2, wider 2 3, wider 4 5, wider 5 6, wider 6 3");
        // They meet at level 3 alone, which is none.
        x.due("alike 0 4", NONE);
        x.due("alike 1 5", 2);
        x.due("alike 2 6", 1);
        x.due("alike 3 3", 0);
        x.due("alike 3 6", 1);
        x.due("alike 3 5", 2);
        x.due("alike 3 4", NONE);
        x.due("alike 2 5", 2);
        x.due("alike 7 7", 0);
        x.due("alike 7 8", NONE);
        x.due("alike 15 15", 0);
    }

    private static void countsOfTies() {
        Asked x = new Asked();
        x.tell(flat(0, 15));
        for (int t = 1; t < 12; t++) {
            x.due("ofKind 15 4", 14 * t);
            x.due("copy 0 " + t, 14);
        }
        x.due("ofKind 15 4", 12 * 14);
        x.due("ofKind 14 4", 0);
        x.tell("like 0 11 0, tale 11 1");
        x.due("ofKind 15 4", 11 * 14);
    }

    private static void timedTellsWhatItWas() {
        Asked x = new Asked();
        x.due("timed 0", 0);
        x.due("timed 1", 0);
        x.due("timed 2", OUTSIDE);
        x.due("timed -1", OUTSIDE);
        x.due("timed 1", 1);
        x.due("timed 0", 1);
        x.due("timed 0", 0);
    }

    // ---- tales

    private static void emptyTales() {
        Asked x = new Asked();
        x.tell("kind 1 1 0, kind 3 3 0");
        for (int t = 0; t < 12; t += 11) {
            x.dues("ofTale " + t, 0, 0, 0, 0, OUTSIDE, OUTSIDE);
            for (int what = 10; what < 16; what++) {
                x.due("ofTale " + t + " " + what, UNKNOWN);
            }
            x.due("ofTale " + t + " 16", OUTSIDE);
            x.due("ofTie " + t + " 0 0", UNKNOWN);
            x.due("sort " + t + " 0 0", UNKNOWN);
            // No end is there, so no tie can be.
            x.due("tie " + t + " 1 0 -1 -1 -1", OUTSIDE);
            x.due("tie " + t + " 1 -1 -1 -1 -1", OUTSIDE);
            x.due("tie " + t + " 1 10 -1 -1 -1", OUTSIDE);
            x.due("tie " + t + " 0 0 0 -1 -1", OUTSIDE);
            x.due("tie " + t + " 3 -1 -1 -1 -1", OUTSIDE);
            x.due("label " + t + " 9", 0);
            x.due("ofTale " + t + " 2", 9);
        }
    }

    private static void taleAnew() {
        Asked x = new Asked();
        x.tell(flat(11, 0)).tell("label 11 9");
        for (int s = 0; s < 6; s++) {
            x.due("sort 11 " + s + " " + (9 - s), 0);
        }
        x.due("tale 11 7", OUTSIDE);
        x.due("tale 11 -1", OUTSIDE);
        x.dues("ofTale 11", 6, 14, 9, 1);
        x.due("ofTale 11 15", 4);
        x.due("tale 11 3", 1);
        x.dues("ofTale 11", 3, 0, 0, 0);
        x.due("ofTale 11 12", 0);
        x.due("ofTale 11 13", UNKNOWN);
        x.due("ofTie 11 0 0", UNKNOWN);
        // Sorts of things that are no more do not come back.
        x.due("sort 11 2 5", 0);
        x.due("tale 11 0", 1);
        x.due("tale 11 6", 1);
        for (int s = 0; s < 6; s++) {
            x.due("ofTale 11 " + (10 + s), 0);
        }
        x.due("ofTale 10 0", 0);
    }

    private static void fullTale() {
        Asked x = new Asked();
        x.tell("kind 1 1 0, tale 0 1");
        x.due("tie 0 1 0 -1 -1 9", 0);
        for (int i = 1; i < 14; i++) {
            x.due("tie 0 1 " + (10 + i) + " -1 -1 0", OUTSIDE);
            x.due("tie 0 1 " + (9 + i) + " -1 -1 0", i);
        }
        x.due("ofTale 0 1", 14);
        x.due("tie 0 1 23 -1 -1 0", FULL);
        x.due("tie 0 1 24 -1 -1 0", OUTSIDE);
        x.due("tie 0 1 22 -1 -1 0", FULL);
        x.due("tie 0 1 0 -1 -1 9", FULL);
        x.due("ofTie 0 13 1", 22);
        x.due("ofTie 0 13 4", 0);
        x.due("ofTie 0 0 4", 9);
        x.due("ofTie 0 14 0", UNKNOWN);
        x.due("ofTale 0 1", 14);
    }

    private static void sameTieTwice() {
        Asked x = new Asked();
        x.tell("kind 1 2 1, kind 2 3 0, kind 3 1 0, tale 0 3, tale 1 3");
        x.due("tie 0 0 0 1 -1 -1", 0);
        x.due("tie 0 0 0 1 -1 -1", NO);
        x.due("tie 0 0 0 1 -1 0", NO);
        x.due("tie 0 0 1 0 -1 0", 1);
        x.due("tie 0 1 0 1 -1 3", 2);
        x.due("tie 0 1 0 1 -1 4", NO);
        x.due("tie 0 1 1 0 -1 -1", NO);
        x.due("tie 0 1 1 2 -1 -1", 3);
        x.due("tie 0 1 2 2 -1 -1", 4);
        x.due("tie 0 1 2 2 -1 -1", NO);
        x.due("tie 0 1 10 0 -1 -1", 5);
        x.due("tie 0 1 0 10 -1 -1", NO);
        x.due("tie 0 1 10 11 -1 -1", 6);
        x.due("tie 0 1 11 10 -1 -1", NO);
        x.due("tie 0 2 0 1 2 -1", 7);
        x.due("tie 0 2 1 0 2 -1", 8);
        x.due("tie 0 2 0 2 1 -1", 9);
        x.due("tie 0 2 0 1 2 9", NO);
        x.due("tie 0 3 0 -1 -1 -1", 10);
        x.due("tie 0 3 0 -1 -1 1", NO);
        x.due("tie 0 0 1 1 -1 -1", 11);
        // The one that is there keeps its moment; another tale may have it too.
        x.due("ofTie 0 0 4", -1);
        x.due("ofTie 0 2 4", 3);
        x.due("tie 1 0 0 1 -1 -1", 0);
        x.due("ofTale 0 1", 12);
    }

    private static void heights() {
        Asked x = new Asked();
        x.tell(tower(0, 7));
        for (int i = 0; i < 14; i++) {
            x.due("ofTie 0 " + i + " 5", i + 1);
        }
        x.due("ofTale 0 3", 14);
        x.tell("kind 3 3 0, tale 1 2, tie 1 3 0 0 0 -1, tie 1 0 1 10 -1 -1, tie 1 3 0 1 11 -1, tie 1 3 12 10 11 -1, "
            + "tie 1 0 10 1 -1 -1, tie 1 0 1 0 -1 -1");
        int[] heights = {1, 2, 3, 4, 2, 1};
        for (int i = 0; i < heights.length; i++) {
            x.due("ofTie 1 " + i + " 5", heights[i]);
        }
        x.due("ofTale 1 3", 4);
    }

    private static void copies() {
        Asked x = new Asked();
        x.tell(flat(0, 2)).tell("label 0 8, sort 0 5 7");
        x.due("copy 0 11", 14);
        x.dues("ofTale 11", 6, 14, 8, 1);
        x.due("ofTale 11 15", 7);
        x.due("copy 11 11", 14);
        x.due("ofTie 11 13 2", 1);
        x.due("copy 0 12", UNKNOWN);
        x.due("copy 12 0", UNKNOWN);
        x.due("ofTale 0 1", 14);
        x.due("copy 5 11", 0);
        x.dues("ofTale 11", 0, 0, 0, 0);
        x.due("ofTale 11 10", UNKNOWN);
        x.due("ofTale 0 1", 14);
        // Each is its own from then on.
        x.tell("copy 0 1, tale 0 1");
        x.due("ofTale 1 1", 14);
        x.due("tie 1 3 0 0 -1 -1", FULL);
        x.due("tie 0 3 0 0 -1 -1", 0);
    }

    // ---- likenesses

    private static void likenessOfNone() {
        Asked x = new Asked();
        x.tell(flat(0, 0));
        x.due("like 0 1 0", 0);
        for (int s = 0; s < 6; s++) {
            x.due("partner " + s, NONE);
        }
        x.due("partner 6", UNKNOWN);
        x.due("answer 0", NONE);
        x.due("answer 13", NONE);
        x.due("answer 14", UNKNOWN);
        x.due("guess -1", 0);
        x.due("giveUp", 0);
        x.due("likes 0 1 0 -1", 1);
        x.due("likes 0 1 0 0", 999999);
        x.due("likes 0 1 0 1", NONE);
        x.due("worth 0 1 2 999999", 0);
        x.due("like 1 0 2", 0);
        x.due("partner 0", UNKNOWN);
        x.due("answer 0", UNKNOWN);
        x.due("likes 1 0 2 -1", 1);
        x.due("likes 1 0 2 0", 0);
        x.due("likes 1 0 2 1", NONE);
        x.due("worth 1 0 2 0", 0);
        x.due("same 0 1", 0);
        x.due("same 1 0", 0);
        x.due("same 1 2", 1);
        x.due("same 1 1", 1);
    }

    private static void likenessOfFullTales() {
        Asked x = new Asked();
        x.tell("wider 0 5, wider 1 5, wider 2 6, wider 6 5").tell(tower(0, 0)).tell(tower(1, 1)).tell(tower(2, 2));
        x.due("like 0 0 0", 6 * TOWER + 1);
        x.due("answer 13", 13);
        x.due("worth 0 0 2 0", 6 * TOWER + 1);
        x.due("worth 0 0 0 9", 0);
        x.due("like 0 1 0", 1);
        x.due("like 0 1 1", 4 * TOWER + 1);
        x.due("like 0 1 2", 4 * TOWER + 1);
        x.due("like 0 2 1", 1);
        x.due("like 0 2 2", 3 * TOWER + 1);
        x.due("same 0 0", 1);
        x.due("same 0 1", 0);
        x.tell(flat(3, 0));
        x.due("like 3 3 0", 6 * 14 + 6);
        x.due("partner 5", 5);
        x.due("answer 13", 13);
        x.due("likes 3 3 0 0", 12345);
        x.due("worth 3 3 0 12345", 6 * 14 + 6);
        x.due("worth 3 3 0 543210", 6);
        x.due("same 3 3", 1);
    }

    private static void worthAtLevels() {
        Asked x = new Asked();
        x.tell("wider 0 1, wider 1 2, wider 2 3, wider 4 5, wider 5 6, wider 6 3");
        int[] ones = {0, 1, 2, 3, 7};
        int[] others = {4, 5, 6, 3, 8};
        int[][] worths = {{0, 0, 0}, {0, 0, 3}, {0, 4, 4}, {6, 6, 6}, {0, 0, 0}};
        for (int i = 0; i < ones.length; i++) {
            x.tell("tale 0 1, sort 0 0 1, tie 0 " + ones[i] + " 0 0 -1 -1");
            x.tell("tale 1 1, tie 1 " + others[i] + " 0 0 -1 -1");
            for (int level = 0; level < 3; level++) {
                x.due("like 0 1 " + level, worths[i][level]);
                x.due("answer 0", worths[i][level] > 0 ? 0 : NONE);
                x.due("worth 0 1 " + level + " 0", worths[i][level]);
                x.due("worth 1 0 " + level + " 0", worths[i][level]);
                x.due("worth 0 1 " + level + " 9", 0);
            }
        }
    }

    private static void evenIfBothAre() {
        for (int evens = 0; evens < 4; evens++) {
            Asked x = new Asked();
            x.tell("kind 0 2 " + evens % 2 + ", kind 1 2 " + evens / 2 + ", wider 0 2, wider 1 2");
            x.tell("tale 0 2, tie 0 0 0 1 -1 -1, tale 1 2, tie 1 1 1 0 -1 -1, tale 2 2, tie 2 1 0 1 -1 -1");
            x.due("worth 0 1 1 1", evens == 3 ? 6 : 2);
            x.due("worth 0 1 1 10", 6);
            x.due("worth 0 2 1 1", 6);
            x.due("worth 0 2 1 10", evens == 3 ? 6 : 2);
            x.due("likes 0 1 1 -1", evens == 3 ? 2 : 1);
            x.due("likes 0 1 0 -1", 2);
            x.due("worth 0 0 0 10", evens % 2 == 1 ? 8 : 2);
        }
        // Kinds of one or three ends are not even, whatever was told.
        Asked y = new Asked();
        y.tell("kind 0 3 1, tale 0 3, tie 0 0 0 1 2 -1");
        y.due("worth 0 0 0 12", 9);
        y.due("worth 0 0 0 102", 3);
        y.due("worth 0 0 0 21", 3);
        // Both ends have to answer, straight or turned.
        Asked w = new Asked();
        w.tell("kind 0 2 1, tale 0 3, tie 0 0 0 1 -1 -1");
        for (int first = 0; first < 3; first++) {
            for (int second = 0; second < 3; second++) {
                w.tell("tale 1 3, tie 1 0 " + first + " " + second + " -1 -1");
                w.due("worth 0 1 0 12", first != second && first < 2 && second < 2 ? 9 : 3);
            }
        }
        // A thing and a tie as the ends of an even one.
        Asked z = new Asked();
        z.tell("kind 1 2 1, tale 0 2, tie 0 0 0 1 -1 -1, tie 0 1 10 0 -1 -1, tie 0 0 11 0 -1 -1");
        z.tell("tale 1 2, tie 1 0 0 1 -1 -1, tie 1 1 0 10 -1 -1, tie 1 0 0 11 -1 -1");
        z.due("worth 0 1 0 1", 6 + 12 + 2);
        z.due("same 0 1", 0);
    }

    private static void endsThatAreTies() {
        Asked x = new Asked();
        // Tie 2 of tale 1 stands on tie 1 of it, which is not what tie 0 comes to.
        x.tell("tale 0 2, tie 0 0 0 1 -1 -1, tie 0 1 10 0 -1 -1");
        x.tell("tale 1 2, tie 1 0 0 1 -1 -1, tie 1 2 0 1 -1 -1, tie 1 1 11 0 -1 -1");
        x.due("worth 0 1 0 1", 6 + 2);
        x.tell("tie 1 1 10 0 -1 -1");
        x.due("worth 0 1 0 1", 6 + 12 + 2);
        // Tie 0 comes to tie 1 of tale 3, so that tie 2 there, which stands on tie 0, answers none.
        x.tell("tale 3 2, tie 3 2 0 1 -1 -1, tie 3 0 0 1 -1 -1, tie 3 1 10 0 -1 -1");
        x.due("worth 0 3 0 1", 6 + 2);
        x.tell("tie 3 1 11 0 -1 -1");
        x.due("worth 0 3 0 1", 6 + 12 + 2);
        // Nor does what another tale had in its place matter.
        x.tell("tale 4 2, tie 4 0 1 0 -1 -1, tie 4 1 0 10 -1 -1");
        x.due("worth 0 4 0 1", 2);
        x.due("worth 0 1 0 1", 6 + 12 + 2);
        x.due("worth 0 4 0 10", 6 + 2);
        x.tell("kind 3 3 0, tale 5 6, tie 5 3 5 5 5 -1, tale 6 6, tie 6 3 5 4 4 -1");
        x.due("worth 5 5 0 12345", 6 + 6);
        x.due("worth 5 6 0 12345", 6);
        x.due("worth 5 6 0 12354", 6);
        x.due("worth 6 6 0 12345", 6 + 6);
        // A tie upon one thing does not answer one upon a tie, though that be the last.
        x.tell("kind 4 1 0, tale 7 1, tie 7 5 0 0 -1 -1, tie 7 4 10 -1 -1 -1, tale 8 1, tie 8 4 0 -1 -1 -1");
        for (int i = 0; i < 12; i++) {
            x.tell("tie 8 6 0 " + (10 + i) + " -1 -1");
        }
        x.tell("tie 8 5 0 0 -1 -1");
        x.due("like 7 8 0", 6 + 1);
        x.dues("answer", 13, NONE);
        // A thing does not answer a tie, though the numbers be near.
        x.tell("tale 2 2, tie 2 0 0 1 -1 -1, tie 2 1 0 0 -1 -1");
        x.due("worth 0 2 0 1", 6 + 2);
        x.due("worth 2 0 0 1", 6 + 2);
        // Each comes to another: the first of a takes the first alike of b, the second what is left.
        Asked y = new Asked();
        y.tell("wider 0 3, wider 1 3, wider 2 3, tale 0 1, sort 0 0 1, tie 0 0 0 0 -1 -1, tie 0 1 0 0 -1 -1, "
            + "tie 0 5 11 0 -1 -1, tale 1 1, tie 1 2 0 0 -1 -1, tie 1 0 0 0 -1 -1, tie 1 5 11 0 -1 -1");
        y.due("like 0 1 1", 4 + 4 + 12);
        y.dues("answer", 0, 1, 2, UNKNOWN);
        y.due("like 0 1 0", 6);
        y.dues("answer", 1, NONE, NONE);
    }

    private static void ordersOfMoments() {
        int[] moments = {-1, 0, 1, 8, 9};
        for (int m : moments) {
            for (int n : moments) {
                Asked x = new Asked();
                x.tell("timed 1, tale 0 1, tie 0 0 0 0 -1 " + m + ", tie 0 1 0 0 -1 " + n);
                for (int p : moments) {
                    for (int q : moments) {
                        x.tell("tale 1 1, tie 1 0 0 0 -1 " + p + ", tie 1 1 0 0 -1 " + q);
                        boolean isFree = m < 0 || n < 0 || p < 0 || q < 0;
                        boolean isInOrder = Integer.compare(m, n) == Integer.compare(p, q);
                        x.due("like 0 1 0", isFree || isInOrder ? 13 : 7);
                        x.due("leftOut 0 1", isFree || isInOrder ? 0 : 1);
                        x.due("worth 0 1 0 0", isFree || isInOrder ? 13 : 7);
                        boolean isSame = m == p && n == q;
                        x.due("same 0 1", isSame ? 1 : 0);
                    }
                }
            }
        }
        manyMoments();
        momentsOfTheSecondThing();
        // Those that answer count, not those that come ahead: tie 1 does not answer, so tie 2 is held to tie 0 alone.
        Asked y = new Asked();
        y.tell("timed 1, tale 0 1, tie 0 0 0 0 -1 3, tie 0 1 0 0 -1 4, tie 0 2 0 0 -1 5");
        y.tell("tale 1 1, tie 1 0 0 0 -1 3, tie 1 1 0 0 -1 2, tie 1 2 0 0 -1 4");
        y.due("like 0 1 0", 12 + 1);
        y.dues("answer", 0, NONE, 2);
    }

    /** Three ties with all orders of moments, and without; the other tale has them in another order. */
    private static void manyMoments() {
        int[] moments = {-1, 0, 5};
        for (int set = 0; set < 27; set++) {
            int[] here = {moments[set % 3], moments[set / 3 % 3], moments[set / 9]};
            Asked x = new Asked();
            x.tell("timed 1, tale 0 1");
            for (int i = 0; i < 3; i++) {
                x.tell("tie 0 " + i + " 0 0 -1 " + here[i]);
            }
            for (int other = 0; other < 27; other++) {
                int[] there = {moments[other % 3], moments[other / 3 % 3], moments[other / 9]};
                // Tie i of a can come to tie (i + 2) % 3 of b alone.
                x.tell("tale 1 1");
                for (int j = 0; j < 3; j++) {
                    x.tell("tie 1 " + (j + 1) % 3 + " 0 0 -1 " + there[(j + 1) % 3]);
                }
                int count = countInOrder(here, there);
                x.due("worth 0 1 0 0", 6 * count + 1);
                x.due("leftOut 0 1", 3 - count);
            }
        }
    }

    private static int countInOrder(int[] here, int[] there) {
        boolean[] answers = new boolean[here.length];
        int count = 0;
        for (int i = 0; i < here.length; i++) {
            boolean isIn = true;
            for (int k = 0; k < i; k++) {
                boolean areTold = here[i] >= 0 && there[i] >= 0 && here[k] >= 0 && there[k] >= 0;
                boolean isInOrder = Integer.compare(here[i], here[k]) == Integer.compare(there[i], there[k]);
                isIn &= !answers[k] || !areTold || isInOrder;
            }
            answers[i] = isIn;
            count += isIn ? 1 : 0;
        }
        return count;
    }

    /** One thing of b gives less than the other, so that both have to be tried, whatever the moments are. */
    private static void momentsOfTheSecondThing() {
        int[] moments = {-1, 0, 1, 5, 8, 9};
        for (int set = 0; set < 36; set++) {
            int m = moments[set % 6];
            int n = moments[set / 6];
            Asked x = new Asked();
            x.tell("timed 1, kind 0 1 0, kind 1 1 0, tale 0 1, tie 0 0 0 -1 -1 " + m + ", tie 0 1 0 -1 -1 " + n
                + ", tie 0 6 0 0 -1 4, tie 0 6 10 0 -1 4");
            for (int other = 0; other < 36; other++) {
                int p = moments[other % 6];
                int q = moments[other / 6];
                // Ties 2 and 3 have moments, but no kind that is in both.
                x.tell("tale 1 2, tie 1 0 1 -1 -1 " + p + ", tie 1 1 1 -1 -1 " + q + ", tie 1 0 0 -1 -1 -1, "
                    + "tie 1 7 0 0 -1 4, tie 1 7 1 1 -1 4");
                boolean isFree = m < 0 || n < 0 || p < 0 || q < 0;
                boolean isInOrder = isFree || Integer.compare(m, n) == Integer.compare(p, q);
                x.due("like 0 1 0", isInOrder ? 13 : 7);
                x.due("partner 0", isInOrder ? 1 : 0);
                x.due("leftOut 0 1", isInOrder ? 2 : 3);
            }
        }
    }

    private static void firstOfTheBest() {
        // Thing 1 of b has two of kinds alike: the first is taken, though the second would be worth more.
        Asked x = new Asked();
        x.tell("kind 0 1 0, kind 1 1 0, kind 2 1 0, wider 0 2, wider 1 2, tale 0 1, sort 0 0 1, tie 0 0 0 -1 -1 -1");
        x.tell("tale 1 2, tie 1 1 0 -1 -1 -1, tie 1 1 1 -1 -1 -1, tie 1 0 1 -1 -1 -1");
        x.due("like 0 1 1", 4);
        x.dues("partner", 0);
        x.dues("answer", 0);
        x.due("likes 0 1 1 -1", 2);
        x.due("likes 0 1 1 1", 1);
        x.tell("sort 1 0 1");
        x.due("like 0 1 1", 5);
        x.dues("partner", 0);
        x.dues("answer", 0);
        x.due("likes 0 1 1 -1", 1);
        x.due("likes 0 1 1 1", NONE);
        x.due("like 0 1 0", 6);
        x.dues("partner", 1);
        x.dues("answer", 2);
        // A row that comes later and is worth as much is taken, if it has more pairs.
        Asked y = new Asked();
        y.tell("timed 1, kind 0 1 0, kind 1 1 0, kind 3 1 0, tale 0 2, sort 0 0 1, sort 0 1 1");
        y.tell("tie 0 1 1 -1 -1 5, tie 0 0 0 -1 -1 6, tie 0 3 0 -1 -1 7, tale 1 2");
        y.tell("tie 1 1 1 -1 -1 9, tie 1 0 0 -1 -1 3, tie 1 3 0 -1 -1 4");
        y.due("like 0 1 0", 12);
        y.dues("partner", 0, NONE);
        y.tell("tie 1 0 1 -1 -1 -1, tie 1 3 1 -1 -1 -1");
        y.due("worth 0 1 0 1", 6);
        y.due("worth 0 1 0 9", 12);
        y.due("worth 0 1 0 10", 12);
        y.due("like 0 1 0", 12);
        y.dues("partner", 1, 0);
        y.dues("answer", NONE, 3, 4);
        y.due("likes 0 1 0 -1", 1);
        y.due("likes 0 1 0 0", 10);
    }

    private static void morePairs() {
        // A pair that is worth nothing is better than none.
        Asked x = new Asked();
        x.tell("tale 0 2, sort 0 0 1, sort 0 1 2, tale 1 3");
        x.due("like 0 1 0", 0);
        x.dues("partner", 0, 1, UNKNOWN);
        x.due("likes 0 1 0 -1", 6);
        x.due("likes 1 0 0 -1", 6);
        x.due("like 1 0 0", 0);
        x.dues("partner", 0, 1, NONE, UNKNOWN);
        // In time a pair may take away what another is worth; of as great ones the one with more pairs is taken.
        Asked y = new Asked();
        y.tell("timed 1, kind 0 1 0, tale 0 2, sort 0 0 1, sort 0 1 1, tie 0 0 0 -1 -1 5, tie 0 1 1 1 -1 6");
        y.tell("tale 1 2, tie 1 0 0 -1 -1 9, tie 1 1 1 1 -1 3");
        y.due("like 0 1 0", 6);
        y.dues("partner", 0, 1);
        y.dues("answer", 0, NONE);
        y.due("likes 0 1 0 -1", 1);
        y.due("likes 0 1 0 0", 1);
        y.due("likes 0 1 0 1", NONE);
        y.due("worth 0 1 0 91", 6);
        y.tell("tie 0 2 1 1 -1 7, tie 1 2 1 1 -1 4");
        y.due("like 0 1 0", 12);
        y.dues("partner", NONE, 1);
        y.due("likes 0 1 0 -1", 1);
        y.due("likes 0 1 0 0", 91);
        y.due("worth 0 1 0 1", 6);
        y.due("worth 0 1 0 91", 12);
        y.tell("timed 0");
        y.due("like 0 1 0", 18);
        y.due("likes 0 1 0 0", 1);
    }

    private static void rowsInOrder() {
        Asked x = new Asked();
        x.tell("tale 0 6, tale 1 6, tale 2 1, tale 3 2");
        x.due("likes 0 1 0 -2", NONE);
        x.due("likes 0 1 0 -1", 720);
        x.due("likes 0 1 0 0", 12345);
        x.due("likes 0 1 0 1", 12354);
        x.due("likes 0 1 0 120", 102345);
        x.due("likes 0 1 0 719", 543210);
        x.due("likes 0 1 0 720", NONE);
        x.due("likes 0 1 0 " + Integer.MAX_VALUE, NONE);
        x.due("likes 0 1 0 " + Integer.MIN_VALUE, NONE);
        x.due("likes 0 2 0 -1", 6);
        x.due("likes 0 2 0 0", 99999);
        x.due("likes 0 2 0 1", 909999);
        x.due("likes 0 2 0 5", 999990);
        x.due("likes 0 2 0 6", NONE);
        x.due("likes 2 0 0 5", 5);
        x.due("likes 2 0 0 6", NONE);
        x.due("likes 3 2 0 0", 9);
        x.due("likes 3 2 0 1", 90);
        x.due("like 0 2 0", 1);
        x.dues("partner", 0, NONE, NONE, NONE, NONE, NONE, UNKNOWN);
        x.due("likes 0 3 0 -1", 30);
        x.due("likes 0 3 0 29", 999910);
    }

    private static void likenessKept() {
        Asked x = new Asked();
        x.tell(flat(0, 0)).tell("tale 1 1, tie 1 0 0 0 -1 -1, like 0 0 0");
        x.dues("partner", 0, 1, 2, 3, 4, 5, UNKNOWN);
        x.due("answer 13", 13);
        x.due("answer 14", UNKNOWN);
        // A new one takes the place of the former, and its numbers.
        x.tell("like 1 0 2");
        x.dues("partner", 0, UNKNOWN);
        x.dues("answer", 0, UNKNOWN);
        for (String refused : new String[] {"like 12 0 0", "like 0 -1 0", "like 0 0 3", "like 0 0 -1"}) {
            Asked.check(x.ask(refused) < 0, refused + " is not refused");
            x.dues("partner", 0, UNKNOWN);
            x.dues("answer", 0, UNKNOWN);
        }
        x.tell("tale 0 0, tale 1 6");
        x.dues("partner", 0, UNKNOWN);
        x.dues("answer", 0, UNKNOWN);
        x.due("guess -1", 0);
    }

    private static void sameButForNames() {
        Asked x = new Asked();
        x.tell(flat(0, 0)).tell("copy 0 1, sort 0 5 9");
        x.due("same 0 1", 0);
        x.tell("sort 1 5 9");
        x.due("same 0 1", 1);
        // Another label is a name; another sort, a moment that one alone has, a thing more, a tie more are not.
        x.tell("label 1 4");
        x.due("same 0 1", 1);
        x.tell("tale 2 1, tie 2 0 0 0 -1 -1, tale 3 1, tie 3 0 0 0 -1 0, tale 4 2, tie 4 0 0 0 -1 -1");
        x.tell("copy 2 5, tie 5 0 10 0 -1 -1, copy 2 6, sort 6 0 1");
        x.due("same 2 3", 0);
        x.due("same 3 2", 0);
        x.due("same 2 4", 0);
        x.due("same 4 2", 0);
        x.due("same 2 5", 0);
        x.due("same 5 2", 0);
        x.due("same 2 6", 0);
        x.due("same 6 2", 0);
        // The pairing with like sorts is the one that counts, not the likeness.
        x.tell("tale 7 2, sort 7 0 1, tie 7 0 0 1 -1 -1, tale 8 2, sort 8 0 1, tie 8 0 1 0 -1 -1");
        x.due("same 7 8", 0);
        x.tell("sort 8 0 0, sort 8 1 1");
        x.due("same 7 8", 1);
    }

    // ---- guesses

    private static void manyGuesses() {
        Asked x = new Asked();
        x.tell(tower(0, 0)).tell("tale 1 1, tale 2 2, like 0 1 0");
        x.due("guess -1", 14);
        x.due("guess -2", NONE);
        x.due("guess 13", 13);
        x.due("guess 14", NONE);
        x.due("guess " + Integer.MAX_VALUE, NONE);
        x.due("guess " + Integer.MIN_VALUE, NONE);
        x.dues("ofGuess 0", 0, 0, NONE, 0, 0, OUTSIDE);
        for (int i = 1; i < 14; i++) {
            x.dues("ofGuess " + i, 30 + i - 1, 0, NONE, 0, 0, OUTSIDE);
        }
        x.dues("ofGuess 14", NONE, NONE, NONE, NONE, NONE, OUTSIDE);
        x.dues("ofGuess -1", NONE, NONE, NONE, NONE, NONE, OUTSIDE);
        x.due("ofGuess 0 -1", OUTSIDE);
        x.due("giveUp", 0);
        // Without a partner none is a guess; one with partners all round is.
        x.tell("kind 3 3 0, tale 0 3, tie 0 3 0 1 2 -1, tie 0 3 1 1 0 -1, tie 0 3 0 11 0 -1, tie 0 3 10 0 0 -1");
        x.due("like 0 2 0", 2);
        x.due("guess -1", 2);
        x.dues("guess", 1, 2, NONE);
        x.dues("ofGuess 0", 1, 1, 0, 0, 0);
        x.dues("ofGuess 1", 0, 30, 0, 0, 0);
    }

    private static void guessesWithLateTies() {
        Asked x = new Asked();
        x.tell("opposite 1 2, tale 0 1, tie 0 5 0 0 -1 -1, tie 0 1 10 0 -1 -1, tale 1 1, tie 1 0 0 0 -1 -1");
        for (int i = 1; i < 12; i++) {
            x.tell("tie 1 0 " + (9 + i) + " 0 -1 -1");
        }
        x.tell("tie 1 5 0 0 -1 -1, tie 1 2 22 0 -1 -1");
        x.due("like 0 1 0", 7);
        x.due("answer 0", 12);
        x.due("guess -1", 1);
        x.dues("ofGuess 0", 22, 0, NONE, 0, 1);
        x.due("giveUp", 1);
    }

    private static void heldGuesses() {
        // Tie 0 of a comes to the very one that tie 1 is told as.
        Asked x = new Asked();
        x.tell("kind 0 1 0, kind 1 1 0, kind 2 1 0, wider 0 2, wider 1 2");
        x.tell("tale 0 1, tie 0 0 0 -1 -1 -1, tie 0 1 0 -1 -1 4, tale 1 1, tie 1 1 0 -1 -1 5");
        x.due("like 0 1 1", 5);
        x.dues("answer", 0, NONE);
        x.due("guess -1", 1);
        x.dues("ofGuess 0", 0, NONE, NONE, 1, 0);
        // With three ends, with a tie as an end; the wider kind is not that kind.
        Asked y = new Asked();
        y.tell("kind 0 3 0, kind 1 3 0, kind 2 3 0, wider 0 2, wider 1 2");
        y.tell("tale 0 1, tie 0 5 0 0 -1 -1, tie 0 0 0 0 10 -1, tie 0 1 0 0 10 -1, tie 0 2 0 0 10 -1");
        y.tell("tale 1 1, tie 1 5 0 0 -1 -1, tie 1 1 0 0 10 7");
        y.due("like 0 1 1", 6 + 8 + 1);
        y.dues("answer", 0, 1, NONE, NONE);
        y.due("guess -1", 2);
        y.dues("ofGuess 0", 0, 0, 10, 1, 0);
        y.dues("ofGuess 1", 0, 0, 10, 0, 0);
        // Of one that is not even the other way round is another.
        Asked z = new Asked();
        z.tell("opposite 0 1, tale 0 2, sort 0 0 1, tie 0 0 0 1 -1 -1, tale 1 2, sort 1 0 1, tie 1 0 1 0 -1 -1, "
            + "tie 1 1 1 0 -1 -1, tie 1 5 0 0 -1 -1, tie 0 5 0 0 -1 -1");
        z.due("like 0 1 0", 6 + 2);
        z.dues("ofGuess 0", 0, 1, NONE, 0, 0);
    }

    private static void speakingAgainst() {
        // Which of both is even is asked of the one that b has.
        for (int evens = 0; evens < 4; evens++) {
            Asked x = new Asked();
            x.tell("kind 0 2 " + evens % 2 + ", kind 1 2 " + evens / 2 + ", opposite 0 1");
            x.tell("tale 0 2, sort 0 0 1, tie 0 0 0 1 -1 9, tale 1 2, sort 1 0 1, tie 1 1 1 0 -1 0, like 0 1 0");
            x.dues("partner", 0, 1);
            x.due("ofGuess 0 3", 0);
            x.due("ofGuess 0 4", evens / 2);
            x.due("giveUp", evens / 2);
            x.due("tie 1 1 0 1 -1 0", evens / 2 == 1 ? NO : 1);
            x.tell("like 0 1 0");
            x.due("ofGuess 0 4", 1);
        }
    }

    private static void fewestGivenUp() {
        Asked x = new Asked();
        x.tell("opposite 1 2, tale 0 6, tale 1 6");
        for (int s = 0; s < 6; s++) {
            x.tell("sort 0 " + s + " " + s + ", sort 1 " + s + " " + s);
        }
        x.tell("tie 0 1 0 5 -1 -1, tie 1 2 0 5 -1 -1, like 0 1 0");
        x.due("giveUp", 1);
        // One that is a greater number, rather than two that are lesser ones.
        x.tell("tie 0 1 1 5 -1 -1, tie 1 2 1 5 -1 -1, like 0 1 0");
        x.due("giveUp", 32);
        x.tell("tie 0 1 2 3 -1 -1, tie 1 2 2 3 -1 -1, like 0 1 0");
        x.due("giveUp", 32 + 4);
        x.tell("tie 0 1 3 4 -1 -1, tie 1 2 3 4 -1 -1, like 0 1 0");
        x.due("giveUp", 32 + 8);
        x.tell("tie 0 1 4 2 -1 -1, tie 1 2 4 2 -1 -1, like 0 1 0");
        x.due("giveUp", 32 + 8 + 4);
        for (int s = 0; s < 6; s++) {
            x.tell("tie 0 1 " + s + " " + s + " -1 -1, tie 1 2 " + s + " " + s + " -1 -1");
        }
        x.tell("like 0 1 0");
        x.due("guess -1", 11);
        x.due("giveUp", 63);
        x.tell("opposite 1 1");
        x.due("giveUp", 0);
        // A guess with a guess as an end is not against b, nor is a tie that answers.
        Asked y = new Asked();
        y.tell("opposite 1 2, tale 0 1, tie 0 0 0 0 -1 -1, tie 0 1 10 0 -1 -1, tie 0 2 0 0 -1 -1");
        y.tell("tale 1 1, tie 1 2 0 0 -1 -1, tie 1 2 10 0 -1 -1");
        y.due("like 0 1 0", 7);
        y.due("guess -1", 2);
        y.due("giveUp", 0);
    }

    private static void givingUpAsKept() {
        // At the level of the likeness kept tie 0 answers, so that tie 1 stands on it, and is against b.
        for (int level = 0; level < 3; level++) {
            Asked x = new Asked();
            x.tell("wider 0 3, wider 4 3, opposite 1 2, tale 0 1, tie 0 0 0 0 -1 -1, tie 0 1 10 0 -1 -1");
            x.tell("tale 1 1, tie 1 4 0 0 -1 -1, tie 1 2 10 0 -1 -1, like 0 1 " + level + ", likes 0 1 0 -1");
            x.due("giveUp", level > 0 ? 1 : 0);
            x.due("giveUp", level > 0 ? 1 : 0);
            x.due("guess -1", level > 0 ? 1 : 2);
            x.due("partner 0", 0);
        }
        // In time as then: tie 1 is out of order, and what is told against it is found.
        for (int timed = 0; timed < 2; timed++) {
            Asked x = new Asked();
            x.tell("timed " + timed + ", kind 0 1 0, opposite 1 2, tale 0 2, sort 0 0 1, sort 0 1 2, "
                + "tie 0 0 0 -1 -1 5, tie 0 1 1 1 -1 6, tale 1 2, sort 1 0 1, sort 1 1 2, tie 1 0 0 -1 -1 9, "
                + "tie 1 1 1 1 -1 3, tie 1 2 1 1 -1 3, like 0 1 0, timed " + (1 - timed));
            x.due("giveUp", timed);
            x.due("guess -1", timed);
            x.due("answer 1", timed == 1 ? NONE : 1);
        }
    }

    // ---- the store

    private static void bounds() {
        Asked x = new Asked();
        x.tell(tower(0, 15)).tell(flat(1, 15)).tell("copy 1 11");
        x.due("bound 0 0", 14 * 6 * 14 + 1);
        x.due("bound 0 1", 14 * 6 * 14 + 1);
        x.due("bound 1 0", 14 * 6 + 1);
        x.due("bound 11 11", 14 * 6 + 6);
        x.due("bound 2 3", 0);
        x.due("bound 0 2", 0);
        x.due("bound 2 0", 0);
        x.tell("tale 2 6, tale 3 6");
        x.due("bound 2 3", 6);
        for (int s = 0; s < 6; s++) {
            x.tell("sort 2 " + s + " 9");
            x.due("bound 2 3", 5 - s);
        }
        x.tell("sort 3 0 9, sort 3 5 9, sort 3 2 8");
        x.due("bound 2 3", 2);
        x.due("bound 3 2", 2);
        // Kinds alike are not that kind, and it is the greatest height, of those of a.
        x.tell("wider 0 2, wider 1 2, tale 4 1, sort 4 0 1, tie 4 0 0 0 -1 -1, tie 4 0 10 0 -1 -1, tie 4 5 11 0 -1 -1");
        x.tell("tale 5 1, tie 5 0 0 0 -1 -1, tie 5 1 0 0 -1 -1, tie 5 5 0 0 -1 -1, tie 5 2 0 0 -1 -1");
        x.due("bound 4 5", 6 * 2 + 6 * 3);
        x.due("bound 5 4", 6 + 6);
    }

    private static void boundsThatTie() {
        // Bounds of 1: 8, of 2: 7, worth as much; of 1 it is 2.
        Asked x = new Asked();
        x.tell("tale 0 2, tie 0 0 0 1 -1 -1, tale 1 2, tie 1 0 0 0 -1 -1, tale 2 2, sort 2 1 1, tie 2 0 0 1 -1 -1");
        x.due("bound 0 1", 8);
        x.due("bound 0 2", 7);
        x.due("seek 0", 2);
        x.dues("sought", 2, 7, OUTSIDE);
        // As great a bound with a greater number is not held to it; a greater bound is.
        x.tell("copy 2 3");
        x.due("seek 0", 2);
        x.dues("sought", 2, 7);
        x.tell("copy 1 4");
        x.due("seek 0", 2);
        x.dues("sought", 3, 7);
        x.tell("copy 0 11");
        x.due("seek 0", 11);
        x.dues("sought", 3, 8);
        x.due("seek 12", UNKNOWN);
        x.dues("sought", 3, 8);
        // The store is sought at level 0: kinds that are but alike are worth nothing.
        Asked z = new Asked();
        z.tell("wider 0 2, wider 1 2, tale 0 1, tie 0 0 0 0 -1 -1, tale 1 1, tie 1 1 0 0 -1 -1, tale 2 2, "
            + "sort 2 0 3, sort 2 1 3, tie 2 0 1 1 -1 -1, label 2 4");
        z.due("seek 1", 0);
        z.dues("sought", 1, 1);
        z.due("seek 0", 2);
        z.dues("sought", 1, 6);
        z.due("trial 0", 1);
        z.tell("label 1 4");
        z.due("trial 0", 0);
        z.tell("label 0 4");
        z.due("trial 0", 3);
        // As great a bound with a lesser number is held, and is the likest, being worth as much.
        Asked y = new Asked();
        y.tell("tale 0 2, sort 0 1 1, tie 0 0 0 1 -1 -1, tale 9 2, sort 9 0 1, tie 9 0 0 1 -1 -1");
        y.tell("tale 10 2, sort 10 0 2, sort 10 1 2, tie 10 0 0 1 -1 -1");
        y.due("bound 0 9", 8);
        y.due("like 0 9 0", 6);
        y.due("bound 0 10", 6);
        y.due("like 0 10 0", 6);
        y.due("seek 0", 9);
        y.dues("sought", 1, 6);
        y.tell("copy 10 3");
        y.due("seek 0", 3);
        y.dues("sought", 2, 6);
        y.tell("copy 10 2");
        y.due("seek 0", 2);
        y.dues("sought", 2, 6);
        y.tell("tie 9 5 0 0 -1 -1, tie 10 5 0 0 -1 -1, tie 2 5 0 0 -1 -1, tale 3 0");
        y.due("seek 0", 2);
        // A bound above the best so far is held to it, though it is worth less; one below is not.
        y.tell("tale 1 2, sort 1 0 3, tie 1 0 0 0 -1 -1, tie 1 6 0 1 -1 -1, tale 4 1, sort 4 0 5, tie 4 6 0 0 -1 -1");
        y.due("bound 0 1", 7);
        y.due("bound 0 4", 0);
        y.due("seek 0", 2);
        y.dues("sought", 3, 6);
    }

    private static void storeOfAll() {
        Asked x = new Asked();
        x.tell("tale 0 2, tie 0 0 0 1 -1 -1, tale 1 2, tie 1 0 0 0 -1 -1");
        for (int t = 2; t < 12; t++) {
            x.tell("copy 1 " + t);
        }
        // All have the bound 8, and are worth 2.
        x.due("seek 0", 1);
        x.dues("sought", 11, 2);
        x.due("seek 11", 1);
        x.dues("sought", 2, 8);
        x.due("seek 1", 2);
        x.dues("sought", 2, 8);
        x.tell("copy 0 11");
        x.due("seek 0", 11);
        x.dues("sought", 11, 8);
        // One without ties is not there; it may be asked with all the same.
        x.tell("tale 1 6, tale 11 6");
        x.due("seek 0", 2);
        x.dues("sought", 9, 2);
        x.due("seek 1", 0);
        x.dues("sought", 1, 2);
        x.tell("tale 5 0");
        x.due("seek 5", 0);
        x.dues("sought", 1, 0);
        for (int t = 1; t < 12; t++) {
            x.tell("tale " + t + " 2");
        }
        x.due("seek 0", NONE);
        x.dues("sought", 0, NONE);
        x.due("seek 11", 0);
        x.dues("sought", 1, 2);
        x.due("seek -1", UNKNOWN);
        x.dues("sought", 1, 2);
    }

    // ---- common, series, left out

    private static void commonOfFullTales() {
        Asked x = new Asked();
        x.tell(flat(0, 0)).tell("label 0 7, sort 0 5 9").tell(tower(11, 3)).tell("label 11 7");
        x.due("common 0 0 11 0", 14);
        x.dues("ofTale 11", 6, 14, 0, 1);
        x.due("ofTale 11 15", 9);
        x.due("same 0 11", 1);
        x.due("common 0 0 0 0", NO);
        x.due("common 0 11 0 0", NO);
        x.due("common 11 0 0 0", NO);
        x.due("common 0 0 1 3", OUTSIDE);
        x.due("ofTale 0 2", 7);
        // Moments do not come along, nor what c had before.
        x.tell("tale 1 1, label 1 3, tie 1 0 0 0 -1 9, tale 2 6, label 2 6, tie 2 0 5 4 -1 -1");
        x.due("common 1 1 2 2", 1);
        x.dues("ofTale 2", 1, 1, 0, 1);
        x.due("ofTale 2 11", UNKNOWN);
        x.due("ofTie 2 0 4", -1);
        x.due("common 1 5 2 0", 0);
        x.dues("ofTale 2", 0, 0, 0, 0);
        x.due("common 5 1 2 0", 0);
        x.dues("ofTale 2", 0, 0, 0, 0);
        x.tell(tower(3, 4));
        x.due("common 3 3 4 0", 14);
        x.due("ofTale 4 3", 14);
    }

    private static void commonKinds() {
        Asked x = new Asked();
        // Below 3 kinds 0 and 1 meet at level 1, kinds 0 and 4 at level 2.
        x.tell("wider 0 2, wider 1 2, wider 2 3, wider 4 5, wider 5 3");
        x.tell("tale 0 1, tie 0 0 0 0 -1 -1, tale 1 1, tie 1 1 0 0 -1 -1, tale 4 1, tie 4 4 0 0 -1 -1");
        x.due("common 0 1 9 0", 0);
        x.due("common 0 1 9 1", 1);
        x.due("ofTie 9 0 0", 2);
        x.due("common 0 1 9 2", 1);
        x.due("ofTie 9 0 0", 2);
        x.due("common 0 4 9 1", 0);
        x.due("common 0 4 9 2", 1);
        x.due("ofTie 9 0 0", 3);
        x.due("common 4 4 9 2", 1);
        x.due("ofTie 9 0 0", 4);
        // Of an even kind above, the other way round is there already.
        Asked y = new Asked();
        y.tell("kind 2 2 1, wider 0 2, wider 1 2, tale 0 2, sort 0 0 1, tie 0 0 0 1 -1 -1, tie 0 0 1 0 -1 -1, "
            + "tie 0 5 11 1 -1 -1, tale 1 2, sort 1 0 1, tie 1 1 0 1 -1 -1, tie 1 1 1 0 -1 -1, tie 1 5 11 1 -1 -1");
        y.due("common 0 1 2 1", 2);
        y.due("ofTie 2 0 0", 2);
        y.due("ofTie 2 1 0", 5);
        y.due("ofTie 2 1 1", 10);
        y.due("ofTale 2 10", 1);
        y.due("ofTale 2 11", 0);
    }

    private static void seriesFull() {
        // Tale 1 has won a tie of kind 1 over tale 0, and tale 3 as many as can be.
        Asked x = new Asked();
        x.tell("tale 0 1, tale 1 1, tie 1 1 0 0 -1 9, tale 2 1, tie 2 2 0 0 -1 -1");
        for (int i = 1; i < 13; i++) {
            x.tell("tie 2 2 " + (9 + i) + " 0 -1 -1");
        }
        x.tell("tale 4 5, label 4 4");
        x.due("series 0 1 2 3", 14);
        x.due("ofTie 3 13 0", 1);
        x.due("ofTie 3 13 4", 9);
        x.due("ofTie 3 12 5", 13);
        x.tell("copy 2 5, tie 5 3 0 0 -1 -1");
        x.due("series 0 1 5 4", FULL);
        x.dues("ofTale 4", 5, 0, 4, 0);
        x.due("series 0 1 5 5", FULL);
        x.due("ofTale 5 1", 14);
        x.due("ofTie 5 13 0", 3);
        x.due("series 0 1 5 12", UNKNOWN);
        // One that is there already needs no room, and two are one too many where there is room for one.
        x.due("series 0 1 3 4", 14);
        x.due("same 3 4", 1);
        x.tell("tie 1 4 0 0 -1 -1");
        x.due("series 0 1 2 4", FULL);
        x.due("series 0 1 3 4", FULL);
        x.due("ofTale 4 1", 14);
        // What is lost makes room.
        x.tell("tale 0 1, tie 0 3 0 0 -1 -1, tale 1 1, tie 1 1 0 0 -1 -1");
        x.due("series 0 1 5 4", 14);
        x.due("ofTie 4 13 0", 1);
        x.tell("tie 1 4 0 0 -1 -1");
        x.due("series 0 1 5 4", FULL);
    }

    private static void seriesIntoItsOwn() {
        for (int d = 0; d < 4; d++) {
            Asked x = new Asked();
            x.tell("tale 0 1, label 0 1, tie 0 0 0 0 -1 1, tie 0 1 0 0 -1 -1, tale 1 1, label 1 2, tie 1 1 0 0 -1 -1, "
                + "tie 1 2 0 0 -1 5, tale 2 2, label 2 3, sort 2 1 8, tie 2 0 0 0 -1 -1, tie 2 1 0 0 -1 2");
            x.due("series 0 1 2 " + d, 2);
            x.dues("ofTale " + d, 2, 2, 3, 1);
            x.due("ofTale " + d + " 11", 8);
            x.due("ofTie " + d + " 0 0", 1);
            x.due("ofTie " + d + " 0 4", 2);
            x.due("ofTie " + d + " 1 0", 2);
            x.due("ofTie " + d + " 1 4", 5);
        }
        // To itself as to what: nothing is lost or won. Of empty ones c stays as it is.
        Asked y = new Asked();
        y.tell(flat(2, 0)).tell("label 2 9");
        y.due("series 2 2 2 2", 14);
        y.dues("ofTale 2", 6, 14, 9, 1);
        y.due("series 0 1 2 5", 14);
        y.due("same 2 5", 1);
        y.due("ofTale 5 2", 9);
        y.due("series 2 2 0 5", 0);
        y.dues("ofTale 5", 0, 0, 0, 0);
        y.due("series 2 0 2 5", 0);
        y.dues("ofTale 5", 6, 0, 9, 0);
        // What is won of things that are not in a has no place.
        y.due("series 0 2 0 5", 0);
        y.due("series 0 2 1 5", 0);
    }

    private static void seriesGone() {
        // Tie 0 is lost; tie 1 stands on it, tie 2 on tie 1, tie 3 on none of them.
        Asked x = new Asked();
        x.tell("tale 0 1, tie 0 0 0 0 -1 -1, tale 2 1, tie 2 0 0 0 -1 -1, tie 2 5 0 10 -1 3, tie 2 6 11 0 -1 4, "
            + "tie 2 7 0 0 -1 6, tie 2 8 13 0 -1 7");
        x.due("series 0 1 2 3", 2);
        x.due("ofTie 3 0 0", 7);
        x.due("ofTie 3 0 4", 6);
        x.due("ofTie 3 1 0", 8);
        x.due("ofTie 3 1 1", 10);
        // It does not go, if what is lost does not answer in c.
        x.tell("tale 0 1, tie 0 9 0 0 -1 -1");
        x.due("series 0 1 2 3", 5);
        x.due("same 2 3", 1);
    }

    private static void seriesWon() {
        // Thing 1 of b is no partner: what stands on it is not put, nor what stands on that.
        Asked x = new Asked();
        x.tell("tale 0 1, sort 0 0 1, tie 0 0 0 0 -1 -1, tale 1 2, sort 1 0 1, tie 1 0 0 0 -1 -1, tie 1 1 0 1 -1 -1, "
            + "tie 1 2 11 0 -1 -1, tie 1 3 10 0 -1 8, tie 1 4 13 10 -1 -1, tale 2 1, tie 2 0 0 0 -1 -1");
        x.due("series 0 1 2 3", 3);
        x.due("ofTie 3 1 0", 3);
        x.due("ofTie 3 1 1", 10);
        x.due("ofTie 3 1 4", 8);
        x.due("ofTie 3 2 0", 4);
        x.due("ofTie 3 2 1", 11);
        x.due("ofTie 3 2 2", 10);
        // Tie 0 of a has no answer in c: what is won upon its answer in b has no place.
        x.tell("tale 2 1, tie 2 9 0 0 -1 -1");
        x.due("series 0 1 2 3", 1);
        x.due("ofTie 3 0 0", 9);
        // Thing 1 of a has a partner in b, but none in c.
        Asked y = new Asked();
        y.tell("tale 0 2, tale 1 2, tie 1 0 1 1 -1 -1, tie 1 1 0 0 -1 -1, tale 2 1");
        y.due("series 0 1 2 3", 1);
        y.due("ofTie 3 0 0", 1);
        // Numbers in a, in b, in c and in d all differ.
        Asked w = new Asked();
        w.tell("tale 0 2, sort 0 0 1, sort 0 1 2, tie 0 5 0 1 -1 -1, tie 0 6 10 1 -1 -1");
        w.tell("tale 1 3, sort 1 2 1, sort 1 1 2, tie 1 0 0 0 -1 -1, tie 1 5 2 1 -1 -1, tie 1 6 11 1 -1 -1, "
            + "tie 1 7 2 12 -1 -1, tie 1 8 13 11 -1 -1");
        w.tell("tale 2 4, sort 2 3 1, sort 2 0 2, tie 2 9 3 3 -1 -1, tie 2 9 0 0 -1 -1, tie 2 5 3 0 -1 -1, "
            + "tie 2 6 12 0 -1 -1");
        w.due("series 0 1 2 3", 6);
        w.due("ofTie 3 4 0", 7);
        w.due("ofTie 3 4 1", 3);
        w.due("ofTie 3 4 2", 13);
        w.due("ofTie 3 5 0", 8);
        w.due("ofTie 3 5 1", 14);
        w.due("ofTie 3 5 2", 12);
        w.tell("tale 2 4, sort 2 3 1, sort 2 0 2, tie 2 5 3 0 -1 -1");
        w.due("series 0 1 2 3", 1);
        w.tell("tale 2 4, sort 2 3 1, sort 2 0 2, tie 2 9 3 3 -1 -1");
        w.due("series 0 1 2 3", 1);
        // Of an even kind the other way round is there.
        Asked z = new Asked();
        z.tell("kind 1 2 1, tale 0 2, tale 1 2, tie 1 1 0 1 -1 4, tie 1 2 10 0 -1 -1, tale 2 2, tie 2 1 1 0 -1 5");
        z.due("series 0 1 2 3", 2);
        z.due("ofTie 3 0 1", 1);
        z.due("ofTie 3 0 4", 5);
        z.due("ofTie 3 1 1", 10);
    }

    private static void leftOutOfAll() {
        Asked x = new Asked();
        x.tell("wider 0 1, wider 2 1").tell(tower(0, 0)).tell(flat(1, 0)).tell(tower(2, 2));
        x.due("leftOut 0 0", 0);
        x.due("leftOut 1 1", 0);
        x.due("leftOut 0 5", 14);
        x.due("leftOut 5 0", 0);
        x.due("leftOut 0 1", 13);
        x.due("leftOut 1 0", 13);
        x.due("leftOut 0 2", 14);
        x.due("leftOut 5 6", 0);
    }

    // ---- trials

    private static void trialsOfAll() {
        Asked x = new Asked();
        x.tell(flat(0, 0)).tell("label 0 9");
        for (int t = 1; t < 12; t++) {
            x.tell("copy 0 " + t);
        }
        x.due("trial 0", 12);
        x.due("trial 1", 12);
        x.due("trial 19", 12);
        x.due("trial 18", 0);
        x.due("trial 10", 0);
        // All but tale 0 are likest to tale 0, and tale 0 is to tale 1.
        x.tell("label 0 0");
        x.due("trial 0", 0);
        x.tell("label 1 0");
        x.due("trial 0", 2);
        x.due("trial 10", 2);
        x.due("trial 19", 0);
        x.tell("tale 11 6, label 11 0");
        x.due("trial 0", 2);
        x.due("trial 1", 11);
        x.due("trial 9", OUTSIDE);
        x.due("trial 20", OUTSIDE);
        for (int t = 1; t < 11; t++) {
            x.tell("tale " + t + " 1");
        }
        x.due("trial 0", 0);
        x.due("trial 1", 1);
        x.tell("tale 0 0");
        x.due("trial 1", 0);
        x.due("trial 0", 0);
    }

    private static void lastCall() {
        Asked x = new Asked();
        x.tell("timed 1").tell(tower(0, 0)).tell(flat(1, 0)).tell("like 0 0 0");
        while (x.callsMade() < Asked.MOST_CALLS - 3) {
            x.due("ofTie 0 13 5", 14);
        }
        x.due("giveUp", 0);
        x.due("answer 13", 13);
        x.due("like 1 1 0", 6 * 14 + 6);
    }
}
