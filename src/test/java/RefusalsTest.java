import java.util.ArrayList;
import java.util.List;

/**
 * How calls are refused: the number just inside and just outside of each bound, which refusal comes first where two
 * fit, and that a refused call leaves everything as it was.
 */
public final class RefusalsTest {
    private static final int NONE = LikeTales.NONE, UNKNOWN = LikeTales.UNKNOWN, OUTSIDE = LikeTales.OUTSIDE;
    private static final int STATE = LikeTales.STATE, FULL = LikeTales.FULL, NO = LikeTales.NO;
    private static final int MIN = Integer.MIN_VALUE, MAX = Integer.MAX_VALUE;

    // Kind 11 is free. By the likeness of tale 0 to tale 1 things 0, 1, 2 have the partners 3, 0, 1, ties 0, 1, 2
    // answer, ties 3 to 7 are guesses, 4 and 7 of them against tale 1: without thing 1 none of both is a guess.
    private static final String LANGUAGE = "kind 1 2 1, kind 2 1 0, kind 3 3 0, wider 4 5, wider 6 5, opposite 7 8, "
        + "wider 13 14, opposite 15 12";
    private static final String TALES = "tale 0 3, sort 0 0 1, sort 0 2 9, label 0 9, "
        + "tie 0 0 0 1 -1 0, tie 0 1 1 2 -1 9, tie 0 2 2 -1 -1 -1, tie 0 3 0 1 2 -1, tie 0 7 10 12 -1 -1, "
        + "tie 0 4 2 2 -1 3, tie 0 7 15 0 -1 -1, tie 0 7 2 1 -1 -1, "
        + "tale 1 4, sort 1 3 1, sort 1 1 9, label 1 1, "
        + "tie 1 0 3 0 -1 4, tie 1 1 1 0 -1 5, tie 1 2 1 -1 -1 -1, tie 1 8 10 12 -1 -1, tie 1 6 1 1 -1 3, "
        + "tie 1 8 1 0 -1 -1";
    private static final int TIES_OF_0 = 8;
    private static final int TIES_OF_1 = 6;

    // A call of each kind of refusal that each promise names, on the world.
    private static final String REFUSED = "kind -1 2 0, kind 16 2 0, kind 11 0 0, kind 11 4 1, kind 0 3 0, kind 1 2 0, "
        + "kind 13 1 0, kind 14 1 0, kind 15 1 0, kind 12 1 0, wider -1 0, wider 16 0, wider 11 16, wider 11 -2, "
        + "wider 0 11, wider 4 -1, wider 14 13, wider 11 11, wider 11 3, wider 13 2, opposite -1 0, opposite 7 16, "
        + "opposite 16 7, opposite 7 2, opposite 3 8, opposite 15 3, ofKind 16 0, ofKind 0 5, alike 16 0, "
        + "alike 0 -1, timed 2, timed -1, tale -1 0, tale 12 0, tale 0 7, tale 1 -1, sort 12 0 0, sort 0 3 0, "
        + "sort 1 -1 5, sort 0 0 10, sort 0 2 -1, label 12 0, label -1 0, label 0 10, label 0 -1, "
        + "tie 12 11 0 0 -1 -1, tie 0 16 0 0 -1 -1, tie 0 11 0 0 -1 10, tie 0 11 0 0 -1 -2, tie 0 11 3 0 -1 -1, "
        + "tie 0 11 0 18 -1 -1, tie 0 11 0 0 0 -1, tie 0 11 0 -1 -1 -1, tie 11 11 0 0 -1 -1, tie 0 0 0 1 -1 5, "
        + "tie 0 1 2 1 -1 5, tie 0 7 10 12 -1 1, ofTie 0 8 0, ofTie 0 0 6, ofTale 12 0, ofTale 0 4, ofTale 0 13, "
        + "copy 1 12, copy 12 1, copy -1 0, like 12 0 0, like 1 12 0, like 1 0 3, like 1 0 -1, like -1 -1 0, "
        + "partner 3, partner -1, answer 8, answer -1, likes 12 0 0 0, likes 1 0 3 0, worth 12 0 0 0, worth 1 0 3 9, "
        + "worth 0 1 0 1000, worth 0 1 0 331, worth 0 1 0 401, worth 0 1 0 -1, same 12 0, same 0 12, ofGuess 0 5, "
        + "ofGuess 0 -1, bound 12 0, bound 0 -1, seek 12, seek -1, sought 2, sought -1, common 12 0 1 0, "
        + "common 0 1 12 0, common 0 1 2 3, common 0 1 2 -1, common 0 1 0 0, common 0 1 1 0, common 0 0 0 0, "
        + "series 0 1 2 12, series -1 0 1 2, series 2 3 11 0, series 2 3 11 1, series 2 3 11 11, leftOut 12 0, "
        + "leftOut 0 -1, trial -1, trial 2, trial 9, trial 20";

    // Calls that answer, or say that there is NONE, and change nothing either.
    private static final String LOOKING = "ofKind 7 3, alike 4 6, ofTie 0 0 5, ofTale 0 3, partner 0, answer 0, "
        + "answer 3, likes 1 0 2 -1, likes 0 1 0 0, likes 0 1 0 99, likes 11 11 0 -1, worth 1 0 0 9999, "
        + "worth 11 11 2 543210, same 0 1, same 2 4, guess -1, guess 4, guess 99, ofGuess 1 4, ofGuess 99 0, giveUp, "
        + "bound 1 0, sought 0, leftOut 1 0, leftOut 11 0, trial 0, trial 1, trial 15";

    // Calls that change tales or timed, but neither the likeness kept nor what was sought.
    private static final String TELLING = "timed 1, sort 0 2 3, sort 1 0 1, label 0 1, "
        + "tie 0 0 1 0 -1 -1, tie 1 7 0 3 -1 -1, copy 11 0, copy 0 1, copy 2 1, common 0 1 2 0, common 2 3 0 2, "
        + "common 0 11 1 1, series 0 1 0 0, series 1 0 1 1, series 0 0 1 0, wider 11 13, opposite 11 5, "
        + "tale 1 6, tale 0 0";

    public static void main(String[] args) {
        numbersOfKinds();
        numbersOfTales();
        numbersOfLikenesses();
        numbersOfTheRest();
        endsOfATie();
        whatOfATale();
        labelsOfTrials();
        digitsOfAPairing();
        ordersOfRefusals();
        refusalsOfANewObject();
        refusedCallsChangeNothing();
        lookingChangesNothing();
        tellingLeavesWhatIsKept();
        Asked.end("refusals");
    }

    private static Asked world() {
        Asked x = new Asked();
        x.tell(LANGUAGE).tell(TALES);
        for (int t = 2; t < 11; t++) {
            x.tell("tale " + t + " 1, tie " + t + " " + (9 + t % 2) + " 0 0 -1 -1");
        }
        x.tell("tale 11 6, label 11 5");
        for (int i = 0; i < 14; i++) {
            x.tell("tie 11 0 " + i / 6 + " " + i % 6 + " -1 -1");
        }
        x.due("like 0 1 0", 6 + 6 + 6 + 3);
        x.due("giveUp", 1 << 1);
        x.due("seek 1", 0);
        return x;
    }

    // ---- the numbers just inside and just outside

    private static int[] oddNumbers(int low, int high) {
        return new int[] {MIN, MIN + 1, -1000, -11, -6, -3, -2, -1, low - 2, low - 1, high + 1, high + 2, 9, 10, 16, 17,
            20, 24, 30, 100, 1 << 16, 1 << 30, MAX - 1, MAX};
    }

    /** With a number outside of low to high for the sign # the call is refused so, with one inside it is not. */
    private static void sweep(String call, int low, int high, int refusal) {
        for (int v : oddNumbers(low, high)) {
            if (v < low || v > high) {
                world().due(call.replace("#", "" + v), refusal);
            }
        }
        for (int v = low; v <= high; v++) {
            String text = call.replace("#", "" + v);
            Asked.check(world().ask(text) != refusal, text + " is refused");
        }
    }

    private static void numbersOfKinds() {
        sweep("kind # 2 0", 0, 15, UNKNOWN);
        sweep("kind 11 # 0", 1, 3, OUTSIDE);
        sweep("kind 11 # 1", 1, 3, OUTSIDE);
        sweep("wider # 11", 0, 15, UNKNOWN);
        sweep("wider 11 #", -1, 15, UNKNOWN);
        sweep("opposite # 11", 0, 15, UNKNOWN);
        sweep("opposite 11 #", 0, 15, UNKNOWN);
        sweep("ofKind # 0", 0, 15, UNKNOWN);
        sweep("ofKind 4 #", 0, 4, OUTSIDE);
        sweep("alike # 0", 0, 15, UNKNOWN);
        sweep("alike 0 #", 0, 15, UNKNOWN);
        sweep("timed #", 0, 1, OUTSIDE);
    }

    private static void numbersOfTales() {
        sweep("tale # 0", 0, 11, UNKNOWN);
        sweep("tale 0 #", 0, 6, OUTSIDE);
        sweep("sort # 0 0", 0, 11, UNKNOWN);
        sweep("sort 0 # 0", 0, 2, UNKNOWN);
        sweep("sort 11 # 0", 0, 5, UNKNOWN);
        sweep("sort 0 2 #", 0, 9, OUTSIDE);
        sweep("label # 0", 0, 11, UNKNOWN);
        sweep("label 0 #", 0, 9, OUTSIDE);
        sweep("tie # 11 0 0 -1 -1", 0, 11, UNKNOWN);
        sweep("tie 0 # 0 0 -1 -1", 0, 15, UNKNOWN);
        sweep("tie 0 11 0 0 -1 #", -1, 9, OUTSIDE);
        sweep("ofTie # 0 0", 0, 11, UNKNOWN);
        sweep("ofTie 0 # 0", 0, TIES_OF_0 - 1, UNKNOWN);
        sweep("ofTie 11 # 0", 0, 13, UNKNOWN);
        sweep("ofTie 0 3 #", 0, 5, OUTSIDE);
        sweep("ofTale # 0", 0, 11, UNKNOWN);
        sweep("copy # 0", 0, 11, UNKNOWN);
        sweep("copy 0 #", 0, 11, UNKNOWN);
    }

    private static void numbersOfLikenesses() {
        sweep("like # 0 0", 0, 11, UNKNOWN);
        sweep("like 0 # 0", 0, 11, UNKNOWN);
        sweep("like 0 1 #", 0, 2, OUTSIDE);
        sweep("partner #", 0, 2, UNKNOWN);
        sweep("answer #", 0, TIES_OF_0 - 1, UNKNOWN);
        sweep("likes # 0 0 0", 0, 11, UNKNOWN);
        sweep("likes 0 # 0 0", 0, 11, UNKNOWN);
        sweep("likes 0 1 # 0", 0, 2, OUTSIDE);
        sweep("likes 0 1 0 #", -1, 0, NONE);
        sweep("worth # 0 0 0", 0, 11, UNKNOWN);
        sweep("worth 0 # 0 999", 0, 11, UNKNOWN);
        sweep("worth 0 1 # 999", 0, 2, OUTSIDE);
        sweep("same # 0", 0, 11, UNKNOWN);
        sweep("same 0 #", 0, 11, UNKNOWN);
        sweep("guess #", -1, 4, NONE);
        sweep("ofGuess # 3", 0, 4, NONE);
        sweep("ofGuess 0 #", 0, 4, OUTSIDE);
    }

    private static void numbersOfTheRest() {
        sweep("bound # 0", 0, 11, UNKNOWN);
        sweep("bound 0 #", 0, 11, UNKNOWN);
        sweep("seek #", 0, 11, UNKNOWN);
        sweep("sought #", 0, 1, OUTSIDE);
        sweep("common # 0 1 0", 0, 11, UNKNOWN);
        sweep("common 0 # 1 0", 0, 11, UNKNOWN);
        sweep("common 0 1 # 0", 0, 11, UNKNOWN);
        sweep("common 0 1 2 #", 0, 2, OUTSIDE);
        sweep("series # 0 1 2", 0, 11, UNKNOWN);
        sweep("series 0 # 1 2", 0, 11, UNKNOWN);
        sweep("series 0 1 # 2", 0, 11, UNKNOWN);
        sweep("series 0 1 2 #", 0, 11, UNKNOWN);
        sweep("leftOut # 0", 0, 11, UNKNOWN);
        sweep("leftOut 0 #", 0, 11, UNKNOWN);
    }

    /** Tale 0 has things 0 to 2 and ties 10 to 17, tale 11 things 0 to 5 and, with one tie less, ties 10 to 22. */
    private static void endsOfATie() {
        String[] calls = {"tie 0 11 # 0 -1 -1", "tie 0 11 0 # -1 -1", "tie 0 2 # -1 -1 -1", "tie 0 3 # 2 2 -1",
            "tie 0 3 2 # 2 -1", "tie 0 3 2 2 # -1"};
        for (String call : calls) {
            for (int v : oddNumbers(-1, 18)) {
                boolean isEnd = v >= 0 && v < 3 || v >= 10 && v < 10 + TIES_OF_0;
                if (!isEnd) {
                    world().due(call.replace("#", "" + v), OUTSIDE);
                }
            }
            for (int v = 0; v < 24; v++) {
                boolean isEnd = v < 3 || v >= 10 && v < 10 + TIES_OF_0;
                boolean isThere = call.startsWith("tie 0 2") && v == 2;
                world().due(call.replace("#", "" + v), !isEnd ? OUTSIDE : isThere ? NO : TIES_OF_0);
            }
        }
        // Of ends beyond those of the kind -1 is told, and nothing else.
        for (String call : new String[] {"tie 0 11 0 0 # -1", "tie 0 2 0 -1 # -1", "tie 0 2 0 # -1 -1"}) {
            sweep(call, -1, -1, OUTSIDE);
        }
        for (int v = 0; v < 26; v++) {
            boolean isEnd = v < 6 || v >= 10 && v < 24;
            world().due("tie 11 11 " + v + " 0 -1 -1", isEnd ? FULL : OUTSIDE);
        }
    }

    private static void whatOfATale() {
        for (int v : oddNumbers(0, 15)) {
            if (v < 0 || v > 15 || v > 3 && v < 10) {
                world().due("ofTale 11 " + v, OUTSIDE);
            }
        }
        for (int v = 0; v < 17; v++) {
            boolean isTold = v < 4 || v >= 10 && v < 16;
            int ofThree = world().ask("ofTale 0 " + v);
            int ofSix = world().ask("ofTale 11 " + v);
            Asked.check(isTold == (ofSix != OUTSIDE) && ofSix != UNKNOWN, "of six things " + v + " is " + ofSix);
            Asked.check(isTold == (ofThree != OUTSIDE), "of three things " + v + " is " + ofThree);
            Asked.check((ofThree == UNKNOWN) == (v > 12 && v < 16), "of three things " + v + " is " + ofThree);
        }
    }

    private static void labelsOfTrials() {
        for (int v : oddNumbers(0, 19)) {
            if (v < 0 || v > 1 && v < 10 || v > 19) {
                world().due("trial " + v, OUTSIDE);
            }
        }
        for (int v = 0; v < 21; v++) {
            boolean isTold = v < 2 || v >= 10 && v < 20;
            int got = world().ask("trial " + v);
            Asked.check(isTold ? got >= 0 : got == OUTSIDE, "trial " + v + " answered " + got);
        }
    }

    /** Digits of pairings of 6 things to 6, of 2 to 1, of 1 to none, and of none. */
    private static void digitsOfAPairing() {
        Asked x = new Asked();
        x.tell("tale 0 6, tale 1 6, tale 2 2, tale 3 1");
        x.due("worth 0 1 0 12345", 6);
        x.due("worth 0 1 0 543210", 6);
        x.due("worth 0 1 0 999999", 0);
        x.due("worth 0 1 0 999990", 1);
        x.due("worth 0 1 0 99999", 1);
        x.due("worth 0 1 0 995999", 1);
        for (String six : new String[] {"999996", "699999", "996999", "999998", "799999"}) {
            x.due("worth 0 1 0 " + six, OUTSIDE);
        }
        for (String twice : new String[] {"0", "1", "112345", "543211", "599995", "995959", "505432"}) {
            x.due("worth 0 1 0 " + twice, OUTSIDE);
        }
        for (int much : new int[] {1000000, 1012345, 1999999, 9999999, 10012345, 1000012345, MAX}) {
            x.due("worth 0 1 0 " + much, OUTSIDE);
        }
        for (int low : new int[] {-1, -9, -12345, -543210, -999999, -1000000, MIN, MIN + 1}) {
            x.due("worth 0 1 0 " + low, OUTSIDE);
        }
        x.due("worth 2 3 0 9", 1);
        x.due("worth 2 3 0 90", 1);
        x.due("worth 2 3 0 99", 0);
        x.due("worth 2 3 0 91", OUTSIDE);
        x.due("worth 2 3 0 19", OUTSIDE);
        x.due("worth 2 3 0 0", OUTSIDE);
        x.due("worth 2 3 0 100", OUTSIDE);
        x.due("worth 2 3 0 999", OUTSIDE);
        x.due("worth 2 3 0 109", OUTSIDE);
        x.due("worth 3 5 0 9", 0);
        x.due("worth 3 5 0 0", OUTSIDE);
        x.due("worth 3 5 0 10", OUTSIDE);
        x.due("worth 3 5 0 19", OUTSIDE);
        x.due("worth 5 3 0 0", 0);
        x.due("worth 5 3 0 9", OUTSIDE);
        x.due("worth 5 3 0 1", OUTSIDE);
        x.due("worth 5 3 0 -1", OUTSIDE);
        x.due("worth 5 3 0 10", OUTSIDE);
        x.due("worth 5 5 2 0", 0);
    }

    // ---- which refusal comes first

    private static void ordersOfRefusals() {
        String[] unknownFirst = {"kind 16 4 0", "kind -1 0 1", "wider 16 16", "wider 0 16", "wider 0 -2", "wider -1 3",
            "opposite 16 3", "opposite 3 -1", "ofKind 16 5", "ofKind -1 -1", "tale 12 7", "tale -1 -1", "sort 12 0 10",
            "sort 0 3 10", "sort 0 -1 -1", "sort 11 6 -1", "label 12 10", "label -1 -1", "tie 12 0 0 1 -1 10",
            "tie 0 16 0 1 -1 10", "tie 0 16 9 9 9 9", "tie 11 16 0 0 -1 -1", "tie -1 -1 0 0 -1 -1", "ofTie 12 0 6",
            "ofTie 0 8 6", "ofTie 0 -1 -1", "ofTie 12 99 99", "ofTale 12 4", "ofTale -1 16", "like 12 0 3",
            "like 0 12 -1", "likes 12 0 3 0", "likes 0 12 0 99", "likes 0 -1 -1 -2", "worth 12 0 3 0",
            "worth 0 12 0 -1", "worth 0 12 3 331", "common 12 1 12 3", "common 0 1 12 3", "common 0 12 0 0",
            "common 12 1 1 0", "common 0 -1 0 3", "series 2 3 11 12", "series 12 3 11 0", "series 2 12 11 0",
            "series 2 3 12 0"};
        for (String call : unknownFirst) {
            world().due(call, UNKNOWN);
        }
        String[] outsideFirst = {"kind 0 4 0", "kind 0 0 1", "kind 13 4 0", "kind 14 0 0", "kind 15 4 0",
            "tie 11 11 0 0 -1 10", "tie 11 11 0 6 -1 -1", "tie 11 11 0 24 -1 -1", "tie 11 11 0 0 0 -1",
            "tie 11 0 0 0 -1 -2", "tie 0 0 0 1 -1 10", "tie 0 0 0 1 0 -1", "tie 0 1 2 1 2 -1", "likes 0 1 3 99",
            "likes 0 1 -1 -2", "ofGuess 99 5", "ofGuess -1 -1", "common 0 1 0 3", "common 0 1 1 -1"};
        for (String call : outsideFirst) {
            world().due(call, OUTSIDE);
        }
        String[] stateFirst = {"wider 0 0", "wider 0 2", "wider 4 3", "wider 2 0"};
        for (String call : stateFirst) {
            world().due(call, STATE);
        }
        world().due("tie 11 0 0 0 -1 -1", FULL);
        world().due("tie 11 0 1 0 -1 5", FULL);
    }

    private static void refusalsOfANewObject() {
        Asked x = new Asked();
        int[] any = {MIN, -2, -1, 0, 5, 6, 13, 14, MAX};
        for (int v : any) {
            x.due("partner " + v, STATE);
            x.due("answer " + v, STATE);
            x.due("guess " + v, STATE);
            x.due("ofGuess " + v + " 0", STATE);
            x.due("ofGuess 0 " + v, STATE);
            x.due("sought " + v, v == 0 ? STATE : OUTSIDE);
        }
        x.due("sought 1", STATE);
        x.due("giveUp", STATE);
        // Neither a refused call nor one that keeps nothing makes a likeness or a seek.
        for (String call : new String[] {"like 12 0 0", "like 0 -1 0", "like 0 0 3", "seek 12", "seek -1"}) {
            Asked.check(x.ask(call) < 0, call + " is not refused");
        }
        x.tell("likes 0 0 0 -1, worth 0 0 0 0, same 0 0, common 0 0 1 0, series 0 0 0 0, leftOut 0 0, trial 0");
        x.due("partner 0", STATE);
        x.due("answer 0", STATE);
        x.due("guess -1", STATE);
        x.due("ofGuess 0 0", STATE);
        x.due("giveUp", STATE);
        x.due("sought 0", STATE);
        x.due("sought 1", STATE);
        // Of empty tales a likeness is kept all the same.
        x.due("like 0 0 0", 0);
        x.due("partner 0", UNKNOWN);
        x.due("answer 0", UNKNOWN);
        x.due("guess -1", 0);
        x.due("guess 0", NONE);
        x.due("ofGuess 0 0", NONE);
        x.due("giveUp", 0);
        x.due("seek 0", NONE);
        x.due("sought 0", 0);
        x.due("sought 1", NONE);
    }

    // ---- what stays as it was

    /** Calls that tell all that an object holds and change nothing, in parts that one object can be asked. */
    private static List<List<String>> looks() {
        List<String> language = new ArrayList<>();
        for (int k = 0; k < 16; k++) {
            for (int what = 0; what < 5; what++) {
                language.add("ofKind " + k + " " + what);
            }
            for (int l = 0; l < k; l++) {
                language.add("alike " + k + " " + l);
            }
        }
        List<String> kept = keptLooks();
        for (int t = 0; t < 12; t++) {
            for (int what = 0; what < 16; what = what == 3 ? 10 : what + 1) {
                kept.add("ofTale " + t + " " + what);
            }
        }
        List<String> ties = new ArrayList<>();
        for (int t : new int[] {0, 1, 2, 3, 11}) {
            int count = t == 0 ? TIES_OF_0 : t == 1 ? TIES_OF_1 : t == 11 ? 14 : 1;
            for (int i = 0; i <= count; i++) {
                for (int what = 0; what < 6; what++) {
                    ties.add("ofTie " + t + " " + i + " " + what);
                }
            }
        }
        return List.of(language, kept, ties);
    }

    private static List<String> keptLooks() {
        List<String> kept = new ArrayList<>();
        for (int v = -1; v < 9; v++) {
            kept.add("partner " + v);
            kept.add("answer " + v);
            kept.add("guess " + v);
            for (int k = 0; k < 5; k++) {
                kept.add("ofGuess " + v + " " + k);
            }
        }
        kept.add("giveUp");
        kept.add("sought 0");
        kept.add("sought 1");
        return kept;
    }

    private static List<Integer> seen(Asked x, List<String> looks) {
        List<Integer> answers = new ArrayList<>();
        for (String look : looks) {
            answers.add(x.ask(look));
        }
        // Whether it was timed is told by changing it.
        answers.add(x.ask("timed 0"));
        return answers;
    }

    private static void refusedCallsChangeNothing() {
        for (List<String> looks : looks()) {
            for (int timed = 0; timed < 2; timed++) {
                List<Integer> before = seen(world().tell("timed " + timed), looks);
                for (String call : REFUSED.split(", ")) {
                    Asked x = world().tell("timed " + timed);
                    int got = x.ask(call);
                    Asked.check(got < 0 && got != NONE, call + " is not refused: " + got);
                    Asked.check(seen(x, looks).equals(before), call + " is refused, but changes something");
                }
            }
        }
    }

    private static void lookingChangesNothing() {
        for (List<String> looks : looks()) {
            List<Integer> before = seen(world(), looks);
            for (String call : LOOKING.split(", ")) {
                Asked x = world().tell(call);
                Asked.check(seen(x, looks).equals(before), call + " changes something");
            }
        }
    }

    private static void tellingLeavesWhatIsKept() {
        List<Integer> before = seen(world().tell("timed 0"), keptLooks());
        for (String call : TELLING.split(", ")) {
            Asked x = world().tell(call);
            x.tell("timed 0");
            boolean isKept = seen(x, keptLooks()).equals(before);
            Asked.check(isKept, call + " changes what is kept");
        }
        Asked x = world().tell(TELLING).tell("timed 0");
        Asked.check(seen(x, keptLooks()).equals(before), "all of them change what is kept");
    }
}
