import java.lang.reflect.InvocationTargetException;
import java.lang.reflect.Method;
import java.util.ArrayList;
import java.util.Arrays;
import java.util.HashMap;
import java.util.List;
import java.util.Map;

/**
 * For each promise the bounds of its arguments: what is just within them is not refused, what is just without is, by
 * the first number that fits where several would, and a refused call changes nothing but how many refusals there were.
 */
public final class RefusalsTest extends Check {
    private static final int[] REFUSALS = {-1, -2, -3, -4, -5, -6};
    private static final Map<String, Method> FACE = new HashMap<>();
    private static int made;

    /** The lands in which the calls are made, each made anew for each of them. */
    private enum Place {
        /** A new object. */
        NEW,
        /** Three heads, of whom head 1 has a name of 6, and some of all that an object can have. */
        SOME,
        /** Five heads, 96 letters, 12 numbers in the ROW, 8 that can be taken back. */
        FULL,
        /** NIGHT 939: 60 more are 999. */
        NIGHT_939,
        /** NIGHT 940: 60 more are 1000. */
        NIGHT_940,
        /** NIGHT 999. */
        NIGHT_999;

        GoInland make() {
            GoInland x = new GoInland();
            switch (this) {
                case NEW: break;
                case SOME: fillSome(x); break;
                case FULL: fillFull(x); break;
                case NIGHT_939: passNights(x, 39); break;
                case NIGHT_940: passNights(x, 40); break;
                default: passNights(x, 99); break;
            }
            return x;
        }

        private static void fillSome(GoInland x) {
            x.comes(0, 5, 20, 0);
            x.comes(1, 3, 12, 1);
            x.comes(7, 4, 47, 4);
            for (int letter = 2; letter <= 6; letter++) {
                x.named(1, letter);
            }
            x.folk(28, 6, 13);
            x.image();
            x.named(0, 13);
            x.faces(0, 2);
            x.does(1, 4);
            x.joins(2, 7);
            x.walls(45, 9);
            x.folk(5, 6, 1);
            x.nights(1);
            for (int head = 0; head < 3; head++) {
                x.row(x.head(head, 2));
            }
            tellLetters(x, "wall 9 4;");
        }

        private static void fillFull(GoInland x) {
            for (int head = 0; head < 5; head++) {
                x.comes(head, 9 - head, 9 * head, head);
            }
            for (int letter = 0; letter < 5; letter++) {
                x.named(0, letter);
            }
            x.image();
            for (int wall = 1; wall <= 9; wall++) {
                x.walls(40, wall);
            }
            for (int place = 0; place < 12; place++) {
                x.row(place < 5 ? 9 * place : 99 - place);
            }
            for (int statement = 0; statement < 4; statement++) {
                tellLetters(x, "wall 9 4;");
            }
            for (int statement = 0; statement < 6; statement++) {
                tellLetters(x, "wall 10 5;");
            }
        }

        /** NIGHT 900 and some more, with one who rests. */
        private static void passNights(GoInland x, int more) {
            x.comes(0, 3, 17, 2);
            x.does(0, 4);
            for (int i = 0; i < 15; i++) {
                x.nights(60);
            }
            for (int left = more; left > 0; left -= 60) {
                x.nights(Math.min(left, 60));
            }
        }
    }

    public static void main(String[] args) {
        for (Method method : GoInland.class.getDeclaredMethods()) {
            FACE.put(method.getName(), method);
        }
        lettersAndLand();
        changes();
        nightsAndBack();
        inMind();
        chosenInMind();
        likeness();
        places();
        rowLotsImage();
        neverRefused();
        everyRefusalCounts();
        System.out.println(made + " calls made on objects of their own");
        end();
    }

    // An argument's numbers are told as "value" or "value:refusal", two arguments that are looked at as one with a
    // blank between them, a state of the object that has the call refused as ":refusal".
    private static final String MIN = "-2147483648";
    private static final String MAX = "2147483647";
    private static final String HEAD = MIN + ":-1, -1:-1, 3:-1, " + MAX + ":-1, 0, 1, 2";
    private static final String NO_HEAD = "-1:-1, 0:-1";
    private static final String FIELD = MIN + ":-1, -1:-1, 48:-1, " + MAX + ":-1, 0, 47";
    private static final String PAIR = "-1 0:-1, 0 -1:-1, 3 2:-1, 2 3:-1, 0 0:-1, 2 2:-1, 3 3:-1, 0 1, 2 0";
    private static final String STATE_3 = ":-3";
    private static final String STATE_6 = ":-6";

    private static String upTo(int most) {
        return between(0, most);
    }

    private static String between(int least, int most) {
        return MIN + ":-4, " + (least - 1) + ":-4, " + least + ", " + most + ", " + (most + 1) + ":-6, " + MAX + ":-6";
    }

    /** What there is to be asked, from 0 to a greatest. */
    private static String what(int most) {
        return MIN + ":-2, -1:-2, 0, " + most + ", " + (most + 1) + ":-2, " + MAX + ":-2";
    }

    private static void lettersAndLand() {
        promise("2, refusals");
        calls(Place.NEW, "feed", "-4 -6", upTo(255));
        calls(Place.SOME, "feed", "-4 -6", upTo(255));
        calls(Place.FULL, "feed", "-4 -6", upTo(255), STATE_6);
        promise("3, refusals");
        for (Place place : Place.values()) {
            calls(place, "land", "");
        }
    }

    private static void changes() {
        promise("4, refusals");
        calls(Place.NEW, "head", "-1 -2", NO_HEAD, what(11));
        calls(Place.SOME, "head", "-1 -2", HEAD, what(11));
        calls(Place.FULL, "head", "-1 -2", "-1:-1, 5:-1, 0, 4", what(11));
        promise("5, refusals");
        calls(Place.SOME, "field", "-1 -2", FIELD, what(3));
        promise("6, refusals");
        String[] ofOne = {what(7), upTo(9), FIELD, upTo(25)};
        calls(Place.SOME, "comes", "-2 -4 -6 -1", ofOne);
        calls(Place.FULL, "comes", "-2 -4 -6 -1", with(ofOne, STATE_6));
        promise("7, refusals");
        calls(Place.NEW, "named", "-1 -4 -6", NO_HEAD, upTo(25));
        calls(Place.SOME, "named", "-1 -4 -6", MIN + ":-1, -1:-1, 3:-1, " + MAX + ":-1, 0, 2", upTo(25));
        calls(Place.SOME, "named", "-1 -4 -6", "-1:-1, 3:-1, 1", upTo(25), STATE_6);
        promise("8, refusals");
        calls(Place.SOME, "faces", "-1 -4 -6", HEAD, upTo(3));
        promise("9, refusals");
        calls(Place.SOME, "does", "-1 -2", HEAD, what(4));
        promise("10, refusals");
        calls(Place.SOME, "joins", "-1 -4 -6", HEAD, upTo(99));
        promise("11, refusals");
        calls(Place.SOME, "walls", "-1 -4 -6", FIELD, upTo(9));
        promise("12, refusals");
        calls(Place.SOME, "folk", "-1 -4 -6", FIELD, upTo(9), upTo(25));
    }

    private static void nightsAndBack() {
        promise("13, refusals");
        calls(Place.SOME, "nights", "-4 -6", between(1, 60));
        calls(Place.NIGHT_939, "nights", "-4 -6", between(1, 60));
        calls(Place.NIGHT_940, "nights", "-4 -6", between(1, 59));
        calls(Place.NIGHT_999, "nights", "-4 -6", between(1, 60), STATE_6);
        promise("14, refusals");
        calls(Place.NEW, "back", "-3", STATE_3);
        calls(Place.SOME, "back", "-3");
        calls(Place.FULL, "back", "-3");
    }

    private static void inMind() {
        promise("15, refusals");
        calls(Place.NEW, "headThen", "-1 -4 -6 -2", NO_HEAD, upTo(60), what(3));
        calls(Place.SOME, "headThen", "-1 -4 -6 -2", HEAD, upTo(60), what(3));
        calls(Place.NIGHT_999, "headThen", "-1 -4 -6 -2", "-1:-1, 1:-1, 0", upTo(60), what(3));
        promise("16, refusals");
        calls(Place.SOME, "then", "-4 -6 -2", upTo(60), what(3));
        calls(Place.NIGHT_999, "then", "-4 -6 -2", upTo(60), what(3));
        promise("17, refusals");
        calls(Place.SOME, "when", "-1", HEAD, FIELD);
        promise("18, refusals");
        calls(Place.NEW, "settles", "-1", MIN + ":-1, -2:-1, -1, 0:-1");
        calls(Place.SOME, "settles", "-1", MIN + ":-1, -2:-1, -1, 0, 2, 3:-1, " + MAX + ":-1");
        promise("19, refusals");
        calls(Place.SOME, "meeting", "-1", PAIR);
        promise("28, refusals");
        calls(Place.NEW, "rain", "-1 -4 -6 -2", NO_HEAD, "0", upTo(7), between(2, 20), what(1));
        calls(Place.SOME, "rain", "-1 -4 -6 -2", "-1:-1, 3:-1, 0, 2", "-1:-1, 48:-1, 0, 47", upTo(7), between(2, 20), what(1));
    }

    private static void chosenInMind() {
        promise("20, refusals");
        calls(Place.SOME, "bestWord", "-1 -4 -6 -2", HEAD, upTo(60), what(1));
        promise("21, refusals");
        calls(Place.SOME, "bestLetter", "-1 -4 -6 -2", HEAD, upTo(30), what(1));
        promise("22, refusals");
        calls(Place.SOME, "holds", "-1 -4 -6", HEAD, FIELD, between(1, 60));
        promise("23, refusals");
        calls(Place.SOME, "wallFor", "-1 -4 -6", HEAD, FIELD, upTo(30));
        promise("24, refusals");
        calls(Place.NEW, "names", "-4 -6", upTo(30));
        calls(Place.SOME, "names", "-4 -6", upTo(30));
        promise("25, refusals");
        calls(Place.SOME, "whatKind", "-1 -2", HEAD, what(1));
        calls(Place.FULL, "whatKind", "-1 -2", "-1:-1, 5:-1, 0, 4", what(1));
        promise("26, refusals");
        calls(Place.SOME, "whatWord", "-1", HEAD);
        calls(Place.FULL, "whatWord", "-1", "-1:-1, 5:-1, 0, 4");
        promise("27, refusals");
        calls(Place.SOME, "two", "-1 -4 -6", PAIR, between(1, 30));
    }

    private static void likeness() {
        promise("29, refusals");
        calls(Place.SOME, "like", "-1 -2", PAIR, what(2));
        promise("30, refusals");
        calls(Place.NEW, "rank", "-1", NO_HEAD);
        calls(Place.SOME, "rank", "-1", HEAD);
        promise("31, refusals");
        calls(Place.SOME, "line", "-1 -4", HEAD, MIN + ":-4, -1:-4, 0, 11, 12, " + MAX);
        promise("32, refusals");
        calls(Place.NEW, "power", "-1", NO_HEAD);
        calls(Place.SOME, "power", "-1", HEAD);
        promise("33, refusals");
        calls(Place.NEW, "share", "-1 -2", NO_HEAD, what(1));
        calls(Place.SOME, "share", "-1 -2", HEAD, what(1));
    }

    private static void places() {
        promise("34, refusals");
        calls(Place.NEW, "nearest", "-1 -2", FIELD, what(1));
        calls(Place.SOME, "nearest", "-1 -2", FIELD, what(1));
        promise("35, refusals");
        calls(Place.SOME, "way", "-1", FIELD, FIELD);
        promise("36, refusals");
        calls(Place.NEW, "sight", "-2", what(2));
        calls(Place.SOME, "sight", "-2", what(2));
        promise("37, refusals");
        calls(Place.NEW, "kinds", "-2", what(7));
        calls(Place.SOME, "kinds", "-2", what(7));
    }

    private static void rowLotsImage() {
        promise("38, refusals");
        calls(Place.NEW, "row", "-4 -6", upTo(99));
        calls(Place.SOME, "row", "-4 -6", upTo(99));
        calls(Place.FULL, "row", "-4 -6", upTo(99), STATE_6);
        promise("41, refusals");
        calls(Place.NEW, "lots", "-4 -6 -2", between(1, 20), "0", what(1));
        calls(Place.SOME, "lots", "-4 -6 -2", between(1, 20), MIN + ", -1, 0, " + MAX, what(1));
        promise("43, refusals");
        calls(Place.NEW, "restore", "-3", STATE_3);
        calls(Place.NIGHT_999, "restore", "-3", STATE_3);
        calls(Place.SOME, "restore", "-3");
    }

    private static void neverRefused() {
        for (Place place : Place.values()) {
            promise("39, never refused");
            calls(place, "judge", "");
            promise("40, never refused");
            calls(place, "clear", "");
            promise("42, never refused");
            calls(place, "image", "");
            promise("44, never refused");
            calls(place, "count", "", MIN + ", -1, 0, 9, 10, 11, 16, 17, " + MAX);
        }
    }

    private static void everyRefusalCounts() {
        promise("44, refusals");
        GoInland x = new GoInland();
        for (int i = 1; i <= 3; i++) {
            due("land()", x.land(), -1000);
            due("feed(-1)", x.feed(-1), -4);
            due("row(100)", x.row(100), -6);
            due("head(0, 99)", x.head(0, 99), -1);
            due("share(0, 99)", x.share(0, 99), refused(-1));
            due("sight(99)", x.sight(99), -2);
            due("back()", x.back(), -3);
            due("restore()", x.restore(), -3);
            due("nearest(0, 0), which is not refused", x.nearest(0, 0), -9);
            int[] due = {2 * i, i, 2 * i, i, 0, i};
            for (int refusal = 0; refusal < 6; refusal++) {
                due("count(" + (11 + refusal) + ")", x.count(11 + refusal), due[refusal]);
            }
        }
    }

    private static String[] with(String[] groups, String one) {
        String[] more = Arrays.copyOf(groups, groups.length + 1);
        more[groups.length] = one;
        return more;
    }

    /** Makes a call with all its arguments' numbers, each with each, which it refuses in an order told. */
    private static void calls(Place place, String name, String order, String... groups) {
        List<String> refusals = List.of(order.split(" "));
        List<List<String>> chosen = new ArrayList<>(List.of(List.of()));
        for (String group : groups) {
            List<List<String>> longer = new ArrayList<>();
            for (List<String> ahead : chosen) {
                for (String one : group.split(", ")) {
                    List<String> all = new ArrayList<>(ahead);
                    all.add(one);
                    longer.add(all);
                }
            }
            chosen = longer;
        }
        for (List<String> all : chosen) {
            List<Integer> given = new ArrayList<>();
            int first = refusals.size();
            for (String one : all) {
                String[] parts = one.split(":");
                for (String number : parts[0].isEmpty() ? new String[0] : parts[0].split(" ")) {
                    given.add(Integer.parseInt(number));
                }
                first = Math.min(first, parts.length > 1 ? refusals.indexOf(parts[1]) : refusals.size());
            }
            callOnce(place, name, given, first < refusals.size() ? Integer.parseInt(refusals.get(first)) : 0);
        }
    }

    private static void callOnce(Place place, String name, List<Integer> given, int refusal) {
        made++;
        String told = name + given + " on " + place;
        GoInland x = place.make();
        int[] counted = counts(x);
        long got = call(x, name, given);
        if (refusal == 0) {
            dueCounts(told, x, counted, 0);
            return;
        }
        boolean isLong = FACE.get(name).getReturnType() == long.class;
        due(told, got, isLong ? refused(refusal) : refusal);
        dueCounts(told, x, counted, refusal);
        dueText("what can be seen behind " + told, seen(x), seen(place.make()));
        GoInland hidden = place.make();
        call(hidden, name, given);
        dueText("what can be had behind " + told, had(hidden), had(place.make()));
    }

    private static long call(GoInland x, String name, List<Integer> given) {
        try {
            return ((Number) FACE.get(name).invoke(x, given.toArray())).longValue();
        } catch (IllegalAccessException | InvocationTargetException thrown) {
            throw new IllegalStateException(name + given, thrown);
        }
    }

    private static int[] counts(GoInland x) {
        int[] counts = new int[REFUSALS.length];
        for (int i = 0; i < counts.length; i++) {
            counts[i] = x.count(10 - REFUSALS[i]);
        }
        return counts;
    }

    private static void dueCounts(String told, GoInland x, int[] counted, int refusal) {
        int[] now = counts(x);
        for (int i = 0; i < now.length; i++) {
            due("behind " + told + " count(" + (10 - REFUSALS[i]) + ")", now[i], counted[i] + (REFUSALS[i] == refusal ? 1 : 0));
        }
    }

    /** All that can be read of an object without a change. */
    private static String seen(GoInland x) {
        StringBuilder seen = new StringBuilder(briefly(x));
        for (int field = 0; field < 48; field++) {
            seen.append(x.field(field, 0)).append(x.field(field, 1)).append('.').append(x.field(field, 2)).append(' ');
        }
        int heads = x.count(0);
        for (int head = 0; head < heads; head++) {
            for (int what = 0; what < 12; what++) {
                seen.append(x.head(head, what)).append(' ');
            }
            seen.append(lineOf(x, head)).append(' ');
        }
        return seen.append(x.count(7)).append(' ').append(x.count(8)).append(' ').append(x.count(9)).toString();
    }

    /** What an object keeps that is had only by calls that change it: the ROW, what can be taken back, letters, the image. */
    private static String had(GoInland x) {
        StringBuilder had = new StringBuilder();
        had.append(x.judge()).append(", back:");
        for (int left = x.count(9); left > 0; left--) {
            had.append(' ').append(x.back()).append(briefly(x));
        }
        had.append(", land: ").append(x.land()).append(briefly(x));
        had.append(", restored: ").append(x.restore()).append(briefly(x));
        return had.toString();
    }

    /** So few calls that even behind each of 8 taken back an object is asked less than 512 times. */
    private static String briefly(GoInland x) {
        int heads = x.count(0);
        StringBuilder brief = new StringBuilder(" heads ").append(heads);
        for (int what = 1; what <= 6; what++) {
            brief.append(' ').append(x.count(what));
        }
        for (int head = 0; head < heads; head++) {
            for (int what : new int[] {2, 3, 4, 5, 7}) {
                brief.append(' ').append(x.head(head, what));
            }
        }
        return brief.append(' ').toString();
    }
}
