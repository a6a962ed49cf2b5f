import java.io.IOException;
import java.lang.annotation.ElementType;
import java.lang.annotation.Retention;
import java.lang.annotation.RetentionPolicy;
import java.lang.annotation.Target;
import java.lang.reflect.InvocationTargetException;
import java.lang.reflect.Method;
import java.nio.charset.StandardCharsets;
import java.nio.file.Files;
import java.nio.file.Path;
import java.util.ArrayList;
import java.util.Comparator;
import java.util.List;

/**
 * A test for each sentence of the document that names a boundary case. The sentence stands above its test, word by
 * word, and the words are looked up in ../shared/DOC.md. No object is used for more than 512 calls.
 */
public final class SentenceTest {
    private static final Path DOCUMENT = Path.of("..", "shared", "DOC.md");
    private static final int NONE = PlaceRegister.NONE, BAD = PlaceRegister.BAD;
    private static final int STATE = PlaceRegister.STATE, FULL = PlaceRegister.FULL;
    private static final int LOWEST = Integer.MIN_VALUE, HIGHEST = Integer.MAX_VALUE;
    private static final List<String> FAULTS = new ArrayList<>();
    private static String sentence = "";

    /** What the document says; the promise that says it, 0 for the parts that the promises share. */
    @Retention(RetentionPolicy.RUNTIME)
    @Target(ElementType.METHOD)
    private @interface Says {
        int promise() default 0;

        String[] value();
    }

    public static void main(String[] args) throws IOException {
        List<String> faults = faults();
        for (String fault : faults) {
            System.out.println(fault);
        }
        System.out.println(faults.isEmpty() ? "all " + tests().size() + " sentences hold" : faults.size() + " faults");
        if (!faults.isEmpty()) {
            System.exit(1);
        }
    }

    static List<String> faults() throws IOException {
        FAULTS.clear();
        String[] sections = sections();
        for (Method test : tests()) {
            Says says = test.getAnnotation(Says.class);
            for (String words : says.value()) {
                if (sections != null && !sections[says.promise()].contains(words)) {
                    FAULTS.add("the document does not say: " + words);
                }
            }
            sentence = test.getName() + " (" + (says.promise() == 0 ? "" : says.promise() + ": ") + says.value()[0] + ")";
            try {
                test.invoke(null);
            } catch (InvocationTargetException e) {
                FAULTS.add(sentence + ": " + e.getCause());
            } catch (IllegalAccessException e) {
                throw new IllegalStateException(e);
            }
        }
        return FAULTS;
    }

    private static List<Method> tests() {
        List<Method> tests = new ArrayList<>();
        for (Method m : SentenceTest.class.getDeclaredMethods()) {
            if (m.isAnnotationPresent(Says.class)) {
                tests.add(m);
            }
        }
        tests.sort(Comparator.comparing((Method m) -> m.getAnnotation(Says.class).promise()).thenComparing(Method::getName));
        return tests;
    }

    /** The words of the shared parts, then those of each promise; null where the document does not stand. */
    private static String[] sections() throws IOException {
        if (!Files.exists(DOCUMENT)) {
            System.out.println("the sentences are not looked up: there is no " + DOCUMENT);
            return null;
        }
        return Files.readString(DOCUMENT, StandardCharsets.UTF_8).replaceAll("\\s+", " ").split("## Promise \\d+: ");
    }

    private static void due(String call, long got, long want) {
        due(call, Long.toString(got), Long.toString(want));
    }

    private static void due(String call, boolean got, boolean want) {
        due(call, Boolean.toString(got), Boolean.toString(want));
    }

    private static void due(String call, String got, String want) {
        if (!got.equals(want)) {
            FAULTS.add(sentence + ": " + call + " answered " + got + ", due is " + want);
        }
    }

    private static void refused(PlaceRegister x, String call, int got, int reason) {
        due(call, got, STATE);
        due("the reason of " + call, x.reason(), reason);
    }

    private static PlaceRegister feed(PlaceRegister x, String text) {
        for (int i = 0; i < text.length(); i += 5) {
            int[] bytes = new int[5];
            int n = Math.min(5, text.length() - i);
            for (int k = 0; k < n; k++) {
                bytes[k] = text.charAt(i + k);
            }
            due("feed of " + text.substring(0, i + n), x.feed(n, bytes[0], bytes[1], bytes[2], bytes[3], bytes[4]) > 0, true);
        }
        return x;
    }

    private static int run(PlaceRegister x, String text) {
        return feed(x, text).run();
    }

    private static PlaceRegister with(String text) {
        PlaceRegister x = new PlaceRegister();
        due("run of " + text, run(x, text), text.split(";").length);
        return x;
    }

    private static String history(PlaceRegister x, int place) {
        int length = x.write(place);
        StringBuilder text = new StringBuilder();
        for (int i = 0; i < length; i++) {
            text.append((char) x.paper(i));
        }
        return text.toString();
    }

    private static String name(PlaceRegister x, int place, int day) {
        StringBuilder text = new StringBuilder();
        for (int k = 0; k < x.on(place, day, 3); k++) {
            text.append((char) x.on(place, day, 10 + k));
        }
        return text.toString();
    }

    private static String times(int n, String text) {
        return text.repeat(n);
    }

    /** A realm 0, two regions 1 and 2 in it, a town 3 in region 1, all from day 0 on. */
    private static PlaceRegister country() {
        return with("f0>0@0:r;f1>0@0:a;f1>0@0:b;f2>1@0:t");
    }

    /** The country with places up to the number 19, all realms from day 0 on. */
    private static PlaceRegister fullCountry() {
        PlaceRegister x = country();
        due("run", run(x, times(8, "f0>0@0:k;").substring(0, 71)), 8);
        due("run", run(x, times(8, "f0>0@0:k;").substring(0, 71)), 8);
        return x;
    }

    /** What an object holds, but for its tape and its reason. */
    private static String held(PlaceRegister x) {
        StringBuilder all = new StringBuilder();
        for (int what : new int[] {0, 1, 3, 4, 5}) {
            all.append(x.count(what)).append(' ');
        }
        for (int i = 0; i < 3; i++) {
            all.append(x.sought(i)).append(' ').append(x.paper(i)).append(' ');
        }
        for (int p = 0; p < x.count(0); p++) {
            for (int what = 0; what < 6; what++) {
                all.append(x.of(p, what)).append(' ');
            }
            all.append(x.on(p, 30, 2)).append(' ').append(x.on(p, 30, 10)).append(' ').append(x.on(p, 30, 6)).append(' ');
        }
        for (int f = 0; f < x.count(1); f++) {
            all.append(x.fits(f, 30)).append(' ');
        }
        return all.toString();
    }

    // ---- What it is, and the public face ----

    @Says("An object is used for at most 512 calls after it has been made; what later calls answer is free.")
    static void the512thCallIsAnsweredAsTheFirst() {
        PlaceRegister x = new PlaceRegister();
        for (int call = 1; call <= 512; call += 2) {
            due("call " + call, x.filter(0, 0), 0);
            due("call " + (call + 1), x.drop(0), 0);
        }
        x = new PlaceRegister();
        for (int call = 1; call <= 510; call += 2) {
            due("call " + call, x.feed(1, 'a', 0, 0, 0, 0), 1);
            due("call " + (call + 1), x.found(0, 0, 0), call < 40 ? call / 2 : STATE);
        }
        due("call 511", x.image(), 20);
        due("call 512", x.undo(), 20);
        x = new PlaceRegister();
        due("calls 1 to 7", run(x, "f0>0@0:r;f1>0@0:a;f1>0@0:b"), 3);
        for (int call = 8; call <= 511; call++) {
            due("call " + call, x.move(1, 0, call), 0);
        }
        due("call 512", x.of(1, 3), 505);
    }

    @Says("public static final int NONE = -1, BAD = -2, STATE = -3, FULL = -4;")
    static void constants() {
        due("NONE", NONE, -1);
        due("BAD", BAD, -2);
        due("STATE", STATE, -3);
        due("FULL", FULL, -4);
    }

    // ---- Places ----

    @Says("Days are numbered from 0 to 9999.")
    static void daysFrom0To9999() {
        PlaceRegister x = new PlaceRegister();
        due("found on day 0", feed(x, "a").found(0, 0, 0), 0);
        due("found on day 9999", feed(x, "a").found(0, 0, 9999), 1);
        refused(x, "found on day -1", feed(x, "a").found(0, 0, -1), 2);
        refused(x, "found on day 10000", feed(x, "a").found(0, 0, 10000), 2);
        due("on day 0", x.on(0, 0, 0), 1);
        due("on day 9999", x.on(1, 9999, 0), 1);
        due("on day -1", x.on(0, -1, 0), BAD);
        due("on day 10000", x.on(0, 10000, 0), BAD);
        due("rename on day 9999", feed(x, "b").rename(0, 9999), 1);
        due("close on day 9999", x.close(0, 9999), 9999);
    }

    @Says("At most 20 places can be founded, numbered from 0.")
    static void twentyPlaces() {
        PlaceRegister x = new PlaceRegister();
        for (int p = 0; p < 20; p++) {
            due("found", feed(x, "a").found(0, 0, 7), p);
        }
        refused(x, "found a 21st place", feed(x, "a").found(0, 0, 7), 6);
        refused(x, "split off a 21st place", feed(x, "a").split(0, 7), 6);
        due("found a 21st place by a text", run(x, "f0>0@7:a"), -200);
        due("places", x.count(0), 20);
        due("place 19", x.of(19, 0), 7);
        due("place 20", x.of(20, 0), NONE);
    }

    @Says("At most 20 places can be founded, numbered from 0.")
    static void placesThatEndedCountAmongThe20() {
        PlaceRegister x = fullCountry();
        due("close", x.close(19, 0), 0);
        due("merge", x.merge(18, 17, 0), 0);
        refused(x, "found", feed(x, "a").found(0, 0, 9), 6);
    }

    @Says("it exists on a day if that is not before the one and, if there is one, before the other.")
    static void existsFromItsFoundingUntilItsEnd() {
        PlaceRegister x = with("f0>0@10:a;c0@20;f0>0@10:b;f0>0@10:c;g2>1@15");
        int[][] rows = {{0, 9, 0}, {0, 10, 1}, {0, 19, 1}, {0, 20, 0}, {0, 21, 0}, {1, 9, 0}, {1, 10, 1}, {1, 9999, 1},
            {2, 9, 0}, {2, 14, 1}, {2, 15, 0}, {2, 9999, 0}};
        for (int[] row : rows) {
            due("place " + row[0] + " on day " + row[1], x.on(row[0], row[1], 0), row[2]);
        }
    }

    @Says("On each day on which it exists, it has a name of 1 to 8 letters a to z")
    static void namesOf1To8LettersAToZ() {
        PlaceRegister x = new PlaceRegister();
        String[] names = {"a", "z", "abcdefgh", "zzzzzzzz", "stuvwxyz", "ijklmnop", "qr"};
        for (int p = 0; p < names.length; p++) {
            due("found " + names[p], feed(x, names[p]).found(0, 0, 5), p);
            due("the name", name(x, p, 5), names[p]);
            due("the name on the last day", x.on(p, 9999, 3), names[p].length());
        }
        for (String word : new String[] {"", "abcdefghi", "`", "{", "A", "Z", "0", " ", "\0", "\177", "a ", " a", "a\0b"}) {
            refused(x, "found " + word, feed(x, word).found(0, 0, 5), 9);
        }
        due("places", x.count(0), names.length);
    }

    @Says("and, unless it is a realm, a parent, which is a place of a lesser kind that exists on that day.")
    static void parentsAreOfALesserKind() {
        PlaceRegister x = with("f0>0@0:r;f1>0@0:a;f2>1@0:t;f3>2@0:q");
        int next = 4;
        for (int kind = 1; kind < 4; kind++) {
            for (int parent = 0; parent < 4; parent++) {
                int got = feed(x, "n").found(kind, parent, 0);
                if (parent < kind) {
                    due("found of kind " + kind + " in kind " + parent, got, next);
                    due("its parent", x.on(next, 0, 2), parent);
                    next++;
                } else {
                    refused(x, "found of kind " + kind + " in kind " + parent, got, 4);
                }
            }
        }
        due("places", x.count(0), 10);
    }

    @Says("and, unless it is a realm, a parent, which is a place of a lesser kind that exists on that day.")
    static void theParentExistsOnEachDay() {
        PlaceRegister x = country();
        due("run", run(x, "f1>0@5:c;m3>4@8;m3>1@12;g1>2@10;g2>4@15;c3@30"), 6);
        int[] parents = {1, 1, 1, 1, 1, 1, 1, 1, 4, 4, 4, 4, 2, 2, 2, 4, 4, 4, 4, 4};
        for (int day = 0; day < parents.length; day++) {
            due("parent on day " + day, x.on(3, day, 2), parents[day]);
            due("it exists on day " + day, x.on(parents[day], day, 0), 1);
        }
    }

    @Says("A realm has no parent.")
    static void realmsHaveNoParent() {
        PlaceRegister x = with("f0>0@0:r;f0>0@0:s");
        due("found in a realm", feed(x, "t").found(0, 1, 0), 2);
        due("split", feed(x, "u").split(2, 3), 3);
        for (int p = 0; p < 4; p++) {
            due("parent of " + p, x.on(p, 3, 2), -5);
            due("parents above " + p, x.on(p, 3, 4), 0);
            due("number of its founding", x.event(p, 0, 2), -5);
            due("how often it got one", x.of(p, 3), 0);
        }
        refused(x, "move", x.move(2, 1, 3), 4);
    }

    // ---- Events ----

    @Says("An event is on a day, which may not be before the day of the latest event of the place that it is of")
    static void noEventBeforeTheLatestOne() {
        String country = "f0>0@0:r;f1>0@0:a;f1>0@0:b;f2>1@20:t;f2>2@20:u";
        for (String event : new String[] {"r3@%d:n", "m3>2@%d", "s3@%d:n", "g3>4@%d", "c3@%d"}) {
            for (String before : new String[] {"r3@20:n", "r3@30:n", "m3>2@30", "s3@30:n"}) {
                PlaceRegister x = with(country + ";" + before);
                int latest = before.contains("@20") ? 20 : 30;
                due("latest event", x.of(3, 4), latest);
                due(event + " a day before " + before, run(x, String.format(event, latest - 1)), -200);
                due("the reason", x.reason(), 2);
                due(event + " on the day of " + before, run(x, String.format(event, latest)), 1);
            }
        }
    }

    @Says("the days of other places do not matter.")
    static void daysOfOtherPlacesDoNotMatter() {
        PlaceRegister x = country();
        due("run", run(x, "r0@900:s;r1@900:a;r2@900:b;m3>2@900;f0>0@900:z"), 5);
        due("found in a place with later events", feed(x, "n").found(2, 1, 5), 5);
        due("found a realm", feed(x, "n").found(0, 0, 0), 6);
        due("rename", feed(x, "o").rename(5, 6), 1);
        due("move to a place with later events", x.move(5, 2, 7), 1);
        due("split under a place with later events", feed(x, "p").split(5, 8), 7);
        due("merge into a place with later events", x.merge(5, 3, 9), 0);
        due("close", x.close(7, 10), 2);
    }

    @Says("A place is founded, with a kind, a parent and a name, both from this day on.")
    static void parentAndNameFromTheFoundingOn() {
        PlaceRegister x = with("f0>0@0:r;f1>0@40:ab");
        due("kind", x.on(1, 40, 1), 1);
        int[][] rows = {{39, -5, -5, -5}, {40, 0, 2, 'a'}, {41, 0, 2, 'a'}, {9999, 0, 2, 'a'}};
        for (int[] row : rows) {
            due("parent on day " + row[0], x.on(1, row[0], 2), row[1]);
            due("length on day " + row[0], x.on(1, row[0], 3), row[2]);
            due("letter on day " + row[0], x.on(1, row[0], 10), row[3]);
        }
    }

    @Says("It is named, with another name from this day on.")
    static void namedFromThisDayOn() {
        PlaceRegister x = with("f0>0@0:ab;r0@10:cde;r0@20:f");
        String[] names = {"ab", "ab", "cde", "cde", "f", "f"};
        int[] days = {0, 9, 10, 19, 20, 9999};
        for (int i = 0; i < days.length; i++) {
            due("name on day " + days[i], name(x, 0, days[i]), names[i]);
        }
    }

    @Says({"It is moved, with another parent from this day on, whatever merges told of its parents on later days.",
        "A move drops what merges told of later days."})
    static void movedFromThisDayOnWhateverMergesTold() {
        PlaceRegister x = country();
        due("run", run(x, "f1>0@0:c;f1>0@0:d;g1>2@50;g2>4@70"), 4);
        int[] days = {0, 49, 50, 69, 70, 9999};
        int[] before = {1, 1, 2, 2, 4, 4};
        int[] then = {1, 5, 5, 5, 5, 5};
        for (int i = 0; i < days.length; i++) {
            due("parent on day " + days[i], x.on(3, days[i], 2), before[i]);
        }
        due("move", x.move(3, 5, 49), 1);
        for (int i = 0; i < days.length; i++) {
            due("parent on day " + days[i], x.on(3, days[i], 2), then[i]);
            due("again on day " + days[i], x.again(3, days[i]), then[i]);
        }
        due("history", history(x, 3), "F0:1 P50:2 P70:4 M49:5");
        due("close of what it was to have", x.close(4, 70), 70);
    }

    @Says("It is split: a new place is founded on this day, of its kind, with the parent that it has on this day, and with a name.")
    static void splitOffOnThisDay() {
        PlaceRegister x = with("f0>0@0:r;f1>0@0:a;f1>0@0:b;f2>1@0:t;f3>3@0:q;m3>2@7");
        int[] parents = {-5, 0, 0, 2, 3};
        int[] kinds = {0, 1, 1, 2, 3};
        for (int p = 0; p < 5; p++) {
            due("split", feed(x, "new").split(p, 7), 5 + p);
            due("its kind", x.on(5 + p, 0, 1), kinds[p]);
            due("its founding", x.of(5 + p, 0), 7);
            due("the day before", x.on(5 + p, 6, 0), 0);
            due("its parent", x.on(5 + p, 7, 2), parents[p]);
            due("its name", name(x, 5 + p, 7), "new");
            due("the name of the other", x.on(p, 7, 3), 1);
        }
    }

    @Says("It is merged into another place of its kind: it ends on this day. It is closed: it ends on this day.")
    static void endsOnThisDay() {
        PlaceRegister x = with("f0>0@0:a;f0>0@0:b;f0>0@0:c;g0>1@12;c2@13");
        due("end of the merged one", x.of(0, 1), 12);
        due("its last day", x.on(0, 11, 0), 1);
        due("its end", x.on(0, 12, 0), 0);
        due("end of the closed one", x.of(2, 1), 13);
        due("its last day", x.on(2, 12, 0), 1);
        due("its end", x.on(2, 13, 0), 0);
        due("end of the other one", x.of(1, 1), -5);
    }

    @Says("An event on the day of an earlier one of the same place counts behind it; what it sets holds for the whole day.")
    static void theLatestEventOfADayHolds() {
        PlaceRegister x = country();
        due("rename on the founding day", feed(x, "uv").rename(3, 0), 1);
        due("name on the founding day", name(x, 3, 0), "uv");
        due("move on the founding day", x.move(3, 2, 0), 1);
        due("parent on the founding day", x.on(3, 0, 2), 2);
        due("rename", feed(x, "wxy").rename(3, 8), 2);
        due("rename on the same day", feed(x, "z").rename(3, 8), 3);
        due("name", name(x, 3, 8), "z");
        due("name a day before", name(x, 3, 7), "uv");
        due("move", x.move(3, 0, 8), 2);
        due("move on the same day", x.move(3, 1, 8), 0);
        due("parent", x.on(3, 8, 2), 1);
        due("parent a day before", x.on(3, 7, 2), 2);
        due("split on the same day", feed(x, "n").split(3, 8), 4);
        due("parent of the new one", x.on(4, 8, 2), 1);
        due("close on the same day", x.close(3, 8), 8);
        due("it is gone", x.on(3, 8, 3), -5);
        due("history", history(x, 3), "F0:1 N0:2 M0:2 N8:3 N8:1 M8:0 M8:1 S8:4 C8");
    }

    @Says("A parent from a day on must exist on this day and must not have ended on a later one.")
    static void aParentStandsFromItsDayOn() {
        // Region 1 from day 20 on, region 2 from day 0 to day 39, town 3 in the realm.
        PlaceRegister x = with("f0>0@0:r;f1>0@20:a;f1>0@0:b;c2@40;f2>0@0:t");
        refused(x, "found a day before the parent", feed(x, "n").found(2, 1, 19), 5);
        refused(x, "move a day before the parent", x.move(3, 1, 19), 5);
        due("found on the day of the parent", feed(x, "n").found(2, 1, 20), 4);
        due("move on the day of the parent", x.move(3, 1, 20), 0);
        for (int day : new int[] {20, 39, 40, 41, 9999}) {
            refused(x, "found under one that ends, day " + day, feed(x, "n").found(2, 2, day), 5);
            refused(x, "move under one that ends, day " + day, x.move(3, 2, day), 5);
        }
        due("found on the last day", feed(x, "n").found(2, 1, 9999), 5);
        due("move on the last day", x.move(3, 1, 9999), 1);
    }

    @Says("all days from this one on, on which places have it as their parent, have the other one as their parent instead")
    static void childrenOfAMergedPlaceGoToTheOther() {
        // Town 3 is in region 1 on days 0 to 9 and from day 20 on, town 5 from day 15 on.
        PlaceRegister x = country();
        due("run", run(x, "f1>0@0:c;m3>2@10;m3>1@20;f2>1@15:u;g1>4@5"), 5);
        int[][] rows = {{3, 0, 1}, {3, 4, 1}, {3, 5, 4}, {3, 9, 4}, {3, 10, 2}, {3, 19, 2}, {3, 20, 4}, {3, 9999, 4},
            {5, 14, -5}, {5, 15, 4}, {5, 9999, 4}};
        for (int[] row : rows) {
            due("parent of " + row[0] + " on day " + row[1], x.on(row[0], row[1], 2), row[2]);
            due("again", x.again(row[0], row[1]), row[2]);
        }
        for (int day = 5; day < 30; day += 5) {
            due("children of the ended one on day " + day, x.on(1, day, 5), -5);
        }
        due("children of the other", x.on(4, 20, 5), 2);
    }

    @Says("the other one must exist on this day and must not have ended.")
    static void theOtherOneStands() {
        PlaceRegister x = with("f0>0@0:a;f0>0@20:b;f0>0@0:c;c2@40");
        refused(x, "merge a day before the other", x.merge(0, 1, 19), 5);
        for (int day : new int[] {0, 39, 40, 41, 9999}) {
            refused(x, "merge into one that ends, day " + day, x.merge(0, 2, day), 5);
        }
        due("merge on the day of the other", x.merge(0, 1, 20), 0);
        x = with("f0>0@0:a;f0>0@0:b;f0>0@0:c;g1>2@30");
        refused(x, "merge into one that was merged later", x.merge(0, 1, 29), 5);
        due("merge on the last day", x.merge(0, 2, 9999), 0);
    }

    @Says("A place can be closed only if no place has it as its parent on this day or on a later one.")
    static void onlyPlacesWithoutChildrenAreClosed() {
        PlaceRegister x = country();
        due("move", x.move(3, 2, 30), 1);
        refused(x, "close of one that has a child for ever", x.close(2, 9999), 7);
        refused(x, "close a month before the child", x.close(2, 0), 7);
        refused(x, "close on the last day of the child", x.close(1, 29), 7);
        due("close on the first day without it", x.close(1, 30), 30);
        due("close of the child", x.close(3, 50), 50);
        refused(x, "close on the last day of the child", x.close(2, 49), 7);
        due("close on its end", x.close(2, 50), 50);
        due("close of the realm on their end", x.close(0, 50), 50);
        x = country();
        due("a child of the last day", feed(x, "n").found(3, 3, 9999), 4);
        refused(x, "close long before it", x.close(3, 0), 7);
    }

    @Says("A place that has ended has no more events.")
    static void noEventsBehindTheEnd() {
        for (String end : new String[] {"c3@10", "g3>4@10"}) {
            PlaceRegister x = with("f0>0@0:r;f1>0@0:a;f1>0@0:b;f2>1@0:t;f2>1@0:u;" + end);
            for (int day : new int[] {0, 9, 10, 11, 9999}) {
                refused(x, "rename", feed(x, "n").rename(3, day), 3);
                refused(x, "move", x.move(3, 2, day), 3);
                refused(x, "split", feed(x, "n").split(3, day), 3);
                refused(x, "merge", x.merge(3, 4, day), 3);
                refused(x, "close", x.close(3, day), 3);
            }
            due("its events", x.of(3, 5), 2);
        }
    }

    // ---- Heirs ----

    @Says("The heir of a place on a day is the place itself if it exists on that day or is not founded yet")
    static void itsOwnHeirUntilItsEnd() {
        PlaceRegister x = with("f0>0@10:a;f0>0@0:b;g0>1@20");
        for (int day : new int[] {0, 9, 10, 19}) {
            due("heir on day " + day, x.on(0, day, 6), 0);
        }
        due("heir on its end", x.on(0, 20, 6), 1);
        due("heir of the other, before and then", x.on(1, 0, 6) + x.on(1, 9999, 6), 2);
        x = with("f0>0@50:a;f0>0@0:b;g0>1@50");
        due("heir of one that never existed, before", x.on(0, 49, 6), 0);
        due("heir of one that never existed, then", x.on(0, 50, 6), 1);
    }

    @Says("otherwise, if it was merged into another place, the heir of that on this day")
    static void theHeirOfTheOther() {
        PlaceRegister x = with("f0>0@0:a;f0>0@0:b;f0>0@0:c;g0>1@10;g1>2@20");
        int[][] rows = {{9, 0, 1}, {10, 1, 1}, {19, 1, 1}, {20, 2, 2}, {9999, 2, 2}};
        for (int[] row : rows) {
            due("heir of the first on day " + row[0], x.on(0, row[0], 6), row[1]);
            due("heir of the second on day " + row[0], x.on(1, row[0], 6), row[2]);
        }
        // The second one ends on an earlier day than that on which the first one comes into it.
        x = with("f0>0@0:a;f0>0@0:b;f0>0@0:c;g0>1@30;g1>2@20");
        due("heir before", x.on(0, 29, 6), 0);
        due("heir then", x.on(0, 30, 6), 2);
    }

    @Says("otherwise, if it was merged into another place, the heir of that on this day")
    static void theLongestRowOfHeirs() {
        PlaceRegister x = fullCountry();
        for (int p = 4; p < 19; p++) {
            due("merge", x.merge(p, p + 1, p), 0);
        }
        due("merge", x.merge(19, 0, 19), 0);
        due("heir before", x.on(4, 3, 6), 4);
        due("heir on the first day", x.on(4, 4, 6), 5);
        due("heir on the last but one", x.on(4, 18, 6), 19);
        due("heir at the end of the row", x.on(4, 19, 6), 0);
    }

    @Says("otherwise there is none.")
    static void noHeirOfAClosedPlace() {
        PlaceRegister x = with("f0>0@10:a;c0@20");
        due("heir before", x.on(0, 19, 6), 0);
        due("heir on its end", x.on(0, 20, 6), -5);
        due("heir on the last day", x.on(0, 9999, 6), -5);
    }

    // ---- Spelling ----

    @Says("The distance of two words is the least number of letters that are added, left out or put in place of another one, "
        + "by which the one becomes the other.")
    static void distances() {
        String[][] rows = {{"abc", "abc", "0"}, {"abc", "abcd", "1"}, {"abc", "zabc", "1"}, {"abc", "azbc", "1"},
            {"abc", "bc", "1"}, {"abc", "ac", "1"}, {"abc", "ab", "1"}, {"abc", "zbc", "1"}, {"abc", "azc", "1"},
            {"abc", "abz", "1"}, {"ab", "ba", "2"}, {"abcdefgh", "bcdefgha", "2"}, {"abcdefgh", "abcdefgz", "1"},
            {"abcdefgh", "abcdefg", "1"}, {"abcdefgh", "bcdefgh", "1"}, {"abcdefgh", "abcde", "3"},
            {"abcdefgh", "abcd", "4"}, {"a", "b", "1"}, {"a", "abcd", "3"}, {"a", "bcd", "3"}, {"a", "abcde", "4"},
            {"abc", "xyz", "3"}, {"abcd", "wxyz", "4"}, {"kitten", "sitting", "3"}, {"abcdefgh", "zyxwvuts", "4"},
            {"aaaaaaaa", "aaaaa", "3"}, {"abab", "baba", "2"}, {"abcxyz", "xyzabc", "4"}};
        for (String[] row : rows) {
            for (int turn = 0; turn < 2; turn++) {
                PlaceRegister x = with("f0>0@0:" + row[turn]);
                for (int most = 0; most < 4; most++) {
                    due(row[1 - turn] + " is " + most + " from " + row[turn], feed(x, row[1 - turn]).lookup(0, most),
                        row[2].charAt(0) - '0' <= most ? 1 : 0);
                }
            }
        }
    }

    // ---- Filters ----

    @Says("At most 8 filters can be made, numbered from 0.")
    static void eightFilters() {
        PlaceRegister x = country();
        for (int f = 0; f < 8; f++) {
            due("filter", f < 4 ? x.filter(0, f) : x.join(2, f - 4, 0), f);
        }
        due("a ninth filter", x.filter(0, 0), FULL);
        due("a ninth filter of others", x.join(2, 0, 0), FULL);
        due("filter 7", x.fits(7, 0), 15);
        due("filter 8", x.fits(8, 0), NONE);
        due("drop", x.drop(0), 7);
        due("filter", x.filter(0, 1), 7);
        due("filter 7", x.fits(7, 0), 6);
    }

    @Says("A filter tells for a place and a day, on which the place exists, whether it fits")
    static void onlyPlacesThatExist() {
        PlaceRegister x = with("f0>0@5:a;f0>0@0:b;c1@8");
        due("all", x.filter(2, 0), 0);
        due("none", x.join(2, 0, 0), 1);
        due("all but none", x.join(2, 1, 0), 2);
        due("all with none", x.join(1, 0, 1), 3);
        int[][] rows = {{4, 2}, {5, 3}, {7, 3}, {8, 1}};
        for (int[] row : rows) {
            due("all on day " + row[0], x.fits(0, row[0]), row[1]);
            due("none on day " + row[0], x.fits(1, row[0]), 0);
            due("all but none on day " + row[0], x.fits(2, row[0]), row[1]);
            due("all with none on day " + row[0], x.fits(3, row[0]), row[1]);
        }
    }

    @Says("of sort 0, its kind is v")
    static void filterByKind() {
        PlaceRegister x = with("f0>0@0:r;f1>0@0:a;f2>1@0:t;f3>2@0:q;f1>0@0:b");
        int[] sets = {1, 2 + 16, 4, 8, 0};
        for (int kind = 0; kind < 5; kind++) {
            due("filter", x.filter(0, kind), kind);
            due("kind " + kind, x.fits(kind, 0), sets[kind]);
        }
    }

    @Says("1, its parent on this day is place v")
    static void filterByParent() {
        PlaceRegister x = country();
        due("run", run(x, "m3>2@5;g2>1@9"), 2);
        for (int p = 0; p < 4; p++) {
            due("filter", x.filter(1, p), p);
        }
        int[][] rows = {{0, 0, 2 + 4}, {0, 9, 2}, {1, 4, 8}, {1, 5, 0}, {1, 8, 0}, {1, 9, 8}, {2, 4, 0}, {2, 5, 8}, {2, 8, 8},
            {2, 9, 0}, {3, 0, 0}};
        for (int[] row : rows) {
            due("parent " + row[0] + " on day " + row[1], x.fits(row[0], row[1]), row[2]);
        }
    }

    @Says("2, its name on this day has at least v letters")
    static void filterByLength() {
        PlaceRegister x = with("f0>0@0:abcdefgh;f0>0@0:abc;f0>0@0:a;r2@5:abcd");
        int[][] rows = {{0, 0, 7}, {1, 0, 7}, {2, 0, 3}, {3, 0, 3}, {3, 5, 7}, {4, 4, 1}, {4, 5, 5}, {5, 5, 1}, {8, 0, 1},
            {9, 0, 0}, {9999, 0, 0}};
        for (int[] row : rows) {
            due("filter", x.filter(2, row[0]), 0);
            due("at least " + row[0] + " letters on day " + row[1], x.fits(0, row[1]), row[2]);
            due("drop", x.drop(0), 0);
        }
    }

    @Says("3, it was founded on day v or later")
    static void filterByFounding() {
        PlaceRegister x = with("f0>0@0:a;f0>0@50:b;f0>0@9999:c");
        int[][] rows = {{0, 7}, {1, 6}, {49, 6}, {50, 6}, {51, 4}, {9998, 4}, {9999, 4}};
        for (int[] row : rows) {
            due("filter", x.filter(3, row[0]), 0);
            due("founded on day " + row[0] + " or later", x.fits(0, 9999), row[1]);
            due("drop", x.drop(0), 0);
        }
    }

    @Says("4, place v is among its parent, the parent of that on this day, and so on.")
    static void filterByParentsAbove() {
        // Quarter 4 in town 3, which is in region 1 and from day 5 on in region 2; quarter 5 in the realm itself.
        PlaceRegister x = with("f0>0@0:r;f1>0@0:a;f1>0@0:b;f2>1@0:t;f3>3@0:q;f3>0@0:p;m3>2@5");
        for (int p = 0; p < 6; p++) {
            due("filter", x.filter(4, p), p);
        }
        int[][] rows = {{0, 0, 62}, {1, 0, 24}, {1, 4, 24}, {1, 5, 0}, {2, 4, 0}, {2, 5, 24}, {3, 4, 16}, {3, 5, 16},
            {4, 0, 0}, {5, 0, 0}};
        for (int[] row : rows) {
            due("place " + row[0] + " above on day " + row[1], x.fits(row[0], row[1]), row[2]);
        }
    }

    @Says("Others are put together: both of two filters fit; one of two fits; a filter does not fit.")
    static void filtersPutTogether() {
        PlaceRegister x = with("f0>0@0:abc;f0>0@0:d;f1>0@0:efg;f1>0@0:h");
        due("realms", x.filter(0, 0), 0);
        due("long names", x.filter(2, 2), 1);
        due("both", x.fits(x.join(0, 0, 1), 0), 1);
        due("one", x.fits(x.join(1, 0, 1), 0), 1 + 2 + 4);
        due("not the first", x.fits(x.join(2, 0, 1), 0), 4 + 8);
        due("not both", x.fits(x.join(2, 2, 2), 0), 2 + 4 + 8);
        due("a filter and itself", x.fits(x.join(0, 5, 5), 0), 2 + 4 + 8);
        due("a filter or what it is not", x.fits(x.join(1, 5, 2), 0), 15);
    }

    @Says("v is from 0 to 9999.")
    static void numbersOfFilters() {
        PlaceRegister x = new PlaceRegister();
        for (int sort = 0; sort < 5; sort++) {
            for (int v : new int[] {0, 9999}) {
                due("filter(" + sort + ", " + v + ")", x.filter(sort, v), 0);
                due("drop", x.drop(0), 0);
            }
            for (int v : new int[] {-1, 10000, LOWEST, HIGHEST}) {
                due("filter(" + sort + ", " + v + ")", x.filter(sort, v), BAD);
            }
        }
        due("filters", x.count(1), 0);
    }

    @Says("A filter that is made of others uses them as they are, also when they are gone.")
    static void filtersOfFiltersThatAreGone() {
        PlaceRegister x = country();
        due("realms", x.filter(0, 0), 0);
        due("regions", x.filter(0, 1), 1);
        due("either", x.join(1, 0, 1), 2);
        due("not regions", x.join(2, 1, 0), 3);
        due("the last of both", x.join(0, 2, 3), 4);
        due("drop", x.drop(0), 4);
        due("drop", x.drop(0), 3);
        due("either", x.fits(0, 0), 7);
        due("not regions", x.fits(1, 0), 9);
        due("drop", x.drop(0), 2);
        due("drop", x.drop(0), 1);
        due("the last of both", x.fits(0, 0), 1);
        due("towns", x.filter(0, 2), 1);
        due("quarters", x.filter(0, 3), 2);
        due("the last of both behind new ones", x.fits(0, 0), 1);
        due("drop", x.drop(0), 2);
        due("not towns, by the number that they have now", x.fits(x.join(2, 0, 0), 0), 7);
        due("towns or what is no town", x.fits(x.join(1, 0, 2), 0), 15);
        due("quarters and what is no town", x.fits(x.join(0, 1, 2), 0), 0);
    }

    // ---- Histories ----

    @Says("The history of a place tells its events in the order in which they were told to the register")
    static void inTheOrderOfTelling() {
        PlaceRegister x = country();
        due("run", run(x, "f1>0@0:c;g1>2@50;r3@10:u;g2>4@20;m3>0@15"), 5);
        due("history", history(x, 3), "F0:1 P50:2 N10:1 P50:4 M15:0");
        due("history of the one between", history(x, 2), "F0:0 T50:1 G20:4");
    }

    @Says("0 it was founded, with its parent, or -5; 1 it was named, with the length of the name; 2 it was moved, with the new parent")
    static void eventsOfThePlaceItself() {
        PlaceRegister x = with("f0>0@3:r;f1>0@4:a;f1>0@4:b;f2>1@5:t;r3@6:a;r3@7:abcdefgh;m3>2@8;m3>2@9");
        int[][] rows = {{0, 0, 3, 0, -5}, {1, 0, 4, 0, 0}, {3, 0, 5, 0, 1}, {3, 1, 6, 1, 1}, {3, 2, 7, 1, 8}, {3, 3, 8, 2, 2},
            {3, 4, 9, 2, 2}};
        eventsAre(x, rows);
    }

    @Says("3 it was merged into a place; 4 it was closed, with -5")
    static void eventsOfItsEnd() {
        PlaceRegister x = with("f0>0@0:a;f0>0@0:b;g1>0@5;c0@6");
        eventsAre(x, new int[][] {{1, 1, 5, 3, 0}, {0, 2, 6, 4, -5}});
    }

    @Says("5 it was split off, with the place from which it was, directly behind 0; 6 another place was merged into it, with that "
        + "place; 7 a new place was split off, with that place")
    static void eventsOfTwoPlaces() {
        PlaceRegister x = with("f0>0@0:a;f0>0@0:b;s1@5:c;s1@6:d;g1>0@7");
        eventsAre(x, new int[][] {{1, 1, 5, 7, 2}, {1, 2, 6, 7, 3}, {1, 3, 7, 3, 0}, {2, 0, 5, 0, -5}, {2, 1, 5, 5, 1},
            {3, 0, 6, 0, -5}, {3, 1, 6, 5, 1}, {0, 1, 7, 6, 1}});
        due("events of the new one", x.of(2, 5), 2);
    }

    @Says("8 its parent became another one because that was merged, with the new parent, once for each merge, with the first day on "
        + "which it is so.")
    static void eventsOfParents() {
        // Town 3 is in region 1 on days 0 to 9, 20 to 29 and from day 40 on.
        PlaceRegister x = country();
        due("run", run(x, "m3>2@10;m3>1@20;m3>2@30;m3>1@40;f1>0@0:c;f1>0@0:d"), 6);
        due("merge in a day without it", x.merge(1, 4, 15), 1);
        due("merge of the new one", x.merge(4, 5, 25), 1);
        eventsAre(x, new int[][] {{3, 5, 20, 8, 4}, {3, 6, 25, 8, 5}});
        due("events", x.of(3, 5), 7);
    }

    private static void eventsAre(PlaceRegister x, int[][] rows) {
        for (int[] row : rows) {
            for (int what = 0; what < 3; what++) {
                due("event(" + row[0] + ", " + row[1] + ", " + what + ")", x.event(row[0], row[1], what), row[2 + what]);
            }
        }
    }

    @Says("The events 6 and 8 are not events of the place for the order of days.")
    static void eventsOfMergesDoNotCountForTheOrder() {
        PlaceRegister x = country();
        due("merge", x.merge(1, 2, 500), 1);
        due("rename of the other before it", feed(x, "n").rename(2, 3), 1);
        due("rename of the child before it", feed(x, "n").rename(3, 4), 1);
        due("latest event of the other", x.of(2, 4), 3);
        due("latest event of the child", x.of(3, 4), 4);
        due("close of the child before it", x.close(3, 5), 5);
        due("close of the other before it", x.close(2, 5), 5);
    }

    @Says("The first 24 events are kept.")
    static void twentyFourEventsAreKept() {
        PlaceRegister x = with("f0>0@0:a;f0>0@0:b");
        for (int i = 1; i < 25; i++) {
            due("the event before is kept", x.event(0, i - 1, 0), i - 1);
            due("this one is not told yet", x.event(0, i, 0), NONE);
            due("rename", feed(x, "b").rename(0, i), 1);
        }
        due("event 0", x.event(0, 0, 1), 0);
        due("event 23", x.event(0, 23, 0), 23);
        due("event 24", x.event(0, 24, 0), NONE);
        due("split", feed(x, "c").split(0, 30), 2);
        due("merge", x.merge(1, 0, 30), 0);
        due("close", x.close(0, 30), 30);
        due("event 23", x.event(0, 23, 0), 23);
        due("event 24", x.event(0, 24, 0), NONE);
        due("number of events", x.of(0, 5), 28);
        due("its end all the same", x.of(0, 1), 30);
    }

    @Says("The first 24 events are kept.")
    static void eventsOfMergesFillTheHistoryToo() {
        PlaceRegister x = country();
        for (int i = 0; i < 16; i++) {
            due("split", feed(x, "n").split(2, 0), 4 + i);
        }
        for (int i = 0; i < 16; i++) {
            due("merge", x.merge(i == 0 ? 1 : 3 + i, 4 + i, i), 1);
        }
        due("events of the child", x.of(3, 5), 17);
        for (int i = 0; i < 8; i++) {
            due("again", x.again(3, 9999), i == 0 ? 19 : 0);
            due("move", x.move(3, 0, 20), i == 0 ? 19 : 0);
        }
        due("25 events", x.again(3, 9999), STATE);
        due("the last one that is kept", x.event(3, 23, 1), 2);
        due("the first one that is not", x.event(3, 24, 1), NONE);
    }

    // ---- Commands ----

    @Says("text = command { \";\" command }")
    static void commandsWithSemicolonsBetween() {
        PlaceRegister x = new PlaceRegister();
        due("no command", x.run(), -100);
        due("a semicolon alone", run(x, ";"), -100);
        due("one command", run(x, "f0>0@0:a"), 1);
        due("a semicolon behind it", run(x, "f0>0@0:a;"), -109);
        due("two semicolons", run(x, "f0>0@0:a;;f0>0@0:b"), -109);
        due("a semicolon in front", run(x, ";f0>0@0:a"), -100);
        due("none between", run(x, "c0@1c0@1"), -104);
        due("another sign between", run(x, "c0@1,c0@1"), -104);
        due("a space behind the semicolon", run(x, "c0@1; c0@1"), -105);
        due("two commands", run(x, "f0>0@0:a;f0>0@0:b"), 2);
        due("places", x.count(0), 3);
    }

    @Says("command = \"f\" kind \">\" number \"@\" number \":\" word | \"r\" number \"@\" number \":\" word | \"m\" number \">\" number "
        + "\"@\" number | \"s\" number \"@\" number \":\" word | \"g\" number \">\" number \"@\" number | \"c\" number \"@\" number")
    static void formsOfTheCommands() {
        String[] forms = {"f1>0@5:w", "r3@5:w", "m3>2@5", "s3@5:w", "g3>4@5", "c3@5"};
        for (String form : forms) {
            PlaceRegister x = country();
            due("found", feed(x, "u").found(2, 1, 0), 4);
            for (int i = 0; i < form.length(); i++) {
                due("cut: " + form.substring(0, i), run(x, form.substring(0, i)), -100 - i);
                for (char sign : new char[] {'!', ';', 'x', '\0', '\177'}) {
                    if (sign != 'x' || form.charAt(i) != 'w') {
                        String text = form.substring(0, i) + sign + form.substring(i + 1);
                        due("run of " + text, run(x, text), -100 - i);
                    }
                }
            }
            due("places", x.count(0), 5);
            due("run of " + form, run(x, form), 1);
        }
        // What belongs to one command is wrong in another.
        String[] texts = {"f1@5:w", "r3>2@5:w", "r3@5", "m3@5", "m3>2@5:w", "s3>2@5:w", "s3@5", "g3@5", "g3>4@5:w", "c3>4@5",
            "c3@5:w", "F1>0@5:w", "h3@5"};
        int[] positions = {2, 2, 4, 2, 6, 2, 4, 2, 6, 2, 4, 0, 0};
        for (int i = 0; i < texts.length; i++) {
            due("run of " + texts[i], run(country(), texts[i]), -100 - positions[i]);
        }
    }

    @Says("f founds a place of a kind from 0 to 3 with a parent, whose number does not matter for a realm; r names a place, m moves "
        + "it, s splits it, g merges it into another one, c closes it.")
    static void whatTheCommandsDo() {
        PlaceRegister x = with("f0>9999@0:r;f0>20@0:r;f1>0@1:a;f1>0@1:b;f2>2@2:t;f3>4@3:q");
        for (int p = 0; p < 6; p++) {
            due("kind of " + p, x.on(p, 9, 1), p < 2 ? 0 : p < 4 ? 1 : p - 2);
        }
        due("parent of a realm", x.on(0, 0, 2), -5);
        due("kind 4", run(x, "f4>0@5:k"), -101);
        due("kind 9", run(x, "f9>0@5:k"), -101);
        due("kind below 0", run(x, "f/>0@5:k"), -101);
        due("kind of two digits", run(x, "f00>0@5:k"), -102);
        due("no kind", run(x, "f>0@5:k"), -101);
        due("names", run(x, "r4@5:uv"), 1);
        due("name", name(x, 4, 5), "uv");
        due("moves", run(x, "m4>3@6"), 1);
        due("parent", x.on(4, 6, 2), 3);
        due("splits", run(x, "s4@7:w"), 1);
        due("place 6", x.on(6, 7, 2), 3);
        due("merges", run(x, "g4>6@8"), 1);
        due("parent of the child", x.on(5, 8, 2), 6);
        due("closes", run(x, "c5@9"), 1);
        due("end", x.of(5, 1), 9);
    }

    @Says("A number has 1 to 4 digits, zeros at the front allowed; behind \"@\" it is a day.")
    static void numbersOf1To4Digits() {
        PlaceRegister x = with("f0>0000@0007:r;f1>000@0007:a;f1>00@07:b;f2>0001@7:t");
        due("days", x.of(0, 0) + x.of(1, 0) + x.of(2, 0) + x.of(3, 0), 28);
        due("parent", x.on(3, 7, 2), 1);
        due("a place of four digits", run(x, "r0003@0008:u"), 1);
        due("a place of many zeros", run(x, "m0003>0002@8;c0003@0009"), 2);
        due("the last day", run(x, "f0>0@9999:z"), 1);
        due("the last day", x.of(4, 0), 9999);
        due("the first day", run(x, "f0>0@0000:z"), 1);
        due("the greatest number", run(x, "r9999@9:z"), -200);
        due("its reason", x.reason(), 1);
        String[] texts = {"r00003@8:u", "r@8:u", "r3@00008:u", "r3@10000:u", "r3@:u", "f1>00000@8:u", "f1>@8:u", "m3>00002@8", "c3@00008",
            "c3@-1", "c-1@3", "c3@1/", "c3@1:", "c/@1", "c:@1"};
        int[] positions = {5, 1, 7, 7, 3, 7, 3, 7, 7, 3, 1, 4, 4, 1, 1};
        for (int i = 0; i < texts.length; i++) {
            due("run of " + texts[i], run(x, texts[i]), -100 - positions[i]);
        }
    }

    @Says("A word has 1 to 8 letters; a ninth one is wrong.")
    static void wordsOf1To8Letters() {
        for (String head : new String[] {"f0>0@1:", "r0@1:", "s0@1:"}) {
            PlaceRegister x = with("f0>0@0:r");
            int start = head.length();
            due(head + " without a letter", run(x, head), -100 - start);
            due(head + " with none in front of another command", run(x, head + ";c0@1"), -100 - start);
            due(head + " with nine letters", run(x, head + "abcdefghi"), -108 - start);
            due(head + " with nine letters in front of another command", run(x, head + "abcdefghi;c0@1"), -108 - start);
            due(head + " with a capital", run(x, head + "abC"), -102 - start);
            due(head + " with a sign below a", run(x, head + "`"), -100 - start);
            due(head + " with a sign above z", run(x, head + "z{"), -101 - start);
            due("places", x.count(0), 1);
            due(head + " with one letter", run(x, head + "z"), 1);
            due(head + " with eight letters", run(x, head + "abcdefgh;" + head + "stuvwxyz"), 2);
            int p = head.charAt(0) == 'r' ? 0 : 3;
            due("the word", name(x, p, 1), "stuvwxyz");
        }
    }

    @Says("The error position of a text is the index of its first byte with which no such text can continue, or its length if it ends "
        + "too early.")
    static void errorPositions() {
        PlaceRegister x = new PlaceRegister();
        due("the first byte", run(x, "x"), -100);
        due("the first of two wrong bytes", run(x, "f0>!@!"), -103);
        due("a wrong byte in front of an early end", run(x, "f0!"), -102);
        due("an early end", run(x, "f0>"), -103);
        due("the empty text", x.run(), -100);
        due("no refusal comes before a wrong text", run(x, "c9@1;c9@1;c"), -111);
        String full = times(16, "c0@1;");
        due("a full tape that ends too early", run(x, full), -180);
        due("a full tape, wrong in its last byte", run(x, full.substring(0, 79) + "!"), -179);
        due("a full tape with a ninth letter", run(x, full.substring(0, 65) + "r0@1:abcdefghij"), -178);
        due("no reason", x.reason(), -5);
    }

    @Says("The commands are done one after the other; if one of them is refused, nothing of all is done, and -200 minus its number, from "
        + "0, is told.")
    static void refusedCommands() {
        PlaceRegister x = country();
        String before = held(x);
        due("the first", run(x, "c9@1;c3@5"), -200);
        due("the second", run(x, "c3@5;c3@5"), -201);
        due("the second of three", run(x, "c3@5;c9@5;c2@5"), -201);
        due("behind all sorts", run(x, "f2>2@1:u;r3@2:n;m3>2@2;s3@3:v;g1>2@4;c4@5;c2@6"), -206);
        due("its reason", x.reason(), 7);
        due("what is held", held(x), before);
        due("later ones see what earlier ones did", run(x, "f2>2@1:u;c4@9;c3@9;c2@9"), 4);
        PlaceRegister y = new PlaceRegister();
        due("sixteen that are refused", run(y, times(15, "c0@1;") + "c0@1"), -200);
        due("places", y.count(0), 0);
    }

    @Says("if one of them is refused, nothing of all is done, and -200 minus its number, from 0, is told.")
    static void manyCommands() {
        PlaceRegister x = with("f0>0@0:a;f0>0@0:b;f0>0@0:c;f0>0@0:d;f0>0@0:e;f0>0@0:f;f0>0@0:g");
        due("run", run(x, "f0>0@0:h;f0>0@0:i;f0>0@0:j;f0>0@0:k;f0>0@0:l;f0>0@0:m;f0>0@0:n;f0>0@0:o"), 8);
        StringBuilder text = new StringBuilder();
        for (int p = 0; p < 10; p++) {
            text.append('c').append(p).append("@1;");
        }
        due("sixteen, the eleventh is refused", run(x, text + "c9@1;c0@1;c0@1;c0@1;c0@1;c0@1"), -210);
        due("fifteen, the last is refused", run(x, text + "c10@1;c11@1;c12@1;c13@1;c0@1"), -214);
        for (int p = 0; p < 15; p++) {
            due("end of " + p, x.of(p, 1), -5);
        }
        due("fifteen", run(x, text + "c10@1;c11@1;c12@1;c13@1;c14@1"), 15);
        for (int p = 0; p < 15; p++) {
            due("end of " + p, x.of(p, 1), 1);
        }
    }

    // ---- Reasons ----

    @Says("Something is refused for a reason, of which the first that applies is told")
    static void theFirstReason() {
        PlaceRegister x = with("f0>0@50:r;f1>0@50:a;f1>0@50:b;c2@60");
        refused(x, "found, 9 of 9, 1 and 2", x.found(1, 9, 10000), 9);
        refused(x, "found, 1 of 1 and 2", feed(x, "n").found(1, 9, 10000), 1);
        refused(x, "move, 3 of 3, 2, 4 and 5", x.move(2, 2, 10000), 3);
        refused(x, "move, 2 of 2, 4 and 5", x.move(1, 2, 49), 2);
        refused(x, "move, 4 of 4 and 5", x.move(1, 2, 50), 4);
        refused(x, "merge, 8 of 8, 3 and 2", x.merge(2, 2, 10000), 8);
        refused(x, "close, 2 of 2 and 7", x.close(0, 49), 2);
        refused(x, "close, 7 alone", x.close(0, 50), 7);
    }

    @Says("1 there is no such place")
    static void reason1() {
        PlaceRegister x = country();
        for (int p : new int[] {-1, 4, 20, LOWEST, HIGHEST}) {
            refused(x, "found", feed(x, "n").found(2, p, 5), 1);
            refused(x, "rename", feed(x, "n").rename(p, 5), 1);
            refused(x, "move of it", x.move(p, 1, 5), 1);
            refused(x, "move to it", x.move(3, p, 5), 1);
            refused(x, "split", feed(x, "n").split(p, 5), 1);
            refused(x, "merge of it", x.merge(p, 1, 5), 1);
            refused(x, "merge into it", x.merge(1, p, 5), 1);
            refused(x, "close", x.close(p, 5), 1);
        }
        due("place 3", x.close(3, 5), 5);
    }

    @Says("2 the day is before the latest event of the place, or above 9999")
    static void reason2() {
        PlaceRegister x = country();
        due("rename", feed(x, "n").rename(3, 20), 1);
        due("rename", feed(x, "n").rename(1, 20), 1);
        for (int day : new int[] {19, 0, -1, LOWEST, 10000, HIGHEST}) {
            refused(x, "rename", feed(x, "n").rename(3, day), 2);
            refused(x, "move", x.move(3, 2, day), 2);
            refused(x, "split", feed(x, "n").split(3, day), 2);
            refused(x, "merge", x.merge(1, 2, day), 2);
            refused(x, "close", x.close(3, day), 2);
        }
        for (int day : new int[] {20, 9999}) {
            due("rename", feed(x, "n").rename(3, day), 1);
        }
    }

    @Says("3 the place has ended")
    static void reason3() {
        PlaceRegister x = country();
        due("close", x.close(3, 7), 7);
        for (int day : new int[] {0, 6, 7, 8, 9999}) {
            refused(x, "close again on day " + day, x.close(3, day), 3);
        }
        due("back", x.back(), 1);
        due("close", x.close(3, 7), 7);
    }

    @Says("4 the kinds do not go together")
    static void reason4() {
        PlaceRegister x = with("f0>0@0:r;f1>0@0:a;f2>1@0:t;f3>2@0:q;f0>0@0:s");
        for (int p = 0; p < 4; p++) {
            for (int other = 0; other < 4; other++) {
                if (other >= p) {
                    refused(x, "move of " + p + " to " + other, x.move(p, other, 5), 4);
                }
                if (other != p) {
                    refused(x, "merge of " + p + " into " + other, x.merge(p, other, 5), 4);
                }
            }
        }
        refused(x, "found", feed(x, "n").found(2, 2, 5), 4);
        refused(x, "found", feed(x, "n").found(1, 3, 5), 4);
        refused(x, "move of a realm to a realm", x.move(0, 4, 5), 4);
        due("merge of a realm into a realm", x.merge(4, 0, 5), 0);
        due("move of a quarter to a realm", x.move(3, 0, 5), 2);
    }

    @Says("5 the parent, or the place into which another one is merged, does not exist on this day or has ended on a later one")
    static void reason5() {
        // Region 2 stands on the days 10 to 19 alone, region 3 from day 10 on.
        PlaceRegister x = with("f0>0@0:r;f1>0@0:a;f1>0@10:b;f1>0@10:c;c2@20;f2>1@0:t");
        for (int day : new int[] {0, 9, 10, 19, 20, 9999}) {
            refused(x, "found in 2 on day " + day, feed(x, "n").found(3, 2, day), 5);
            refused(x, "move to 2 on day " + day, x.move(4, 2, day), 5);
            refused(x, "merge into 2 on day " + day, x.merge(1, 2, day), 5);
        }
        for (int day : new int[] {0, 9}) {
            refused(x, "found in 3 on day " + day, feed(x, "n").found(3, 3, day), 5);
            refused(x, "move to 3 on day " + day, x.move(4, 3, day), 5);
            refused(x, "merge into 3 on day " + day, x.merge(1, 3, day), 5);
        }
        due("found in 3 on day 10", feed(x, "n").found(3, 3, 10), 5);
        due("merge into 3 on day 10", x.merge(1, 3, 10), 1);
        due("move to 3 on day 10", x.move(4, 3, 10), 3);
    }

    @Says("6 there are 20 places")
    static void reason6() {
        PlaceRegister x = fullCountry();
        due("places", x.count(0), 20);
        refused(x, "found", feed(x, "n").found(0, 0, 5), 6);
        refused(x, "found in a parent", feed(x, "n").found(3, 3, 5), 6);
        refused(x, "split", feed(x, "n").split(3, 5), 6);
        due("back", x.back(), 2);
        due("places", x.count(0), 12);
        for (int p = 12; p < 20; p++) {
            due("split", feed(x, "n").split(3, 5), p);
        }
        refused(x, "split", feed(x, "n").split(3, 5), 6);
    }

    @Says("7 a place has it as its parent")
    static void reason7() {
        PlaceRegister x = country();
        refused(x, "close of the town's region", x.close(1, 9), 7);
        refused(x, "close of the realm", x.close(0, 9), 7);
        due("a town to come", feed(x, "u").found(2, 2, 100), 4);
        refused(x, "close of its region before it comes", x.close(2, 9), 7);
        due("back", x.back(), 1);
        due("close of a region without towns", x.close(2, 9), 9);
        due("close of the town", x.close(3, 9), 9);
        due("close of its region", x.close(1, 9), 9);
        due("close of the realm", x.close(0, 9), 9);
    }

    @Says("8 a place would be merged into itself")
    static void reason8() {
        PlaceRegister x = country();
        for (int p = 0; p < 4; p++) {
            refused(x, "merge of " + p + " into itself", x.merge(p, p, 5), 8);
        }
        due("merge into another one", x.merge(1, 2, 5), 1);
    }

    @Says("9 the word is wrong, or there is none.")
    static void reason9() {
        PlaceRegister x = country();
        for (String word : new String[] {"", "abcdefghi", times(80, "a"), "A", "a1", "a;", "1a", "`", "{", "\0", "a\177"}) {
            refused(x, "found", feed(x, word).found(0, 0, 5), 9);
            refused(x, "rename", feed(x, word).rename(3, 5), 9);
            refused(x, "split", feed(x, word).split(3, 5), 9);
            refused(x, "lookup", feed(x, word).lookup(5, 3), 9);
        }
        due("rename", feed(x, "abcdefgh").rename(3, 5), 1);
    }

    // ---- Changes ----

    @Says("The successful calls of found, rename, move, split, merge, close, filter, join, drop and run are changes")
    static void changes() {
        PlaceRegister x = new PlaceRegister();
        String[] states = new String[11];
        for (int i = 0; i < 10; i++) {
            // An image of each moment, since no more than six of them can be gone back to.
            states[i] = heldBeside(x);
            changeOf(x, i);
            due("changes", x.count(3), Math.min(6, i + 1));
        }
        for (int i = 9; i >= 4; i--) {
            due("back", x.back(), i - 4);
            due("what is held behind back over change " + i, heldBeside(x), states[i]);
        }
        for (int i = 0; i < 4; i++) {
            PlaceRegister y = new PlaceRegister();
            for (int k = 0; k < i; k++) {
                changeOf(y, k);
            }
            String before = heldBeside(y);
            changeOf(y, i);
            due("back", y.back(), i);
            due("what is held behind back over change " + i, heldBeside(y), before);
        }
    }

    /** What is held without the number of changes and what is found. */
    private static String heldBeside(PlaceRegister x) {
        StringBuilder all = new StringBuilder();
        all.append(x.count(0)).append(' ').append(x.count(1)).append(' ').append(x.count(4)).append(' ').append(x.count(5));
        for (int p = 0; p < x.count(0); p++) {
            all.append(' ').append(x.of(p, 1)).append(' ').append(x.of(p, 5)).append(' ').append(x.on(p, 5, 2));
        }
        for (int f = 0; f < x.count(1); f++) {
            all.append(' ').append(x.fits(f, 5));
        }
        return all.toString();
    }

    private static void changeOf(PlaceRegister x, int i) {
        switch (i) {
            case 0:
                due("run", run(x, "f0>0@0:a;f0>0@0:b;f1>0@0:c"), 3);
                break;
            case 1:
                due("filter", x.filter(0, 0), 0);
                break;
            case 2:
                due("join", x.join(2, 0, 0), 1);
                break;
            case 3:
                due("drop", x.drop(0), 1);
                break;
            case 4:
                due("found", feed(x, "d").found(1, 1, 1), 3);
                break;
            case 5:
                due("rename", feed(x, "e").rename(3, 2), 1);
                break;
            case 6:
                due("move", x.move(3, 0, 3), 1);
                break;
            case 7:
                due("split", feed(x, "f").split(3, 4), 4);
                break;
            case 8:
                due("merge", x.merge(2, 3, 5), 0);
                break;
            default:
                due("close", x.close(4, 5), 1);
        }
    }

    @Says("The successful calls of found, rename, move, split, merge, close, filter, join, drop and run are changes")
    static void otherCallsAreNoChanges() {
        PlaceRegister x = country();
        due("lookup", feed(x, "t").lookup(0, 0), 1);
        due("image", x.image(), 4);
        due("write", x.write(0), 2);
        refused(x, "found", x.found(0, 0, 0), 9);
        due("found", x.found(4, 0, 0), NONE);
        refused(x, "rename", x.rename(0, 0), 9);
        refused(x, "move", x.move(0, 0, 0), 4);
        refused(x, "split", x.split(0, 0), 9);
        refused(x, "merge", x.merge(0, 0, 0), 8);
        refused(x, "close", x.close(0, 0), 7);
        due("filter", x.filter(5, 0), NONE);
        due("filter", x.filter(0, -1), BAD);
        due("join", x.join(0, 0, 0), NONE);
        due("drop", x.drop(0), NONE);
        due("run", x.run(), -100);
        due("run", run(x, "c3@1;c3@1"), -201);
        due("changes", x.count(3), 1);
        due("back", x.back(), 0);
        due("places", x.count(0), 0);
    }

    @Says("at most 6 of them can be undone, the latest first.")
    static void sixChangesCanBeUndone() {
        PlaceRegister x = new PlaceRegister();
        for (int i = 0; i < 8; i++) {
            due("changes", x.count(3), Math.min(i, 6));
            due("found", feed(x, "a").found(0, 0, i), i);
        }
        for (int left = 5; left >= 0; left--) {
            due("the latest is there", x.of(2 + left, 0), 2 + left);
            due("back", x.back(), left);
            due("the latest is gone", x.of(2 + left, 0), NONE);
        }
        due("back over a seventh", x.back(), STATE);
        due("places", x.count(0), 2);
    }

    // ---- Snapshots ----

    @Says("The snapshot contains everything but itself, the tape, the reason, what the latest lookup found, and the changes that can be "
        + "undone")
    static void whatTheSnapshotContains() {
        PlaceRegister x = country();
        due("run", run(x, "s3@5:u;g1>2@9;c4@30"), 3);
        due("filter", x.filter(4, 2), 0);
        due("join", x.join(2, 0, 0), 1);
        due("image", x.image(), 5);
        String before = heldBeside(x);
        String histories = history(x, 3) + "/" + history(x, 4) + "/" + history(x, 1);
        due("run", run(x, "m3>0@20;r3@21:v;s3@22:w;c5@23;c3@30"), 5);
        due("drop", x.drop(0), 1);
        due("filter", x.filter(0, 3), 1);
        due("another state", heldBeside(x).equals(before), false);
        due("undo", x.undo(), 5);
        due("what is held", heldBeside(x), before);
        due("histories", history(x, 3) + "/" + history(x, 4) + "/" + history(x, 1), histories);
        due("merges", x.count(4), 1);
        due("splits", x.count(5), 1);
    }

    @Says("The snapshot contains everything but itself, the tape, the reason, what the latest lookup found, and the changes that can be "
        + "undone")
    static void whatTheSnapshotDoesNotContain() {
        PlaceRegister x = country();
        due("lookup", feed(x, "a").lookup(0, 0), 1);
        refused(x, "close", x.close(9, 0), 1);
        feed(x, "abc");
        due("image", x.image(), 4);
        due("lookup", x.lookup(0, 0), 0);
        refused(x, "merge", x.merge(0, 0, 0), 8);
        feed(x, "defgh");
        due("close", x.close(3, 0), 0);
        due("undo", x.undo(), 4);
        due("the tape", x.count(2), 5);
        due("the reason", x.reason(), 8);
        due("what was found", x.sought(0), -5);
        due("changes", x.count(3), 0);
        due("undo again, since it does not contain itself", x.undo(), 4);
        due("the word on the tape", x.rename(3, 1), 1);
        due("the word on the tape", name(x, 3, 1), "defgh");
    }

    @Says("undoing a change leaves these as they are, too.")
    static void whatUndoingAChangeLeaves() {
        PlaceRegister x = country();
        due("image", x.image(), 4);
        due("rename", feed(x, "k").rename(3, 1), 1);
        due("close", x.close(3, 7), 7);
        due("lookup", feed(x, "a").lookup(0, 0), 1);
        refused(x, "merge", x.merge(0, 0, 0), 8);
        feed(x, "abc");
        due("back", x.back(), 2);
        due("the tape", x.count(2), 3);
        due("the reason", x.reason(), 8);
        due("what was found", x.sought(0), 1);
        due("changes", x.count(3), 2);
        due("back", x.back(), 1);
        due("back over what was before the snapshot", x.back(), 0);
        due("places", x.count(0), 0);
        due("the snapshot", x.undo(), 4);
        due("the place in it", x.of(3, 5), 1);
    }

    // ---- In doubt ----

    @Says("Changes that were undone make room.")
    static void roomForOtherChanges() {
        PlaceRegister x = fullCountry();
        due("back", x.back(), 2);
        for (int p = 12; p < 20; p++) {
            due("found", feed(x, "n").found(0, 0, 3), p);
        }
        refused(x, "found", feed(x, "n").found(0, 0, 3), 6);
        for (int f = 0; f < 8; f++) {
            due("filter", x.filter(0, f), f);
        }
        due("filter", x.filter(0, 8), FULL);
        due("back", x.back(), 5);
        due("filter", x.filter(0, 9), 7);
        due("changes", x.count(3), 6);
        due("back", x.back(), 5);
        due("back", x.back(), 4);
        due("filter", x.filter(0, 9), 6);
        due("changes", x.count(3), 5);
    }

    @Says("Changes that were undone make room.")
    static void roomInTheHistory() {
        PlaceRegister x = with("f0>0@0:a");
        for (int i = 0; i < 24; i++) {
            due("rename", feed(x, "b").rename(0, i), 1);
        }
        due("25 events", x.again(0, 0), STATE);
        due("back", x.back(), 5);
        due("24 events", x.again(0, 0), -5);
        due("back", x.back(), 4);
        due("event 23", x.event(0, 23, 0), NONE);
        due("another one", feed(x, "c").rename(0, 777), 1);
        due("event 23", x.event(0, 23, 0), 777);
    }

    @Says("A merge changes parents on just those days on which they would be the place that ends, also where a child was moved there or "
        + "away on a later day")
    static void childrenMovedThereOrAwayLater() {
        // Town 3 leaves region 1 on day 30; town 4 comes to it on day 30; town 5 comes on day 20 and leaves on day 30.
        PlaceRegister x = with("f0>0@0:r;f1>0@0:a;f1>0@0:b;f2>1@0:t;f2>2@0:u;f2>2@0:v");
        due("run", run(x, "f1>0@0:c;m3>2@30;m4>1@30;m5>1@20;m5>2@30"), 5);
        due("merge", x.merge(1, 6, 10), 3);
        int[] days = {9, 10, 19, 20, 29, 30};
        int[][] parents = {{1, 6, 6, 6, 6, 2}, {2, 2, 2, 2, 2, 6}, {2, 2, 2, 6, 6, 2}};
        for (int p = 3; p < 6; p++) {
            for (int i = 0; i < days.length; i++) {
                due("parent of " + p + " on day " + days[i], x.on(p, days[i], 2), parents[p - 3][i]);
                due("again", x.again(p, days[i]), parents[p - 3][i]);
            }
        }
        due("history of the one that leaves", history(x, 3), "F0:1 M30:2 P10:6");
        due("history of the one that comes", history(x, 4), "F0:2 M30:1 P30:6");
        due("history of the one that does both", history(x, 5), "F0:2 M20:1 M30:2 P20:6");
    }

    @Says("of a child that has none of these days nothing is told and it does not count.")
    static void childrenWithoutSuchDays() {
        // Town 3 left the day before, town 4 ended the day before, town 5 comes and ends on one day, town 6 was never there.
        PlaceRegister x = with("f0>0@0:r;f1>0@0:a;f1>0@0:b;f2>1@0:t;f2>1@0:u;f2>2@0:v;f2>2@0:w");
        due("run", run(x, "m3>2@10;c4@10;m5>1@40;c5@40"), 4);
        due("merge", x.merge(1, 2, 10), 0);
        String[] histories = {"F0:1 M10:2", "F0:1 C10", "F0:2 M40:1 C40", "F0:2"};
        for (int p = 3; p < 7; p++) {
            due("history of " + p, history(x, p), histories[p - 3]);
        }
        due("children that were told", x.of(3, 5) + x.of(4, 5) + x.of(5, 5) + x.of(6, 5), 8);
    }

    @Says("A split needs the parent of its day to stand, reason 5.")
    static void theParentOfASplitStands() {
        PlaceRegister x = country();
        due("merge", x.merge(1, 2, 50), 1);
        for (int day : new int[] {0, 49}) {
            refused(x, "split on day " + day, feed(x, "n").split(3, day), 5);
        }
        due("split on the day of the merge", feed(x, "n").split(3, 50), 4);
        due("its parent", x.on(4, 50, 2), 2);
        due("split of a realm", feed(x, "n").split(0, 0), 5);
    }

    @Says("Two names on one day both count for how often; the first one holds for 0 days.")
    static void twoNamesOnOneDay() {
        PlaceRegister x = with("f0>0@5:abc;r0@5:de;r0@9:f;r0@9:gh;c0@9");
        due("how often", x.of(0, 2), 4);
        due("the longest one", x.longest(0, 0), 5);
        due("its days", x.longest(0, 1), 4);
        due("its length", x.longest(0, 2), 2);
        x = with("f0>0@5:abc;r0@5:de;c0@5");
        due("of none that holds the first", x.longest(0, 2), 3);
        due("its days", x.longest(0, 1), 0);
        due("how often", x.of(0, 2), 2);
    }

    @Says("A place that was merged into one that is closed has no heir on later days.")
    static void noHeirBehindAClosedPlace() {
        PlaceRegister x = with("f0>0@0:a;f0>0@0:b;g0>1@10;c1@20");
        int[] days = {9, 10, 19, 20, 21, 9999};
        int[] heirs = {0, 1, 1, -5, -5, -5};
        for (int i = 0; i < days.length; i++) {
            due("heir on day " + days[i], x.on(0, days[i], 6), heirs[i]);
        }
        x = with("f0>0@0:a;f0>0@0:b;g0>1@30;c1@20");
        due("heir before its end", x.on(0, 29, 6), 0);
        due("heir on its end", x.on(0, 30, 6), -5);
    }

    @Says("A filter whose number is no place or kind fits none.")
    static void filtersOfNoPlaceOrKind() {
        PlaceRegister x = country();
        int[][] rows = {{0, 4}, {0, 9999}, {1, 4}, {1, 20}, {1, 9999}, {4, 4}, {4, 20}, {4, 9999}};
        for (int[] row : rows) {
            due("filter", x.filter(row[0], row[1]), 0);
            due("sort " + row[0] + " of " + row[1], x.fits(0, 5), 0);
            due("not it", x.fits(x.join(2, 0, 0), 5), 15);
            due("drop", x.drop(1), 1);
            due("drop", x.drop(0), 0);
        }
        due("a filter of the next place", x.filter(1, 4), 0);
        due("none yet", x.fits(0, 5), 0);
        due("found", feed(x, "c").found(1, 0, 5), 4);
        due("found in it", feed(x, "u").found(2, 4, 5), 5);
        due("now it is a place", x.fits(0, 5), 32);
    }

    @Says("The reason of a refused command is kept.")
    static void reasonsOfRefusedCommands() {
        String[] texts = {"c9@0", "f0>0@20:a;r0@30:b;r0@29:c", "c3@9;c3@9", "m3>3@0", "g1>2@1;f2>1@1:n", "c0@9", "g2>2@9"};
        int[] answers = {-200, -202, -201, -200, -201, -200, -200};
        int[] reasons = {1, 2, 3, 4, 5, 7, 8};
        for (int i = 0; i < texts.length; i++) {
            PlaceRegister x = country();
            due("run of " + texts[i], run(x, texts[i]), answers[i]);
            due("its reason", x.reason(), reasons[i]);
            due("changes", x.count(3), 1);
        }
        PlaceRegister x = fullCountry();
        due("run", run(x, "c3@1;s0@0:a"), -201);
        due("its reason", x.reason(), 6);
    }

    @Says("The events 6 and 8 count in the number of events.")
    static void eventsOfMergesCount() {
        PlaceRegister x = country();
        due("merge", x.merge(1, 2, 5), 1);
        due("events of the ended one", x.of(1, 5), 2);
        due("events of the other", x.of(2, 5), 2);
        due("events of the child", x.of(3, 5), 2);
    }

    @Says("A place that is closed on its founding day existed on 0 days.")
    static void closedOnTheFoundingDay() {
        PlaceRegister x = with("f0>0@40:a;f0>0@40:b;f0>0@9999:c;f0>0@0:d");
        due("close", x.close(0, 40), 0);
        due("it exists", x.on(0, 40, 0), 0);
        due("its end", x.of(0, 1), 40);
        due("close a day later", x.close(1, 41), 1);
        due("close on the last day", x.close(2, 9999), 0);
        due("close on the first day", x.close(3, 0), 0);
    }

    @Says("Only days on which a child exists and has it as its parent count for reason 7.")
    static void daysThatCountForReason7() {
        PlaceRegister x = country();
        due("run", run(x, "f2>1@500:u;c4@500"), 2);
        refused(x, "close", x.close(1, 499), 7);
        due("close of the town", x.close(3, 40), 40);
        refused(x, "close on the town's last day", x.close(1, 39), 7);
        due("close behind it, before the child of no days", x.close(1, 40), 40);
        x = country();
        due("run", run(x, "m3>2@10;m3>1@20;m3>2@20"), 3);
        refused(x, "close on the last day", x.close(1, 9), 7);
        due("a child that came and went on one day does not count", x.close(1, 10), 10);
    }

    @Says("On the day on which it ends a place has ended.")
    static void endedOnTheDayOfItsEnd() {
        PlaceRegister x = with("f0>0@0:a;f0>0@0:b;f0>0@0:c;c0@10;g1>2@10");
        due("it exists", x.on(0, 10, 0) + x.on(1, 10, 0), 0);
        due("ended the day before", x.account(9, 6), 0);
        due("ended", x.account(10, 6), 2);
        due("all", x.account(10, 4), 1);
        due("the name", x.on(0, 10, 3), -5);
        due("the heirs", x.on(0, 10, 6) + x.on(1, 10, 6), -3);
        refused(x, "rename", feed(x, "n").rename(0, 10), 3);
        refused(x, "merge into it", x.merge(2, 0, 10), 5);
    }

    // ---- Errors ----

    @Says("A call that returns an error code leaves the state unchanged")
    static void errorsLeaveTheState() {
        for (int i = 0; i < 34; i++) {
            PlaceRegister x = with("f0>0@0:r;f1>0@0:a;f1>0@5:b;f2>1@10:t");
            due("filter", x.filter(0, 1), 0);
            due("lookup", feed(x, "a").lookup(5, 1), 3);
            due("write", x.write(3), 5);
            due("image", x.image(), 4);
            refused(x, "merge", x.merge(0, 0, 0), 8);
            String before = held(x);
            boolean refusal = i < 19;
            due("call " + i, errorOf(x, i) < 0, true);
            due("what is held behind call " + i, held(x), before);
            due("the reason behind call " + i, x.reason() == 8, !refusal);
            due("undo behind call " + i, x.undo(), 4);
            due("what is held behind undo", held(x).substring(6), before.substring(6));
        }
    }

    /** A call that returns an error code; the first 19 are refused for another reason than 8. */
    private static int errorOf(PlaceRegister x, int i) {
        switch (i) {
            case 0: return x.found(0, 0, 0);
            case 1: return feed(x, "n").found(1, 9, 0);
            case 2: return feed(x, "n").found(1, 0, 10000);
            case 3: return feed(x, "n").found(1, 1, 0);
            case 4: return feed(x, "n").found(2, 2, 4);
            case 5: return x.rename(0, 0);
            case 6: return feed(x, "n").rename(3, 9);
            case 7: return x.move(3, 4, 20);
            case 8: return x.move(3, 2, 9);
            case 9: return x.move(3, 3, 20);
            case 10: return x.split(3, 20);
            case 11: return feed(x, "n").split(4, 20);
            case 12: return x.merge(1, 3, 20);
            case 13: return x.merge(1, 2, 4);
            case 14: return x.close(1, 20);
            case 15: return x.close(3, 9);
            case 16: return x.lookup(5, 3);
            case 17: return run(x, "r3@20:n;m3>2@20;c3@20;c3@20");
            case 18: return feed(x, "a b").lookup(0, 0);
            case 19: return feed(x, "n").found(4, 0, 0);
            case 20: return x.filter(5, 0);
            case 21: return x.filter(0, 10000);
            case 22: return x.join(3, 0, 0);
            case 23: return x.join(0, 0, 1);
            case 24: return x.drop(1);
            case 25: return x.drop(-1);
            case 26: return run(x, "r3@20:n;m3>2@20;c");
            case 27: return feed(x, "r").lookup(10000, 0);
            case 28: return feed(x, "r").lookup(0, 4);
            case 29: return x.write(4);
            case 30: return x.write(-1);
            case 31: return x.feed(6, 'a', 'a', 'a', 'a', 'a');
            case 32: return x.fits(1, 0);
            default: return x.again(3, 10000);
        }
    }

    @Says("A call that returns an error code leaves the state unchanged")
    static void fullAndForbiddenCallsLeaveTheState() {
        PlaceRegister x = country();
        for (int f = 0; f < 8; f++) {
            due("filter", x.filter(0, f % 4), f);
        }
        String before = held(x);
        due("filter", x.filter(0, 0), FULL);
        due("join", x.join(0, 0, 1), FULL);
        due("undo", x.undo(), STATE);
        due("what is held", held(x), before);
        x = new PlaceRegister();
        due("back", x.back(), STATE);
        due("undo", x.undo(), STATE);
        due("found", feed(x, "a").found(0, 0, 0), 0);
        due("changes", x.count(3), 1);
        due("back", x.back(), 0);
    }

    @Says("except that found, rename, split, run and lookup empty the tape always")
    static void callsThatEmptyTheTape() {
        PlaceRegister x = country();
        empties(x, "found", feed(x, "n").found(0, 0, 0), 4);
        empties(x, "found of no kind", feed(x, "n").found(4, 0, 0), NONE);
        empties(x, "found, refused", feed(x, "n").found(2, 9, 0), STATE);
        empties(x, "found without a word", feed(x, "n!").found(0, 0, 0), STATE);
        empties(x, "rename", feed(x, "n").rename(3, 0), 1);
        empties(x, "rename, refused", feed(x, "n").rename(9, 0), STATE);
        empties(x, "rename without a word", feed(x, times(80, "n")).rename(3, 0), STATE);
        empties(x, "split", feed(x, "n").split(3, 0), 5);
        empties(x, "split, refused", feed(x, "n").split(9, 0), STATE);
        empties(x, "split without a word", feed(x, "n1").split(3, 0), STATE);
        empties(x, "run", feed(x, "c3@9").run(), 1);
        empties(x, "run of a wrong text", feed(x, "c3").run(), -102);
        empties(x, "run, refused", feed(x, "c3@9").run(), -200);
        empties(x, "lookup", feed(x, "a").lookup(0, 0), 1);
        empties(x, "lookup on no day", feed(x, "a").lookup(10000, 0), BAD);
        empties(x, "lookup of no distance", feed(x, "a").lookup(0, 4), BAD);
        empties(x, "lookup without a word", feed(x, "a!").lookup(0, 0), STATE);
    }

    private static void empties(PlaceRegister x, String call, int got, int want) {
        due(call, got, want);
        due("the tape behind " + call, x.count(2), 0);
    }

    @Says("except that found, rename, split, run and lookup empty the tape always")
    static void otherCallsKeepTheTape() {
        PlaceRegister x = country();
        feed(x, "abc");
        due("move", x.move(3, 2, 1), 1);
        due("merge", x.merge(1, 2, 1), 0);
        due("close", x.close(3, 2), 2);
        refused(x, "close", x.close(3, 2), 3);
        due("filter", x.filter(0, 0), 0);
        due("join", x.join(2, 0, 0), 1);
        due("drop", x.drop(0), 1);
        due("fits", x.fits(0, 0), 14);
        due("image", x.image(), 4);
        due("back", x.back(), 5);
        due("undo", x.undo(), 4);
        due("write", x.write(0), 2);
        due("feed", x.feed(6, 0, 0, 0, 0, 0), BAD);
        due("sought", x.sought(0), -5);
        due("on", x.on(0, 0, 3), 1);
        due("again", x.again(3, 0), 1);
        due("the tape", x.count(2), 3);
        due("its word", x.rename(0, 5), 1);
        due("its word", name(x, 0, 5), "abc");
    }

    @Says("and that a refusal has its reason kept.")
    static void refusalsKeepTheirReason() {
        PlaceRegister x = country();
        due("no reason", x.reason(), -5);
        refused(x, "found", x.found(0, 0, 0), 9);
        refused(x, "found", feed(x, "n").found(2, 9, 0), 1);
        refused(x, "found", feed(x, "n").found(2, 1, 10000), 2);
        refused(x, "found", feed(x, "n").found(2, 3, 0), 4);
        refused(x, "merge", x.merge(1, 1, 0), 8);
        refused(x, "close", x.close(1, 0), 7);
        due("a success keeps it", x.close(3, 0), 0);
        due("the reason", x.reason(), 7);
        refused(x, "close", x.close(3, 0), 3);
        due("an error that is no refusal keeps it", x.found(9, 0, 0), NONE);
        due("the reason", x.reason(), 3);
    }

    @Says("If several errors apply, the one that is listed first in the @return line is returned.")
    static void theFirstError() {
        PlaceRegister x = country();
        due("feed, BAD and FULL", feed(x, times(80, "a")).feed(1, 128, 0, 0, 0, 0), BAD);
        due("feed, BAD and FULL", x.feed(6, 0, 0, 0, 0, 0), BAD);
        due("found, NONE and STATE", x.found(4, 9, 10000), NONE);
        due("on, NONE and BAD", x.on(4, 10000, 0), NONE);
        due("on, NONE and BAD", x.on(0, -1, 7), NONE);
        due("again, NONE and BAD", x.again(4, 10000), NONE);
        due("lookup, BAD and STATE", x.lookup(10000, 0), BAD);
        due("lookup, BAD and STATE", x.lookup(0, 4), BAD);
        due("no reason", x.reason(), -5);
        due("filter, NONE and BAD", x.filter(5, 10000), NONE);
        due("fits, NONE and BAD", x.fits(0, 10000), NONE);
        due("account, NONE and BAD", x.account(10000, 9), NONE);
        for (int f = 0; f < 8; f++) {
            due("filter", x.filter(0, 0), f);
        }
        due("filter, NONE, BAD and FULL", x.filter(5, 10000), NONE);
        due("filter, BAD and FULL", x.filter(0, 10000), BAD);
        due("join, NONE and FULL", x.join(3, 0, 0), NONE);
        due("join, NONE and FULL", x.join(0, 8, 0), NONE);
        due("join, NONE and FULL", x.join(1, 0, 8), NONE);
        for (int i = 0; i < 24; i++) {
            due("rename", feed(x, "a").rename(3, 0), 1);
        }
        due("again, BAD and STATE", x.again(3, 10000), BAD);
        due("again, STATE", x.again(3, 0), STATE);
    }

    @Says("NONE means that a number or selector is invalid, BAD that a value is out of range, STATE that the call is refused for a "
        + "reason or that the state forbids it, and FULL that a limit is reached.")
    static void extremeNumbers() {
        PlaceRegister x = country();
        due("filter", x.filter(0, 1), 0);
        for (int no : new int[] {LOWEST, LOWEST + 1, -1, HIGHEST - 1, HIGHEST}) {
            due("on, place", x.on(no, 0, 0), NONE);
            due("on, day", x.on(0, no, 0), BAD);
            due("of, place", x.of(no, 0), NONE);
            due("of, what", x.of(0, no), NONE);
            due("event, place", x.event(no, 0, 0), NONE);
            due("event, i", x.event(0, no, 0), NONE);
            due("event, what", x.event(0, 0, no), NONE);
            due("again, place", x.again(no, 0), NONE);
            due("again, day", x.again(0, no), BAD);
            due("lookup, day", feed(x, "a").lookup(no, 0), BAD);
            due("lookup, distance", feed(x, "a").lookup(0, no), BAD);
            due("filter, sort", x.filter(no, 0), NONE);
            due("filter, v", x.filter(0, no), BAD);
            due("join, how", x.join(no, 0, 0), NONE);
            due("join, first", x.join(0, no, 0), NONE);
            due("join, second", x.join(1, 0, no), NONE);
            due("drop", x.drop(no), NONE);
            due("fits, filter", x.fits(no, 0), NONE);
            due("fits, day", x.fits(0, no), BAD);
            due("write", x.write(no), NONE);
            due("changed, day", x.changed(no, 0), BAD);
            due("changed, other", x.changed(0, no), BAD);
            due("longest, place", x.longest(no, 0), NONE);
            due("longest, what", x.longest(0, no), NONE);
            due("account, day", x.account(no, 0), BAD);
            due("account, what", x.account(0, no), NONE);
            due("count", x.count(no), NONE);
            due("feed, n", x.feed(no, 0, 0, 0, 0, 0), BAD);
            due("feed, a", x.feed(1, no, 0, 0, 0, 0), BAD);
            due("feed, e", x.feed(1, 0, 0, 0, 0, no), BAD);
            due("found, kind", feed(x, "a").found(no, 0, 0), NONE);
            due("on, what", x.on(0, 0, no), no < 0 ? NONE : -5);
            due("sought", x.sought(no), no < 0 ? NONE : -5);
            due("paper", x.paper(no), no < 0 ? NONE : -5);
        }
    }

    @Says("The result -5 is returned only if no error applies.")
    static void nothingBehindErrors() {
        PlaceRegister x = with("f0>0@5:r;f1>0@5:a");
        due("parent of a realm, no day", x.on(0, 10000, 2), BAD);
        due("parent of a realm", x.on(0, 5, 2), -5);
        due("letter behind the name, no day", x.on(0, -1, 17), BAD);
        due("letter behind the name", x.on(0, 5, 17), -5);
        due("no name yet, no such what", x.on(0, 0, 9), NONE);
        due("no name yet", x.on(0, 0, 3), -5);
        due("no such place, no parent", x.on(2, 0, 2), NONE);
        due("again of a realm, no day", x.again(0, 10000), BAD);
        due("again of a realm", x.again(0, 5), -5);
        due("sought, below 0", x.sought(-1), NONE);
        due("sought", x.sought(0), -5);
        due("paper, below 0", x.paper(-1), NONE);
        due("paper", x.paper(0), -5);
        for (int i = 0; i < 24; i++) {
            due("rename", feed(x, "a").rename(0, 5), 1);
        }
        due("again of a realm with 25 events", x.again(0, 5), STATE);
        due("again before it exists", x.again(0, 0), STATE);
    }

    @Says("For found, rename, split and lookup, the tape is one word.")
    static void theTapeIsOneWord() {
        PlaceRegister x = country();
        for (String tape : new String[] {"ab cd", "ab;cd", "f0>0@0:a", " ab", "ab ", "ab\0"}) {
            refused(x, "found", feed(x, tape).found(0, 0, 0), 9);
            refused(x, "rename", feed(x, tape).rename(3, 0), 9);
            refused(x, "split", feed(x, tape).split(3, 0), 9);
            refused(x, "lookup", feed(x, tape).lookup(0, 0), 9);
        }
        due("fed in parts", feed(feed(x, "abcdefg"), "h").rename(3, 0), 1);
        due("the word", name(x, 3, 0), "abcdefgh");
        feed(feed(x, "abcdefg"), "hi");
        refused(x, "nine letters fed in parts", x.rename(3, 0), 9);
    }

    // ---- Promise 1: a new object ----

    @Says(promise = 1, value = "Creates a register without places and filters.")
    static void newRegister() {
        PlaceRegister x = new PlaceRegister();
        for (int what = 0; what < 6; what++) {
            due("count(" + what + ")", x.count(what), 0);
        }
        for (int what = 0; what < 9; what++) {
            due("account(0, " + what + ")", x.account(0, what), 0);
            due("account(9999, " + what + ")", x.account(9999, what), 0);
        }
        due("place 0", x.on(0, 0, 0), NONE);
        due("filter 0", x.fits(0, 0), NONE);
        due("changed", x.changed(0, 9999), 0);
        due("write", x.write(0), NONE);
        refused(x, "close", x.close(0, 0), 1);
        due("join", x.join(2, 0, 0), NONE);
        due("drop", x.drop(0), NONE);
        due("lookup", feed(x, "a").lookup(0, 3), 0);
        due("the first place", feed(x, "a").found(0, 0, 0), 0);
        due("the first filter", x.filter(0, 0), 0);
        due("places of another object", new PlaceRegister().count(0), 0);
    }

    // ---- Promise 2: feed ----

    @Says(promise = 2, value = "the number of bytes, 1 to 5; a is the first one, b the second, and so on")
    static void oneToFiveBytes() {
        for (int n = 1; n < 6; n++) {
            PlaceRegister x = new PlaceRegister();
            due("feed of " + n, x.feed(n, 'a', 'b', 'c', 'd', 'e'), n);
            due("found", x.found(0, 0, 0), 0);
            due("name", name(x, 0, 0), "abcde".substring(0, n));
        }
        PlaceRegister x = new PlaceRegister();
        for (int n : new int[] {0, 6, -1, LOWEST, HIGHEST}) {
            due("feed of " + n, x.feed(n, 'a', 'b', 'c', 'd', 'e'), BAD);
        }
        due("the tape", x.count(2), 0);
    }

    @Says(promise = 2, value = "a byte, 0 to 127")
    static void bytesFrom0To127() {
        PlaceRegister x = new PlaceRegister();
        due("the least", x.feed(5, 0, 0, 0, 0, 0), 5);
        due("the greatest", x.feed(5, 127, 127, 127, 127, 127), 10);
        for (int wrong : new int[] {-1, 128, LOWEST, HIGHEST}) {
            due("a", x.feed(5, wrong, 0, 0, 0, 0), BAD);
            due("b", x.feed(5, 0, wrong, 0, 0, 0), BAD);
            due("c", x.feed(5, 0, 0, wrong, 0, 0), BAD);
            due("d", x.feed(5, 0, 0, 0, wrong, 0), BAD);
            due("e", x.feed(5, 0, 0, 0, 0, wrong), BAD);
        }
        due("the tape", x.count(2), 10);
    }

    @Says(promise = 2, value = "Returns the new length of the tape")
    static void lengthsOfTheTape() {
        PlaceRegister x = new PlaceRegister();
        int length = 0;
        for (int n : new int[] {1, 5, 2, 4, 3, 5, 5, 5, 5, 5, 5, 5, 5, 5, 5, 5, 5, 4, 1}) {
            length += n;
            due("feed of " + n, x.feed(n, 'a', 'a', 'a', 'a', 'a'), length);
            due("the tape", x.count(2), length);
        }
        due("the length", length, 80);
    }

    @Says(promise = 2, value = "BAD if n or any of the bytes is out of range, also of those that are not appended")
    static void bytesThatAreNotAppended() {
        PlaceRegister x = new PlaceRegister();
        for (int wrong : new int[] {-1, 128}) {
            due("b of 1", x.feed(1, 'a', wrong, 0, 0, 0), BAD);
            due("c of 2", x.feed(2, 'a', 'a', wrong, 0, 0), BAD);
            due("d of 3", x.feed(3, 'a', 'a', 'a', wrong, 0), BAD);
            due("e of 4", x.feed(4, 'a', 'a', 'a', 'a', wrong), BAD);
            due("e of 1", x.feed(1, 'a', 0, 0, 0, wrong), BAD);
        }
        due("the tape", x.count(2), 0);
    }

    @Says(promise = 2, value = "FULL if the tape would be longer than 80 bytes, and then none is appended.")
    static void eightyBytes() {
        PlaceRegister x = new PlaceRegister();
        for (int i = 1; i < 16; i++) {
            due("feed", x.feed(5, 'a', 'a', 'a', 'a', 'a'), 5 * i);
        }
        due("to 76", x.feed(1, 'a', 'a', 'a', 'a', 'a'), 76);
        due("to 81", x.feed(5, 'a', 'a', 'a', 'a', 'a'), FULL);
        due("the tape", x.count(2), 76);
        due("to 80", x.feed(4, 'a', 'a', 'a', 'a', 'a'), 80);
        for (int n = 1; n < 6; n++) {
            due("to " + (80 + n), x.feed(n, 'a', 'a', 'a', 'a', 'a'), FULL);
        }
        due("the tape", x.count(2), 80);
        due("run", x.run(), -100);
        due("feed behind it", x.feed(5, 'a', 'a', 'a', 'a', 'a'), 5);
    }

    // ---- Promise 3: found ----

    @Says(promise = 3, value = "the parent; any number for a realm")
    static void anyParentForARealm() {
        PlaceRegister x = new PlaceRegister();
        int[] parents = {0, -1, 20, LOWEST, HIGHEST, 1};
        for (int i = 0; i < parents.length; i++) {
            due("found", feed(x, "a").found(0, parents[i], 0), i);
            due("parent", x.on(i, 0, 2), -5);
        }
    }

    @Says(promise = 3, value = "Returns its number; NONE if there is no such kind")
    static void kindsToFound() {
        PlaceRegister x = new PlaceRegister();
        for (int kind = 0; kind < 4; kind++) {
            due("found", feed(x, "a").found(kind, kind - 1, 0), kind);
            due("kind", x.on(kind, 0, 1), kind);
        }
        for (int kind : new int[] {-1, 4, LOWEST, HIGHEST}) {
            due("found", feed(x, "a").found(kind, 0, 0), NONE);
            due("found without a word", x.found(kind, 9, 10000), NONE);
        }
        due("places", x.count(0), 4);
        due("reason", x.reason(), -5);
    }

    @Says(promise = 3, value = "STATE with the reason 9, 1, 2 (only above 9999 or below 0), 4, 5 or 6, in this order.")
    static void reasonsOfFound() {
        // Regions 1 from day 50 on, 2 from day 0 to 9; then many others.
        PlaceRegister x = with("f0>0@0:r;f1>0@50:a;f1>0@0:b;c2@10;f2>0@0:t");
        refused(x, "9 before 1", x.found(1, 20, 0), 9);
        refused(x, "9 before 2", x.found(0, 0, 10000), 9);
        refused(x, "1 before 2", feed(x, "n").found(1, 20, 10000), 1);
        refused(x, "1 before 2", feed(x, "n").found(1, 20, -1), 1);
        refused(x, "2 before 4", feed(x, "n").found(1, 1, 10000), 2);
        refused(x, "2 before 4", feed(x, "n").found(1, 1, -1), 2);
        refused(x, "2 before 5", feed(x, "n").found(2, 2, 10000), 2);
        refused(x, "4 before 5", feed(x, "n").found(1, 1, 49), 4);
        refused(x, "4 before 5", feed(x, "n").found(1, 2, 10), 4);
        for (int p = 4; p < 20; p++) {
            due("found", feed(x, "n").found(0, 0, 0), p);
        }
        refused(x, "9 before 6", x.found(0, 0, 0), 9);
        refused(x, "1 before 6", feed(x, "n").found(1, 20, 0), 1);
        refused(x, "2 before 6", feed(x, "n").found(0, 0, 10000), 2);
        refused(x, "4 before 6", feed(x, "n").found(1, 3, 0), 4);
        refused(x, "5 before 6", feed(x, "n").found(2, 1, 49), 5);
        refused(x, "6", feed(x, "n").found(2, 1, 50), 6);
    }

    @Says(promise = 3, value = "2 (only above 9999 or below 0)")
    static void daysToFound() {
        PlaceRegister x = with("f0>0@0:r;r0@700:s");
        due("found in a place with a later event", feed(x, "a").found(1, 0, 0), 1);
        due("found before others", feed(x, "a").found(0, 0, 0), 2);
        due("found on the last day", feed(x, "a").found(1, 0, 9999), 3);
        for (int day : new int[] {-1, LOWEST, 10000, HIGHEST}) {
            refused(x, "a realm on day " + day, feed(x, "a").found(0, 0, day), 2);
            refused(x, "a region on day " + day, feed(x, "a").found(1, 0, day), 2);
        }
    }

    // ---- Promise 4: rename ----

    @Says(promise = 4, value = "Returns the length of the name that it had on this day before")
    static void lengthsOfNamesBefore() {
        PlaceRegister x = with("f0>0@5:abc");
        due("on the founding day", feed(x, "d").rename(0, 5), 3);
        due("on the same day", feed(x, "abcdefgh").rename(0, 5), 1);
        due("later", feed(x, "ef").rename(0, 9999), 8);
        due("on the last day again", feed(x, "ef").rename(0, 9999), 2);
    }

    @Says(promise = 4, value = "STATE with the reason 9, 1, 3 or 2, in this order.")
    static void reasonsOfRename() {
        PlaceRegister x = with("f0>0@5:a;f0>0@5:b;c1@9");
        refused(x, "9 before 1", x.rename(2, 5), 9);
        refused(x, "9 before 3", x.rename(1, 9), 9);
        refused(x, "9 before 2", x.rename(0, 4), 9);
        refused(x, "1", feed(x, "n").rename(2, 10000), 1);
        refused(x, "3 before 2", feed(x, "n").rename(1, 4), 3);
        refused(x, "3 before 2", feed(x, "n").rename(1, 10000), 3);
        refused(x, "2", feed(x, "n").rename(0, 4), 2);
        refused(x, "2", feed(x, "n").rename(0, 10000), 2);
        due("the name", name(x, 0, 5), "a");
    }

    // ---- Promise 5: move ----

    @Says(promise = 5, value = "Moves a place to another parent, which may be the one that it has.")
    static void movesToTheSameParent() {
        PlaceRegister x = country();
        due("move", x.move(3, 1, 0), 1);
        due("move", x.move(3, 1, 9), 1);
        due("parent", x.on(3, 9, 2), 1);
        due("how often", x.of(3, 3), 3);
        due("history", history(x, 3), "F0:1 M0:1 M9:1");
        due("changes", x.count(3), 3);
    }

    @Says(promise = 5, value = "Returns the parent that it had on this day before")
    static void parentsBefore() {
        PlaceRegister x = country();
        due("merge", x.merge(1, 2, 30), 1);
        due("before the merge", x.move(3, 0, 10), 1);
        due("on the same day", x.move(3, 2, 10), 0);
        due("later", x.move(3, 0, 9999), 2);
        x = country();
        due("merge", x.merge(1, 2, 30), 1);
        due("what a merge told", x.move(3, 0, 30), 2);
    }

    @Says(promise = 5, value = "STATE with the reason 1 (of either), 3, 2, 4 (also for a realm) or 5, in this order.")
    static void reasonsOfMove() {
        // Region 1 from day 50 on, region 2 until day 9, town 3 from day 20 on, town 4 until day 4.
        PlaceRegister x = with("f0>0@0:r;f1>0@50:a;f1>0@0:b;f2>0@20:t;f2>0@0:u;c2@10;c4@5");
        refused(x, "1 before 3", x.move(4, 20, 5), 1);
        refused(x, "1 before 2", x.move(3, 20, 0), 1);
        refused(x, "1 before 4", x.move(0, -1, 0), 1);
        refused(x, "1 of the place", x.move(20, 0, 0), 1);
        refused(x, "3 before 2", x.move(4, 0, 10000), 3);
        refused(x, "3 before 4", x.move(4, 4, 5), 3);
        refused(x, "3 before 5", x.move(4, 2, 5), 3);
        refused(x, "2 before 4", x.move(3, 3, 19), 2);
        refused(x, "2 before 4", x.move(0, 0, 10000), 2);
        refused(x, "2 before 5", x.move(3, 1, 19), 2);
        refused(x, "4 before 5", x.move(3, 4, 20), 4);
        refused(x, "4 of a realm before 5", x.move(0, 1, 20), 4);
        refused(x, "4 of a realm", x.move(0, 0, 20), 4);
        refused(x, "5", x.move(3, 1, 49), 5);
        refused(x, "5", x.move(3, 2, 20), 5);
        due("move", x.move(3, 1, 50), 0);
    }

    // ---- Promise 6: split ----

    @Says(promise = 6, value = "Returns the number of the new place; STATE with the reason 9, 1, 3, 2, 5 or 6, in this order.")
    static void reasonsOfSplit() {
        // Town 3 in region 1, which is merged into region 2 on day 50; town 4 until day 9.
        PlaceRegister x = with("f0>0@0:r;f1>0@0:a;f1>0@0:b;f2>1@20:t;f2>2@0:u;c4@10;g1>2@50");
        refused(x, "9 before 1", x.split(20, 0), 9);
        refused(x, "9 before 3", x.split(4, 10), 9);
        refused(x, "9 before 2", x.split(3, 19), 9);
        refused(x, "9 before 5", x.split(3, 49), 9);
        refused(x, "1", feed(x, "n").split(20, 10000), 1);
        refused(x, "3 before 2", feed(x, "n").split(4, 0), 3);
        refused(x, "2 before 5", feed(x, "n").split(3, 19), 2);
        refused(x, "2", feed(x, "n").split(3, 10000), 2);
        refused(x, "5", feed(x, "n").split(3, 20), 5);
        for (int p = 5; p < 20; p++) {
            due("split", feed(x, "n").split(2, 0), p);
        }
        refused(x, "9 before 6", x.split(3, 50), 9);
        refused(x, "1 before 6", feed(x, "n").split(20, 50), 1);
        refused(x, "3 before 6", feed(x, "n").split(4, 50), 3);
        refused(x, "2 before 6", feed(x, "n").split(3, 19), 2);
        refused(x, "5 before 6", feed(x, "n").split(3, 49), 5);
        refused(x, "6", feed(x, "n").split(3, 50), 6);
    }

    @Says(promise = 6, value = "Splits a place; the new place has the name on the tape.")
    static void namesOfNewPlaces() {
        PlaceRegister x = with("f0>0@0:old");
        due("split", feed(x, "abcdefgh").split(0, 9999), 1);
        due("name", name(x, 1, 9999), "abcdefgh");
        due("name of the other", name(x, 0, 9999), "old");
        due("how often it got one", x.of(1, 2), 1);
        due("split with the same name", feed(x, "old").split(0, 9999), 2);
        due("name", name(x, 2, 9999), "old");
    }

    // ---- Promise 7: merge ----

    @Says(promise = 7, value = "Returns the number of places whose parents became others by it")
    static void childrenOfMerges() {
        PlaceRegister x = with("f0>0@0:r;f0>0@0:s;f1>0@0:a;f1>0@3:b;f2>0@7:t;f3>4@7:q;f1>1@0:c");
        due("without children", x.merge(6, 2, 9), 0);
        due("of three kinds, the quarter of the town not among them", x.merge(0, 1, 5), 3);
        due("parents", x.on(2, 5, 2) + x.on(3, 5, 2) + x.on(4, 7, 2), 3);
        due("parent of the quarter", x.on(5, 7, 2), 4);
        x = fullCountry();
        due("back", x.back(), 2);
        for (int p = 12; p < 20; p++) {
            due("split", feed(x, "n").split(3, 0), p);
        }
        due("nine children", x.merge(1, 2, 0), 9);
        due("children", x.on(2, 0, 5), 9);
    }

    @Says(promise = 7, value = "STATE with the reason 1 (of either), 8, 3, 2, 4 or 5, in this order.")
    static void reasonsOfMerge() {
        // Regions 1 from day 20 on, 2 from day 50 on, 3 until day 9; town 4.
        PlaceRegister x = with("f0>0@0:r;f1>0@20:a;f1>0@50:b;f1>0@0:c;f2>0@60:t;c3@10");
        refused(x, "1 before 8", x.merge(20, 20, 0), 1);
        refused(x, "1 before 8", x.merge(-1, -1, 0), 1);
        refused(x, "1 before 3", x.merge(3, 20, 0), 1);
        refused(x, "1 of the place", x.merge(20, 3, 10000), 1);
        refused(x, "8 before 3", x.merge(3, 3, 0), 8);
        refused(x, "8 before 2", x.merge(1, 1, 19), 8);
        refused(x, "8 before 2", x.merge(1, 1, 10000), 8);
        refused(x, "3 before 2", x.merge(3, 1, 0), 3);
        refused(x, "3 before 4", x.merge(3, 0, 10), 3);
        refused(x, "2 before 4", x.merge(1, 4, 19), 2);
        refused(x, "2 before 5", x.merge(1, 2, 19), 2);
        refused(x, "2", x.merge(1, 2, 10000), 2);
        refused(x, "4 before 5", x.merge(1, 4, 59), 4);
        refused(x, "5", x.merge(1, 2, 49), 5);
        refused(x, "5", x.merge(1, 3, 20), 5);
        due("merges", x.count(4), 0);
        due("merge", x.merge(1, 2, 50), 0);
    }

    // ---- Promise 8: close ----

    @Says(promise = 8, value = "Returns the number of days on which it existed")
    static void daysOfClosedPlaces() {
        PlaceRegister x = with("f0>0@0:a;f0>0@0:b;f0>0@9998:c;f0>0@100:d;f0>0@9999:e");
        due("to the last day", x.close(0, 9999), 9999);
        due("one day", x.close(1, 1), 1);
        due("one of the last days", x.close(2, 9999), 1);
        due("between", x.close(3, 250), 150);
        due("none", x.close(4, 9999), 0);
    }

    @Says(promise = 8, value = "STATE with the reason 1, 3, 2 or 7, in this order.")
    static void reasonsOfClose() {
        PlaceRegister x = with("f0>0@20:r;f1>0@20:a;f1>0@20:b;c2@30");
        refused(x, "1", x.close(3, 10000), 1);
        refused(x, "3 before 2", x.close(2, 29), 3);
        refused(x, "3 before 2", x.close(2, 10000), 3);
        refused(x, "2 before 7", x.close(0, 19), 2);
        refused(x, "2 before 7", x.close(0, 10000), 2);
        refused(x, "7", x.close(0, 20), 7);
        refused(x, "7", x.close(0, 9999), 7);
    }

    // ---- Promise 9: run ----

    @Says(promise = 9, value = "Returns the number of commands; -100 minus the error position if the text is wrong; -200 minus the number "
        + "of the command that is refused.")
    static void answersOfRun() {
        PlaceRegister x = new PlaceRegister();
        due("one", run(x, "f0>0@0:a"), 1);
        due("as many as a tape holds", run(x, "r0@1:b" + times(10, ";r0@1:b")), 11);
        due("position 0", x.run(), -100);
        due("position 80", run(x, "r0@1:b" + times(9, ";r0@1:b") + ";r0@1:bbbb;"), -180);
        due("command 0", run(x, "r0@0:b"), -200);
        due("command 10", run(x, "r0@1:b" + times(9, ";r0@1:b") + ";r0@0:b"), -210);
        due("a wrong text before a refused command", run(x, "r0@0:b;r0@0"), -111);
        due("names", x.of(0, 2), 12);
        due("changes", x.count(3), 2);
    }

    @Says(promise = 9, value = "Reads the commands on the tape and does them.")
    static void oneRunIsOneChange() {
        PlaceRegister x = country();
        String before = heldBeside(x);
        due("run", run(x, "r3@5:u;m3>2@6;s3@7:v;g1>2@8;c3@9;f0>0@1:s"), 6);
        due("changes", x.count(3), 2);
        due("back", x.back(), 1);
        due("what is held", heldBeside(x), before);
    }

    // ---- Promise 10: reason ----

    @Says(promise = 10, value = "Returns the reason, -5 if there was none.")
    static void noReason() {
        PlaceRegister x = new PlaceRegister();
        due("at first", x.reason(), -5);
        due("back", x.back(), STATE);
        due("undo", x.undo(), STATE);
        due("run", x.run(), -100);
        due("found", x.found(4, 0, 0), NONE);
        due("lookup", x.lookup(0, 4), BAD);
        due("behind errors that are no refusals", x.reason(), -5);
        refused(x, "lookup", x.lookup(0, 3), 9);
        due("back", x.back(), STATE);
        due("the latest one is kept", x.reason(), 9);
        due("reason", x.reason(), 9);
    }

    @Says(promise = 10, value = "Returns the reason of the latest refusal.")
    static void theLatestRefusal() {
        PlaceRegister x = country();
        refused(x, "merge", x.merge(1, 1, 0), 8);
        refused(x, "close", x.close(1, 0), 7);
        refused(x, "a command", run(x, "c3@9;c3@9") == -201 ? STATE : 0, 3);
        due("a wrong text", run(x, "c3@9;c"), -106);
        due("the latest one", x.reason(), 3);
        refused(x, "lookup", x.lookup(0, 0), 9);
        due("a success", x.close(3, 9), 9);
        due("back over it", x.back(), 1);
        due("the latest one", x.reason(), 9);
    }

    // ---- Promise 11: on ----

    @Says(promise = 11, value = "the day, 0 to 9999")
    static void daysToAsOn() {
        PlaceRegister x = with("f0>0@0:a");
        int[] answers = {1, 0, -5, 1, 0, 0, 0};
        for (int what = 0; what < 7; what++) {
            due("on day 0, " + what, x.on(0, 0, what), answers[what]);
            due("on day 9999, " + what, x.on(0, 9999, what), answers[what]);
            due("on day -1, " + what, x.on(0, -1, what), BAD);
            due("on day 10000, " + what, x.on(0, 10000, what), BAD);
        }
        due("letter on day 10000", x.on(0, 10000, 10), BAD);
    }

    @Says(promise = 11, value = "0: 1 if it exists, otherwise 0; 1 its kind; 2 its parent, -5 for a realm; 3 the length of its name")
    static void numbersOfAPlaceOnADay() {
        PlaceRegister x = with("f0>0@0:r;f1>0@5:abcdefgh;f2>1@6:t;f3>1@7:qq;c3@20");
        int[][] rows = {{0, 4, 1, 0, -5, 1}, {1, 4, 0, 1, -5, -5}, {1, 5, 1, 1, 0, 8}, {2, 6, 1, 2, 1, 1}, {3, 6, 0, 3, -5, -5},
            {3, 7, 1, 3, 1, 2}, {3, 19, 1, 3, 1, 2}, {3, 20, 0, 3, -5, -5}};
        for (int[] row : rows) {
            for (int what = 0; what < 4; what++) {
                due("on(" + row[0] + ", " + row[1] + ", " + what + ")", x.on(row[0], row[1], what), row[2 + what]);
            }
        }
    }

    @Says(promise = 11, value = "4 how many parents there are one above the other; 5 the number of places of which it is the parent")
    static void parentsAboveAndChildren() {
        PlaceRegister x = with("f0>0@0:r;f1>0@0:a;f2>1@0:t;f3>2@0:q;f3>0@0:p;f3>1@0:o;m3>1@5;m2>0@8;c4@9");
        int[][] above = {{0, 0, 0}, {1, 0, 1}, {2, 0, 2}, {3, 0, 3}, {4, 0, 1}, {5, 0, 2}, {3, 4, 3}, {3, 5, 2}, {2, 8, 1}};
        for (int[] row : above) {
            due("parents above " + row[0] + " on day " + row[1], x.on(row[0], row[1], 4), row[2]);
        }
        int[][] children = {{0, 0, 2}, {1, 0, 2}, {2, 0, 1}, {3, 0, 0}, {1, 5, 3}, {2, 5, 0}, {0, 8, 3}, {1, 8, 2}, {0, 9, 2}};
        for (int[] row : children) {
            due("children of " + row[0] + " on day " + row[1], x.on(row[0], row[1], 5), row[2]);
        }
    }

    @Says(promise = 11, value = "6 its heir, -5 without one")
    static void heirsOnDays() {
        PlaceRegister x = with("f0>0@5:a;f0>0@0:b;g0>1@9;c1@12");
        int[] days = {0, 5, 9, 11, 12};
        int[] heirs = {0, 0, 1, 1, -5};
        for (int i = 0; i < days.length; i++) {
            due("heir on day " + days[i], x.on(0, days[i], 6), heirs[i]);
        }
    }

    @Says(promise = 11, value = "10 + k letter k of its name, -5 without one.")
    static void lettersOfNames() {
        PlaceRegister x = with("f0>0@0:az;f0>0@0:abcdefgh;r0@5:mno");
        int[][] rows = {{0, 0, 0, 'a'}, {0, 0, 1, 'z'}, {0, 0, 2, -5}, {0, 0, 7, -5}, {0, 5, 0, 'm'}, {0, 5, 2, 'o'}, {0, 5, 3, -5},
            {1, 0, 0, 'a'}, {1, 0, 6, 'g'}, {1, 0, 7, 'h'}, {1, 0, 8, -5}};
        for (int[] row : rows) {
            due("letter " + row[2] + " of " + row[0] + " on day " + row[1], x.on(row[0], row[1], 10 + row[2]), row[3]);
        }
    }

    @Says(promise = 11, value = "2 to 5 and 10 on are -5 if it does not exist on this day")
    static void numbersOfDaysWithoutThePlace() {
        PlaceRegister x = with("f0>0@0:r;f1>0@10:abcdefgh;f2>1@10:t;c2@20;c1@20");
        for (int day : new int[] {0, 9, 20, 9999}) {
            for (int what : new int[] {2, 3, 4, 5, 10, 11, 17}) {
                due("on(1, " + day + ", " + what + ")", x.on(1, day, what), -5);
            }
            due("it exists", x.on(1, day, 0), 0);
            due("kind", x.on(1, day, 1), 1);
            due("heir", x.on(1, day, 6), day < 10 ? 1 : -5);
        }
        int[] whats = {2, 3, 4, 5, 10, 17};
        int[] answers = {0, 8, 1, 1, 'a', 'h'};
        for (int i = 0; i < whats.length; i++) {
            due("on its first day, " + whats[i], x.on(1, 10, whats[i]), answers[i]);
            due("on its last day, " + whats[i], x.on(1, 19, whats[i]), answers[i]);
        }
    }

    @Says(promise = 11, value = "Returns the number; NONE if there is no such place or what is invalid; BAD if the day is out of range.")
    static void wrongNumbersToAskOn() {
        PlaceRegister x = country();
        for (int p : new int[] {-1, 4, 19, 20}) {
            due("place " + p, x.on(p, 0, 0), NONE);
        }
        for (int what : new int[] {-1, 7, 8, 9}) {
            due("what " + what, x.on(3, 0, what), NONE);
        }
        for (int day : new int[] {-1, 10000}) {
            due("day " + day, x.on(3, day, 1), BAD);
            due("day " + day + ", no heir", x.on(3, day, 6), BAD);
        }
        due("place 3", x.on(3, 0, 0), 1);
    }

    // ---- Promise 12: of ----

    @Says(promise = 12, value = "0 the day on which it was founded; 1 the day on which it ended, -5 without one")
    static void foundingAndEnd() {
        PlaceRegister x = with("f0>0@0:a;f0>0@9999:b;f0>0@5:c;f0>0@6:d;c2@5;g3>0@9");
        int[][] rows = {{0, 0, -5}, {1, 9999, -5}, {2, 5, 5}, {3, 6, 9}};
        for (int[] row : rows) {
            due("founding of " + row[0], x.of(row[0], 0), row[1]);
            due("end of " + row[0], x.of(row[0], 1), row[2]);
        }
        x = with("f0>0@0:a;c0@0");
        due("end on day 0", x.of(0, 1), 0);
    }

    @Says(promise = 12, value = "2 how often it got a name, its founding included; 3 how often it got a parent by its founding and by moves, "
        + "0 for a realm")
    static void howOftenNamesAndParents() {
        PlaceRegister x = country();
        due("names of a new one", x.of(3, 2), 1);
        due("parents of a new one", x.of(3, 3), 1);
        due("run", run(x, "r3@1:t;r3@1:t;m3>1@2;m3>2@3;m3>1@4;s3@5:u;g1>2@6"), 7);
        due("names", x.of(3, 2), 3);
        due("parents, a merge not among them", x.of(3, 3), 4);
        due("names of the one split off", x.of(4, 2), 1);
        due("parents of the one split off", x.of(4, 3), 1);
        due("run", run(x, "r0@1:k"), 1);
        due("names of a realm", x.of(0, 2), 2);
        due("parents of a realm", x.of(0, 3), 0);
    }

    @Says(promise = 12, value = "4 the day of its latest event; 5 the number of events in its history, also of those that are not kept")
    static void latestEventAndNumberOfEvents() {
        PlaceRegister x = country();
        due("latest of a new one", x.of(3, 4), 0);
        due("events of a new one", x.of(3, 5), 1);
        String[] texts = {"r3@4:n", "m3>2@5", "s3@6:u", "f2>1@2:v;g5>3@9", "c3@7"};
        int[] days = {4, 5, 6, 6, 7};
        for (int i = 0; i < texts.length; i++) {
            due("run", run(x, texts[i]) > 0, true);
            due("latest behind " + texts[i], x.of(3, 4), days[i]);
            due("events behind " + texts[i], x.of(3, 5), 2 + i);
        }
        for (int i = 1; i < 40; i++) {
            due("rename", feed(x, "b").rename(1, i), 1);
            due("events", x.of(1, 5), 1 + i);
            due("latest", x.of(1, 4), i);
        }
    }

    @Says(promise = 12, value = "Returns the number; NONE if there is no such place or what is invalid.")
    static void wrongNumbersToAskOf() {
        PlaceRegister x = country();
        for (int what = 0; what < 6; what++) {
            due("place -1", x.of(-1, what), NONE);
            due("place 4", x.of(4, what), NONE);
            due("place 20", x.of(20, what), NONE);
        }
        due("what -1", x.of(3, -1), NONE);
        due("what 6", x.of(3, 6), NONE);
    }

    // ---- Promise 13: event ----

    @Says(promise = 13, value = {"the event, from 0", "0 its day, 1 its sort, 2 its number"})
    static void eventsFrom0() {
        PlaceRegister x = with("f0>0@3:a;r0@5:bc;c0@9");
        eventsAre(x, new int[][] {{0, 0, 3, 0, -5}, {0, 1, 5, 1, 2}, {0, 2, 9, 4, -5}});
        due("event -1", x.event(0, -1, 0), NONE);
    }

    @Says(promise = 13, value = "Returns the part; NONE if there is no such place, no such event is kept or what is invalid.")
    static void wrongNumbersToAskForEvents() {
        PlaceRegister x = with("f0>0@3:a");
        for (int what = 0; what < 3; what++) {
            due("place 1", x.event(1, 0, what), NONE);
            due("place -1", x.event(-1, 0, what), NONE);
            due("event 1", x.event(0, 1, what), NONE);
            due("event 24", x.event(0, 24, what), NONE);
        }
        due("what 3", x.event(0, 0, 3), NONE);
        due("what -1", x.event(0, 0, -1), NONE);
        for (int i = 1; i < 26; i++) {
            due("rename", feed(x, "a").rename(0, 9), 1);
            due("event " + i, x.event(0, i, 1), i < 24 ? 1 : NONE);
        }
    }

    // ---- Promise 14: again ----

    @Says(promise = 14, value = "Returns the parent of a place on a day by a second way: by its history alone, event by event.")
    static void theSecondWay() {
        PlaceRegister x = country();
        due("run", run(x, "f1>0@0:c;f1>0@0:d;m3>2@10;m3>1@20;g2>4@5;g1>5@3;m3>4@25"), 7);
        due("merge", x.merge(5, 4, 22), 1);
        due("merge of what it had before", x.on(3, 21, 2), 5);
        int[] days = {0, 2, 3, 4, 9, 10, 19, 20, 21, 22, 24, 25, 9999};
        for (int day : days) {
            due("again on day " + day, x.again(3, day), x.on(3, day, 2));
        }
        int[] parents = {1, 1, 5, 5, 5, 4, 4, 5, 5, 4, 4, 4, 4};
        for (int i = 0; i < days.length; i++) {
            due("again on day " + days[i], x.again(3, days[i]), parents[i]);
        }
    }

    @Says(promise = 14, value = "Returns the parent, -5 without one or if it does not exist on this day")
    static void againWithoutAParent() {
        PlaceRegister x = with("f0>0@5:r;f1>0@6:a;c1@9;f1>0@6:b;f1>0@6:c;g3>2@8");
        int[][] rows = {{0, 4, -5}, {0, 5, -5}, {1, 5, -5}, {1, 6, 0}, {1, 8, 0}, {1, 9, -5}, {3, 7, 0}, {3, 8, -5}, {2, 0, -5},
            {2, 9999, 0}};
        for (int[] row : rows) {
            due("again(" + row[0] + ", " + row[1] + ")", x.again(row[0], row[1]), row[2]);
        }
        // A parent that was merged when its child had ended, on a day before that end.
        x = country();
        due("close", x.close(3, 50), 50);
        due("merge", x.merge(1, 2, 30), 1);
        due("before", x.again(3, 29), 1);
        due("then", x.again(3, 49), 2);
        due("behind its end", x.again(3, 50), -5);
    }

    @Says(promise = 14, value = "NONE if there is no such place; BAD if the day is out of range; STATE if not all of its events are kept.")
    static void errorsOfAgain() {
        PlaceRegister x = country();
        due("place -1", x.again(-1, 0), NONE);
        due("place 4", x.again(4, 0), NONE);
        due("day -1", x.again(3, -1), BAD);
        due("day 10000", x.again(3, 10000), BAD);
        for (int i = 2; i < 25; i++) {
            due("rename", feed(x, "t").rename(3, 0), 1);
            due("with " + i + " events", x.again(3, 0), 1);
        }
        due("the 25th", feed(x, "t").rename(3, 0), 1);
        due("with 25 events", x.again(3, 0), STATE);
        due("day -1", x.again(3, -1), BAD);
        due("another place", x.again(1, 0), 0);
        due("reason", x.reason(), -5);
    }

    // ---- Promise 15: lookup ----

    @Says(promise = 15, value = "of those that exist on a day and whose names are at most so far from the word on the tape, by ascending "
        + "distances, of like ones in ascending order.")
    static void orderOfFoundPlaces() {
        // Their distances from abc: 3, 1, 0, 2, 1, 0, 4; the last but one from day 10 to 19 alone.
        PlaceRegister x = with("f0>0@0:xyz;f0>0@0:abd;f0>0@0:abc;f0>0@0:axy;f0>0@0:ab;f0>0@10:abc;c5@20");
        due("found", feed(x, "wxyz").found(0, 0, 0), 6);
        foundAre(x, 10, 0, 2, 5);
        foundAre(x, 10, 1, 2, 5, 1, 4);
        foundAre(x, 10, 2, 2, 5, 1, 4, 3);
        foundAre(x, 10, 3, 2, 5, 1, 4, 3, 0);
        foundAre(x, 9, 1, 2, 1, 4);
        foundAre(x, 19, 0, 2, 5);
        foundAre(x, 20, 0, 2);
        due("rename", feed(x, "abc").rename(6, 30), 4);
        foundAre(x, 29, 0, 2);
        foundAre(x, 30, 0, 2, 6);
    }

    private static void foundAre(PlaceRegister x, int day, int distance, int... places) {
        due("lookup(" + day + ", " + distance + ")", feed(x, "abc").lookup(day, distance), places.length);
        for (int i = 0; i < places.length; i++) {
            due("sought(" + i + ")", x.sought(i), places[i]);
        }
        due("sought(" + places.length + ")", x.sought(places.length), -5);
    }

    @Says(promise = 15, value = "the greatest distance, 0 to 3")
    static void greatestDistances() {
        PlaceRegister x = with("f0>0@0:abc;f0>0@0:abd;f0>0@0:axy;f0>0@0:xyz;f0>0@0:wxyz");
        for (int distance = 0; distance < 4; distance++) {
            due("distance " + distance, feed(x, "abc").lookup(0, distance), distance + 1);
        }
        due("distance -1", feed(x, "abc").lookup(0, -1), BAD);
        due("distance 4", feed(x, "abc").lookup(0, 4), BAD);
    }

    @Says(promise = 15, value = "Returns how many there are; BAD if the day or the distance is out of range; STATE with the reason 9.")
    static void answersOfLookup() {
        PlaceRegister x = fullCountry();
        due("back", x.back(), 2);
        for (int p = 12; p < 20; p++) {
            due("found", feed(x, "k").found(0, 0, 0), p);
        }
        due("all twenty", feed(x, "a").lookup(0, 1), 20);
        due("the first", x.sought(0), 1);
        due("the last", x.sought(19), 19);
        due("behind it", x.sought(20), -5);
        due("none", feed(x, "abcdefgh").lookup(0, 3), 0);
        due("none is found", x.sought(0), -5);
        for (int day : new int[] {-1, 10000}) {
            due("day " + day, feed(x, "a").lookup(day, 0), BAD);
        }
        due("day 0", feed(x, "a").lookup(0, 0), 1);
        due("day 9999", feed(x, "a").lookup(9999, 0), 1);
        for (String word : new String[] {"", "abcdefghi", "A", "a b"}) {
            refused(x, "lookup of " + word, feed(x, word).lookup(0, 0), 9);
        }
    }

    @Says(promise = 15, value = "The found places are kept for sought.")
    static void foundPlacesAreKept() {
        PlaceRegister x = country();
        due("lookup", feed(x, "a").lookup(0, 0), 1);
        due("close", x.close(3, 0), 0);
        due("merge", x.merge(1, 2, 0), 0);
        due("lookup on no day", feed(x, "b").lookup(-1, 0), BAD);
        due("lookup of no distance", feed(x, "b").lookup(0, 4), BAD);
        refused(x, "lookup without a word", x.lookup(0, 0), 9);
        due("sought", x.sought(0), 1);
        due("sought", x.sought(1), -5);
        due("lookup", feed(x, "b").lookup(0, 0), 1);
        due("sought", x.sought(0), 2);
        due("lookup", feed(x, "a").lookup(0, 0), 0);
        due("sought", x.sought(0), -5);
    }

    // ---- Promise 16: sought ----

    @Says(promise = 16, value = "its number among them, from 0")
    static void soughtFrom0() {
        PlaceRegister x = country();
        due("lookup", feed(x, "b").lookup(0, 0), 1);
        due("sought(0)", x.sought(0), 2);
        due("sought(1)", x.sought(1), -5);
    }

    @Says(promise = 16, value = "Returns the place, -5 if there are not so many or there was no lookup; NONE if i is below 0.")
    static void soughtPlaces() {
        PlaceRegister x = country();
        due("no lookup", x.sought(0), -5);
        due("no lookup, far on", x.sought(19), -5);
        due("no lookup, below 0", x.sought(-1), NONE);
        due("lookup", feed(x, "a").lookup(0, 1), 4);
        int[] places = {1, 0, 2, 3};
        for (int i = 0; i < 4; i++) {
            due("sought(" + i + ")", x.sought(i), places[i]);
        }
        for (int i : new int[] {4, 19, 20, HIGHEST}) {
            due("sought(" + i + ")", x.sought(i), -5);
        }
        due("below 0", x.sought(-1), NONE);
        due("below 0", x.sought(LOWEST), NONE);
    }

    // ---- Promise 17: filter ----

    @Says(promise = 17, value = "the sort, 0 to 4")
    static void sortsOfFilters() {
        PlaceRegister x = new PlaceRegister();
        for (int sort = 0; sort < 5; sort++) {
            due("sort " + sort, x.filter(sort, 0), sort);
        }
        for (int sort : new int[] {-1, 5, 6, 7, 8, LOWEST, HIGHEST}) {
            due("sort " + sort, x.filter(sort, 0), NONE);
        }
        due("filters", x.count(1), 5);
    }

    @Says(promise = 17, value = "Returns its number; NONE if there is no such sort; BAD if v is out of range; FULL if there are 8 filters.")
    static void answersOfFilter() {
        PlaceRegister x = new PlaceRegister();
        for (int f = 0; f < 8; f++) {
            due("filter " + f, x.filter(f % 5, 9999), f);
        }
        due("a ninth", x.filter(0, 0), FULL);
        due("a ninth with a wrong v", x.filter(0, 10000), BAD);
        due("a ninth with a wrong v", x.filter(0, -1), BAD);
        due("a ninth of no sort", x.filter(5, 10000), NONE);
        due("filters", x.count(1), 8);
        due("changes", x.count(3), 6);
        due("drop", x.drop(7), 7);
        due("an eighth", x.filter(0, 0), 7);
    }

    // ---- Promise 18: join ----

    @Says(promise = 18, value = "0 both fit; 1 one of them fits; 2 the first one does not fit")
    static void howFiltersAreJoined() {
        // The places 0 to 3 are fitted by none, the first, the second, and both.
        PlaceRegister x = with("f0>0@0:a;f1>0@0:b;f0>0@0:cc;f1>0@0:dd");
        due("the first", x.filter(0, 1), 0);
        due("the second", x.filter(2, 2), 1);
        int[] sets = {8, 2 + 4 + 8, 1 + 4};
        for (int how = 0; how < 3; how++) {
            due("join", x.join(how, 0, 1), 2 + how);
            due("how " + how, x.fits(2 + how, 0), sets[how]);
        }
        due("the other way round", x.fits(x.join(2, 1, 0), 0), 1 + 2);
    }

    @Says(promise = 18, value = "a filter; any number if how is 2")
    static void anySecondOfANot() {
        PlaceRegister x = country();
        due("filter", x.filter(0, 0), 0);
        int[] seconds = {-1, 1, 8, LOWEST, HIGHEST, 0};
        for (int i = 0; i < seconds.length; i++) {
            due("not", x.join(2, 0, seconds[i]), 1 + i);
            due("what fits", x.fits(1 + i, 0), 14);
        }
        due("both of no second", x.join(0, 0, -1), NONE);
        due("one of no second", x.join(1, 0, 7), NONE);
        due("not of no first", x.join(2, 7, 0), NONE);
        due("not of no first", x.join(2, -1, 0), NONE);
    }

    @Says(promise = 18, value = "Returns its number; NONE if there is no such how or filter; FULL if there are 8 filters.")
    static void answersOfJoin() {
        PlaceRegister x = country();
        due("without filters", x.join(0, 0, 0), NONE);
        due("filter", x.filter(0, 0), 0);
        for (int how : new int[] {-1, 3, 4, LOWEST, HIGHEST}) {
            due("how " + how, x.join(how, 0, 0), NONE);
        }
        due("of a second that would be itself", x.join(0, 0, 1), NONE);
        due("of a first that would be itself", x.join(2, 1, 0), NONE);
        for (int f = 1; f < 8; f++) {
            due("join", x.join(f % 3, f - 1, 0), f);
        }
        due("a ninth", x.join(0, 0, 0), FULL);
        due("a ninth, not", x.join(2, 7, 99), FULL);
        due("a ninth of a filter that is none", x.join(0, 0, 8), NONE);
        due("a ninth of no how", x.join(3, 0, 0), NONE);
        due("filters", x.count(1), 8);
        due("back", x.back(), 5);
        due("an eighth", x.join(2, 6, 0), 7);
    }

    // ---- Promise 19: drop ----

    @Says(promise = 19, value = "Removes a filter; the numbers of the later ones decrease by 1.")
    static void laterFiltersMoveUp() {
        for (int gone = 0; gone < 4; gone++) {
            PlaceRegister x = with("f0>0@0:r;f1>0@0:a;f2>1@0:t;f3>2@0:q");
            for (int kind = 0; kind < 4; kind++) {
                due("filter", x.filter(0, kind), kind);
            }
            due("drop", x.drop(gone), 3);
            for (int f = 0; f < 3; f++) {
                due("filter " + f + " without " + gone, x.fits(f, 0), 1 << (f < gone ? f : f + 1));
            }
            due("the last one is gone", x.fits(3, 0), NONE);
        }
    }

    @Says(promise = 19, value = "Returns how many remain; NONE if there is no such filter.")
    static void answersOfDrop() {
        PlaceRegister x = new PlaceRegister();
        due("without filters", x.drop(0), NONE);
        for (int f = 0; f < 8; f++) {
            due("filter", x.filter(0, 0), f);
        }
        due("filter 8", x.drop(8), NONE);
        due("filter -1", x.drop(-1), NONE);
        for (int left = 7; left >= 0; left--) {
            due("drop of the last", x.drop(left), left);
            due("drop of it again", x.drop(left), NONE);
        }
    }

    // ---- Promise 20: fits ----

    @Says(promise = 20, value = "Returns the set, bit p for place p; NONE if there is no such filter; BAD if the day is out of range.")
    static void answersOfFits() {
        PlaceRegister x = fullCountry();
        due("filter", x.filter(0, 0), 0);
        due("filter", x.filter(2, 0), 1);
        due("bits 0 and 4 to 19", x.fits(0, 0), (1 << 20) - 1 - 14);
        due("bits 0 to 19", x.fits(1, 9999), (1 << 20) - 1);
        due("all but none", x.fits(x.join(2, 0, 0), 0), 14);
        for (int f : new int[] {-1, 3, 7, 8}) {
            due("filter " + f, x.fits(f, 0), NONE);
        }
        due("day -1", x.fits(0, -1), BAD);
        due("day 10000", x.fits(0, 10000), BAD);
        due("no filter and no day", x.fits(3, 10000), NONE);
    }

    // ---- Promise 21: write ----

    @Says(promise = 21, value = "in place of what was there")
    static void thePaperIsWrittenAnew() {
        PlaceRegister x = with("f0>0@1000:a;f0>0@0:b;r0@9999:b");
        due("write", x.write(0), 13);
        due("its end", x.paper(12), '1');
        due("write of a shorter one", x.write(1), 2);
        due("its end", x.paper(1), '0');
        due("behind it", x.paper(2), -5);
        due("what was there", x.paper(12), -5);
    }

    @Says(promise = 21, value = "the events that are kept, one after the other with a space between them")
    static void keptEventsAreWritten() {
        PlaceRegister x = with("f0>0@0:a");
        StringBuilder text = new StringBuilder("F0");
        for (int i = 1; i < 30; i++) {
            due("rename", feed(x, "ab").rename(0, 5), i == 1 ? 1 : 2);
            text.append(i < 24 ? " N5:2" : "");
            due("bytes with " + i, x.write(0), text.length());
        }
        due("the last event that is kept", x.paper(text.length() - 4), 'N');
        due("no space behind it", x.paper(text.length()), -5);
        due("history", history(x, 0), text.toString());
    }

    @Says(promise = 21, value = "each as a letter for its sort (0 to 8: F, N, M, G, C, O, T, S, P), its day in decimal, and, unless its number "
        + "is -5, \":\" and its number in decimal.")
    static void lettersAndNumbers() {
        PlaceRegister x = with("f0>0@0:r;f1>0@7:a;f1>0@7:b;f2>1@10:t;r3@99:abcdefgh;m3>2@100");
        due("run", run(x, "s3@999:u;g2>1@1000;g3>4@9999;f0>0@1:z;c5@10"), 5);
        String[] histories = {"F0", "F7:0 T1000:2", "F7:0 G1000:1", "F10:1 N99:8 M100:2 S999:4 P1000:1 G9999:4",
            "F999:2 O999:3 P1000:1 T9999:3", "F1 C10"};
        for (int p = 0; p < 6; p++) {
            due("history of " + p, history(x, p), histories[p]);
        }
        x = fullCountry();
        due("merge into a place of two digits", x.merge(4, 19, 12), 0);
        due("history", history(x, 4), "F0 G12:19");
        due("history", history(x, 19), "F0 T12:4");
    }

    @Says(promise = 21, value = "Returns the number of bytes; NONE if there is no such place.")
    static void answersOfWrite() {
        PlaceRegister x = country();
        due("place -1", x.write(-1), NONE);
        due("place 4", x.write(4), NONE);
        due("place 0", x.write(0), 2);
        due("place 3", x.write(3), 4);
        due("place 4", x.write(4), NONE);
        due("the paper stays", x.paper(3), '1');
    }

    // ---- Promise 22: paper ----

    @Says(promise = 22, value = "Returns a byte of the paper, which is empty at first; it is not part of changes and snapshots.")
    static void thePaperStays() {
        PlaceRegister x = country();
        due("empty at first", x.paper(0), -5);
        due("image", x.image(), 4);
        due("rename", feed(x, "abc").rename(3, 12), 1);
        due("write", x.write(3), 10);
        due("back", x.back(), 1);
        due("the paper behind back", x.paper(5), 'N');
        due("back", x.back(), 0);
        due("the paper behind back over its place", x.paper(9), '3');
        due("undo", x.undo(), 4);
        due("the paper behind undo", x.paper(9), '3');
        due("its end", x.paper(10), -5);
    }

    @Says(promise = 22, value = "the index, from 0")
    static void paperFrom0() {
        PlaceRegister x = with("f0>0@7:a;c0@9");
        due("write", x.write(0), 5);
        int[] bytes = {'F', '7', ' ', 'C', '9'};
        for (int i = 0; i < bytes.length; i++) {
            due("paper(" + i + ")", x.paper(i), bytes[i]);
        }
        due("paper(-1)", x.paper(-1), NONE);
    }

    @Says(promise = 22, value = "Returns the byte, -5 if there are not so many; NONE if i is below 0.")
    static void answersOfPaper() {
        PlaceRegister x = with("f0>0@90:a");
        due("write", x.write(0), 3);
        int[] bytes = {'F', '9', '0', -5, -5};
        for (int i = 0; i < bytes.length; i++) {
            due("paper(" + i + ")", x.paper(i), bytes[i]);
        }
        due("far on", x.paper(HIGHEST), -5);
        due("below 0", x.paper(-1), NONE);
        due("below 0", x.paper(LOWEST), NONE);
    }

    // ---- Promise 23: changed ----

    @Says(promise = 23, value = "Returns the places that exist on both of two days and have another parent or another name on the one than on "
        + "the other.")
    static void changedPlaces() {
        PlaceRegister x = with("f0>0@0:r;f1>0@0:a;f1>0@0:b;f2>1@5:t;f2>1@0:abcdefgh");
        due("run", run(x, "r3@10:u;m4>2@20;r4@30:abcdefgz;m4>1@40;r4@50:abcdefgh;c3@60"), 6);
        int[][] rows = {{9, 10, 8}, {4, 10, 0}, {5, 9, 0}, {19, 20, 16}, {29, 30, 16}, {19, 50, 0}, {19, 49, 16}, {5, 59, 8},
            {5, 60, 0}, {9, 29, 8 + 16}, {0, 9999, 0}, {0, 49, 16}, {60, 9999, 0}};
        for (int[] row : rows) {
            due("changed(" + row[0] + ", " + row[1] + ")", x.changed(row[0], row[1]), row[2]);
            due("changed(" + row[1] + ", " + row[0] + ")", x.changed(row[1], row[0]), row[2]);
        }
        due("merge", x.merge(2, 1, 35), 1);
        due("by a merge", x.changed(34, 35), 16);
        due("there already", x.changed(39, 40), 0);
    }

    @Says(promise = 23, value = "another day, possibly the same")
    static void changedOnTheSameDay() {
        PlaceRegister x = with("f0>0@0:r;f1>0@0:a;r1@5:b;r1@5:c;r0@5:s");
        for (int day : new int[] {0, 4, 5, 6, 9999}) {
            due("day " + day, x.changed(day, day), 0);
        }
        due("a day before", x.changed(4, 5), 3);
    }

    @Says(promise = 23, value = "Returns the set, bit p for place p; BAD if a day is out of range.")
    static void answersOfChanged() {
        PlaceRegister x = fullCountry();
        for (int p = 0; p < 20; p++) {
            due("rename", feed(x, "new").rename(p, 9999), 1);
        }
        due("bits 0 to 19", x.changed(9998, 9999), (1 << 20) - 1);
        due("bits 0 to 19", x.changed(9999, 0), (1 << 20) - 1);
        for (int day : new int[] {-1, 10000}) {
            due("day " + day, x.changed(day, 0), BAD);
            due("other day " + day, x.changed(0, day), BAD);
            due("both", x.changed(day, day), BAD);
        }
    }

    // ---- Promise 24: longest ----

    @Says(promise = 24, value = "of like ones the earliest: each one holds from the day on which it was given until the next one is given, until "
        + "the place ends, or until day 9999, that day included.")
    static void longestNames() {
        PlaceRegister x = with("f0>0@0:a;r0@10:bb;r0@20:ccc;c0@30");
        longestIs(x, 0, 0, 10, 1);
        x = with("f0>0@0:a;r0@10:bb;r0@21:ccc;c0@31");
        longestIs(x, 0, 10, 11, 2);
        x = with("f0>0@0:a;r0@10:bb;r0@20:ccc;c0@31");
        longestIs(x, 0, 20, 11, 3);
        x = with("f0>0@0:a;r0@5000:bb");
        longestIs(x, 0, 0, 5000, 1);
        x = with("f0>0@0:a;r0@4999:bb");
        longestIs(x, 0, 4999, 5001, 2);
        x = with("f0>0@9998:a;r0@9999:bb");
        longestIs(x, 0, 9998, 1, 1);
        x = with("f0>0@9999:ab");
        longestIs(x, 0, 9999, 1, 2);
        x = with("f0>0@0:ab");
        longestIs(x, 0, 0, 10000, 2);
        x = with("f0>0@0:a;f0>0@0:b;r0@10:bb;g0>1@20");
        longestIs(x, 0, 0, 10, 1);
        x = with("f0>0@0:a;c0@0");
        longestIs(x, 0, 0, 0, 1);
    }

    private static void longestIs(PlaceRegister x, int place, int day, int days, int length) {
        due("its day", x.longest(place, 0), day);
        due("its days", x.longest(place, 1), days);
        due("its length", x.longest(place, 2), length);
    }

    @Says(promise = 24, value = "Returns the number; NONE if there is no such place or what is invalid.")
    static void wrongNumbersToAskForLongest() {
        PlaceRegister x = country();
        for (int what = 0; what < 3; what++) {
            due("place -1", x.longest(-1, what), NONE);
            due("place 4", x.longest(4, what), NONE);
        }
        due("what -1", x.longest(3, -1), NONE);
        due("what 3", x.longest(3, 3), NONE);
        due("what 2", x.longest(3, 2), 1);
    }

    // ---- Promise 25: account ----

    @Says(promise = 25, value = "0 to 3 the places of kind what that exist on this day; 4 all that exist; 5 those that are not founded yet; 6 "
        + "those that have ended")
    static void accountsOfPlaces() {
        PlaceRegister x = with("f0>0@5:a;f0>0@3:b;f0>0@0:c");
        int[] later = {2, 2, 2, 1, 1, 0, 0};
        for (int day = 0; day < later.length; day++) {
            due("account(" + day + ", 5)", x.account(day, 5), later[day]);
            due("account(" + day + ", 0)", x.account(day, 0), 3 - later[day]);
        }
        x = with("f0>0@0:r;f1>0@5:a;f1>0@5:b;f2>1@6:t;f3>1@9999:q;f0>0@7:s;c5@7;c2@10");
        int[][] rows = {{0, 1, 0, 0, 0, 1, 5, 0}, {4, 1, 0, 0, 0, 1, 5, 0}, {5, 1, 2, 0, 0, 3, 3, 0}, {6, 1, 2, 1, 0, 4, 2, 0},
            {7, 1, 2, 1, 0, 4, 1, 1}, {9, 1, 2, 1, 0, 4, 1, 1}, {10, 1, 1, 1, 0, 3, 1, 2}, {9998, 1, 1, 1, 0, 3, 1, 2},
            {9999, 1, 1, 1, 1, 4, 0, 2}};
        for (int[] row : rows) {
            for (int what = 0; what < 7; what++) {
                due("account(" + row[0] + ", " + what + ")", x.account(row[0], what), row[1 + what]);
            }
        }
    }

    @Says(promise = 25, value = "7 the different names of those that exist; 8 the greatest number of children that a place has")
    static void accountsOfNamesAndChildren() {
        PlaceRegister x = with("f0>0@0:a;f1>0@1:a;f1>0@1:ab;f2>2@2:b;f2>2@2:ab;f2>0@3:a");
        due("run", run(x, "r5@4:abcdefgh;r3@5:abcdefgz;m4>0@6;c5@8;c1@8;r4@9:a"), 6);
        int[][] rows = {{0, 1, 0}, {1, 2, 2}, {2, 3, 2}, {3, 3, 3}, {4, 4, 3}, {5, 4, 3}, {6, 4, 4}, {8, 3, 2}, {9, 3, 2}};
        for (int[] row : rows) {
            due("names on day " + row[0], x.account(row[0], 7), row[1]);
            due("children on day " + row[0], x.account(row[0], 8), row[2]);
        }
    }

    @Says(promise = 25, value = "Returns the account; NONE if what is invalid; BAD if the day is out of range.")
    static void errorsOfAccount() {
        PlaceRegister x = country();
        due("what -1", x.account(0, -1), NONE);
        due("what 9", x.account(0, 9), NONE);
        due("what 9 on no day", x.account(-1, 9), NONE);
        for (int what = 0; what < 9; what++) {
            due("day -1", x.account(-1, what), BAD);
            due("day 10000", x.account(10000, what), BAD);
        }
        due("day 0", x.account(0, 4), 4);
        due("day 9999", x.account(9999, 4), 4);
    }

    // ---- Promise 26: back ----

    @Says(promise = 26, value = "Undoes the latest change that was not undone.")
    static void theLatestThatWasNotUndone() {
        PlaceRegister x = country();
        due("rename", feed(x, "one").rename(3, 1), 1);
        due("rename", feed(x, "twoo").rename(3, 2), 3);
        due("back", x.back(), 2);
        due("name", name(x, 3, 2), "one");
        due("rename", feed(x, "three").rename(3, 2), 3);
        due("back", x.back(), 2);
        due("back over the one before the undone ones", x.back(), 1);
        due("name", name(x, 3, 2), "t");
        due("latest event", x.of(3, 4), 0);
        due("history", history(x, 3), "F0:1");
    }

    @Says(promise = 26, value = "Undoes the latest change that was not undone.")
    static void nothingIsLeftOfWhatWasUndone() {
        PlaceRegister x = with("f0>0@0:a;f0>0@0:b;f1>0@0:c");
        due("merge", x.merge(0, 1, 10), 1);
        due("back", x.back(), 1);
        due("merges", x.count(4), 0);
        due("parent", x.on(2, 10, 2), 0);
        due("events", x.of(0, 5) + x.of(1, 5) + x.of(2, 5), 3);
        due("close of the child", x.close(2, 5), 5);
        due("close", x.close(0, 8), 8);
        due("no heir, since it was not merged", x.on(0, 10, 6), -5);
        due("back", x.back(), 2);
        due("back", x.back(), 1);
        due("end", x.of(0, 1) + x.of(2, 1), -10);
        due("the latest event", x.of(0, 4), 0);
        due("split", feed(x, "d").split(2, 3), 3);
        due("back", x.back(), 1);
        due("found in its place", feed(x, "ee").found(0, 0, 2), 3);
        due("kind", x.on(3, 2, 1), 0);
        due("name", name(x, 3, 2), "ee");
        due("events", history(x, 3), "F2");
        due("events", history(x, 2), "F0:0");
        due("splits", x.count(5), 0);
        due("parents", x.of(3, 3), 0);
    }

    @Says(promise = 26, value = "Undoes the latest change that was not undone.")
    static void refusedRunsAreNoChangesToUndo() {
        PlaceRegister x = country();
        due("rename", feed(x, "uv").rename(3, 5), 1);
        due("filter", x.filter(0, 2), 0);
        due("run", run(x, "r3@6:wxy;m3>2@7;g1>2@8;s2@9:n;c3@5"), -204);
        due("changes", x.count(3), 3);
        due("back over the filter", x.back(), 2);
        due("filters", x.count(1), 0);
        due("name", name(x, 3, 9), "uv");
        due("back over the name", x.back(), 1);
        due("name", name(x, 3, 9), "t");
        due("run", run(x, "r3@6:wxy;m3>2@7;c2@8"), -202);
        due("back over the places", x.back(), 0);
        due("places", x.count(0), 0);
    }

    @Says(promise = 26, value = "Returns the number of changes that can still be undone; STATE if there is none.")
    static void answersOfBack() {
        PlaceRegister x = new PlaceRegister();
        due("none", x.back(), STATE);
        due("filter", x.filter(0, 0), 0);
        due("the only one", x.back(), 0);
        due("none", x.back(), STATE);
        for (int f = 0; f < 7; f++) {
            due("filter", x.filter(0, 0), f);
        }
        for (int left = 5; left >= 0; left--) {
            due("back", x.back(), left);
            due("count", x.count(3), left);
        }
        due("none", x.back(), STATE);
        due("filters", x.count(1), 1);
    }

    // ---- Promise 27: image ----

    @Says(promise = 27, value = "Takes a snapshot, in place of an earlier one.")
    static void laterSnapshots() {
        PlaceRegister x = country();
        due("image", x.image(), 4);
        due("close", x.close(3, 5), 5);
        due("image", x.image(), 4);
        due("close", x.close(2, 5), 5);
        due("undo", x.undo(), 4);
        due("end in the later one", x.of(3, 1), 5);
        due("no end in the later one", x.of(2, 1), -5);
        due("undo", x.undo(), 4);
        due("end in the later one", x.of(3, 1), 5);
    }

    @Says(promise = 27, value = "Returns the number of places.")
    static void answersOfImage() {
        PlaceRegister x = new PlaceRegister();
        due("of none", x.image(), 0);
        due("found", feed(x, "a").found(0, 0, 0), 0);
        due("of one", x.image(), 1);
        due("close", x.close(0, 0), 0);
        due("of one that ended", x.image(), 1);
        due("no change", x.count(3), 2);
        due("of twenty", fullCountry().image(), 20);
    }

    // ---- Promise 28: undo ----

    @Says(promise = 28, value = "Restores the snapshot, which stays. No changes can be undone then.")
    static void theSnapshotStays() {
        PlaceRegister x = country();
        due("filter", x.filter(0, 1), 0);
        due("image", x.image(), 4);
        for (int i = 0; i < 3; i++) {
            due("close", x.close(3, i), i);
            due("drop", x.drop(0), 0);
            due("undo", x.undo(), 4);
            due("changes", x.count(3), 0);
            due("back", x.back(), STATE);
            due("end", x.of(3, 1), -5);
            due("filter", x.fits(0, 0), 6);
        }
        due("undo without a change", x.undo(), 4);
        due("a change", x.close(3, 9), 9);
        due("changes", x.count(3), 1);
        due("back to the snapshot", x.back(), 0);
        due("end", x.of(3, 1), -5);
        due("places", x.count(0), 4);
    }

    @Says(promise = 28, value = "Returns the number of places; STATE if there is no snapshot.")
    static void answersOfUndo() {
        PlaceRegister x = country();
        due("no snapshot", x.undo(), STATE);
        due("changes", x.count(3), 1);
        due("places", x.count(0), 4);
        due("image", x.image(), 4);
        due("found", feed(x, "n").found(0, 0, 0), 4);
        due("undo", x.undo(), 4);
        x = new PlaceRegister();
        due("image of nothing", x.image(), 0);
        due("found", feed(x, "n").found(0, 0, 0), 0);
        due("undo to nothing", x.undo(), 0);
        due("places", x.count(0), 0);
        due("found", feed(x, "n").found(0, 0, 0), 0);
    }

    // ---- Promise 29: count ----

    @Says(promise = 29, value = "0 the places; 1 the filters; 2 the bytes on the tape; 3 the changes that can be undone; 4 the merges; 5 the splits")
    static void counts() {
        PlaceRegister x = with("f0>0@0:r;f0>0@0:s;s0@1:t;s0@1:u;s0@1:v;g0>1@2;g1>2@3");
        due("filter", x.filter(0, 0), 0);
        feed(x, "abcd");
        countsAre(x, 5, 1, 4, 2, 2, 3);
        due("merge", x.merge(3, 4, 9), 0);
        due("split", feed(x, "e").split(4, 9), 5);
        countsAre(x, 6, 1, 0, 4, 3, 4);
        due("a refused merge", x.merge(3, 4, 9), STATE);
        due("a refused split", feed(x, "n").split(3, 9), STATE);
        countsAre(x, 6, 1, 0, 4, 3, 4);
        due("back", x.back(), 3);
        countsAre(x, 5, 1, 0, 3, 3, 3);
        due("back", x.back(), 2);
        due("drop", x.drop(0), 0);
        countsAre(x, 5, 0, 0, 3, 2, 3);
    }

    private static void countsAre(PlaceRegister x, int... counts) {
        for (int what = 0; what < 6; what++) {
            due("count(" + what + ")", x.count(what), counts[what]);
        }
    }

    @Says(promise = 29, value = "Returns the count; NONE if what is invalid.")
    static void wrongNumbersToCount() {
        PlaceRegister x = country();
        for (int what : new int[] {-1, 6, 7, LOWEST, HIGHEST}) {
            due("count(" + what + ")", x.count(what), NONE);
        }
        due("count(0)", x.count(0), 4);
        due("count(5)", x.count(5), 0);
    }
}
