/** Ordinary inputs, edges and wrong inputs of each promise; the numbers of the sections are those of the document. */
public final class PromiseTest {
    private static int wrong = 0;
    private static int promise = 0;

    private static void due(String call, long got, long want) {
        if (got != want) {
            wrong++;
            System.out.println("promise " + promise + ": " + call + " answered " + got + ", due is " + want);
        }
    }

    private static void refused(String call, PlaceRegister x, int got, int reason) {
        due(call, got, PlaceRegister.STATE);
        due(call + ", its reason", x.reason(), reason);
    }

    private static PlaceRegister feed(PlaceRegister x, String text) {
        for (int i = 0; i < text.length(); i += 5) {
            int[] bytes = new int[5];
            int n = Math.min(5, text.length() - i);
            for (int k = 0; k < n; k++) {
                bytes[k] = text.charAt(i + k);
            }
            if (x.feed(n, bytes[0], bytes[1], bytes[2], bytes[3], bytes[4]) < 0) {
                throw new IllegalStateException("the tape is full");
            }
        }
        return x;
    }

    private static int run(PlaceRegister x, String text) {
        return feed(x, text).run();
    }

    private static PlaceRegister with(String text) {
        PlaceRegister x = new PlaceRegister();
        if (run(x, text) <= 0) {
            throw new IllegalStateException(text);
        }
        return x;
    }

    private static String written(PlaceRegister x, int place) {
        int length = x.write(place);
        StringBuilder text = new StringBuilder();
        for (int i = 0; i < length; i++) {
            text.append((char) x.paper(i));
        }
        due("paper(" + length + ")", x.paper(length), -5);
        return text.toString();
    }

    private static void writes(PlaceRegister x, int place, String want) {
        String got = written(x, place);
        if (!got.equals(want)) {
            wrong++;
            System.out.println("promise " + promise + ": place " + place + " wrote " + got + ", due is " + want);
        }
    }

    /** A realm r, two regions a and b in it, a town t in a, all from day 0 on. */
    private static PlaceRegister country() {
        return with("f0>0@0:r;f1>0@0:a;f1>0@0:b;f2>1@0:t");
    }

    public static void main(String[] args) {
        newObject();
        feeding();
        founding();
        renaming();
        moving();
        splitting();
        merging();
        mergingManyDays();
        closing();
        running();
        runningWrongTexts();
        reasons();
        numbersOnDays();
        heirs();
        numbersOfPlaces();
        events();
        parentsAgain();
        lookups();
        soughtPlaces();
        filters();
        joins();
        drops();
        deepJoins();
        sets();
        writing();
        changedPlaces();
        longestNames();
        accounts();
        goingBack();
        images();
        undoing();
        counts();
        System.out.println(wrong == 0 ? "all answers are as due" : wrong + " answers are not as due");
        if (wrong != 0) {
            System.exit(1);
        }
    }

    private static void newObject() {
        promise = 1;
        PlaceRegister x = new PlaceRegister();
        for (int what = 0; what < 6; what++) {
            due("count(" + what + ")", x.count(what), 0);
        }
        due("reason()", x.reason(), -5);
        due("paper(0)", x.paper(0), -5);
        due("sought(0)", x.sought(0), -5);
        due("back()", x.back(), -3);
        due("undo()", x.undo(), -3);
        due("on(0, 0, 0)", x.on(0, 0, 0), -1);
        due("changed(0, 9999)", x.changed(0, 9999), 0);
        due("account(0, 8)", x.account(0, 8), 0);
        PlaceRegister other = country();
        due("count(0) of another object", x.count(0), 0);
        due("count(0)", other.count(0), 4);
    }

    private static void feeding() {
        promise = 2;
        PlaceRegister x = new PlaceRegister();
        due("feed(0)", x.feed(0, 1, 1, 1, 1, 1), -2);
        due("feed(6)", x.feed(6, 1, 1, 1, 1, 1), -2);
        due("feed byte 128", x.feed(1, 128, 1, 1, 1, 1), -2);
        due("feed byte -1", x.feed(1, -1, 1, 1, 1, 1), -2);
        due("feed unused b", x.feed(1, 1, 128, 1, 1, 1), -2);
        due("feed unused c", x.feed(1, 1, 1, -1, 1, 1), -2);
        due("feed unused d", x.feed(1, 1, 1, 1, 128, 1), -2);
        due("feed unused e", x.feed(1, 1, 1, 1, 1, -1), -2);
        due("count(2)", x.count(2), 0);
        due("feed(5)", x.feed(5, 0, 127, 0, 127, 0), 5);
        for (int i = 1; i < 15; i++) {
            due("feed", x.feed(5, 97, 97, 97, 97, 97), 5 * i + 5);
        }
        due("feed(3)", x.feed(3, 97, 97, 97, 0, 0), 78);
        due("feed beyond 80", x.feed(3, 97, 97, 97, 0, 0), -4);
        due("feed beyond 80 with a wrong byte", x.feed(3, 97, 97, 97, 0, 200), -2);
        due("feed to 80", x.feed(2, 97, 97, 0, 0, 0), 80);
        due("feed beyond 80", x.feed(1, 97, 0, 0, 0, 0), -4);
        due("count(2)", x.count(2), 80);
    }

    private static void founding() {
        promise = 3;
        PlaceRegister x = new PlaceRegister();
        due("found of no kind", feed(x, "a").found(-1, 0, 0), -1);
        due("the tape", x.count(2), 0);
        due("reason()", x.reason(), -5);
        due("found of no kind", feed(x, "a").found(4, 0, -1), -1);
        refused("found without a word", x, x.found(1, 7, -1), 9);
        refused("found, nine letters", x, feed(x, "abcdefghi").found(1, 7, -1), 9);
        refused("found, a sign below a", x, feed(x, "ab`").found(0, 0, 0), 9);
        refused("found, a sign above z", x, feed(x, "{").found(0, 0, 0), 9);
        refused("found, a capital", x, feed(x, "Ab").found(0, 0, 0), 9);
        refused("found, a zero byte", x, feed(x, "a\0").found(0, 0, 0), 9);
        refused("found without a parent", x, feed(x, "a").found(1, 0, -1), 1);
        refused("found before day 0", x, feed(x, "a").found(0, 0, -1), 2);
        refused("found behind day 9999", x, feed(x, "a").found(0, 0, 10000), 2);
        due("found on the last day", feed(x, "abcdefgh").found(0, -77, 9999), 0);
        due("found, far in front of it", feed(x, "z").found(0, 0, 5), 1);
        refused("found under no place", x, feed(x, "a").found(1, -1, 5), 1);
        refused("found under no place", x, feed(x, "a").found(1, 2, 5), 1);
        due("found a region", feed(x, "a").found(1, 1, 5), 2);
        refused("found a region in a region on no day", x, feed(x, "a").found(1, 2, 10000), 2);
        refused("found a region in a region too early", x, feed(x, "a").found(1, 2, 4), 4);
        refused("found a town too early", x, feed(x, "a").found(2, 2, 4), 5);
        due("found a quarter in a realm", feed(x, "a").found(3, 1, 5), 3);
        due("close", x.close(3, 20), 15);
        due("close", x.close(2, 20), 15);
        refused("found under a place that ends later", x, feed(x, "a").found(2, 2, 10), 5);
        refused("found under a place that has ended", x, feed(x, "a").found(2, 2, 20), 5);
        for (int p = 4; p < 20; p++) {
            due("found", feed(x, "a").found(0, 0, 5), p);
        }
        refused("found a 21st place", x, feed(x, "a").found(0, 0, 5), 6);
        refused("found a 21st place in a wrong one", x, feed(x, "a").found(2, 2, 20), 5);
        due("back", x.back(), 5);
        due("found in the room that was made", feed(x, "a").found(2, 1, 5), 19);
        refused("found a 21st place", x, feed(x, "a").found(1, 1, 5), 6);
    }

    private static void renaming() {
        promise = 4;
        PlaceRegister x = with("f0>0@10:abc;f0>0@0:x;c1@20");
        refused("rename without a word", x, x.rename(9, 0), 9);
        refused("rename of no place", x, feed(x, "a").rename(2, 0), 1);
        refused("rename of no place", x, feed(x, "a").rename(-1, 0), 1);
        refused("rename of an ended place", x, feed(x, "a").rename(1, 10000), 3);
        refused("rename before the founding", x, feed(x, "a").rename(0, 9), 2);
        refused("rename behind the last day", x, feed(x, "a").rename(0, 10000), 2);
        due("the tape", x.count(2), 0);
        due("rename", feed(x, "de").rename(0, 10), 3);
        due("on(0, 10, 3)", x.on(0, 10, 3), 2);
        due("rename", feed(x, "fghi").rename(0, 9999), 2);
        refused("rename before the latest event", x, feed(x, "a").rename(0, 9998), 2);
        due("on(0, 9998, 3)", x.on(0, 9998, 3), 2);
        due("on(0, 9999, 13)", x.on(0, 9999, 13), 'i');
        due("of(0, 2)", x.of(0, 2), 3);
        due("rename to the same", feed(x, "fghi").rename(0, 9999), 4);
        due("of(0, 2)", x.of(0, 2), 4);
    }

    private static void moving() {
        promise = 5;
        PlaceRegister x = with("f0>0@0:r;f1>0@0:a;f1>0@5:b;f2>1@0:t;f1>0@0:e;c4@9");
        refused("move of no place", x, x.move(5, 1, 0), 1);
        refused("move to no place", x, x.move(4, 5, 0), 1);
        refused("move to no place", x, x.move(3, -1, 0), 1);
        refused("move of an ended place", x, x.move(4, 3, 0), 3);
        refused("move behind the last day", x, x.move(3, 3, 10000), 2);
        refused("move before day 0", x, x.move(3, 3, -1), 2);
        refused("move into itself", x, x.move(3, 3, 2), 4);
        refused("move of a realm", x, x.move(0, 1, 2), 4);
        refused("move of a region into a region", x, x.move(1, 2, 2), 4);
        refused("move to a place not founded yet", x, x.move(3, 2, 4), 5);
        refused("move to a place that ends later", x, x.move(3, 4, 4), 5);
        refused("move to a place that has ended", x, x.move(3, 4, 9), 5);
        due("move", x.move(3, 2, 5), 1);
        due("the parent before", x.on(3, 4, 2), 1);
        due("the parent then", x.on(3, 5, 2), 2);
        due("move to the same", x.move(3, 2, 5), 2);
        due("move on the same day", x.move(3, 0, 5), 2);
        due("the parent then", x.on(3, 9999, 2), 0);
        refused("move before the latest event", x, x.move(3, 2, 4), 2);
        due("of(3, 3)", x.of(3, 3), 4);
        // A merge tells of days to come, and a move drops it.
        x = with("f0>0@0:r;f1>0@0:a;f1>0@0:b;f1>0@0:e;f2>1@0:t;g1>2@50");
        due("of(4, 4)", x.of(4, 4), 0);
        due("the parent told by the merge", x.on(4, 60, 2), 2);
        due("move before the merge's day", x.move(4, 3, 20), 1);
        due("the parent then", x.on(4, 60, 2), 3);
        due("again", x.again(4, 60), 3);
        writes(x, 4, "F0:1 P50:2 M20:3");
        due("close of what it was to have", x.close(2, 50), 50);
    }

    private static void splitting() {
        promise = 6;
        PlaceRegister x = with("f0>0@0:r;f1>0@3:a;f2>1@3:t");
        refused("split without a word", x, x.split(9, 0), 9);
        refused("split of no place", x, feed(x, "n").split(3, 0), 1);
        refused("split before the founding", x, feed(x, "n").split(1, 2), 2);
        refused("split behind the last day", x, feed(x, "n").split(1, 10000), 2);
        due("split", feed(x, "nn").split(1, 7), 3);
        due("the tape", x.count(2), 0);
        due("kind", x.on(3, 0, 1), 1);
        due("founded", x.of(3, 0), 7);
        due("parent", x.on(3, 7, 2), 0);
        due("name", x.on(3, 7, 3), 2);
        due("latest of both", x.of(3, 4) + x.of(1, 4), 14);
        due("names", x.of(3, 2), 1);
        due("parents", x.of(3, 3), 1);
        writes(x, 3, "F7:0 O7:1");
        writes(x, 1, "F3:0 S7:3");
        due("splits", x.count(5), 1);
        refused("split before the split", x, feed(x, "n").split(3, 6), 2);
        due("split of a realm", feed(x, "n").split(0, 1), 4);
        due("parents of a realm", x.of(4, 3), 0);
        writes(x, 4, "F1 O1:0");
        due("close", x.close(4, 1), 0);
        refused("split of an ended place", x, feed(x, "n").split(4, 0), 3);
        due("merge", x.merge(1, 3, 9), 1);
        refused("split under a parent that ended later", x, feed(x, "n").split(2, 8), 5);
        for (int p = 5; p < 20; p++) {
            due("split", feed(x, "n").split(2, 9), p);
        }
        refused("split a 21st place", x, feed(x, "n").split(2, 9), 6);
        // The parent that was told by a merge is the one that the new place gets.
        due("on(19, 9, 2)", x.on(19, 9, 2), 3);
    }

    private static void merging() {
        promise = 7;
        PlaceRegister x = with("f0>0@0:r;f1>0@0:a;f1>0@5:b;f2>1@0:t;f1>0@0:e;c4@9");
        refused("merge of no place", x, x.merge(5, 1, 0), 1);
        refused("merge into no place", x, x.merge(4, 5, 0), 1);
        refused("merge of no place into itself", x, x.merge(-1, -1, 0), 1);
        refused("merge into itself", x, x.merge(4, 4, 10000), 8);
        refused("merge of an ended place", x, x.merge(4, 3, -1), 3);
        refused("merge behind the last day", x, x.merge(1, 3, 10000), 2);
        refused("merge of two kinds", x, x.merge(1, 3, 4), 4);
        refused("merge into one not founded yet", x, x.merge(1, 2, 4), 5);
        refused("merge into one that ends later", x, x.merge(1, 4, 5), 5);
        due("merge", x.merge(1, 2, 5), 1);
        due("the end", x.of(1, 1), 5);
        due("the latest event", x.of(1, 4), 5);
        due("merges", x.count(4), 1);
        due("the parent before", x.on(3, 4, 2), 1);
        due("the parent then", x.on(3, 5, 2), 2);
        writes(x, 1, "F0:0 G5:2");
        writes(x, 2, "F5:0 T5:1");
        writes(x, 3, "F0:1 P5:2");
        due("how often it got a parent", x.of(3, 3), 1);
        refused("merge again", x, x.merge(1, 2, 6), 3);
        // Told of a day far on, it does not stop the other place from an event before.
        x = country();
        due("merge", x.merge(1, 2, 80), 1);
        due("the latest event of the other place", x.of(2, 4), 0);
        due("rename", feed(x, "q").rename(2, 3), 1);
        due("the latest event of the child", x.of(3, 4), 0);
        due("merge of realms without children", feed(x, "k").found(0, 0, 3), 4);
        due("merge of realms", x.merge(4, 0, 3), 0);
        due("days", x.of(4, 1), 3);
    }

    private static void mergingManyDays() {
        // The child has the parent on days 0 to 9 and 20 to 29; it is told once, with the first day.
        PlaceRegister x = country();
        x.move(3, 2, 10);
        x.move(3, 1, 20);
        x.move(3, 2, 30);
        feed(x, "e").found(1, 0, 0);
        due("merge", x.merge(1, 4, 15), 1);
        int[] days = {0, 9, 10, 19, 20, 29, 30};
        int[] parents = {1, 1, 2, 2, 4, 4, 2};
        for (int i = 0; i < days.length; i++) {
            due("on(3, " + days[i] + ", 2)", x.on(3, days[i], 2), parents[i]);
            due("again(3, " + days[i] + ")", x.again(3, days[i]), parents[i]);
        }
        writes(x, 3, "F0:1 M10:2 M20:1 M30:2 P20:4");
        // A child founded later, and one that ended before, and one that left before.
        x = country();
        feed(x, "u").found(2, 1, 40);
        feed(x, "v").found(2, 1, 0);
        x.close(5, 20);
        x.move(3, 2, 15);
        due("merge", x.merge(1, 2, 20), 1);
        writes(x, 4, "F40:1 P40:2");
        writes(x, 5, "F0:1 C20");
        writes(x, 3, "F0:1 M15:2");
        // The child ends on the first day: none of its days is left.
        x = country();
        x.close(3, 0);
        due("merge", x.merge(1, 2, 0), 0);
        // Found on the last day, it has one day.
        x = country();
        feed(x, "u").found(2, 1, 9999);
        x.close(3, 5);
        due("merge", x.merge(1, 2, 9999), 1);
        writes(x, 4, "F9999:1 P9999:2");
        // From the first day of all on, the parent that ended never was one.
        x = country();
        due("merge", x.merge(1, 2, 0), 1);
        due("on(3, 0, 2)", x.on(3, 0, 2), 2);
        due("again(3, 0)", x.again(3, 0), 2);
        writes(x, 3, "F0:1 P0:2");
    }

    private static void closing() {
        promise = 8;
        PlaceRegister x = country();
        refused("close of no place", x, x.close(4, -1), 1);
        refused("close before day 0", x, x.close(1, -1), 2);
        refused("close behind the last day", x, x.close(1, 10000), 2);
        refused("close of a parent", x, x.close(1, 5), 7);
        refused("close of a parent on the first day", x, x.close(1, 0), 7);
        refused("close of a parent on the last day", x, x.close(1, 9999), 7);
        due("move", x.move(3, 2, 30), 1);
        refused("close of one that is a parent later", x, x.close(1, 29), 7);
        due("close", x.close(1, 30), 30);
        refused("close again", x, x.close(1, -1), 3);
        due("on its last day", x.on(1, 29, 0), 1);
        due("on the day of its end", x.on(1, 30, 0), 0);
        due("close of the child", x.close(3, 40), 40);
        refused("close while the ended child had it", x, x.close(2, 39), 7);
        due("close", x.close(2, 40), 40);
        writes(x, 2, "F0:0 C40");
        feed(x, "q").found(1, 0, 50);
        due("close on the founding day", x.close(4, 50), 0);
        due("it never existed", x.on(4, 50, 0), 0);
        due("close of the realm over it", x.close(0, 50), 50);
        // A child founded later counts as well; one of no days does not.
        x = country();
        feed(x, "u").found(2, 2, 700);
        refused("close before the child", x, x.close(2, 600), 7);
        due("close of the child", x.close(4, 700), 0);
        due("close", x.close(2, 600), 600);
    }

    private static void running() {
        promise = 9;
        PlaceRegister x = new PlaceRegister();
        due("all commands", run(x, "f0>7@0000:r;f1>0@0:a;f1>00@2:b;f2>1@03:t;r3@4:uu;m3>2@5;s3@6:w;g1>2@7"), 8);
        due("the tape", x.count(2), 0);
        due("changes", x.count(3), 1);
        due("places", x.count(0), 5);
        writes(x, 3, "F3:1 N4:2 M5:2 S6:4");
        due("close", run(x, "c4@9999"), 1);
        due("refused at once", run(x, "c4@9999;c3@9"), -200);
        due("reason()", x.reason(), 3);
        due("refused as the last", run(x, "r3@10:a;r3@11:b;c0@20"), -202);
        due("reason()", x.reason(), 7);
        due("nothing of all", x.of(3, 2), 2);
        due("events", x.of(3, 5), 4);
        due("changes", x.count(3), 2);
        due("a day above 9999 is no text", run(x, "c3@10000"), -107);
        due("a place that is founded in the text", run(x, "f0>0@1:k;f1>5@1:l;c6@1;c5@1"), 4);
        due("back over all of it", x.back(), 2);
        due("places", x.count(0), 5);
    }

    private static void runningWrongTexts() {
        String[] texts = {"", "F", "f4", "f-", "f", "f0", "f0@", "f0>", "f0>a", "f0>12345", "f0>1@", "f0>1@1", "f0>1@1;",
            "f0>1@1:", "f0>1@1:A", "f0>1@1:aA", "f0>1@1:abcdefghi", "f0>1@1:a;", "f0>1@1:a;;", "f0>1@1:a ", "r", "r>",
            "r00000", "r0>", "r0@1>", "r0@1:", "m0@", "m0>1", "m0>1@", "m0>1@1:", "m0>1@1;x", "s1>", "s1@1;", "g1;",
            "g1>2@3:", "c", "c1", "c1@", "c1@1:", "c1@12345", "c1@1;c", "0", ";", "\0", "c1@1\0"};
        int[] positions = {0, 0, 1, 1, 1, 2, 2, 3, 3, 7, 5, 6, 6, 7, 7, 8, 15, 9, 9, 8, 1, 1, 5, 2, 4, 5, 2, 4, 5, 6,
            7, 2, 4, 2, 6, 1, 2, 3, 4, 7, 6, 0, 0, 0, 4};
        PlaceRegister x = new PlaceRegister();
        for (int i = 0; i < texts.length; i++) {
            due("run of " + texts[i], run(x, texts[i]), -100 - positions[i]);
            due("the tape behind " + texts[i], x.count(2), 0);
        }
        due("no reason", x.reason(), -5);
        due("no places", x.count(0), 0);
        due("no changes", x.count(3), 0);
        due("a full tape that ends too early", run(x, "c0@1;c0@1;c0@1;c0@1;c0@1;c0@1;c0@1;c0@1;c0@1;c0@1;c0@1;c0@1;"
            + "c0@1;c0@1;c0@1;c0@1;"), -180);
        StringBuilder names = new StringBuilder("f0>0@0:r");
        for (int i = 0; i < 10; i++) {
            names.append(";r0@").append(i).append(":a");
        }
        due("a full tape", run(x, names.toString()), 11);
        due("names", x.of(0, 2), 11);
    }

    private static void reasons() {
        promise = 10;
        PlaceRegister x = country();
        due("reason()", x.reason(), -5);
        x.close(9, 0);
        due("reason()", x.reason(), 1);
        x.on(9, 0, 0);
        x.back();
        x.back();
        due("back without a change", x.back(), -3);
        x.image();
        x.undo();
        due("reason() behind others", x.reason(), 1);
        due("lookup without a word", x.lookup(0, 0), -3);
        due("reason()", x.reason(), 9);
        due("a wrong text", run(x, "x"), -100);
        due("reason()", x.reason(), 9);
        due("a refused command", run(x, "f0>0@0:a;g0>0@0"), -201);
        due("reason()", x.reason(), 8);
    }

    private static void numbersOnDays() {
        promise = 11;
        PlaceRegister x = with("f0>0@5:r;f1>0@5:abcdefgh;f2>1@6:t;f3>2@7:q;f2>1@7:u");
        due("no place", x.on(5, 0, 0), -1);
        due("no place", x.on(-1, 10000, 0), -1);
        for (int what : new int[] {-1, 7, 8, 9, Integer.MIN_VALUE}) {
            due("on, what " + what, x.on(0, 10000, what), -1);
        }
        due("no day", x.on(0, -1, 0), -2);
        due("no day", x.on(0, 10000, 10), -2);
        due("before", x.on(0, 4, 0), 0);
        due("first day", x.on(0, 5, 0), 1);
        due("last day", x.on(0, 9999, 0), 1);
        due("kind before", x.on(3, 0, 1), 3);
        for (int what : new int[] {2, 3, 4, 5, 10, 17}) {
            due("before, what " + what, x.on(1, 4, what), -5);
        }
        due("parent of a realm", x.on(0, 5, 2), -5);
        due("parent", x.on(3, 7, 2), 2);
        due("length", x.on(1, 5, 3), 8);
        for (int k = 0; k < 8; k++) {
            due("letter " + k, x.on(1, 5, 10 + k), 'a' + k);
        }
        due("letter 8", x.on(1, 5, 18), -5);
        due("letter far on", x.on(1, 5, Integer.MAX_VALUE), -5);
        due("letter 1 of one", x.on(0, 5, 11), -5);
        for (int p = 0; p < 4; p++) {
            due("parents above " + p, x.on(p, 7, 4), p);
        }
        due("children on day 6", x.on(1, 6, 5), 1);
        due("children on day 7", x.on(1, 7, 5), 2);
        due("children of none", x.on(3, 7, 5), 0);
        x.close(4, 9);
        due("children when one is gone", x.on(1, 9, 5), 1);
        due("gone", x.on(4, 9, 2), -5);
        due("kind of one that is gone", x.on(4, 9, 1), 2);
    }

    private static void heirs() {
        PlaceRegister x = with("f0>0@5:a;f0>0@5:b;f0>0@5:d;g0>1@10;g1>2@20");
        due("not founded yet", x.on(0, 0, 6), 0);
        due("exists", x.on(0, 9, 6), 0);
        due("merged", x.on(0, 10, 6), 1);
        due("merged twice", x.on(0, 20, 6), 2);
        due("the other one", x.on(1, 20, 6), 2);
        due("the last one", x.on(2, 9999, 6), 2);
        x.close(2, 30);
        due("still", x.on(0, 29, 6), 2);
        due("merged into one that is closed", x.on(0, 30, 6), -5);
        due("closed", x.on(2, 30, 6), -5);
        // The other place may end on an earlier day than that of the merge into it.
        x = with("f0>0@0:a;f0>0@0:b;f0>0@0:d;g0>1@50;g1>2@20");
        due("before", x.on(0, 49, 6), 0);
        due("then", x.on(0, 50, 6), 2);
        feed(x, "q").found(0, 0, 60);
        x.close(3, 60);
        due("of no days, before", x.on(3, 59, 6), 3);
        due("of no days, then", x.on(3, 60, 6), -5);
    }

    private static void numbersOfPlaces() {
        promise = 12;
        PlaceRegister x = country();
        due("no place", x.of(4, 0), -1);
        due("no place", x.of(-1, 0), -1);
        due("no what", x.of(0, -1), -1);
        due("no what", x.of(0, 6), -1);
        int[] first = {0, -5, 1, 1, 0, 1};
        for (int what = 0; what < 6; what++) {
            due("of(3, " + what + ")", x.of(3, what), first[what]);
        }
        due("parents of a realm", x.of(0, 3), 0);
        run(x, "r3@4:a;r3@4:b;m3>1@8;m3>2@8;g2>1@9;c3@12");
        int[] then = {0, 12, 3, 3, 12, 7};
        for (int what = 0; what < 6; what++) {
            due("of(3, " + what + ")", x.of(3, what), then[what]);
        }
        due("the latest event of one merged into", x.of(1, 4), 0);
        due("its events", x.of(1, 5), 2);
        for (int i = 0; i < 30; i++) {
            feed(x, "a").rename(0, 0);
        }
        due("more events than are kept", x.of(0, 5), 31);
        due("names", x.of(0, 2), 31);
    }

    private static void events() {
        promise = 13;
        PlaceRegister x = country();
        due("no place", x.event(4, 0, 0), -1);
        due("no event", x.event(0, -1, 0), -1);
        due("no event", x.event(0, 1, 0), -1);
        due("no what", x.event(0, 0, 3), -1);
        due("no what", x.event(0, 0, -1), -1);
        due("no parent", x.event(0, 0, 2), -5);
        run(x, "r3@4:abc;m3>0@8;s3@9:n;c3@10");
        int[][] want = {{0, 0, 1}, {4, 1, 3}, {8, 2, 0}, {9, 7, 4}, {10, 4, -5}};
        for (int i = 0; i < want.length; i++) {
            for (int what = 0; what < 3; what++) {
                due("event(3, " + i + ", " + what + ")", x.event(3, i, what), want[i][what]);
            }
        }
        for (int i = 0; i < 30; i++) {
            feed(x, "ab").rename(0, i);
        }
        due("the last kept", x.event(0, 23, 0), 22);
        due("one that is not kept", x.event(0, 24, 0), -1);
    }

    private static void parentsAgain() {
        promise = 14;
        PlaceRegister x = with("f0>0@5:r;f1>0@5:a;f1>0@5:b;f2>1@6:t;m3>2@9;c3@20");
        due("no place", x.again(4, 10000), -1);
        due("no day", x.again(3, -1), -2);
        due("no day", x.again(3, 10000), -2);
        due("a realm", x.again(0, 5), -5);
        int[] days = {5, 6, 8, 9, 19, 20};
        int[] parents = {-5, 1, 1, 2, 2, -5};
        for (int i = 0; i < days.length; i++) {
            due("again(3, " + days[i] + ")", x.again(3, days[i]), parents[i]);
        }
        for (int i = 2; i < 24; i++) {
            due("again(2, 30), event " + i, x.again(2, 30), 0);
            feed(x, "ab").rename(2, 30);
        }
        due("23 events", x.again(2, 30), 0);
        feed(x, "ab").rename(2, 30);
        due("24 events", x.again(2, 30), 0);
        due("reason()", x.reason(), -5);
        feed(x, "ab").rename(2, 30);
        due("25 events", x.again(2, 30), -3);
        due("25 events, no day", x.again(2, 10000), -2);
        due("no reason for it", x.reason(), -5);
        x.back();
        due("24 events once more", x.again(2, 30), 0);
        // Told of days when it existed, behind the event of its end.
        x = country();
        x.close(3, 50);
        x.merge(1, 2, 30);
        due("again(3, 29)", x.again(3, 29), 1);
        due("again(3, 30)", x.again(3, 30), 2);
        due("again(3, 50)", x.again(3, 50), -5);
    }

    private static void lookups() {
        promise = 15;
        PlaceRegister x = with("f0>0@0:bar;f0>0@0:ba;f0>0@0:bars;f0>0@0:car;f0>0@9:bar;f0>0@0:rab");
        due("found", feed(x, "abcdefgh").found(0, 0, 0), 6);
        due("no day", feed(x, "a").lookup(-1, 0), -2);
        due("the tape", x.count(2), 0);
        due("no day", feed(x, "a").lookup(10000, 0), -2);
        due("no distance", feed(x, "a").lookup(0, -1), -2);
        due("no distance and no word", x.lookup(0, 4), -2);
        refused("no word", x, x.lookup(0, 0), 9);
        refused("nine letters", x, feed(x, "abcdefghi").lookup(0, 0), 9);
        refused("a wrong letter", x, feed(x, "a1").lookup(0, 0), 9);
        due("the same", feed(x, "bar").lookup(0, 0), 1);
        due("the same later", feed(x, "bar").lookup(9, 0), 2);
        due("one apart", feed(x, "bar").lookup(9, 1), 5);
        int[] row = {0, 4, 1, 2, 3};
        for (int i = 0; i < row.length; i++) {
            due("sought(" + i + ")", x.sought(i), row[i]);
        }
        due("two apart", feed(x, "bar").lookup(9, 2), 6);
        due("sought(5)", x.sought(5), 5);
        due("seven letters are too many", feed(x, "a").lookup(0, 3), 5);
        due("one left out in front", feed(x, "bcdefgh").lookup(0, 1), 1);
        due("sought(0)", x.sought(0), 6);
        due("an error keeps it", x.lookup(0, 0), -3);
        due("sought(0)", x.sought(0), 6);
        due("none", feed(x, "zzzzzz").lookup(0, 3), 0);
        due("sought(0)", x.sought(0), -5);
        due("no change", x.count(3), 2);
        run(x, "r0@20:new;c1@20");
        due("old name", feed(x, "bar").lookup(19, 0), 2);
        due("not the old name", feed(x, "bar").lookup(20, 0), 1);
        due("not the ended one", feed(x, "ba").lookup(20, 0), 0);
    }

    private static void soughtPlaces() {
        promise = 16;
        PlaceRegister x = country();
        due("no lookup", x.sought(0), -5);
        due("below 0", x.sought(-1), -1);
        due("lookup", feed(x, "a").lookup(0, 1), 4);
        int[] row = {1, 0, 2, 3};
        for (int i = 0; i < 4; i++) {
            due("sought(" + i + ")", x.sought(i), row[i]);
        }
        due("sought(4)", x.sought(4), -5);
        due("far on", x.sought(Integer.MAX_VALUE), -5);
        x.back();
        due("kept when the change is undone", x.sought(0), 1);
        x.image();
        x.undo();
        due("kept when the snapshot is restored", x.sought(0), 1);
    }

    private static void filters() {
        promise = 17;
        PlaceRegister x = new PlaceRegister();
        due("no sort", x.filter(-1, 0), -1);
        due("no sort", x.filter(5, -1), -1);
        due("v below 0", x.filter(0, -1), -2);
        due("v above 9999", x.filter(4, 10000), -2);
        for (int f = 0; f < 8; f++) {
            due("filter", x.filter(f % 5, 9999), f);
        }
        due("no sort", x.filter(5, 0), -1);
        due("v above 9999", x.filter(4, 10000), -2);
        due("a ninth one", x.filter(0, 0), -4);
        due("changes", x.count(3), 6);
        due("back", x.back(), 5);
        due("filter", x.filter(0, 0), 7);
    }

    private static void joins() {
        promise = 18;
        PlaceRegister x = new PlaceRegister();
        due("no filter", x.join(2, 0, 0), -1);
        x.filter(0, 1);
        due("no how", x.join(-1, 0, 0), -1);
        due("no how", x.join(3, 0, 0), -1);
        due("no first", x.join(0, 1, 0), -1);
        due("no first", x.join(2, -1, 0), -1);
        due("no second", x.join(0, 0, 1), -1);
        due("no second", x.join(1, 0, -1), -1);
        due("not", x.join(2, 0, -99), 1);
        due("both", x.join(0, 0, 1), 2);
        due("either", x.join(1, 0, 1), 3);
        for (int f = 4; f < 8; f++) {
            due("with itself", x.join(0, 0, 0), f);
        }
        due("a ninth one", x.join(0, 0, 0), -4);
        due("a ninth one of none", x.join(0, 0, 8), -1);
        due("changes", x.count(3), 6);
        due("back over the last one that was made", x.back(), 5);
        due("filters", x.count(1), 7);
    }

    private static void drops() {
        promise = 19;
        PlaceRegister x = country();
        due("no filter", x.drop(0), -1);
        due("no filter", x.drop(-1), -1);
        x.filter(0, 0);
        x.filter(0, 1);
        x.filter(0, 2);
        x.join(1, 0, 1);
        due("no filter", x.drop(4), -1);
        due("drop", x.drop(1), 3);
        due("before it", x.fits(0, 0), 1);
        due("behind it", x.fits(1, 0), 8);
        due("made of it", x.fits(2, 0), 7);
        due("none", x.fits(3, 0), -1);
        due("drop the last one", x.drop(2), 2);
        due("back", x.back(), 5);
        due("made of it", x.fits(2, 0), 7);
        due("back", x.back(), 4);
        due("the one itself", x.fits(1, 0), 6);
        due("drop", x.drop(0), 3);
        due("what was made of it", x.fits(2, 0), 7);
        due("a new one in its place", x.filter(0, 3), 3);
        due("does not change it", x.fits(2, 0), 7);
    }

    private static void deepJoins() {
        PlaceRegister x = country();
        x.filter(0, 1);
        x.filter(0, 0);
        for (int i = 0; i < 100; i++) {
            x.join(i % 2, 0, 0);
            x.drop(0);
            x.filter(0, 0);
            x.drop(0);
        }
        due("fits", x.fits(0, 0), 6);
        due("places", x.account(0, 4), 4);
    }

    private static void sets() {
        promise = 20;
        PlaceRegister x = with("f0>0@0:r;f1>0@5:abc;f1>0@6:de;f2>1@7:t;f3>3@8:qq;f2>0@9:u;c5@20;m3>2@30");
        x.filter(0, 2);
        due("no filter", x.fits(1, 10000), -1);
        due("no filter", x.fits(-1, 0), -1);
        due("no day", x.fits(0, -1), -2);
        due("no day", x.fits(0, 10000), -2);
        due("kind before", x.fits(0, 6), 0);
        due("kind", x.fits(0, 9), 8 + 32);
        due("kind when one is gone", x.fits(0, 20), 8);
        int[][] leaves = {{1, 0, 9, 2 + 4 + 32}, {1, 1, 29, 8}, {1, 1, 30, 0}, {1, 2, 30, 8}, {1, 9999, 9, 0},
            {2, 0, 4, 1}, {2, 2, 9, 2 + 4 + 16}, {2, 3, 9, 2}, {2, 9, 9, 0}, {3, 0, 4, 1}, {3, 7, 9, 8 + 16 + 32},
            {3, 9999, 9999, 0}, {4, 0, 9, 2 + 4 + 8 + 16 + 32}, {4, 1, 29, 8 + 16}, {4, 1, 30, 0}, {4, 2, 30, 8 + 16},
            {4, 4, 30, 0}, {4, 20, 30, 0}, {0, 4, 9, 0}};
        for (int[] leaf : leaves) {
            int f = x.filter(leaf[0], leaf[1]);
            due("sort " + leaf[0] + " of " + leaf[1] + " on " + leaf[2], x.fits(f, leaf[2]), leaf[3]);
            x.drop(f);
        }
        x.filter(2, 2);
        due("both", x.fits(x.join(0, 0, 1), 9), 0);
        due("either", x.fits(x.join(1, 0, 1), 9), 8 + 32 + 2 + 4 + 16);
        due("not", x.fits(x.join(2, 1, 0), 9), 1 + 8 + 32);
        due("not, of those that exist", x.fits(4, 0), 1);
        due("not not", x.fits(x.join(2, 4, 0), 9), 2 + 4 + 16);
    }

    private static void writing() {
        promise = 21;
        PlaceRegister x = country();
        due("no place", x.write(4), -1);
        due("no place", x.write(-1), -1);
        due("write", x.write(0), 2);
        due("no place keeps the paper", x.write(4), -1);
        due("paper(0)", x.paper(0), 'F');
        run(x, "f2>0@9999:abcd;r4@9999:abcd");
        writes(x, 4, "F9999:0 N9999:4");
        run(x, "r3@10:abc;m3>0@20;s3@30:n;g3>5@40");
        writes(x, 3, "F0:1 N10:3 M20:0 S30:5 G40:5");
        writes(x, 5, "F30:0 O30:3 T40:3");
        x.close(5, 100);
        writes(x, 5, "F30:0 O30:3 T40:3 C100");
        writes(x, 0, "F0");
        for (int i = 0; i < 30; i++) {
            feed(x, "abcdefgh").rename(1, 9999);
        }
        due("the kept ones alone", x.write(1), 4 + 23 * 8);
        promise = 22;
        due("paper(4)", x.paper(4), ' ');
        due("the last byte", x.paper(187), '8');
        due("behind it", x.paper(188), -5);
        due("far behind it", x.paper(Integer.MAX_VALUE), -5);
        due("below 0", x.paper(-1), -1);
        x.image();
        x.write(0);
        x.back();
        due("back keeps the paper", x.paper(1), '0');
        x.undo();
        due("undo keeps the paper", x.paper(1), '0');
        due("undo keeps the paper", x.paper(2), -5);
    }

    private static void changedPlaces() {
        promise = 23;
        PlaceRegister x = with("f0>0@0:r;f1>0@0:a;f1>0@0:b;f2>1@0:t;r0@5:s;m3>2@6;r2@7:c;r2@8:b;f0>0@3:n");
        due("no day", x.changed(-1, 0), -2);
        due("no day", x.changed(0, 10000), -2);
        due("the same day", x.changed(6, 6), 0);
        due("a name", x.changed(4, 5), 1);
        due("turned round", x.changed(5, 4), 1);
        due("a parent", x.changed(5, 6), 8);
        due("there and back", x.changed(6, 8), 0);
        due("all", x.changed(0, 7), 1 + 4 + 8);
        x.close(3, 9);
        due("one that is gone", x.changed(0, 9), 1);
        due("moved on a day, and back on it", x.changed(2, 3), 0);
    }

    private static void longestNames() {
        promise = 24;
        PlaceRegister x = with("f0>0@100:abc");
        due("no place", x.longest(1, 0), -1);
        due("no place", x.longest(-1, 0), -1);
        due("no what", x.longest(0, -1), -1);
        due("no what", x.longest(0, 3), -1);
        due("day", x.longest(0, 0), 100);
        due("until day 9999", x.longest(0, 1), 9900);
        due("length", x.longest(0, 2), 3);
        run(x, "r0@110:d;r0@110:ef;r0@120:ghij");
        due("day", x.longest(0, 0), 120);
        due("days", x.longest(0, 1), 9880);
        x.close(0, 130);
        due("of like ones the earliest", x.longest(0, 0), 100);
        due("days", x.longest(0, 1), 10);
        due("length", x.longest(0, 2), 3);
        x = with("f0>0@5:a;r0@5:bc;c0@5");
        due("of no days", x.longest(0, 1), 0);
        due("of no days, the earliest", x.longest(0, 2), 1);
        x = with("f0>0@0:a;r0@4:bc;r0@9:a;c0@12");
        due("like names are not one", x.longest(0, 1), 5);
        due("like names are not one", x.longest(0, 0), 4);
    }

    private static void accounts() {
        promise = 25;
        PlaceRegister x = with("f0>0@5:r;f1>0@6:a;f1>0@6:a;f2>1@7:t;f3>3@8:a;c2@20;f2>1@30:u");
        due("no what", x.account(10000, -1), -1);
        due("no what", x.account(0, 9), -1);
        due("no day", x.account(-1, 0), -2);
        due("no day", x.account(10000, 8), -2);
        int[][] want = {{4, 0, 0, 0, 0, 0, 6, 0, 0, 0}, {6, 1, 2, 0, 0, 3, 3, 0, 2, 2}, {19, 1, 2, 1, 1, 5, 1, 0, 3, 2},
            {20, 1, 1, 1, 1, 4, 1, 1, 3, 1}, {30, 1, 1, 2, 1, 5, 0, 1, 4, 2}};
        for (int[] row : want) {
            for (int what = 0; what < 9; what++) {
                due("account(" + row[0] + ", " + what + ")", x.account(row[0], what), row[what + 1]);
            }
        }
        feed(x, "n").found(0, 0, 50);
        x.close(6, 50);
        due("of no days, before", x.account(49, 5), 1);
        due("of no days, then", x.account(50, 6), 2);
    }

    private static void goingBack() {
        promise = 26;
        PlaceRegister x = new PlaceRegister();
        due("none", x.back(), -3);
        for (int i = 0; i < 9; i++) {
            feed(x, "a").found(0, 0, i);
        }
        due("changes", x.count(3), 6);
        for (int left = 5; left >= 0; left--) {
            due("back", x.back(), left);
            due("places", x.count(0), 3 + left);
        }
        due("none", x.back(), -3);
        due("places", x.count(0), 3);
        due("the tape stays", feed(x, "ab").count(2), 2);
        x.filter(0, 0);
        x.join(2, 0, 0);
        x.drop(0);
        due("no error is a change", x.drop(9), -1);
        due("no refusal is a change", x.close(9, 0), -3);
        due("back", x.back(), 2);
        due("filters", x.count(1), 2);
        due("back", x.back(), 1);
        due("filters", x.count(1), 1);
        due("the tape stays", x.count(2), 2);
        due("the reason stays", x.reason(), 1);
        // What ends, begins and goes elsewhere comes back as it was.
        x = country();
        x.move(3, 2, 10);
        x.merge(2, 1, 5);
        feed(x, "n").split(3, 20);
        due("splits", x.count(5), 1);
        x.close(4, 30);
        due("back", x.back(), 4);
        due("end", x.of(4, 1), -5);
        due("latest", x.of(4, 4), 20);
        due("back", x.back(), 3);
        due("splits", x.count(5), 0);
        due("latest", x.of(3, 4), 10);
        due("back", x.back(), 2);
        due("merges", x.count(4), 0);
        due("parent", x.on(3, 10, 2), 2);
        due("heir", x.on(2, 10, 6), 2);
        writes(x, 3, "F0:1 M10:2");
        writes(x, 1, "F0:0");
        due("another way on", x.merge(1, 2, 5), 1);
        writes(x, 3, "F0:1 M10:2 P5:2");
    }

    private static void images() {
        promise = 27;
        PlaceRegister x = new PlaceRegister();
        due("of nothing", x.image(), 0);
        run(x, "f0>0@0:a;f0>0@0:b");
        due("image", x.image(), 2);
        due("no change", x.count(3), 1);
        feed(x, "n").found(0, 0, 0);
        due("back behind it", x.back(), 1);
        due("back over it", x.back(), 0);
        due("undo", x.undo(), 2);
        due("in place of an earlier one", x.count(0), 2);
        x.close(0, 5);
        due("image", x.image(), 2);
        x.close(1, 5);
        x.undo();
        due("the later one", x.of(0, 1), 5);
        due("the later one", x.of(1, 1), -5);
    }

    private static void undoing() {
        promise = 28;
        PlaceRegister x = country();
        due("no snapshot", x.undo(), -3);
        due("no reason", x.reason(), -5);
        x.filter(0, 1);
        x.image();
        x.merge(1, 2, 9);
        x.drop(0);
        feed(x, "n").split(3, 9);
        feed(x, "t").lookup(0, 0);
        x.close(77, 0);
        feed(x, "abc");
        due("changes", x.count(3), 5);
        due("undo", x.undo(), 4);
        due("changes", x.count(3), 0);
        due("back", x.back(), -3);
        due("filters", x.count(1), 1);
        due("fits", x.fits(0, 0), 6);
        due("the tape stays", x.count(2), 3);
        due("the reason stays", x.reason(), 1);
        due("sought stays", x.sought(0), 3);
        due("merges", x.count(4), 0);
        due("splits", x.count(5), 0);
        due("end", x.of(1, 1), -5);
        writes(x, 3, "F0:1");
        x.drop(0);
        due("a change", x.count(3), 1);
        due("undo again", x.undo(), 4);
        due("filters", x.count(1), 1);
    }

    private static void counts() {
        promise = 29;
        PlaceRegister x = country();
        due("no what", x.count(-1), -1);
        due("no what", x.count(6), -1);
        x.filter(0, 0);
        feed(x, "n").split(3, 1);
        feed(x, "n").split(3, 1);
        x.merge(4, 3, 2);
        feed(x, "abc");
        int[] want = {6, 1, 3, 5, 1, 2};
        for (int what = 0; what < 6; what++) {
            due("count(" + what + ")", x.count(what), want[what]);
        }
        x.back();
        due("merges", x.count(4), 0);
        x.back();
        due("splits", x.count(5), 1);
    }
}
