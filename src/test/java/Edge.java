import java.io.IOException;
import java.nio.file.Files;
import java.nio.file.Path;
import java.util.ArrayList;
import java.util.Arrays;
import java.util.List;
import java.util.TreeMap;
import java.util.function.IntSupplier;
import java.util.regex.Matcher;
import java.util.regex.Pattern;

/**
 * Tests of boundary cases, each tied to the words of the document that name it: says() opens a
 * sentence, the checks behind it belong to it, and compareWithDocument() looks whether the words
 * stand there, and whether a promise names a case that no test opened.
 */
final class Edge {
    /** What is told of the terms ahead of the promises. */
    static final int TERMS = 0;
    static final int PROMISES = 42;
    private static final int FINDING_AT = 4;
    private static final Path DOCUMENT = Path.of("../shared/DOC.md");
    private static final TreeMap<Integer, List<String>> OPENED = new TreeMap<>();
    private static String sentence = "";

    private Edge() {
    }

    static void says(int promise, String words) {
        OPENED.computeIfAbsent(promise, p -> new ArrayList<>()).add(words);
        sentence = promise + ", '" + words + "'";
    }

    static void due(long got, long want) {
        Check.due(sentence + where(), got, want);
    }

    /** A call that is refused by BAD, FULL or STATE, and changes nothing at all. */
    static void refused(AbsentPost x, IntSupplier call, int want) {
        long[] ahead = seen(x);
        due(call.getAsInt(), want);
        sameSeen(x, ahead);
    }

    /** A call that is refused by a finding, and changes nothing but finding(), findings(). */
    static void found(AbsentPost x, IntSupplier call, int finding) {
        long[] ahead = seen(x);
        due(call.getAsInt(), AbsentPost.FINDING);
        ahead[FINDING_AT] = finding;
        ahead[FINDING_AT + finding]++;
        sameSeen(x, ahead);
    }

    static void told(AbsentPost x, int answer, int want) {
        due(answer, 1);
        due(x.asked(), want);
    }

    static void share(AbsentPost x, int answer, long upper, long lower) {
        due(answer, 1);
        due(x.upper(), upper);
        due(x.lower(), lower);
    }

    static void rowIs(AbsentPost x, int r, int... places) {
        for (int i = 0; i < places.length; i++) {
            told(x, x.at(r, i), places[i]);
        }
        found(x, () -> x.at(r, places.length), Check.BEYOND);
    }

    /** Of one house alone at the far end or not: the hours (bits) at which it is empty. */
    static int emptyOf(AbsentPost x, int h) {
        due(x.house(h, 3), 1);
        return x.asked();
    }

    private static long[] seen(AbsentPost x) {
        return new long[] {x.digest(), x.asked(), x.upper(), x.lower(), x.finding(),
            x.findings(1), x.findings(2), x.findings(3), x.findings(4), x.findings(5)};
    }

    private static void sameSeen(AbsentPost x, long[] want) {
        long[] got = seen(x);
        if (!Arrays.equals(got, want)) {
            Check.due(sentence + where() + " changed " + Arrays.toString(want) + " to " + Arrays.toString(got), 1, 0);
        }
    }

    private static String where() {
        return StackWalker.getInstance().walk(frames -> frames
            .filter(f -> !f.getClassName().equals("Edge"))
            .map(f -> " at " + f.getFileName() + ":" + f.getLineNumber())
            .findFirst().orElse(""));
    }

    static void compareWithDocument() throws IOException {
        if (!Files.isReadable(DOCUMENT)) {
            System.out.println("no " + DOCUMENT + ": the words of the sentences are not compared");
            return;
        }
        String document = Files.readString(DOCUMENT);
        compare(TERMS, between(document, "\n## Terms\n", "\n## Promise 1:"));
        for (int p = 1; p <= PROMISES; p++) {
            String section = between(document, "\n## Promise " + p + ":", "\n## ");
            compare(p, section);
            lookForMissing(p, section);
        }
    }

    private static String between(String document, String from, String to) {
        int start = document.indexOf(from);
        if (start < 0) {
            return "";
        }
        int end = document.indexOf(to, start + from.length());
        return document.substring(start + from.length(), end < 0 ? document.length() : end)
            .replaceAll("\\s+", " ");
    }

    private static void compare(int promise, String section) {
        for (String words : OPENED.getOrDefault(promise, List.of())) {
            if (!section.contains(words)) {
                Check.due("the document does not say, in " + promise + ": " + words, 1, 0);
            }
        }
    }

    /** Each refusal and each aside in brackets that a promise names has been opened. */
    private static void lookForMissing(int promise, String section) {
        List<String> opened = OPENED.getOrDefault(promise, List.of());
        if (opened.isEmpty()) {
            Check.due("no test of promise " + promise, 1, 0);
        }
        String body = section.substring(section.indexOf("`: ") + 1);
        Matcher refusals = Pattern.compile("\\b(BAD|FULL|STATE|NONE|NOTHING|BEYOND|UNLIKE|NOUGHT|SIZE)\\b").matcher(body);
        while (refusals.find()) {
            String word = refusals.group();
            if (opened.stream().noneMatch(words -> words.startsWith(word))) {
                Check.due("no test of " + word + " in promise " + promise, 1, 0);
            }
        }
        Matcher asides = Pattern.compile("\\([^()]+\\)").matcher(body);
        while (asides.find()) {
            String aside = asides.group();
            if (opened.stream().noneMatch(words -> words.contains(aside))) {
                Check.due("no test of " + aside + " in promise " + promise, 1, 0);
            }
        }
    }
}
