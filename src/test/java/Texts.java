/** Texts for tests, and checks of texts with an error. */
final class Texts {
    private Texts() {
    }

    static String cats(int count) {
        return many("cat ", " 1 left;", count);
    }

    static String sacks(int count) {
        return many("sack ", " 1 1 open;", count);
    }

    static String shifts(int count) {
        return "shift a 1;".repeat(count);
    }

    private static String many(String before, String after, int count) {
        StringBuilder text = new StringBuilder();
        for (int i = 0; i < count; i++) {
            text.append(before).append((char) ('a' + i)).append(after);
        }
        return text.toString();
    }

    static void setupFails(String setup, int code, int offset) {
        GranaryWatch watch = new GranaryWatch();
        Check.same("4: " + setup, Watch.load(watch, setup), -1);
        fails(watch, setup, code, offset);
    }

    static void scriptFails(String text, int code, int offset) {
        GranaryWatch watch = new GranaryWatch();
        Check.same("5: " + text, Watch.run(watch, text), -1);
        fails(watch, text, code, offset);
        Check.raises("5: no change by " + text, java.util.NoSuchElementException.class, watch::undo);
    }

    private static void fails(GranaryWatch watch, String text, int code, int offset) {
        Check.same("6: " + text, watch.errorCode(), code);
        Check.same("7: " + text, watch.errorOffset(), offset);
        Check.same("the buffer is empty after " + text, watch.truncateInput(1), false);
        Check.same("nothing changes by " + text, Watch.state(watch), Watch.state(new GranaryWatch()));
    }
}
