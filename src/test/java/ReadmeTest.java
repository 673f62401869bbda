import java.nio.file.Files;
import java.nio.file.Path;
import java.util.HashSet;
import java.util.Set;

/**
 * The examples of README.md do what the page says. Each line of them stands here as it stands there, with its comment, so
 * that neither can change without the other.
 */
public final class ReadmeTest {
    public static void main(String[] args) throws Exception {
        firstExample();
        textExample();
        lines();
        Check.end();
    }

    private static void firstExample() {
        GranaryWatch watch = new GranaryWatch();    // tom, puss and moss guard rye, oats and peas from hour 6 on
        Check.same("cats", Watch.catName(watch, 0) + Watch.catName(watch, 1) + Watch.catName(watch, 2), "tompussmoss");
        Check.same("sacks", Watch.sackName(watch, 0) + Watch.sackName(watch, 1) + Watch.sackName(watch, 2), "ryeoatspeas");
        Check.same("hour", watch.hourOfDay(), 6);
        int best = watch.bestFlapToChange(10);      // 1: opening oats saves most grain within ten hours
        Check.same("best", best, 1);
        Check.same("oats is open", watch.isOpen(1), false);
        int unguarded = watch.hoursUntilUnguarded();    // 7
        Check.same("unguarded", unguarded, 7);
        int caught = watch.letPass(7);              // 6 mice
        Check.same("caught", caught, 6);
        int sworn = watch.swornCat();               // NONE: puss refused moss, as both are right-pawed
        Check.same("sworn", sworn, GranaryWatch.NONE);
        Check.same("moss", watch.eventCat(0), 2);
        Check.same("puss", watch.eventNumber(0), 1);
        Check.same("paws", watch.isLeftPawed(1) || watch.isLeftPawed(2), false);
        int kind = watch.eventKind(0);              // REFUSAL, the latest event
        Check.same("kind", kind, GranaryWatch.REFUSAL);
        int changes = watch.undo();                 // 0 more to undo; it is hour 6 again
        Check.same("changes", changes, 0);
        Check.same("hour again", watch.hourOfDay(), 6);
    }

    private static void textExample() {
        GranaryWatch watch = new GranaryWatch();
        append(watch, "cat mia 6 left; cat leo 4 right; sack corn 90 12 open; sack millet 40 7 shut;");
        append(watch, "shift mia 8; shift leo 16; milk 2; hour 20;");
        int cats = watch.loadGranary();             // 2
        Check.same("cats", cats, 2);
        append(watch, "open millet; wait 10; grain corn 50;");
        int executed = watch.runScript();           // 3 statements
        Check.same("executed", executed, 3);
        int length = watch.writeSacks();            // 24: corn:116/0' millet:24/0'
        Check.same("length", length, 24);
        Check.same("output", Watch.output(watch), "corn:116/0' millet:24/0'");
        int first = watch.outputByte(0);            // 'c'
        Check.same("first", first, 'c');
        append(watch, "wait 5; shut rye;");
        int failed = watch.runScript();             // NONE: there is no sack rye here
        Check.same("failed", failed, GranaryWatch.NONE);
        int code = watch.errorCode();               // UNKNOWN_NAME
        Check.same("code", code, GranaryWatch.UNKNOWN_NAME);
        int offset = watch.errorOffset();           // 13, where rye begins
        Check.same("offset", offset, 13);
        int hour = watch.saveState();               // 30: restoreState comes back to it
        Check.same("hour", hour, 30);
        watch.letPass(1);
        Check.same("restored", watch.restoreState(), 30);
    }

    static void append(GranaryWatch watch, String text) {
        int[] fours = new int[(text.length() + 19) / 20 * 5];
        for (int i = 0; i < fours.length * 4; i++) {
            fours[i / 4] = fours[i / 4] << 8 | (i < text.length() ? text.charAt(i) : ' ');
        }
        for (int i = 0; i < fours.length; i += 5) {
            watch.appendInput(fours[i], fours[i + 1], fours[i + 2], fours[i + 3], fours[i + 4]);
        }
    }

    private static void lines() throws Exception {
        Set<String> here = new HashSet<>();
        for (String line : Files.readAllLines(Path.of("src/test/java/ReadmeTest.java"))) {
            here.add(line.trim());
        }
        boolean isExample = false;
        int count = 0;
        for (String line : Files.readAllLines(Path.of("README.md"))) {
            if (line.startsWith("```")) {
                isExample = !isExample;
            } else if (isExample) {
                Check.same("ReadmeTest has the line " + line, here.contains(line.trim()), true);
                count++;
            }
        }
        Check.same("README.md has examples", count > 0, true);
    }
}
