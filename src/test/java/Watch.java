import java.nio.charset.StandardCharsets;
import java.util.function.IntUnaryOperator;

/**
 * Fills granaries with texts, and reads longer answers from them. What an object answers after its 512th call is free, so
 * these make no call twice.
 */
final class Watch {
    private Watch() {
    }

    /** Appends a text of any length: appendInput takes 20 bytes, so the rest is cut off again. */
    static void append(GranaryWatch watch, String text) {
        byte[] bytes = text.getBytes(StandardCharsets.ISO_8859_1);
        for (int from = 0; from < bytes.length; from += 20) {
            int length = watch.appendInput(four(bytes, from), four(bytes, from + 4), four(bytes, from + 8),
                    four(bytes, from + 12), four(bytes, from + 16));
            if (length < 0) {
                throw new IllegalArgumentException("the text is too long for a test");
            }
            if (from + 20 > bytes.length) {
                watch.truncateInput(length - (from + 20 - bytes.length));
            }
        }
    }

    static int load(GranaryWatch watch, String text) {
        append(watch, text);
        return watch.loadGranary();
    }

    static int run(GranaryWatch watch, String text) {
        append(watch, text);
        return watch.runScript();
    }

    static GranaryWatch of(String setup) {
        GranaryWatch watch = new GranaryWatch();
        if (load(watch, setup) < 1) {
            throw new IllegalArgumentException("the setup of a test has an error: " + setup);
        }
        return watch;
    }

    static String output(GranaryWatch watch) {
        return letters(watch::outputByte);
    }

    static String written(GranaryWatch watch) {
        watch.writeSacks();
        return output(watch);
    }

    static String catName(GranaryWatch watch, int cat) {
        return letters(i -> watch.catNameByte(cat, i));
    }

    static String sackName(GranaryWatch watch, int sack) {
        return letters(i -> watch.sackNameByte(sack, i));
    }

    private static String letters(IntUnaryOperator byteAt) {
        StringBuilder text = new StringBuilder();
        int letter = byteAt.applyAsInt(0);
        while (letter != GranaryWatch.NONE) {
            text.append((char) letter);
            letter = byteAt.applyAsInt(text.length());
        }
        return text.toString();
    }

    static String events(GranaryWatch watch) {
        StringBuilder text = new StringBuilder();
        for (int i = 0, count = watch.eventCount(); i < count; i++) {
            text.append(watch.eventKind(i)).append(',').append(watch.eventCat(i)).append(',');
            text.append(watch.eventNumber(i)).append(' ');
        }
        return text.toString();
    }

    /** All that promises tell of the state, without the input, the reported error, the output and the saved state. */
    static String state(GranaryWatch watch) {
        StringBuilder text = new StringBuilder();
        text.append("clock ").append(watch.clock()).append(" milk ").append(watch.milk());
        text.append(" sworn ").append(watch.swornCat()).append(" shift ").append(watch.currentShift());
        text.append(" left ").append(watch.hoursLeft());
        for (int i = 0, count = watch.catCount(); i < count; i++) {
            text.append(" cat ").append(catName(watch, i)).append(' ').append(watch.speedOf(i)).append(' ');
            text.append(watch.isLeftPawed(i)).append(' ').append(watch.tirednessOf(i)).append(' ');
            text.append(watch.caughtBy(i)).append(' ').append(watch.oathsOf(i));
        }
        for (int i = 0, count = watch.sackCount(); i < count; i++) {
            text.append(" sack ").append(sackName(watch, i)).append(' ').append(watch.grainIn(i)).append(' ');
            text.append(watch.miceIn(i)).append(' ').append(watch.isOpen(i)).append(' ').append(watch.eatenFrom(i));
        }
        for (int i = 0, count = watch.shiftCount(); i < count; i++) {
            text.append(" shift ").append(watch.catOfShift(i)).append(' ').append(watch.hoursOfShift(i));
        }
        text.append(" totals ").append(watch.totalCaught()).append(' ').append(watch.totalEaten()).append(' ');
        text.append(watch.totalBorn()).append(' ').append(watch.totalStarved()).append(' ');
        text.append(watch.totalOaths()).append(' ').append(watch.totalRefusals());
        return text.append(" events ").append(events(watch)).toString();
    }

    /** The state with the length of the input, the reported error and the output. */
    static String everything(GranaryWatch watch) {
        int length = watch.appendInput(0, 0, 0, 0, 0);
        watch.truncateInput(length - 20);
        return state(watch) + "input " + length + " error " + watch.errorCode() + " " + watch.errorOffset() + " output " + output(watch);
    }

    private static int four(byte[] bytes, int from) {
        int bits = 0;
        for (int i = from; i < from + 4; i++) {
            bits = bits << 8 | (i < bytes.length ? bytes[i] & 255 : 0);
        }
        return bits;
    }
}
