import java.nio.charset.StandardCharsets;

/** Fills granaries with texts, and reads longer answers from them. */
final class Watch {
    private Watch() {
    }

    /** Appends a text of any length: appendInput takes 20 bytes, so the rest is cut off again. */
    static void append(GranaryWatch watch, String text) {
        byte[] bytes = text.getBytes(StandardCharsets.ISO_8859_1);
        for (int from = 0; from < bytes.length; from += 20) {
            int length = watch.appendInput(four(bytes, from), four(bytes, from + 4), four(bytes, from + 8),
                    four(bytes, from + 12), four(bytes, from + 16));
            if (length < 0) {
                throw new IllegalArgumentException("the text is too long for a test");
            }
            int surplus = Math.max(from + 20 - bytes.length, 0);
            watch.truncateInput(length - surplus);
        }
    }

    static int load(GranaryWatch watch, String text) {
        append(watch, text);
        return watch.loadGranary();
    }

    static int run(GranaryWatch watch, String text) {
        append(watch, text);
        return watch.runScript();
    }

    static GranaryWatch of(String setup) {
        GranaryWatch watch = new GranaryWatch();
        if (load(watch, setup) < 1) {
            throw new IllegalArgumentException("the setup of a test has an error: " + setup);
        }
        return watch;
    }

    static String output(GranaryWatch watch) {
        StringBuilder text = new StringBuilder();
        for (int i = 0; watch.outputByte(i) != GranaryWatch.NONE; i++) {
            text.append((char) watch.outputByte(i));
        }
        return text.toString();
    }

    static String written(GranaryWatch watch) {
        watch.writeSacks();
        return output(watch);
    }

    static String catName(GranaryWatch watch, int cat) {
        StringBuilder text = new StringBuilder();
        for (int i = 0; watch.catNameByte(cat, i) != GranaryWatch.NONE; i++) {
            text.append((char) watch.catNameByte(cat, i));
        }
        return text.toString();
    }

    static String sackName(GranaryWatch watch, int sack) {
        StringBuilder text = new StringBuilder();
        for (int i = 0; watch.sackNameByte(sack, i) != GranaryWatch.NONE; i++) {
            text.append((char) watch.sackNameByte(sack, i));
        }
        return text.toString();
    }

    static String events(GranaryWatch watch) {
        StringBuilder text = new StringBuilder();
        for (int i = 0; i < watch.eventCount(); i++) {
            text.append(watch.eventKind(i)).append(',').append(watch.eventCat(i)).append(',');
            text.append(watch.eventNumber(i)).append(' ');
        }
        return text.toString();
    }

    /** All that promises tell of the state, without the input, the reported error, the output and the saved state. */
    static String state(GranaryWatch watch) {
        StringBuilder text = new StringBuilder();
        text.append("clock ").append(watch.clock()).append(" milk ").append(watch.milk());
        text.append(" sworn ").append(watch.swornCat()).append(" shift ").append(watch.currentShift());
        text.append(" left ").append(watch.hoursLeft());
        for (int i = 0; i < watch.catCount(); i++) {
            text.append(" cat ").append(catName(watch, i)).append(' ').append(watch.speedOf(i)).append(' ');
            text.append(watch.isLeftPawed(i)).append(' ').append(watch.tirednessOf(i)).append(' ');
            text.append(watch.caughtBy(i)).append(' ').append(watch.oathsOf(i));
        }
        for (int i = 0; i < watch.sackCount(); i++) {
            text.append(" sack ").append(sackName(watch, i)).append(' ').append(watch.grainIn(i)).append(' ');
            text.append(watch.miceIn(i)).append(' ').append(watch.isOpen(i)).append(' ').append(watch.eatenFrom(i));
        }
        for (int i = 0; i < watch.shiftCount(); i++) {
            text.append(" shift ").append(watch.catOfShift(i)).append(' ').append(watch.hoursOfShift(i));
        }
        text.append(" totals ").append(watch.totalCaught()).append(' ').append(watch.totalEaten()).append(' ');
        text.append(watch.totalBorn()).append(' ').append(watch.totalStarved()).append(' ');
        text.append(watch.totalOaths()).append(' ').append(watch.totalRefusals());
        return text.append(" events ").append(events(watch)).toString();
    }

    private static int four(byte[] bytes, int from) {
        int bits = 0;
        for (int i = from; i < from + 4; i++) {
            bits = bits << 8 | (i < bytes.length ? bytes[i] & 255 : 0);
        }
        return bits;
    }
}
