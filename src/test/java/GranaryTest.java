import java.util.function.IntConsumer;

/** Promises 8 to 29: what is told of the clock, the cats, the sacks and the shifts. */
public final class GranaryTest {
    private static final String SETUP = "cat ab 9 left;cat cdefgh 4 right;cat i 1 right;sack z 40 12 open;sack yxwvut 0 5 shut;"
            + "shift cdefgh 2;shift ab 24;shift i 1;shift cdefgh 3;hour 22;milk 1;";

    public static void main(String[] args) {
        counts();
        names();
        cats();
        sacks();
        shifts();
        noSuchIndex();
        Check.end();
    }

    private static void counts() {
        GranaryWatch watch = Watch.of(SETUP);
        Check.same("8: at first", watch.clock(), 22);
        Check.same("9: at first", watch.hourOfDay(), 22);
        watch.letPass(1);
        Check.same("9: the last hour of the day", watch.hourOfDay(), 23);
        watch.letPass(1);
        Check.same("8: next day", watch.clock(), 24);
        Check.same("9: next day", watch.hourOfDay(), 0);
        watch.letPass(99);
        Check.same("8: later", watch.clock(), 123);
        Check.same("9: later", watch.hourOfDay(), 3);
        Check.same("10: cats", watch.catCount(), 3);
        Check.same("11: sacks", watch.sackCount(), 2);
        Check.same("12: shifts", watch.shiftCount(), 4);
    }

    private static void names() {
        GranaryWatch watch = Watch.of(SETUP);
        Check.same("13: first letter", watch.catNameByte(0, 0), 'a');
        Check.same("13: last letter", watch.catNameByte(0, 1), 'b');
        Check.same("13: beyond", watch.catNameByte(0, 2), -1);
        Check.same("13: sixth letter", watch.catNameByte(1, 5), 'h');
        Check.same("13: seventh letter", watch.catNameByte(1, 6), -1);
        Check.same("13: negative", watch.catNameByte(1, -1), -1);
        Check.same("13: most", watch.catNameByte(1, Integer.MAX_VALUE), -1);
        Check.same("13: least", watch.catNameByte(1, Integer.MIN_VALUE), -1);
        Check.same("14: first letter", watch.sackNameByte(1, 0), 'y');
        Check.same("14: sixth letter", watch.sackNameByte(1, 5), 't');
        Check.same("14: seventh letter", watch.sackNameByte(1, 6), -1);
        Check.same("14: beyond", watch.sackNameByte(0, 1), -1);
        Check.same("14: negative", watch.sackNameByte(0, -1), -1);
        Check.same("14: least", watch.sackNameByte(0, Integer.MIN_VALUE), -1);
    }

    private static void cats() {
        GranaryWatch watch = Watch.of(SETUP);
        Check.same("15: fast", watch.speedOf(0), 9);
        Check.same("15: slow", watch.speedOf(2), 1);
        Check.same("16: left", watch.isLeftPawed(0), true);
        Check.same("16: right", watch.isLeftPawed(1), false);
        Check.same("17: at first", watch.tirednessOf(1), 0);
        Check.same("19: at first", watch.caughtBy(1), 0);
        Check.same("20: the first sworn cat", watch.oathsOf(1), 1);
        Check.same("20: another cat", watch.oathsOf(0), 0);
        watch.letPass(2);
        // 12 mice: cdefgh catches 4 of 12, then the 8 grow to 12 at midnight and it catches 4 of them.
        Check.same("17: after two hunts", watch.tirednessOf(1), 2);
        Check.same("17: at rest", watch.tirednessOf(0), 0);
        Check.same("19: after two hunts", watch.caughtBy(1), 8);
        Check.same("20: sworn in by an oath", watch.oathsOf(0), 1);
        Check.same("18: speed is strength at first", watch.strengthOf(0), 9);
        Check.same("18: not yet weaker", watch.strengthOf(1), 4);
        GranaryWatch tired = Watch.of("cat a 2 left;sack b 900 1 open;shift a 24;hour 7;");
        int[] strengths = {2, 2, 2, 2, 1, 1, 1, 1, 0, 0, 0, 0, 0};
        for (int hours = 0; hours < strengths.length; hours++) {
            Check.same("17: hours of hunting", tired.tirednessOf(0), hours);
            Check.same("18: strength at tiredness " + hours, tired.strengthOf(0), strengths[hours]);
            if (tired.miceIn(0) < 5) {
                tired.addMice(0, 5);
            }
            tired.letPass(1);
        }
    }

    private static void sacks() {
        GranaryWatch watch = Watch.of(SETUP);
        Check.same("21: grain", watch.grainIn(0), 40);
        Check.same("21: no grain", watch.grainIn(1), 0);
        Check.same("22: mice", watch.miceIn(0), 12);
        Check.same("23: open", watch.isOpen(0), true);
        Check.same("23: shut", watch.isOpen(1), false);
        Check.same("24: at first", watch.eatenFrom(0), 0);
        watch.letPass(1);
        Check.same("21: eaten", watch.grainIn(0), 28);
        Check.same("22: caught", watch.miceIn(0), 8);
        Check.same("22: starved", watch.miceIn(1), 2);
        Check.same("24: eaten", watch.eatenFrom(0), 12);
        Check.same("24: nothing there", watch.eatenFrom(1), 0);
        watch.letPass(1);
        Check.same("24: eaten in two hours", watch.eatenFrom(0), 20);
    }

    private static void shifts() {
        GranaryWatch watch = Watch.of(SETUP);
        Check.same("25: sworn", watch.swornCat(), 1);
        Check.same("26: first", watch.currentShift(), 0);
        Check.same("27: all left", watch.hoursLeft(), 2);
        watch.letPass(1);
        Check.same("27: one left", watch.hoursLeft(), 1);
        Check.same("26: still first", watch.currentShift(), 0);
        watch.letPass(1);
        Check.same("25: the next cat", watch.swornCat(), 0);
        Check.same("26: second", watch.currentShift(), 1);
        Check.same("27: all left again", watch.hoursLeft(), 24);
        watch.dismiss();
        Check.same("25: none", watch.swornCat(), -1);
        watch.letPass(24);
        Check.same("26: third", watch.currentShift(), 2);
        watch.letPass(1);
        Check.same("26: fourth", watch.currentShift(), 3);
        Check.same("27: three left", watch.hoursLeft(), 3);
        watch.letPass(3);
        Check.same("26: first again", watch.currentShift(), 0);
        Check.same("27: two left", watch.hoursLeft(), 2);
        int[] cats = {1, 0, 2, 1};
        int[] hours = {2, 24, 1, 3};
        for (int i = 0; i < 4; i++) {
            Check.same("28: cat of a shift", watch.catOfShift(i), cats[i]);
            Check.same("29: hours of a shift", watch.hoursOfShift(i), hours[i]);
        }
    }

    private static void noSuchIndex() {
        GranaryWatch watch = Watch.of(SETUP);
        wrong("13", 3, i -> watch.catNameByte(i, 0));
        wrong("14", 2, i -> watch.sackNameByte(i, 0));
        wrong("15", 3, watch::speedOf);
        wrong("16", 3, watch::isLeftPawed);
        wrong("17", 3, watch::tirednessOf);
        wrong("18", 3, watch::strengthOf);
        wrong("19", 3, watch::caughtBy);
        wrong("20", 3, watch::oathsOf);
        wrong("21", 2, watch::grainIn);
        wrong("22", 2, watch::miceIn);
        wrong("23", 2, watch::isOpen);
        wrong("24", 2, watch::eatenFrom);
        wrong("28", 4, watch::catOfShift);
        wrong("29", 4, watch::hoursOfShift);
        wrong("30", 3, watch::oathReason);
        wrong("37", 2, i -> watch.miceAfter(i, 1));
        wrong("37: before the hours", 2, i -> watch.miceAfter(i, -1));
        wrong("38", 2, i -> watch.grainAfter(i, 1));
        wrong("38: before the hours", 2, i -> watch.grainAfter(i, 201));
        wrong("41", 2, watch::hoursUntilEmpty);
        wrong("52", 3, watch::shareOf);
        wrong("54", 2, watch::openFlap);
        wrong("55", 2, watch::shutFlap);
        wrong("56", 2, i -> watch.addMice(i, 1));
        wrong("56: before the mice", 2, i -> watch.addMice(i, 0));
        wrong("57", 2, i -> watch.addGrain(i, 1));
        wrong("57: before the grain", 2, i -> watch.addGrain(i, 1000));
        Check.same("all stays", Watch.state(watch), Watch.state(Watch.of(SETUP)));
        Check.raises("no change", java.util.NoSuchElementException.class, watch::undo);
    }

    private static void wrong(String promise, int count, IntConsumer call) {
        int[] indexes = {-1, count, count + 1, Integer.MIN_VALUE, Integer.MAX_VALUE};
        for (int index : indexes) {
            Check.raises(promise + ": index " + index, IndexOutOfBoundsException.class, () -> call.accept(index));
        }
    }
}
