import java.util.List;
import java.util.NoSuchElementException;

/** Promises 53 to 60 and 63 to 64: changes, undo, the saved state. */
public final class ChangeTest {
    public static void main(String[] args) {
        lettingPass();
        lastHour();
        flaps();
        mice();
        grain();
        dismissing();
        settingMilk();
        throwingIsNoChange();
        undoing();
        undoingEight();
        undoingLeaves();
        bringingEventsBack();
        saving();
        restoring();
        Check.end();
    }

    private static void lettingPass() {
        GranaryWatch watch = new GranaryWatch();
        GranaryWatch same = new GranaryWatch();
        int caught = watch.letPass(99);
        int sum = 0;
        for (int i = 0; i < 99; i++) {
            sum += same.letPass(1);
        }
        Check.same("53: caught", caught, sum);
        Check.same("53: hour by hour", Watch.state(watch), Watch.state(same));
        int[] wrong = {0, 100, -1, Integer.MIN_VALUE, Integer.MAX_VALUE};
        for (int hours : wrong) {
            Check.raises("53: " + hours, IllegalArgumentException.class, () -> watch.letPass(hours));
        }
        Check.same("53: only the mice of these hours", Watch.of("cat a 1 left;sack b 9 3 open;shift a 9;").letPass(1), 1);
    }

    private static void lastHour() {
        GranaryWatch watch = new GranaryWatch();
        for (int i = 0; i < 100; i++) {
            watch.letPass(99);
        }
        Check.same("53: clock", watch.clock(), 9906);
        String before = Watch.state(watch);
        Check.raises("53: beyond 9999", IllegalStateException.class, () -> watch.letPass(94));
        Check.raises("53: far beyond 9999", IllegalStateException.class, () -> watch.letPass(99));
        Check.raises("53: out of range first", IllegalArgumentException.class, () -> watch.letPass(100));
        Check.same("53: unchanged", Watch.state(watch), before);
        watch.letPass(93);
        Check.same("53: just 9999", watch.clock(), 9999);
        Check.raises("53: one beyond", IllegalStateException.class, () -> watch.letPass(1));
    }

    private static void flaps() {
        GranaryWatch watch = new GranaryWatch();
        Check.raises("54: open already", IllegalStateException.class, () -> watch.openFlap(0));
        Check.raises("55: shut already", IllegalStateException.class, () -> watch.shutFlap(1));
        Check.same("54: three open", watch.openFlap(1), 3);
        Check.same("54: open", watch.isOpen(1), true);
        Check.raises("54: open now", IllegalStateException.class, () -> watch.openFlap(1));
        Check.same("55: two open", watch.shutFlap(0), 2);
        Check.same("55: shut", watch.isOpen(0), false);
        Check.same("55: one open", watch.shutFlap(2), 1);
        Check.same("55: none open", watch.shutFlap(1), 0);
        Check.raises("55: shut now", IllegalStateException.class, () -> watch.shutFlap(1));
        Check.same("54: one open", watch.openFlap(2), 1);
    }

    private static void mice() {
        GranaryWatch watch = new GranaryWatch();
        int[] wrong = {0, 100, -1, Integer.MIN_VALUE, Integer.MAX_VALUE};
        for (int mice : wrong) {
            Check.raises("56: " + mice, IllegalArgumentException.class, () -> watch.addMice(0, mice));
        }
        Check.raises("56: more than 99", IllegalStateException.class, () -> watch.addMice(0, 96));
        Check.same("56: unchanged", watch.miceIn(0), 4);
        Check.same("56: one", watch.addMice(0, 1), 5);
        Check.same("56: just 99", watch.addMice(0, 94), 99);
        Check.raises("56: no room", IllegalStateException.class, () -> watch.addMice(0, 1));
        Check.same("56: elsewhere", watch.addMice(2, 97), 99);
        Watch.load(watch, "cat a 1 left;sack b 0 0 shut;shift a 1;");
        Check.same("56: 99 at once", watch.addMice(0, 99), 99);
    }

    private static void grain() {
        GranaryWatch watch = new GranaryWatch();
        int[] wrong = {0, 1000, -1, Integer.MIN_VALUE, Integer.MAX_VALUE};
        for (int grain : wrong) {
            Check.raises("57: " + grain, IllegalArgumentException.class, () -> watch.addGrain(0, grain));
        }
        for (int i = 1; i <= 9; i++) {
            Check.same("57: the most at once", watch.addGrain(0, 999), 60 + 999 * i);
        }
        Check.raises("57: more than 9999", IllegalStateException.class, () -> watch.addGrain(0, 949));
        Check.same("57: unchanged", watch.grainIn(0), 9051);
        Check.same("57: just 9999", watch.addGrain(0, 948), 9999);
        Check.raises("57: no room", IllegalStateException.class, () -> watch.addGrain(0, 1));
        Check.same("57: elsewhere", watch.addGrain(2, 1), 9);
    }

    private static void dismissing() {
        GranaryWatch watch = new GranaryWatch();
        watch.letPass(4);
        String events = Watch.events(watch);
        Check.same("58: the cat", watch.dismiss(), 1);
        Check.same("58: no sworn cat", watch.swornCat(), -1);
        Check.same("58: no refusal", watch.totalRefusals(), 0);
        Check.same("58: no event", Watch.events(watch), events);
        Check.same("58: its shift goes on", watch.currentShift(), 1);
        Check.raises("58: nobody", IllegalStateException.class, watch::dismiss);
        Check.same("58: the first cat", new GranaryWatch().dismiss(), 0);
    }

    private static void settingMilk() {
        GranaryWatch watch = new GranaryWatch();
        Check.same("59: before", watch.setMilk(0), 3);
        Check.same("59: before that", watch.setMilk(9), 0);
        Check.same("59: the same again", watch.setMilk(9), 9);
        int[] wrong = {-1, 10, Integer.MIN_VALUE, Integer.MAX_VALUE};
        for (int milk : wrong) {
            Check.raises("59: " + milk, IllegalArgumentException.class, () -> watch.setMilk(milk));
        }
        Check.same("59: unchanged", watch.milk(), 9);
        Check.same("59: without effect, a change still", watch.undo(), 2);
    }

    private static void throwingIsNoChange() {
        GranaryWatch watch = new GranaryWatch();
        watch.setMilk(5);
        Check.raises("53", IllegalArgumentException.class, () -> watch.letPass(0));
        Check.raises("54", IllegalStateException.class, () -> watch.openFlap(0));
        Check.raises("55", IllegalStateException.class, () -> watch.shutFlap(1));
        Check.raises("56", IllegalStateException.class, () -> watch.addMice(0, 99));
        Check.raises("56", IllegalArgumentException.class, () -> watch.addMice(0, 100));
        Check.raises("57", IllegalArgumentException.class, () -> watch.addGrain(0, 1000));
        Check.raises("59", IllegalArgumentException.class, () -> watch.setMilk(10));
        Check.same("60: only one change", watch.undo(), 0);
    }

    private static void undoing() {
        GranaryWatch fresh = new GranaryWatch();
        Check.raises("60: nothing", NoSuchElementException.class, fresh::undo);
        for (int left = 7; left >= 0; left--) {
            GranaryWatch watch = new GranaryWatch();
            changes(watch, 8);
            for (int i = 7; i >= left; i--) {
                Check.same("60: changes left", watch.undo(), i);
            }
            GranaryWatch due = new GranaryWatch();
            changes(due, left);
            Check.same("60: back", Watch.state(watch), Watch.state(due));
            Check.same("50: consistent", watch.isConsistent(), true);
            if (left == 0) {
                Check.raises("60: nothing left", NoSuchElementException.class, watch::undo);
                Check.same("60: unchanged", Watch.state(watch), Watch.state(fresh));
            }
        }
    }

    private static void changes(GranaryWatch watch, int count) {
        List<Runnable> changes = List.of(() -> watch.letPass(50), () -> watch.openFlap(1), () -> watch.shutFlap(0),
                () -> watch.addMice(0, 7), () -> watch.addGrain(0, 7), watch::dismiss, () -> watch.setMilk(7),
                () -> Watch.run(watch, "wait 9;milk 8;"));
        changes.subList(0, count).forEach(Runnable::run);
    }

    private static void undoingEight() {
        GranaryWatch watch = new GranaryWatch();
        for (int i = 0; i < 23; i++) {
            watch.letPass(1);
        }
        for (int i = 7; i >= 4; i--) {
            Check.same("60: at most eight", watch.undo(), i);
        }
        Check.same("60: four hours back", watch.clock(), 25);
        watch.setMilk(1);
        watch.setMilk(2);
        Check.same("60: after new changes", watch.undo(), 5);
        Check.same("60: milk", watch.milk(), 1);
        for (int i = 4; i >= 0; i--) {
            Check.same("60: the older ones", watch.undo(), i);
        }
        Check.same("60: eight hours back", watch.clock(), 21);
        Check.raises("60: no ninth", NoSuchElementException.class, watch::undo);
    }

    private static void undoingLeaves() {
        GranaryWatch watch = new GranaryWatch();
        Watch.run(watch, "x");
        watch.letPass(2);
        watch.saveState();
        watch.writeSacks();
        String output = Watch.output(watch);
        Watch.append(watch, "milk 1");
        watch.undo();
        Check.same("60: the output stays", Watch.output(watch), output);
        Check.same("60: the error stays", watch.errorCode(), GranaryWatch.SYNTAX);
        Check.same("60: the error offset stays", watch.errorOffset(), 0);
        Watch.append(watch, ";");
        Check.same("60: the input stays", watch.runScript(), 1);
        Check.same("60: the saved state stays", watch.restoreState(), 8);
    }

    private static void bringingEventsBack() {
        // 20 hunts fill the stored events; after them a dawn, oaths of the other cat and hunts push all of them out.
        GranaryWatch watch = Watch.of("cat a 2 left;cat b 1 right;sack c 999 40 open;shift a 22;shift b 1;shift a 1;hour 7;");
        watch.letPass(20);
        String events = Watch.events(watch);
        watch.saveState();
        watch.letPass(40);
        Check.same("32: others now", Watch.events(watch).equals(events), false);
        watch.undo();
        Check.same("60: the events are back", Watch.events(watch), events);
        watch.letPass(40);
        watch.restoreState();
        Check.same("64: the events are back", Watch.events(watch), events);
    }

    private static void saving() {
        GranaryWatch watch = new GranaryWatch();
        Check.raises("64: nothing saved", NoSuchElementException.class, watch::restoreState);
        watch.letPass(30);
        watch.addMice(1, 8);
        Check.same("63: the clock", watch.saveState(), 36);
        Check.same("63: is no change", watch.undo(), 1);
        watch.letPass(9);
        Check.same("63: the clock of now", watch.saveState(), 45);
        watch.letPass(9);
        Check.same("64: the later one", watch.restoreState(), 45);
    }

    private static void restoring() {
        GranaryWatch watch = new GranaryWatch();
        watch.letPass(30);
        watch.addMice(1, 8);
        watch.setMilk(1);
        watch.saveState();
        String saved = Watch.state(watch);
        for (int i = 0; i < 3; i++) {
            Watch.run(watch, "wait 40;mice oats 9;grain rye 99;milk 8;open oats;shut rye;");
            watch.writeSacks();
            String output = Watch.output(watch);
            Check.same("64: the clock", watch.restoreState(), 36);
            Check.same("64: the output stays", Watch.output(watch), output);
            Check.same("50: consistent", watch.isConsistent(), true);
            Check.raises("64: nothing to undo", NoSuchElementException.class, watch::undo);
        }
        Check.same("64: the state", Watch.state(watch), saved);
        watch.setMilk(9);
        Check.same("64: changes after it", watch.undo(), 0);
        Watch.append(watch, "wait 1;");
        watch.restoreState();
        Check.same("64: the input stays", watch.runScript(), 1);
    }
}
