/** Promises 44 to 52: totals, invariants, averages and shares. */
public final class TotalsTest {
    public static void main(String[] args) {
        totals();
        sinceTheSetup();
        consistency();
        averages();
        shares();
        Check.end();
    }

    private static void totals() {
        GranaryWatch watch = Watch.of("cat a 4 left;cat b 2 left;sack c 30 12 open;sack d 3 7 shut;shift a 3;shift b 5;hour 21;milk 0;");
        watch.letPass(1);
        // c: 12 eat 12, 4 are caught. d: 7 eat 3, 4 starve.
        Check.same("44: caught", watch.totalCaught(), 4);
        Check.same("45: eaten", watch.totalEaten(), 15);
        Check.same("46: born", watch.totalBorn(), 0);
        Check.same("47: starved", watch.totalStarved(), 4);
        watch.letPass(2);
        // c: 8 eat 8, 4 are caught, 4 eat 4 and grow to 6, 4 are caught. d: 2 of 3 and the last one starve.
        Check.same("44: caught later", watch.totalCaught(), 12);
        Check.same("45: eaten later", watch.totalEaten(), 27);
        Check.same("46: born later", watch.totalBorn(), 2);
        Check.same("47: starved later", watch.totalStarved(), 7);
        Check.same("48: oaths", watch.totalOaths(), 1);
        Check.same("49: the same paw is refused", watch.totalRefusals(), 1);
        watch.letPass(6);
        Check.same("48: dawn", watch.totalOaths(), 2);
        Check.same("49: refusals", watch.totalRefusals(), 1);
    }

    private static void sinceTheSetup() {
        GranaryWatch watch = new GranaryWatch();
        watch.letPass(60);
        Check.same("49: some", watch.totalRefusals() > 0, true);
        Check.same("46: mice stay extinct", watch.totalBorn(), 0);
        Watch.load(watch, "cat a 4 left;sack c 30 12 open;shift a 3;");
        Check.same("44: new", watch.totalCaught(), 0);
        Check.same("45: new", watch.totalEaten(), 0);
        Check.same("46: new", watch.totalBorn(), 0);
        Check.same("47: new", watch.totalStarved(), 0);
        Check.same("48: new", watch.totalOaths(), 1);
        Check.same("49: new", watch.totalRefusals(), 0);
    }

    private static void consistency() {
        GranaryWatch watch = new GranaryWatch();
        Check.same("50: at first", watch.isConsistent(), true);
        for (int i = 0; i < 40; i++) {
            watch.letPass(i + 1);
            Check.same("50: after hours", watch.isConsistent(), true);
            watch.addMice(i % 3, 9);
            Check.same("50: after mice", watch.isConsistent(), true);
            watch.addGrain(i % 3, 7 * i + 1);
            Check.same("50: after grain", watch.isConsistent(), true);
            if (i % 5 == 0) {
                watch.undo();
                Check.same("50: after undo", watch.isConsistent(), true);
            }
            if (i % 7 == 0) {
                watch.saveState();
            }
            if (i % 11 == 0) {
                watch.restoreState();
                Check.same("50: after restoring", watch.isConsistent(), true);
            }
        }
        Watch.load(watch, "cat a 4 left;sack c 30 12 open;shift a 3;");
        Check.same("50: after a setup", watch.isConsistent(), true);
    }

    private static void averages() {
        GranaryWatch watch = Watch.of("cat a 1 left;cat b 1 right;cat c 1 right;sack d 999 20 open;shift a 10;shift b 9;hour 7;");
        Check.sameDouble("51: at first", watch.averageTiredness(), 0.0);
        watch.letPass(1);
        Check.sameDouble("51: a third", watch.averageTiredness(), 1.0 / 3.0);
        watch.letPass(9);
        Check.sameDouble("51: ten thirds", watch.averageTiredness(), 10.0 / 3.0);
        watch.letPass(1);
        Check.sameDouble("51: two cats", watch.averageTiredness(), (9.0 + 1.0) / 3.0);
    }

    private static void shares() {
        GranaryWatch watch = Watch.of("cat a 5 left;cat b 2 right;cat c 1 right;sack d 999 70 open;shift a 1;shift b 1;hour 7;");
        Check.sameDouble("52: no mouse", watch.shareOf(0), 0.0f);
        watch.letPass(1);
        Check.sameDouble("52: all", watch.shareOf(0), 1.0f);
        Check.sameDouble("52: none", watch.shareOf(1), 0.0f);
        watch.letPass(1);
        Check.sameDouble("52: five of seven", watch.shareOf(0), 5.0f / 7.0f);
        Check.sameDouble("52: two of seven", watch.shareOf(1), 2.0f / 7.0f);
        Check.sameDouble("52: none of seven", watch.shareOf(2), 0.0f);
    }
}
