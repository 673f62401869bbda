/** Promises 37 to 43: predictions on a copy. */
public final class PredictionTest {
    private static final String SETUP = "cat a 5 left;cat b 3 right;cat c 9 right;sack d 300 20 open;sack e 90 4 shut;"
            + "sack f 0 7 open;sack g 500 2 shut;shift a 7;shift b 5;shift c 9;hour 13;milk 2;";

    public static void main(String[] args) {
        likeThePast();
        nothingChanges();
        beyondTheLastHour();
        unguarded();
        empty();
        bestFlap();
        bestFlapOfEquals();
        outOfRange();
        Check.end();
    }

    private static void likeThePast() {
        for (int hours = 0; hours <= 200; hours++) {
            GranaryWatch from = Watch.of(SETUP);
            GranaryWatch watch = Watch.of(SETUP);
            for (int left = hours; left > 0; left -= 99) {
                watch.letPass(Math.min(left, 99));
            }
            for (int sack = 0; sack < 4; sack++) {
                Check.same("37: " + hours, from.miceAfter(sack, hours), watch.miceIn(sack));
                Check.same("38: " + hours, from.grainAfter(sack, hours), watch.grainIn(sack));
            }
            Check.same("39: " + hours, from.swornAfter(hours), watch.swornCat());
            Check.same("42: " + hours, from.caughtWithin(hours), watch.totalCaught());
        }
        GranaryWatch later = Watch.of(SETUP);
        later.letPass(3);
        int caught = later.totalCaught();
        Check.same("42: only those to come", later.caughtWithin(1), later.letPass(1));
        Check.same("42: some were caught before", caught > 0, true);
    }

    private static void nothingChanges() {
        GranaryWatch watch = Watch.of(SETUP);
        watch.letPass(4);
        String before = Watch.state(watch);
        watch.miceAfter(0, 200);
        watch.grainAfter(0, 200);
        watch.swornAfter(200);
        watch.hoursUntilUnguarded();
        watch.hoursUntilEmpty(0);
        watch.caughtWithin(200);
        watch.bestFlapToChange(200);
        Check.same("predictions leave all unchanged", Watch.state(watch), before);
        Check.same("predictions are no changes", watch.undo(), 0);
    }

    private static void beyondTheLastHour() {
        GranaryWatch watch = Watch.of("cat a 9 left;sack b 0 0 open;shift a 24;");
        for (int i = 0; i < 100; i++) {
            watch.letPass(99);
        }
        watch.letPass(93);
        Check.same("8: the last hour", watch.clock(), 9999);
        watch.addMice(0, 60);
        watch.addGrain(0, 999);
        Check.same("37: beyond the last hour", watch.miceAfter(0, 1), 51);
        Check.same("38: beyond the last hour", watch.grainAfter(0, 1), 939);
        Check.same("39: beyond the last hour", watch.swornAfter(1), 0);
        Check.same("42: beyond the last hour", watch.caughtWithin(2), 18);
        Check.same("8: the clock stays", watch.clock(), 9999);
    }

    private static void unguarded() {
        GranaryWatch watch = new GranaryWatch();
        Check.same("40: the refusal of moss", watch.hoursUntilUnguarded(), 7);
        watch.letPass(6);
        Check.same("40: one hour", watch.hoursUntilUnguarded(), 1);
        watch.dismiss();
        Check.same("40: now", watch.hoursUntilUnguarded(), 0);
        GranaryWatch never = Watch.of("cat a 1 left;sack b 0 0 open;shift a 24;");
        Check.same("40: never", never.hoursUntilUnguarded(), -1);
        String days = "cat a 1 left;cat b 1 left;sack c 0 0 open;" + "shift a 24;".repeat(8) + "shift a H;shift b 1;hour 7;";
        Check.same("40: just 200", Watch.of(days.replace("H", "8")).hoursUntilUnguarded(), 200);
        Check.same("40: 201", Watch.of(days.replace("H", "9")).hoursUntilUnguarded(), -1);
        // After 2 and after 26 hours it is dawn, which swears in the cat that was refused.
        GranaryWatch dawn = Watch.of("cat a 1 left;cat b 1 left;sack c 9 0 open;shift a 2;shift b 24;hour 4;");
        Check.same("40: sworn again in the same hour", dawn.hoursUntilUnguarded(), 28);
    }

    private static void empty() {
        GranaryWatch watch = Watch.of("cat a 1 left;sack b 200 1 shut;sack c 201 1 shut;sack d 0 1 shut;sack e 9 0 shut;shift a 24;");
        Check.same("41: just 200", watch.hoursUntilEmpty(0), 200);
        Check.same("41: 201", watch.hoursUntilEmpty(1), -1);
        Check.same("41: now", watch.hoursUntilEmpty(2), 0);
        Check.same("41: never", watch.hoursUntilEmpty(3), -1);
        watch.letPass(1);
        Check.same("41: an hour less", watch.hoursUntilEmpty(0), 199);
        Check.same("41: 200 now", watch.hoursUntilEmpty(1), 200);
    }

    private static void bestFlap() {
        GranaryWatch watch = new GranaryWatch();
        Check.same("43: open oats", watch.bestFlapToChange(10), 1);
        Check.same("43: no hours", watch.bestFlapToChange(0), -1);
        GranaryWatch shut = Watch.of("cat a 9 left;sack b 0 50 open;sack c 999 1 open;shift a 24;hour 7;");
        // The hungry mice of b have nowhere to go if c is shut, and starve behind its own flap if b is.
        Check.same("43: shut b", shut.bestFlapToChange(2), 0);
        GranaryWatch none = Watch.of("cat a 1 left;sack b 99 0 open;sack c 99 0 shut;shift a 24;");
        Check.same("43: no sack", none.bestFlapToChange(200), -1);
        for (int hours = 0; hours <= 90; hours += 9) {
            bestOfAll(new GranaryWatch(), hours);
            bestOfAll(Watch.of(SETUP), hours);
        }
    }

    private static void bestOfAll(GranaryWatch watch, int hours) {
        int most = grainLater(watch, hours);
        int best = -1;
        for (int sack = 0; sack < watch.sackCount(); sack++) {
            turn(watch, sack);
            int grain = grainLater(watch, hours);
            watch.undo();
            if (grain > most) {
                most = grain;
                best = sack;
            }
        }
        Check.same("43: in " + hours + " hours", watch.bestFlapToChange(hours), best);
    }

    private static void turn(GranaryWatch watch, int sack) {
        if (watch.isOpen(sack)) {
            watch.shutFlap(sack);
        } else {
            watch.openFlap(sack);
        }
    }

    private static int grainLater(GranaryWatch watch, int hours) {
        int sum = 0;
        for (int sack = 0; sack < watch.sackCount(); sack++) {
            sum += watch.grainAfter(sack, hours);
        }
        return sum;
    }

    private static void bestFlapOfEquals() {
        GranaryWatch watch = Watch.of("cat a 5 left;sack b 99 0 shut;sack c 99 8 shut;sack d 99 8 shut;shift a 24;hour 7;");
        Check.same("43: the smallest of equals", watch.bestFlapToChange(3), 1);
    }

    private static void outOfRange() {
        GranaryWatch watch = new GranaryWatch();
        int[] wrong = {-1, 201, Integer.MIN_VALUE, Integer.MAX_VALUE};
        for (int hours : wrong) {
            Check.raises("37: " + hours, IllegalArgumentException.class, () -> watch.miceAfter(0, hours));
            Check.raises("38: " + hours, IllegalArgumentException.class, () -> watch.grainAfter(2, hours));
            Check.raises("39: " + hours, IllegalArgumentException.class, () -> watch.swornAfter(hours));
            Check.raises("42: " + hours, IllegalArgumentException.class, () -> watch.caughtWithin(hours));
            Check.raises("43: " + hours, IllegalArgumentException.class, () -> watch.bestFlapToChange(hours));
        }
        Check.same("all stays", Watch.state(watch), Watch.state(new GranaryWatch()));
    }
}
