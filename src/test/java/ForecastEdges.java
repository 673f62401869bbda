/** The edges that promises 37 to 43 name: predictions. */
final class ForecastEdges {
    private static final int[] WRONG_HOURS = {-1, 201, Integer.MIN_VALUE, Integer.MAX_VALUE};
    private static final String WRONG = "Throws `IllegalArgumentException` if hours is out of range";
    private static final String SETUP = "cat a 5 left;cat b 3 right;cat c 9 right;sack d 600 20 open;sack e 90 4 shut;sack f 0 7 open;sack g 999 1 shut;"
            + "shift a 7;shift b 5;shift c 9;hour 13;milk 2;";

    private ForecastEdges() {
    }

    static void run() {
        miceAfter();
        grainAfter();
        swornAfter();
        hoursUntilUnguarded();
        hoursUntilEmpty();
        caughtWithin();
        bestFlap();
        bestFlapHours();
        onACopy();
        beyondTheLastHour();
    }

    private static GranaryWatch in200Hours() {
        GranaryWatch watch = Watch.of(SETUP);
        watch.letPass(99);
        watch.letPass(99);
        watch.letPass(2);
        return watch;
    }

    private static void miceAfter() {
        Sentence.promise(37, "Returns the number of mice after that many hours.");
        GranaryWatch watch = Watch.of(SETUP);
        GranaryWatch later = in200Hours();
        GranaryWatch next = Watch.of(SETUP);
        next.letPass(1);
        for (int sack = 0; sack < 4; sack++) {
            Check.same("0", watch.miceAfter(sack, 0), watch.miceIn(sack));
            Check.same("1", watch.miceAfter(sack, 1), next.miceIn(sack));
            Check.same("200", watch.miceAfter(sack, 200), later.miceIn(sack));
        }
        Check.same("some mice live on", later.miceIn(3), 1);
        GranaryWatch slow = Watch.of("cat a 1 left;sack b 200 1 shut;shift a 24;hour 1;");
        Check.same("199", slow.miceAfter(0, 199), 1);
        Check.same("just 200", slow.miceAfter(0, 200), 0);
        Sentence.promise(37, WRONG);
        for (int hours : WRONG_HOURS) {
            Check.raises("hours " + hours, IllegalArgumentException.class, () -> watch.miceAfter(0, hours));
        }
    }

    private static void grainAfter() {
        Sentence.promise(38, "Returns the grain after that many hours.");
        GranaryWatch watch = Watch.of(SETUP);
        GranaryWatch later = in200Hours();
        GranaryWatch next = Watch.of(SETUP);
        next.letPass(1);
        for (int sack = 0; sack < 4; sack++) {
            Check.same("0", watch.grainAfter(sack, 0), watch.grainIn(sack));
            Check.same("1", watch.grainAfter(sack, 1), next.grainIn(sack));
            Check.same("200", watch.grainAfter(sack, 200), later.grainIn(sack));
        }
        GranaryWatch slow = Watch.of("cat a 1 left;sack b 201 1 shut;shift a 24;hour 1;");
        Check.same("199", slow.grainAfter(0, 199), 2);
        Check.same("just 200", slow.grainAfter(0, 200), 1);
        Sentence.promise(38, WRONG);
        for (int hours : WRONG_HOURS) {
            Check.raises("hours " + hours, IllegalArgumentException.class, () -> watch.grainAfter(3, hours));
        }
    }

    private static void swornAfter() {
        Sentence.promise(39, "Returns the index of the cat that is sworn after that many hours, or NONE without one.");
        GranaryWatch watch = new GranaryWatch();
        Check.same("0", watch.swornAfter(0), 0);
        Check.same("3, before the first oath", watch.swornAfter(3), 0);
        Check.same("4, after it", watch.swornAfter(4), 1);
        Check.same("7, after a refusal", watch.swornAfter(7), -1);
        Check.same("23, before dawn", watch.swornAfter(23), -1);
        Check.same("24, at dawn", watch.swornAfter(24), 0);
        watch.dismiss();
        Check.same("0 after a dismissal", watch.swornAfter(0), -1);
        GranaryWatch days = Watch.of("cat a 1 left;cat b 1 right;sack c 0 0 open;" + "shift a 24;".repeat(8) + "shift a 8;shift b 1;hour 7;");
        Check.same("199", days.swornAfter(199), 0);
        Check.same("200", days.swornAfter(200), 1);
        Sentence.promise(39, WRONG);
        for (int hours : WRONG_HOURS) {
            Check.raises("hours " + hours, IllegalArgumentException.class, () -> watch.swornAfter(hours));
        }
    }

    private static void hoursUntilUnguarded() {
        Sentence.promise(40, "Returns the least number of hours after which there is no sworn cat, or NONE if that number would exceed 200.");
        GranaryWatch watch = new GranaryWatch();
        Check.same("7", watch.hoursUntilUnguarded(), 7);
        watch.letPass(6);
        Check.same("1", watch.hoursUntilUnguarded(), 1);
        watch.letPass(1);
        Check.same("0 after a refusal", watch.hoursUntilUnguarded(), 0);
        String days = "cat a 1 left;cat b 1 left;sack c 0 0 open;" + "shift a 24;".repeat(8) + "shift a H;shift b 1;hour 7;";
        Check.same("199", Watch.of(days.replace("H", "7")).hoursUntilUnguarded(), 199);
        Check.same("200", Watch.of(days.replace("H", "8")).hoursUntilUnguarded(), 200);
        GranaryWatch later = Watch.of(days.replace("H", "9"));
        Check.same("201", later.hoursUntilUnguarded(), -1);
        later.letPass(1);
        Check.same("200 from then on", later.hoursUntilUnguarded(), 200);
        Check.same("never", Watch.of("cat a 1 left;sack b 0 0 open;shift a 24;").hoursUntilUnguarded(), -1);
        GranaryWatch dawn = Watch.of("cat a 1 left;cat b 1 left;sack c 9 0 open;shift a 2;shift b 24;hour 4;");
        Check.same("not within an hour that ends with a dawn", dawn.hoursUntilUnguarded(), 28);
    }

    private static void hoursUntilEmpty() {
        Sentence.promise(41, "Returns the least number of hours after which the sack has no grain, or NONE if that number would exceed 200.");
        GranaryWatch watch = Watch.of("cat a 1 left;sack b 200 1 shut;sack c 201 1 shut;sack d 0 1 shut;sack e 9 0 shut;sack f 1 1 shut;sack g 199 1 shut;shift a 24;");
        Check.same("0", watch.hoursUntilEmpty(2), 0);
        Check.same("1", watch.hoursUntilEmpty(4), 1);
        Check.same("199", watch.hoursUntilEmpty(5), 199);
        Check.same("200", watch.hoursUntilEmpty(0), 200);
        Check.same("201", watch.hoursUntilEmpty(1), -1);
        Check.same("never", watch.hoursUntilEmpty(3), -1);
        watch.letPass(1);
        Check.same("200 from then on", watch.hoursUntilEmpty(1), 200);
    }

    private static void caughtWithin() {
        Sentence.promise(42, "Returns the number of mice that are caught in that many hours.");
        GranaryWatch watch = Watch.of(SETUP);
        Check.same("0", watch.caughtWithin(0), 0);
        Check.same("1", watch.caughtWithin(1), 5);
        Check.same("200", watch.caughtWithin(200), in200Hours().totalCaught());
        watch.letPass(3);
        Check.same("0 later", watch.caughtWithin(0), 0);
        Check.same("without those before", watch.caughtWithin(197), in200Hours().totalCaught() - watch.totalCaught());
        watch.dismiss();
        Check.same("without a cat", watch.caughtWithin(1), 0);
        // A cat hunts in the hour after each dawn alone, for the first time in the 8th hour and for the ninth time in the 200th.
        GranaryWatch daily = Watch.of("cat a 1 left;cat b 1 left;sack c 999 2 open;shift b 7;shift a 1;shift b 16;hour 23;");
        daily.dismiss();
        Check.same("199", daily.caughtWithin(199), 8);
        Check.same("just 200", daily.caughtWithin(200), 9);
        Sentence.promise(42, WRONG);
        for (int hours : WRONG_HOURS) {
            Check.raises("hours " + hours, IllegalArgumentException.class, () -> watch.caughtWithin(hours));
        }
    }

    private static void bestFlap() {
        Sentence.promise(43, "Returns the index of the sack for which the grain of all sacks after that many hours would be greatest if its flap was changed now;"
                + " the smallest index if several are equal; NONE if for no sack it would be greater than without a change.");
        GranaryWatch greatest = Watch.of("cat a 9 left;sack b 99 2 shut;sack c 99 9 shut;sack d 99 4 shut;shift a 24;hour 7;");
        Check.same("the greatest", greatest.bestFlapToChange(3), 1);
        GranaryWatch last = Watch.of("cat a 9 left;sack b 99 2 shut;sack c 99 3 shut;sack d 99 4 shut;shift a 24;hour 7;");
        Check.same("the last", last.bestFlapToChange(3), 2);
        GranaryWatch equal = Watch.of("cat a 5 left;sack b 99 0 shut;sack c 99 8 shut;sack d 99 8 shut;shift a 24;hour 7;");
        Check.same("the smallest of equals", equal.bestFlapToChange(3), 1);
        GranaryWatch first = Watch.of("cat a 5 left;sack b 99 8 shut;sack c 99 8 shut;shift a 24;hour 7;");
        Check.same("the first of equals", first.bestFlapToChange(3), 0);
        GranaryWatch six = Watch.of("cat a 9 left;shift a 24;hour 7;" + Texts.sacks(5).replace("1 1", "99 0") + "sack f 99 3 shut;");
        Check.same("the last of six", six.bestFlapToChange(3), 5);
        GranaryWatch none = Watch.of("cat a 1 left;sack b 99 0 open;sack c 99 0 shut;shift a 24;");
        Check.same("no sack is better", none.bestFlapToChange(200), -1);
        GranaryWatch worse = Watch.of("cat a 9 left;sack b 99 9 open;shift a 24;hour 7;");
        Check.same("the only sack is worse", worse.bestFlapToChange(5), -1);
        Sentence.promise(43, "Changing a flap opens a shut one and shuts an open one.");
        Check.same("a flap to open", first.bestFlapToChange(2), 0);
        // With its flap open the 50 move to c and eat there; behind a shut one 25 starve at once.
        GranaryWatch shut = Watch.of("cat a 1 left;sack b 0 50 open;sack c 999 1 open;shift a 24;hour 7;");
        Check.same("a flap to shut", shut.bestFlapToChange(2), 0);
    }

    private static void bestFlapHours() {
        Sentence.promise(43, "`hours`: number of hours, 0 to 200");
        GranaryWatch watch = Watch.of("cat a 5 left;sack b 999 1 shut;sack c 199 0 open;shift a 24;hour 7;");
        Check.same("0: all flaps are as good", watch.bestFlapToChange(0), -1);
        Check.same("1: the mouse eats before it is caught", watch.bestFlapToChange(1), -1);
        Check.same("2", watch.bestFlapToChange(2), 0);
        Check.same("200", watch.bestFlapToChange(200), 0);
        // c's last unit goes in the 200th hour; with both flaps open its mouse moves on and takes one more. The cat hunts for
        // one hour a day, always among the mice of d.
        GranaryWatch late = Watch.of("cat a 1 left;cat b 1 left;sack c 200 1 open;sack d 999 4 open;shift a 1;shift b 23;hour 6;");
        Check.same("199: not yet", late.bestFlapToChange(199), -1);
        Check.same("just 200", late.bestFlapToChange(200), 0);
        Sentence.promise(43, WRONG);
        for (int hours : WRONG_HOURS) {
            Check.raises("hours " + hours, IllegalArgumentException.class, () -> watch.bestFlapToChange(hours));
        }
    }

    private static void onACopy() {
        Sentence.of("Terms", "Predictions let hours pass on a copy, without a limit of the clock, and leave everything unchanged.");
        GranaryWatch watch = Watch.of(SETUP);
        watch.letPass(4);
        watch.saveState();
        watch.setMilk(1);
        Watch.run(watch, "wait 0;");
        Watch.append(watch, "milk 7;");
        watch.writeSacks();
        String before = Watch.everything(watch);
        watch.miceAfter(0, 200);
        watch.grainAfter(0, 200);
        watch.swornAfter(200);
        watch.hoursUntilUnguarded();
        watch.hoursUntilEmpty(3);
        watch.caughtWithin(200);
        watch.bestFlapToChange(200);
        Check.same("all of them", Watch.everything(watch), before);
        Check.same("the input stays", watch.runScript(), 1);
        Check.same("they are no changes", watch.undo(), 2);
        Check.same("the saved state stays", watch.restoreState(), 17);
    }

    private static void beyondTheLastHour() {
        Sentence.of("Terms", "Predictions let hours pass on a copy, without a limit of the clock,");
        GranaryWatch watch = AnswerEdges.late();
        watch.addMice(0, 60);
        watch.addGrain(0, 999);
        watch.addMice(1, 1);
        Check.same("37", watch.miceAfter(0, 1), 51);
        Check.same("38", watch.grainAfter(0, 1), 939);
        Check.same("39", watch.swornAfter(1), 0);
        Check.same("40", watch.hoursUntilUnguarded(), -1);
        Check.same("41", watch.hoursUntilEmpty(1), 9);
        Check.same("42", watch.caughtWithin(2), 18);
        Check.same("43", watch.bestFlapToChange(200), 1);
        Check.raises("though no hour can pass", IllegalStateException.class, () -> watch.letPass(1));
    }
}
