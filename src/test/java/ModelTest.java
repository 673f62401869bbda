import java.util.Random;
import java.util.function.Supplier;

/**
 * Runs of calls, made up from fixed seeds, are answered alike by the class and by the model. What an object answers after
 * its 512th call is free, so a run counts its calls and leaves enough of them to read the state at its end.
 */
public final class ModelTest {
    private static final int RUNS = 3000;
    private static final int MOST_CALLS = 512;
    private static final int CALLS_OF_A_TEXT = 34;
    private static final int CALLS_OF_THE_STATE = 270;

    private final Random random;
    private final GranaryWatch watch = new GranaryWatch();
    private final Model model = new Model();
    private final int seed;
    private int calls;

    private ModelTest(int seed) {
        this.seed = seed;
        random = new Random(seed);
    }

    public static void main(String[] args) {
        for (int seed = 0; seed < RUNS; seed++) {
            new ModelTest(seed).run();
        }
        Check.end();
    }

    private void run() {
        if (random.nextInt(8) > 0) {
            load(setup());
        }
        if (seed % 16 == 0) {
            comeNearTheLimits();
        }
        int end = calls + random.nextInt(MOST_CALLS - CALLS_OF_THE_STATE - CALLS_OF_A_TEXT - calls);
        while (calls < end) {
            act();
            Check.same("50: run " + seed, watch.isConsistent(), true);
            calls++;
        }
        if (random.nextInt(3) > 0) {
            Check.same("state in run " + seed, Watch.state(watch), model.state());
        } else {
            answers();
        }
    }

    /** Short runs would never fill a sack nor reach the last hour of the clock. */
    private void comeNearTheLimits() {
        for (int i = 0; i < 100; i++) {
            same("53", () -> watch.letPass(99), () -> model.letPass(99));
        }
        int hours = 9999 - model.get("clock") - random.nextInt(24);
        same("53", () -> watch.letPass(hours), () -> model.letPass(hours));
        for (int i = 0; i < 10; i++) {
            same("57", () -> watch.addGrain(0, 999), () -> model.addGrain(0, 999));
        }
    }

    private void act() {
        int sack = number(-1, 6, 4);
        switch (random.nextInt(16)) {
            case 0, 1, 2, 3 -> {
                int hours = random.nextInt(4) > 0 ? 1 + random.nextInt(9) : number(0, 100, 24);
                same("53", () -> watch.letPass(hours), () -> model.letPass(hours));
            }
            case 4 -> same("54", () -> watch.openFlap(sack), () -> model.turn(sack, 1));
            case 5 -> same("55", () -> watch.shutFlap(sack), () -> model.turn(sack, 0));
            case 6, 7 -> {
                int mice = number(0, 100, 30);
                same("56", () -> watch.addMice(sack, mice), () -> model.addMice(sack, mice));
            }
            case 8 -> {
                int grain = number(0, 1000, 200);
                same("57", () -> watch.addGrain(sack, grain), () -> model.addGrain(sack, grain));
            }
            case 9 -> {
                int milk = number(-1, 10, 9);
                same("59", () -> watch.setMilk(milk), () -> model.setMilk(milk));
            }
            case 10 -> same("58", watch::dismiss, model::dismiss);
            case 11 -> same("60", watch::undo, model::undo);
            case 12 -> same("63", watch::saveState, model::save);
            case 13 -> same("64", watch::restoreState, model::restore);
            case 14 -> script();
            default -> {
                if (random.nextInt(3) == 0) {
                    load(setup());
                } else {
                    predictions(sack);
                }
            }
        }
    }

    private void predictions(int sack) {
        int hours = number(-1, 201, 60);
        same("37", () -> watch.miceAfter(sack, hours), () -> model.after(sack, hours, ".mice"));
        same("38", () -> watch.grainAfter(sack, hours), () -> model.after(sack, hours, ".grain"));
        same("39", () -> watch.swornAfter(hours), () -> model.after(hours).get("sworn"));
        same("40", watch::hoursUntilUnguarded, () -> model.until("sworn", -1));
        same("41", () -> watch.hoursUntilEmpty(sack), () -> model.untilEmpty(sack));
        same("42", () -> watch.caughtWithin(hours), () -> model.caughtWithin(hours));
        same("43", () -> watch.bestFlapToChange(hours), () -> model.bestFlap(hours));
    }

    private void answers() {
        Check.same("61: run " + seed, Watch.written(watch), model.written());
        Check.same("31: run " + seed, watch.huntingSack(), model.huntingSack());
        Check.sameDouble("51: run " + seed, watch.averageTiredness(), model.averageTiredness());
        for (int cat = 0; cat < watch.catCount(); cat++) {
            Check.same("18: run " + seed, watch.strengthOf(cat), model.strength(cat));
            Check.same("30: run " + seed, watch.oathReason(cat), model.reason(cat));
            int caught = model.get("caught");
            float share = caught == 0 ? 0 : (float) model.get("cat" + cat + ".caught") / (float) caught;
            Check.sameDouble("52: run " + seed, watch.shareOf(cat), share);
        }
    }

    private void load(String text) {
        Check.same("4: " + text, Watch.load(watch, text), model.load(text));
        errors(text);
    }

    private void script() {
        StringBuilder text = new StringBuilder();
        for (int i = random.nextInt(20) == 0 ? 33 : random.nextInt(9); i > 0; i--) {
            text.append(statement());
        }
        String spoiled = spoil(text.toString());
        Check.same("5: " + spoiled, Watch.run(watch, spoiled), model.run(spoiled));
        errors(spoiled);
    }

    private void errors(String text) {
        calls += CALLS_OF_A_TEXT;
        Check.same("6: " + text, watch.errorCode(), model.errorCode);
        Check.same("7: " + text, watch.errorOffset(), model.errorOffset);
    }

    private String statement() {
        String sack = random.nextInt(30) == 0 ? "nosack" : model.sackName(random.nextInt(model.sackCount()));
        return switch (random.nextInt(7)) {
            case 0 -> "wait " + (1 + random.nextInt(random.nextInt(9) == 0 ? 100 : 9)) + ";";
            case 1 -> "open " + sack + ";";
            case 2 -> "shut " + sack + ";";
            case 3 -> "mice " + sack + " " + (1 + random.nextInt(20)) + ";";
            case 4 -> "grain " + sack + " " + (1 + random.nextInt(300)) + ";";
            case 5 -> random.nextInt(3) == 0 ? "dismiss;" : "wait 1;";
            default -> "milk " + random.nextInt(10) + ";";
        };
    }

    private String setup() {
        StringBuilder text = new StringBuilder();
        int cats = 1 + random.nextInt(random.nextInt(9) == 0 ? 9 : 5);
        for (int i = 0; i < cats; i++) {
            text.append("cat ").append(name(i)).append(' ').append(1 + random.nextInt(9));
            text.append(random.nextBoolean() ? " left;" : " right;");
        }
        for (int i = random.nextInt(random.nextInt(9) == 0 ? 7 : 5); i >= 0; i--) {
            text.append("sack ").append(name(i)).append(' ').append(random.nextInt(random.nextBoolean() ? 1000 : 100));
            text.append(' ').append(random.nextInt(random.nextBoolean() ? 100 : 20));
            text.append(random.nextInt(3) > 0 ? " open;" : " shut;");
        }
        for (int i = random.nextInt(random.nextInt(9) == 0 ? 13 : 5); i >= 0; i--) {
            text.append("shift ").append(name(random.nextInt(cats))).append(' ').append(1 + random.nextInt(random.nextBoolean() ? 24 : 6)).append(';');
        }
        if (random.nextBoolean()) {
            text.append("milk ").append(random.nextInt(10)).append(';');
        }
        if (random.nextBoolean()) {
            text.append("hour ").append(random.nextInt(24)).append(';');
        }
        return spoil(text.toString());
    }

    private static String name(int index) {
        return "abcdefghij".substring(index, Math.min(10, index + 1 + index % 6));
    }

    /** Changes a byte or a few of every third text. */
    private String spoil(String text) {
        StringBuilder spoiled = new StringBuilder(text);
        String signs = "abz019; \n!A\u0000\u00ff";
        for (int i = random.nextInt(3) == 0 ? 1 + random.nextInt(2) : 0; i > 0 && spoiled.length() > 0; i--) {
            int at = random.nextInt(spoiled.length());
            char sign = signs.charAt(random.nextInt(signs.length()));
            switch (random.nextInt(4)) {
                case 0 -> spoiled.deleteCharAt(at);
                case 1 -> spoiled.insert(at, sign);
                case 2 -> spoiled.setCharAt(at, sign);
                default -> spoiled.setLength(at);
            }
        }
        return spoiled.toString();
    }

    /** A number of 0 to usual, or now and then one between the ends, which may be wrong. */
    private int number(int least, int most, int usual) {
        return random.nextInt(6) > 0 ? random.nextInt(usual + 1) : least + random.nextInt(most - least + 1);
    }

    private void same(String promise, Supplier<Integer> got, Supplier<Integer> due) {
        calls++;
        Check.same(promise + ": run " + seed, outcome(got), outcome(due));
    }

    private static String outcome(Supplier<Integer> call) {
        try {
            return String.valueOf(call.get());
        } catch (Model.Failure e) {
            return e.getMessage();
        } catch (RuntimeException e) {
            return e.getClass().getSimpleName();
        }
    }
}
