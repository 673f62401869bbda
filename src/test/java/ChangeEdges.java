import java.util.NoSuchElementException;

/** The edges that section 6 of the document's terms and promises 53 to 64 name: changes, exceptions, the output, the saved state. */
final class ChangeEdges {
    private static final String TERMS = "Terms";
    private static final String SMALL = "cat a 1 left;sack b 1 1 open;shift a 1;";

    private ChangeEdges() {
    }

    static void run() {
        calls();
        constants();
        changes();
        eightChanges();
        firstException();
        throwingLeavesAll();
        letPass();
        lastHour();
        openFlap();
        shutFlap();
        addMice();
        addGrain();
        dismiss();
        setMilk();
        undo();
        storedEvents();
        undoLeaves();
        writeSacks();
        outputByte();
        saveState();
        restoreState();
    }

    private static void calls() {
        Sentence.of("What it is", "An object is used for at most 512 calls after it has been made; what later calls answer is free.");
        GranaryWatch watch = Watch.of("cat a 1 left;sack b 999 1 shut;shift a 24;hour 0;");
        // Three calls appended the setup, three cut it and one loaded it.
        for (int call = 8; call < 512; call++) {
            Check.same("call " + call, watch.letPass(1), 0);
        }
        Check.same("the 512th call", watch.grainIn(0), 999 - 504);
        GranaryWatch errors = new GranaryWatch();
        for (int call = 1; call < 512; call++) {
            Check.raises("call " + call, IndexOutOfBoundsException.class, () -> errors.grainIn(3));
        }
        Check.same("the 512th call after those that threw", errors.grainIn(2), 8);
    }

    private static void constants() {
        Sentence.of(TERMS, "`NONE = -1`: Result for \"there is none\".");
        Check.same("NONE", GranaryWatch.NONE, -1);
        Sentence.of(TERMS, "`NO_ERROR = 0`: Error code: no error.");
        Check.same("NO_ERROR", GranaryWatch.NO_ERROR, 0);
        Sentence.of(TERMS, "`CAN_SWEAR = 0`: Oath reason: the sworn cat could swear the cat in now.");
        Check.same("CAN_SWEAR", GranaryWatch.CAN_SWEAR, 0);
        int[] codes = {GranaryWatch.SYNTAX, GranaryWatch.OUT_OF_RANGE, GranaryWatch.DUPLICATE_NAME, GranaryWatch.UNKNOWN_NAME,
            GranaryWatch.TOO_MANY, GranaryWatch.INCOMPLETE};
        int[] reasons = {GranaryWatch.NOBODY_SWORN, GranaryWatch.TOO_TIRED, GranaryWatch.SAME_PAW};
        int[] kinds = {GranaryWatch.HUNT, GranaryWatch.OATH, GranaryWatch.REFUSAL, GranaryWatch.DAWN};
        for (int[] row : new int[][] {codes, reasons, kinds}) {
            for (int i = 0; i < row.length; i++) {
                Check.same("constant " + (i + 1), row[i], i + 1);
            }
        }
    }

    private static void changes() {
        Sentence.of(TERMS, "A method that is described as a change can be undone if it did not throw, even if it left everything as it was.");
        GranaryWatch watch = new GranaryWatch();
        watch.setMilk(3);
        Watch.run(watch, "open rye;");
        watch.runScript();
        Check.same("a script of nothing", watch.undo(), 2);
        Check.same("a script that stopped at once", watch.undo(), 1);
        Check.same("the milk as it was", watch.undo(), 0);
        Check.raises("that is all", NoSuchElementException.class, watch::undo);
        watch.saveState();
        watch.writeSacks();
        watch.hoursUntilUnguarded();
        watch.truncateInput(0);
        watch.appendInput(0, 0, 0, 0, 0);
        watch.runScript();
        watch.loadGranary();
        Check.raises("none of these is a change", NoSuchElementException.class, watch::undo);
    }

    private static void eightChanges() {
        Sentence.of(TERMS, "At most the 8 latest changes can be undone.");
        GranaryWatch eight = new GranaryWatch();
        for (int i = 0; i < 8; i++) {
            eight.letPass(1);
        }
        for (int left = 7; left >= 0; left--) {
            Check.same("of eight", eight.undo(), left);
        }
        Check.same("all of them", eight.clock(), 6);
        Check.raises("no more of eight", NoSuchElementException.class, eight::undo);
        GranaryWatch nine = new GranaryWatch();
        for (int i = 0; i < 9; i++) {
            nine.letPass(1);
        }
        for (int left = 7; left >= 0; left--) {
            Check.same("of nine", nine.undo(), left);
        }
        Check.same("all but the first", nine.clock(), 7);
        Check.raises("no more of nine", NoSuchElementException.class, nine::undo);
        Check.same("nothing happens then", nine.clock(), 7);
        GranaryWatch round = new GranaryWatch();
        for (int i = 0; i < 13; i++) {
            round.setMilk(i % 10);
        }
        for (int i = 0; i < 5; i++) {
            round.undo();
        }
        for (int i = 0; i < 7; i++) {
            round.letPass(1);
        }
        Check.same("eight again", round.undo(), 7);
        for (int i = 0; i < 7; i++) {
            round.undo();
        }
        Check.same("seven hours back", round.clock(), 6);
        Check.same("and one milk", round.milk(), 6);
        Check.raises("two of the first are too old", NoSuchElementException.class, round::undo);
    }

    private static void firstException() {
        Sentence.of(TERMS, "If several exceptions apply to a call, the one that comes first in its throws clause is thrown.");
        GranaryWatch watch = AnswerEdges.late();
        watch.addMice(0, 99);
        Watch.run(watch, "grain c 999;".repeat(10) + "grain c 9;");
        for (int sack : new int[] {-1, 2, Integer.MAX_VALUE}) {
            Check.raises("37", IndexOutOfBoundsException.class, () -> watch.miceAfter(sack, -1));
            Check.raises("38", IndexOutOfBoundsException.class, () -> watch.grainAfter(sack, 201));
            Check.raises("56", IndexOutOfBoundsException.class, () -> watch.addMice(sack, 0));
            Check.raises("57", IndexOutOfBoundsException.class, () -> watch.addGrain(sack, 1000));
        }
        for (int hours : new int[] {100, 0, -1, Integer.MAX_VALUE, Integer.MIN_VALUE}) {
            Check.raises("53", IllegalArgumentException.class, () -> watch.letPass(hours));
        }
        Check.raises("56 with a full sack", IllegalArgumentException.class, () -> watch.addMice(0, 100));
        Check.raises("56 with a full sack and no mice", IllegalArgumentException.class, () -> watch.addMice(0, 0));
        Check.raises("57 with a full sack", IllegalArgumentException.class, () -> watch.addGrain(0, 1000));
        Check.raises("57 with a full sack and no grain", IllegalArgumentException.class, () -> watch.addGrain(0, 0));
        Check.raises("53 when nothing else is wrong", IllegalStateException.class, () -> watch.letPass(1));
        Check.raises("56 when nothing else is wrong", IllegalStateException.class, () -> watch.addMice(0, 1));
        Check.raises("57 when nothing else is wrong", IllegalStateException.class, () -> watch.addGrain(0, 1));
    }

    private static void throwingLeavesAll() {
        Sentence.of(TERMS, "A method that throws leaves everything unchanged.");
        GranaryWatch watch = AnswerEdges.late();
        watch.setMilk(8);
        watch.saveState();
        watch.dismiss();
        watch.addMice(0, 99);
        Watch.run(watch, "grain c 999;".repeat(10) + "grain c 9;");
        watch.writeSacks();
        watch.openFlap(1);
        Watch.append(watch, "milk 1;");
        String before = Watch.everything(watch);
        Check.raises("53", IllegalArgumentException.class, () -> watch.letPass(0));
        Check.raises("53", IllegalStateException.class, () -> watch.letPass(1));
        Check.raises("54", IndexOutOfBoundsException.class, () -> watch.openFlap(2));
        Check.raises("54", IllegalStateException.class, () -> watch.openFlap(0));
        Check.raises("55", IndexOutOfBoundsException.class, () -> watch.shutFlap(-1));
        Check.raises("56", IndexOutOfBoundsException.class, () -> watch.addMice(2, 1));
        Check.raises("56", IllegalArgumentException.class, () -> watch.addMice(1, 100));
        Check.raises("56", IllegalStateException.class, () -> watch.addMice(0, 1));
        Check.raises("57", IndexOutOfBoundsException.class, () -> watch.addGrain(2, 1));
        Check.raises("57", IllegalArgumentException.class, () -> watch.addGrain(1, 1000));
        Check.raises("57", IllegalStateException.class, () -> watch.addGrain(0, 1));
        Check.raises("58", IllegalStateException.class, watch::dismiss);
        Check.raises("59", IllegalArgumentException.class, () -> watch.setMilk(10));
        Check.raises("37", IllegalArgumentException.class, () -> watch.miceAfter(0, 201));
        Check.raises("41", IndexOutOfBoundsException.class, () -> watch.hoursUntilEmpty(2));
        Check.raises("43", IllegalArgumentException.class, () -> watch.bestFlapToChange(-1));
        Check.same("state, input, error and output", Watch.everything(watch), before);
        Check.same("the input", watch.runScript(), 1);
        Check.same("the latest change is the script", watch.undo(), 7);
        Check.same("then the flap", watch.undo(), 6);
        Check.same("it is shut", watch.isOpen(1), false);
        Check.same("the saved state", watch.restoreState(), 9999);
        Check.same("with its sworn cat", watch.swornCat(), 0);
        Check.raises("55", IllegalStateException.class, () -> watch.shutFlap(1));
        Check.raises("60", NoSuchElementException.class, watch::undo);
        Check.same("undo left it", watch.milk(), 8);
    }

    private static void letPass() {
        Sentence.promise(53, "`hours`: number of hours, 1 to 99");
        GranaryWatch watch = Watch.of("cat a 9 left;sack b 999 20 open;shift a 24;hour 7;");
        Check.same("1", watch.letPass(1), 9);
        Check.same("its hour", watch.clock(), 8);
        Check.same("99", watch.letPass(99), 11);
        Check.same("its hours", watch.clock(), 107);

        Sentence.promise(53, "Throws `IllegalArgumentException` if hours is out of range");
        for (int hours : new int[] {0, 100, -1, Integer.MIN_VALUE, Integer.MAX_VALUE}) {
            Check.raises("hours " + hours, IllegalArgumentException.class, () -> watch.letPass(hours));
        }

        Sentence.promise(53, "Returns the number of mice caught in these hours.");
        Check.same("none", watch.letPass(1), 0);
        GranaryWatch more = Watch.of("cat a 9 left;sack b 999 20 open;shift a 24;hour 7;");
        Check.same("two hours", more.letPass(2), 18);
        Check.same("without those before", more.letPass(2), 2);
    }

    private static void lastHour() {
        Sentence.promise(53, "Throws `IllegalStateException` if the clock would exceed 9999");
        GranaryWatch watch = new GranaryWatch();
        for (int i = 0; i < 100; i++) {
            watch.letPass(99);
        }
        Check.raises("9906 and 99", IllegalStateException.class, () -> watch.letPass(99));
        Check.raises("9906 and 94", IllegalStateException.class, () -> watch.letPass(94));
        Check.same("nothing passed", watch.clock(), 9906);
        watch.letPass(93);
        Check.same("9906 and 93", watch.clock(), 9999);
        Check.raises("9999 and 1", IllegalStateException.class, () -> watch.letPass(1));
        watch.undo();
        watch.letPass(92);
        watch.letPass(1);
        Check.same("9998 and 1", watch.clock(), 9999);
    }

    private static void openFlap() {
        GranaryWatch watch = Watch.of("cat a 1 left;shift a 24;" + Texts.sacks(6).replace("open", "shut"));
        Sentence.promise(54, "Returns the number of open flaps after that.");
        for (int sack = 5; sack >= 0; sack--) {
            Check.same("one more", watch.openFlap(sack), 6 - sack);
        }
        Sentence.promise(54, "Throws `IllegalStateException` if the flap is open");
        for (int sack = 0; sack < 6; sack++) {
            int open = sack;
            Check.raises("sack " + sack, IllegalStateException.class, () -> watch.openFlap(open));
        }
        Check.same("six flaps were opened", watch.undo(), 5);
    }

    private static void shutFlap() {
        GranaryWatch watch = Watch.of("cat a 1 left;shift a 24;" + Texts.sacks(6));
        Sentence.promise(55, "Returns the number of open flaps after that.");
        for (int sack = 0; sack < 6; sack++) {
            Check.same("one less", watch.shutFlap(sack), 5 - sack);
        }
        Sentence.promise(55, "Throws `IllegalStateException` if the flap is shut");
        for (int sack = 0; sack < 6; sack++) {
            int shut = sack;
            Check.raises("sack " + sack, IllegalStateException.class, () -> watch.shutFlap(shut));
        }
        Check.same("six flaps were shut", watch.undo(), 5);
    }

    private static void addMice() {
        GranaryWatch watch = Watch.of("cat a 1 left;sack b 9 0 open;sack c 9 98 shut;sack d 9 1 open;shift a 24;");
        Sentence.promise(56, "`mice`: 1 to 99");
        Check.same("1", watch.addMice(2, 1), 2);
        Check.same("99", watch.addMice(0, 99), 99);
        Sentence.promise(56, "Throws `IllegalArgumentException` if mice is out of range");
        for (int mice : new int[] {0, 100, -1, Integer.MIN_VALUE, Integer.MAX_VALUE}) {
            Check.raises("mice " + mice, IllegalArgumentException.class, () -> watch.addMice(2, mice));
        }
        Sentence.promise(56, "Throws `IllegalStateException` if the sack would have more than 99 mice");
        Check.raises("98 and 2", IllegalStateException.class, () -> watch.addMice(1, 2));
        Check.raises("98 and 99", IllegalStateException.class, () -> watch.addMice(1, 99));
        Check.raises("99 and 1", IllegalStateException.class, () -> watch.addMice(0, 1));
        Check.raises("2 and 98", IllegalStateException.class, () -> watch.addMice(2, 98));
        Sentence.promise(56, "Returns the number of mice in the sack after that.");
        Check.same("98 and 1", watch.addMice(1, 1), 99);
        Check.same("2 and 97", watch.addMice(2, 97), 99);
        Check.same("as many there", watch.miceIn(2), 99);
    }

    private static void addGrain() {
        GranaryWatch watch = Watch.of("cat a 1 left;sack b 0 0 open;sack c 999 0 shut;shift a 24;");
        Sentence.promise(57, "`grain`: 1 to 999");
        Check.same("1", watch.addGrain(0, 1), 1);
        Check.same("999", watch.addGrain(0, 999), 1000);
        Sentence.promise(57, "Throws `IllegalArgumentException` if grain is out of range");
        for (int grain : new int[] {0, 1000, -1, Integer.MIN_VALUE, Integer.MAX_VALUE}) {
            Check.raises("grain " + grain, IllegalArgumentException.class, () -> watch.addGrain(0, grain));
        }
        Sentence.promise(57, "Throws `IllegalStateException` if the sack would have more than 9999 units");
        Watch.run(watch, "grain b 999;".repeat(9) + "grain c 999;".repeat(9));
        Check.raises("9991 and 9", IllegalStateException.class, () -> watch.addGrain(0, 9));
        Check.raises("9991 and 999", IllegalStateException.class, () -> watch.addGrain(0, 999));
        Sentence.promise(57, "Returns the grain in the sack after that.");
        Check.same("9991 and 8", watch.addGrain(0, 8), 9999);
        Check.same("9990 and 9", watch.addGrain(1, 9), 9999);
        Check.same("as much there", watch.grainIn(1), 9999);
        Check.raises("9999 and 1", IllegalStateException.class, () -> watch.addGrain(1, 1));
    }

    private static void dismiss() {
        GranaryWatch watch = Watch.of(Texts.cats(8) + "sack a 9 2 open;shift h 2;hour 7;");
        watch.letPass(1);
        String events = Watch.events(watch);
        Sentence.promise(58, "Returns the index of the cat that was dismissed.");
        Check.same("the last cat", watch.dismiss(), 7);
        Check.same("the first cat", new GranaryWatch().dismiss(), 0);
        Sentence.promise(58, "Dismisses the sworn cat, so that there is no sworn cat. This is a change and neither a refusal nor an event.");
        Check.same("no sworn cat", watch.swornCat(), -1);
        Check.same("no refusal", watch.totalRefusals(), 0);
        Check.same("no event", Watch.events(watch), events);
        Check.same("its oath still counts", watch.oathsOf(7), 1);
        Check.same("its shift goes on", watch.hoursLeft(), 1);
        Sentence.promise(58, "Throws `IllegalStateException` if there is no sworn cat");
        Check.raises("dismissed", IllegalStateException.class, watch::dismiss);
        GranaryWatch refused = new GranaryWatch();
        refused.letPass(7);
        Check.raises("refused", IllegalStateException.class, refused::dismiss);
        Check.same("the change before", watch.undo(), 1);
        Check.same("sworn again", watch.swornCat(), 7);
    }

    private static void setMilk() {
        GranaryWatch watch = Watch.of(SMALL + "milk 5;");
        Sentence.promise(59, "Returns the milk before that.");
        Check.same("that of the setup", watch.setMilk(0), 5);
        Sentence.promise(59, "`milk`: 0 to 9");
        Check.same("the least", watch.setMilk(9), 0);
        Check.same("the most", watch.setMilk(9), 9);
        Sentence.promise(59, "Throws `IllegalArgumentException` if milk is out of range");
        for (int milk : new int[] {-1, 10, Integer.MIN_VALUE, Integer.MAX_VALUE}) {
            Check.raises("milk " + milk, IllegalArgumentException.class, () -> watch.setMilk(milk));
        }
        Check.same("three changes", watch.undo(), 2);
    }

    private static void undo() {
        Sentence.promise(60, "Throws `NoSuchElementException` if there is no change to undo");
        GranaryWatch watch = new GranaryWatch();
        Check.raises("of a new object", NoSuchElementException.class, watch::undo);
        watch.letPass(1);
        watch.undo();
        Check.raises("after the only one", NoSuchElementException.class, watch::undo);
        watch.letPass(1);
        Watch.load(watch, "cat");
        Check.same("a setup with an error leaves it", watch.undo(), 0);
        watch.letPass(1);
        Watch.load(watch, SMALL);
        Check.raises("after a setup", NoSuchElementException.class, watch::undo);
        watch.letPass(1);
        watch.saveState();
        watch.restoreState();
        Check.raises("after restoring", NoSuchElementException.class, watch::undo);

        Sentence.promise(60, "Returns the number of changes that can still be undone.");
        GranaryWatch eight = new GranaryWatch();
        for (int i = 0; i < 20; i++) {
            eight.setMilk(i % 10);
        }
        Check.same("seven of twenty", eight.undo(), 7);
        Check.same("one more change", eight.setMilk(1), 8);
        Check.same("seven again", eight.undo(), 7);
        Check.same("six", eight.undo(), 6);

        Sentence.promise(60, "Undoes the latest change that has not been undone.");
        Check.same("back to that milk", eight.milk(), 7);
        for (int left = 7; left >= 0; left--) {
            GranaryWatch undone = changed(8);
            for (int i = 7; i >= left; i--) {
                undone.undo();
            }
            Check.same("left of eight: " + left, Watch.state(undone), Watch.state(changed(left)));
            Check.same("the invariants hold", undone.isConsistent(), true);
        }
    }

    /** A granary after the first of eight changes. */
    private static GranaryWatch changed(int count) {
        GranaryWatch watch = new GranaryWatch();
        for (int i = 0; i < count; i++) {
            change(watch, i);
        }
        return watch;
    }

    private static void storedEvents() {
        // 17 hunts of the second cat fill the store; later there are dawns, which swear no cat in, and oaths instead.
        String days = "shut c;wait 99;wait 99;wait 99;";
        GranaryWatch watch = Watch.of("cat a 1 right;cat b 7 left;sack c 999 99 open;shift b 24;hour 7;");
        watch.letPass(17);
        String hunts = Watch.events(watch);
        Watch.run(watch, days);
        Sentence.promise(60, "Undoes the latest change that has not been undone.");
        Check.same("other events now", Watch.events(watch).contains("1,1,"), false);
        watch.undo();
        Check.same("all 16 are back", Watch.events(watch), hunts);
        watch.saveState();
        Watch.run(watch, days);
        watch.restoreState();
        Sentence.promise(64, "Restores the saved state,");
        Check.same("all 16 are back again", Watch.events(watch), hunts);
        watch.letPass(1);
        Check.same("the oldest goes first", Watch.events(watch), "1,1,3 " + hunts.substring(0, hunts.length() - 6));
    }

    private static void change(GranaryWatch watch, int kind) {
        switch (kind) {
            case 0 -> watch.letPass(20);
            case 1 -> watch.addMice(2, 40);
            case 2 -> watch.addGrain(0, 500);
            case 3 -> watch.openFlap(1);
            case 4 -> watch.shutFlap(0);
            case 5 -> Watch.run(watch, "wait 20;dismiss;milk 9;");
            case 6 -> watch.setMilk(0);
            default -> watch.letPass(99);
        }
    }

    private static void undoLeaves() {
        Sentence.promise(60, "The input buffer, the reported error, the output and the saved state stay as they are.");
        GranaryWatch watch = new GranaryWatch();
        watch.letPass(2);
        Watch.run(watch, "wait 0;");
        watch.saveState();
        watch.writeSacks();
        String output = Watch.output(watch);
        Watch.append(watch, "milk 1;");
        watch.undo();
        Check.same("the error", watch.errorCode(), GranaryWatch.OUT_OF_RANGE);
        Check.same("its offset", watch.errorOffset(), 5);
        Check.same("the output", Watch.output(watch), output);
        Check.same("the input", watch.runScript(), 1);
        Check.same("the saved state", watch.restoreState(), 8);
        Watch.run(watch, "wait 1;");
        Watch.run(watch, "x");
        watch.undo();
        Check.same("an error after the change", watch.errorCode(), GranaryWatch.SYNTAX);
        watch.letPass(1);
        Watch.run(watch, "x");
        watch.letPass(1);
        Watch.run(watch, "milk 1;");
        watch.undo();
        watch.undo();
        Check.same("no error, though there was one then", watch.errorCode(), GranaryWatch.NO_ERROR);
        GranaryWatch late = new GranaryWatch();
        late.letPass(1);
        late.saveState();
        late.undo();
        Check.same("a state saved after the change", late.restoreState(), 7);
    }

    private static void writeSacks() {
        Sentence.promise(61, "Writes the sacks to the output, replacing the former output: for each sack its name, a colon (byte 58), its grain, a slash (byte 47),"
                + " its number of mice and, if its flap is open, an apostrophe (byte 39); with a space (byte 32) between two sacks.");
        Check.same("one sack", Watch.written(Watch.of("cat a 1 left;sack b 0 0 shut;shift a 1;")), "b:0/0");
        Check.same("one open sack", Watch.written(Watch.of("cat a 1 left;sack b 0 0 open;shift a 1;")), "b:0/0'");
        Check.same("digits", Watch.written(Watch.of("cat a 1 left;sack b 9 9 shut;sack c 10 10 open;sack d 99 99 shut;sack e 100 1 open;sack f 999 0 shut;shift a 1;")),
                "b:9/9 c:10/10' d:99/99 e:100/1' f:999/0");
        GranaryWatch watch = Watch.of("cat a 1 left;shift a 1;" + "sack abcdey 999 99 open;sack ybcdef 999 99 open;"
                + "sack abcdef 999 99 open;sack ghijkl 999 99 open;sack mnopqr 999 99 open;sack stuvwx 999 99 open;");
        Check.same("six long ones", watch.writeSacks(), 6 * 14 + 5);
        for (String name : new String[] {"abcdey", "ybcdef", "abcdef", "ghijkl", "mnopqr", "stuvwx"}) {
            Watch.run(watch, ("grain " + name + " 999;").repeat(9) + "grain " + name + " 9;");
        }
        String longest = "abcdey:9999/99' ybcdef:9999/99' abcdef:9999/99' ghijkl:9999/99' mnopqr:9999/99' stuvwx:9999/99'";
        Check.same("the longest", watch.writeSacks(), longest.length());
        Check.same("its bytes", Watch.output(watch), longest);
        GranaryWatch zeros = Watch.of("cat a 1 left;sack b 1 0 shut;shift a 1;");
        zeros.addGrain(0, 999);
        Check.same("zeros within", Watch.written(zeros), "b:1000/0");
        zeros.addGrain(0, 10);
        Check.same("zeros around", Watch.written(zeros), "b:1010/0");

        Sentence.promise(61, "Returns the number of bytes written.");
        Check.same("five", Watch.of("cat a 1 left;sack b 0 0 shut;shift a 1;").writeSacks(), 5);
        Check.same("not those before", zeros.writeSacks(), 8);
        Check.same("nor these", zeros.writeSacks(), 8);
    }

    private static void outputByte() {
        Sentence.promise(62, "Returns the byte, or NONE if there is no such byte.");
        GranaryWatch watch = new GranaryWatch();
        Check.same("of an empty output", watch.outputByte(0), -1);
        Check.same("length", watch.writeSacks(), 29);
        Check.same("the first", watch.outputByte(0), 'r');
        Check.same("a colon", watch.outputByte(3), 58);
        Check.same("a slash", watch.outputByte(6), 47);
        Check.same("an apostrophe", watch.outputByte(8), 39);
        Check.same("a space", watch.outputByte(9), 32);
        Check.same("the last", watch.outputByte(28), 39);
        for (int index : new int[] {29, 30, -1, 99, 100, 600, Integer.MIN_VALUE, Integer.MAX_VALUE}) {
            Check.same("byte " + index, watch.outputByte(index), -1);
        }
        watch.shutFlap(2);
        Check.same("as it was written", watch.outputByte(28), 39);
        watch.writeSacks();
        Check.same("of a former, longer output", watch.outputByte(28), -1);
        Watch.load(watch, SMALL);
        Check.same("a setup leaves it", watch.outputByte(27), '2');
    }

    private static void saveState() {
        Sentence.promise(63, "Returns the clock.");
        GranaryWatch watch = new GranaryWatch();
        Check.same("at first", watch.saveState(), 6);
        Check.same("the latest hour", AnswerEdges.late().saveState(), 9999);

        Sentence.promise(63, "Saves cats, sacks, shifts, sworn cat, milk, clock, events and totals, replacing an earlier saved state.");
        watch.letPass(50);
        watch.addMice(1, 70);
        watch.addGrain(2, 900);
        watch.openFlap(1);
        watch.letPass(9);
        Watch.run(watch, "dismiss;milk 7;");
        Check.same("a later hour", watch.saveState(), 65);
        String saved = Watch.state(watch);
        watch.letPass(99);
        watch.setMilk(1);
        watch.shutFlap(0);
        watch.restoreState();
        Check.same("all of the later one", Watch.state(watch), saved);
        Check.same("the invariants hold", watch.isConsistent(), true);
    }

    private static void restoreState() {
        Sentence.promise(64, "Throws `NoSuchElementException` if no state is saved");
        GranaryWatch watch = new GranaryWatch();
        Check.raises("of a new object", NoSuchElementException.class, watch::restoreState);
        watch.saveState();
        Watch.load(watch, "cat");
        Check.same("a setup with an error leaves it", watch.restoreState(), 6);
        Watch.load(watch, SMALL + "hour 9;");
        Check.raises("after a setup", NoSuchElementException.class, watch::restoreState);
        Check.same("the clock stays", watch.clock(), 9);

        Sentence.promise(64, "Restores the saved state, which remains saved. Nothing can be undone after that.");
        watch.letPass(1);
        watch.saveState();
        String saved = Watch.state(watch);
        for (int i = 0; i < 3; i++) {
            watch.letPass(50);
            watch.setMilk(i);
            Check.same("the clock after that", watch.restoreState(), 10);
            Check.same("time " + i, Watch.state(watch), saved);
            Check.raises("nothing to undo", NoSuchElementException.class, watch::undo);
        }
        watch.restoreState();
        Check.same("the same again", Watch.state(watch), saved);
        watch.letPass(1);
        Check.same("a change after it", watch.undo(), 0);

        Sentence.promise(64, "Returns the clock after that.");
        GranaryWatch late = AnswerEdges.late();
        late.saveState();
        late.undo();
        Check.same("before", late.clock(), 9906);
        Check.same("after", late.restoreState(), 9999);
    }
}
