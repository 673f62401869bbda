/** Promises 1 to 7: the first granary, the input buffer, setups, scripts and their errors. */
public final class TextTest {
    private static final String SMALL = "cat a 1 left;sack b 1 1 open;shift a 1;";

    public static void main(String[] args) {
        firstGranary();
        appending();
        truncating();
        loading();
        loadingReplacesAll();
        failedLoading();
        setupSyntax();
        setupRanges();
        setupNames();
        setupTooMany();
        setupIncomplete();
        scripts();
        scriptChangesNothingAlone();
        scriptStops();
        scriptErrors();
        scriptTooMany();
        reportedError();
        cutTexts();
        fullBuffer();
        Check.end();
    }

    private static void firstGranary() {
        GranaryWatch watch = new GranaryWatch();
        Check.same("1: state", Watch.state(watch), "clock 6 milk 3 sworn 0 shift 0 left 4 cat tom 5 true 0 0 1"
                + " cat puss 3 false 0 0 0 cat moss 7 false 0 0 0 sack rye 60 4 true 0 sack oats 30 9 false 0"
                + " sack peas 8 2 true 0 shift 0 4 shift 1 3 shift 2 5 totals 0 0 0 0 1 0 events ");
        Check.same("1: the input is empty", watch.truncateInput(1), false);
        Check.same("1: the output is empty", watch.outputByte(0), -1);
        Check.same("1: no error", watch.errorCode(), 0);
        Check.same("1: no error offset", watch.errorOffset(), -1);
        Check.raises("1: nothing to undo", java.util.NoSuchElementException.class, watch::undo);
        Check.raises("1: nothing saved", java.util.NoSuchElementException.class, watch::restoreState);
    }

    private static void appending() {
        GranaryWatch watch = new GranaryWatch();
        // "wait 1;wait 2;wait 3" in the order of the bytes.
        Check.same("2: length", watch.appendInput(0x77616974, 0x20313b77, 0x61697420, 0x323b7761, 0x69742033), 20);
        Check.same("2: the last byte belongs to it", watch.truncateInput(20), true);
        Check.same("2: the statements, the text ends early", watch.runScript(), -1);
        Check.same("2: its offset", watch.errorOffset(), 20);
        watch.appendInput(0x77616974, 0x20313b77, 0x61697420, 0x323b7761, 0x69742033);
        watch.truncateInput(14);
        Check.same("2: two statements", watch.runScript(), 2);
        Check.same("2: three hours", watch.clock(), 9);
        for (int length = 20; length <= 600; length += 20) {
            Check.same("2: up to 600", watch.appendInput(-1, -1, -1, -1, -1), length);
        }
        Check.same("2: beyond 600", watch.appendInput(0, 0, 0, 0, 0), -1);
        Check.same("2: unchanged", watch.truncateInput(601), false);
        Check.same("2: still 600", watch.truncateInput(581), true);
        Check.same("2: 601 is too long", watch.appendInput(0, 0, 0, 0, 0), -1);
        Check.same("2: 581 stays", watch.truncateInput(582), false);
        watch.truncateInput(580);
        Check.same("2: 600 again", watch.appendInput(0, 0, 0, 0, 0), 600);
    }

    private static void truncating() {
        GranaryWatch watch = new GranaryWatch();
        Check.same("3: empty to empty", watch.truncateInput(0), true);
        Check.same("3: negative", watch.truncateInput(-1), false);
        Check.same("3: least", watch.truncateInput(Integer.MIN_VALUE), false);
        Check.same("3: longer", watch.truncateInput(1), false);
        Watch.append(watch, "wait 1;wait");
        Check.same("3: longer than 11", watch.truncateInput(12), false);
        Check.same("3: most", watch.truncateInput(Integer.MAX_VALUE), false);
        Check.same("3: as long", watch.truncateInput(11), true);
        Check.same("3: shorter", watch.truncateInput(7), true);
        Check.same("3: one statement is left", watch.runScript(), 1);
        Watch.append(watch, "wait 1;");
        Check.same("3: to nothing", watch.truncateInput(0), true);
        Check.same("3: no statement is left", watch.runScript(), 0);
    }

    private static void loading() {
        GranaryWatch watch = new GranaryWatch();
        Check.same("4: cats", Watch.load(watch, "cat left 9 right;\ncat abcdef 1 left; sack left 999 99 shut;"
                + "sack b 0 0 open;sack cat 0012 007 open;shift abcdef 24;shift left 1;milk 2;hour 5;milk 9;hour 23;"), 2);
        Check.same("4: state", Watch.state(watch), "clock 23 milk 9 sworn 1 shift 0 left 24 cat left 9 false 0 0 0"
                + " cat abcdef 1 true 0 0 1 sack left 999 99 false 0 sack b 0 0 true 0 sack cat 12 7 true 0"
                + " shift 1 24 shift 0 1 totals 0 0 0 0 1 0 events ");
        Check.same("4: the buffer is empty", watch.truncateInput(1), false);
        Check.same("4: no blanks are needed", Watch.load(watch, "cat a1left;sack b1 1open;shift a1;"), 1);
        Check.same("4: defaults", Watch.state(watch), "clock 6 milk 3 sworn 0 shift 0 left 1 cat a 1 true 0 0 1"
                + " sack b 1 1 true 0 shift 0 1 totals 0 0 0 0 1 0 events ");
        Check.same("4: blanks everywhere", Watch.load(watch, " \n" + SMALL.replace(" ", "  \n ").replace(";", " ; ")), 1);
        Check.same("4: the order is free", Watch.load(watch, "hour 0;sack b 1 1 open;cat a 1 left;milk 0;shift a 1;"), 1);
        Check.same("4: hour 0", watch.clock(), 0);
        Check.same("4: milk 0", watch.milk(), 0);
        Check.same("4: most of all", Watch.load(watch, Texts.cats(8) + Texts.sacks(6) + Texts.shifts(12)), 8);
        Check.same("4: six sacks", watch.sackCount(), 6);
        Check.same("4: twelve shifts", watch.shiftCount(), 12);
    }

    private static void loadingReplacesAll() {
        GranaryWatch watch = new GranaryWatch();
        watch.letPass(99);
        watch.addMice(0, 5);
        watch.addGrain(0, 5);
        watch.saveState();
        watch.writeSacks();
        String output = Watch.output(watch);
        Watch.load(watch, "cat a 1 left;sack b 1 1 open;shift a 1;");
        Check.same("4: all is new", Watch.state(watch), "clock 6 milk 3 sworn 0 shift 0 left 1 cat a 1 true 0 0 1"
                + " sack b 1 1 true 0 shift 0 1 totals 0 0 0 0 1 0 events ");
        Check.raises("4: nothing to undo", java.util.NoSuchElementException.class, watch::undo);
        Check.raises("4: nothing saved", java.util.NoSuchElementException.class, watch::restoreState);
        Check.same("4: consistent", watch.isConsistent(), true);
        Check.same("4: the output stays", Watch.output(watch), output);
    }

    private static void failedLoading() {
        GranaryWatch watch = new GranaryWatch();
        watch.letPass(5);
        watch.saveState();
        watch.setMilk(9);
        String before = Watch.state(watch);
        Check.same("4: an error", Watch.load(watch, "cat a 1 left;sack b 1 1 open;shift a 1;milk 4;hour 24;"), -1);
        Check.same("4: nothing changed", Watch.state(watch), before);
        Check.same("4: the buffer is empty after an error", watch.truncateInput(1), false);
        Check.same("4: undo is left", watch.undo(), 1);
        Check.same("4: milk is back", watch.milk(), 3);
        Check.same("4: the saved state is left", watch.restoreState(), 11);
    }

    private static void setupSyntax() {
        Texts.setupFails("x", 1, 0);
        Texts.setupFails("cats a 1 left;", 1, 0);
        Texts.setupFails("ca", 1, 0);
        Texts.setupFails(";", 1, 0);
        Texts.setupFails(" 5", 1, 1);
        Texts.setupFails(SMALL + ";", 1, SMALL.length());
        Texts.setupFails("wait 1;", 1, 0);
        Texts.setupFails("Cat a 1 left;", 1, 0);
        Texts.setupFails("cat", 1, 3);
        Texts.setupFails("cat \n ", 1, 6);
        Texts.setupFails("cat 1 1 left;", 1, 4);
        Texts.setupFails("cat ;", 1, 4);
        Texts.setupFails("cat abcdefg 1 left;", 1, 4);
        Texts.setupFails("cat abcdefghi 1 left;", 1, 4);
        Texts.setupFails("cat a", 1, 5);
        Texts.setupFails("cat a left", 1, 6);
        Texts.setupFails("cat a 00001 left;", 1, 6);
        Texts.setupFails("cat a 99999 left;", 1, 6);
        Texts.setupFails("cat a 1", 1, 7);
        Texts.setupFails("cat a 1;", 1, 7);
        Texts.setupFails("cat a 1 lef;", 1, 8);
        Texts.setupFails("cat a 1 leftt;", 1, 8);
        Texts.setupFails("cat a 1 open;", 1, 8);
        Texts.setupFails("cat a 1 leftrightl;", 1, 8);
        Texts.setupFails("cat a 1 left", 1, 12);
        Texts.setupFails("cat a 1 left  ", 1, 14);
        Texts.setupFails("cat a 1 left cat", 1, 13);
        Texts.setupFails("cat a 1 left 1;", 1, 13);
        Texts.setupFails("cat a\t1 left;", 1, 5);
        Texts.setupFails("cat a!1 left;", 1, 5);
        Texts.setupFails("cat a\u00e1 1 left;", 1, 5);
        Texts.setupFails("cat aA 1 left;", 1, 5);
        Texts.setupFails("cat a 1\r\nleft;", 1, 7);
        Texts.setupFails("\u0000", 1, 0);
        Texts.setupFails("`", 1, 0);
        Texts.setupFails("{", 1, 0);
        Texts.setupFails("/", 1, 0);
        Texts.setupFails(":", 1, 0);
        Texts.setupFails("sack", 1, 4);
        Texts.setupFails("sack a 1 1", 1, 10);
        Texts.setupFails("sack a 1 open;", 1, 9);
        Texts.setupFails("sack a 1 1 left;", 1, 11);
        Texts.setupFails("sack a 1 1 open 1", 1, 16);
        Texts.setupFails("sack abcdefg 1 1 open;", 1, 5);
        Texts.setupFails("cat a 1 left;shift", 1, 18);
        Texts.setupFails("cat a 1 left;shift abcdefg 1;", 1, 19);
        Texts.setupFails("cat a 1 left;shift a;", 1, 20);
        Texts.setupFails("cat a 1 left;shift a 1 1;", 1, 23);
        Texts.setupFails("milk;", 1, 4);
        Texts.setupFails("milk 1", 1, 6);
        Texts.setupFails("hour x;", 1, 5);
        Texts.setupFails("hour 1 2;", 1, 7);
        Texts.setupFails("milk 3;hour 6!", 1, 13);
    }

    private static void setupRanges() {
        Texts.setupFails("cat a 0 left;", 2, 6);
        Texts.setupFails("cat a 10 left;", 2, 6);
        Texts.setupFails("cat a 9999 left;", 2, 6);
        Texts.setupFails("sack a 1000 1 open;", 2, 7);
        Texts.setupFails("sack a 1 100 open;", 2, 9);
        Texts.setupFails("cat a 1 left;shift a 0;", 2, 21);
        Texts.setupFails("cat a 1 left;shift a 25;", 2, 21);
        Texts.setupFails("milk 10;", 2, 5);
        Texts.setupFails("hour 24;", 2, 5);
        Texts.setupFails("milk 0010;", 2, 5);
    }

    private static void setupNames() {
        Texts.setupFails("cat a 1 left;cat a 1 left;", 3, 17);
        Texts.setupFails("sack a 1 1 open;sack a 1 1 open;", 3, 21);
        Texts.setupFails("cat ab 1 left;cat a 1 left;cat abc 1 left;cat ab 1 left;", 3, 46);
        Texts.setupFails("shift a 1;", 4, 6);
        Texts.setupFails("sack a 1 1 open;shift a 1;", 4, 22);
        Texts.setupFails("cat ab 1 left;shift a 1;", 4, 20);
        Texts.setupFails("cat a 1 left;shift b 0;", 4, 19);
        Texts.setupFails("shift tom 1;", 4, 6);
    }

    private static void setupTooMany() {
        Texts.setupFails(Texts.cats(9), 5, Texts.cats(8).length());
        Texts.setupFails(Texts.cats(8) + "cat !", 5, Texts.cats(8).length());
        Texts.setupFails(Texts.sacks(7), 5, Texts.sacks(6).length());
        Texts.setupFails(Texts.cats(1) + Texts.shifts(13), 5, (Texts.cats(1) + Texts.shifts(12)).length());
        Texts.setupFails(Texts.cats(8) + "cata", 1, Texts.cats(8).length());
    }

    private static void setupIncomplete() {
        Texts.setupFails("", 6, 0);
        Texts.setupFails(" \n ", 6, 3);
        Texts.setupFails("milk 1;hour 1;", 6, 14);
        Texts.setupFails("cat a 1 left;shift a 1;", 6, 23);
        Texts.setupFails("cat a 1 left;sack a 1 1 open; ", 6, 30);
        Texts.setupFails("sack a 1 1 open;", 6, 16);
        Texts.setupFails("sack a 1 1 open", 1, 15);
    }

    private static void scripts() {
        GranaryWatch watch = new GranaryWatch();
        Check.same("5: all statements", Watch.run(watch, "wait 2;open oats;shut rye;mice rye 7;grain\npeas 0999;dismiss;milk 0;"), 7);
        GranaryWatch same = new GranaryWatch();
        same.letPass(2);
        same.openFlap(1);
        same.shutFlap(0);
        same.addMice(0, 7);
        same.addGrain(2, 999);
        same.dismiss();
        same.setMilk(0);
        Check.same("5: like the methods", Watch.state(watch), Watch.state(same));
        Check.same("5: consistent", watch.isConsistent(), true);
        Check.same("5: the buffer is empty", watch.truncateInput(1), false);
        Check.same("5: one change", watch.undo(), 0);
        Check.same("5: undone", Watch.state(watch), Watch.state(new GranaryWatch()));
        Check.same("5: greatest numbers", Watch.run(watch, "mice rye 95;grain rye 999;milk 9;wait 99;"), 4);
        Check.same("5: thirty statements", Watch.run(watch, "milk 1;".repeat(30)), 30);
    }

    private static void scriptChangesNothingAlone() {
        GranaryWatch watch = new GranaryWatch();
        Check.same("5: an empty script", watch.runScript(), 0);
        Check.same("5: a script of blanks", Watch.run(watch, " \n"), 0);
        Check.same("5: no error", watch.errorCode(), 0);
        Check.same("5: a script without effect", Watch.run(watch, "open rye;"), 0);
        Check.same("5: they are changes", watch.undo(), 2);
    }

    private static void scriptStops() {
        GranaryWatch watch = new GranaryWatch();
        Check.same("5: stops at an open flap", Watch.run(watch, "milk 1;open rye;milk 2;"), 1);
        Check.same("5: milk 1", watch.milk(), 1);
        Check.same("5: no error", watch.errorCode(), 0);
        Check.same("5: stops at a shut flap", Watch.run(watch, "shut oats;milk 2;"), 0);
        Check.same("5: stops at mice", Watch.run(watch, "milk 3;milk 4;mice oats 91;milk 2;"), 2);
        Check.same("5: mice stay", watch.miceIn(1), 9);
        Check.same("5: stops at a second dismissal", Watch.run(watch, "dismiss;dismiss;milk 2;"), 1);
        Check.same("5: milk 4", watch.milk(), 4);
        Check.same("5: stops at grain", Watch.run(watch, "grain oats 970;" + "grain oats 999;".repeat(10)), 10);
        Check.same("5: grain", watch.grainIn(1), 9991);
        Check.same("5: grain to the brim", Watch.run(watch, "grain oats 8;grain oats 1;grain oats 1;"), 1);
        Check.same("5: and no more", watch.grainIn(1), 9999);
        Watch.run(watch, "wait 99;".repeat(30));
        Watch.run(watch, "wait 99;".repeat(30));
        Watch.run(watch, "wait 99;".repeat(30));
        Check.same("5: clock", watch.clock(), 8916);
        Check.same("5: stops at the last hour", Watch.run(watch, "wait 99;".repeat(10) + "wait 93;wait 1;milk 8;"), 11);
        Check.same("5: last hour", watch.clock(), 9999);
        Check.same("5: milk stays", watch.milk(), 4);
    }

    private static void scriptErrors() {
        Texts.scriptFails("x", 1, 0);
        Texts.scriptFails(";", 1, 0);
        Texts.scriptFails("wait 1;;", 1, 7);
        Texts.scriptFails("cat a 1 left;", 1, 0);
        Texts.scriptFails("hour 1;", 1, 0);
        Texts.scriptFails("wait", 1, 4);
        Texts.scriptFails("wait 1", 1, 6);
        Texts.scriptFails("wait 1 ", 1, 7);
        Texts.scriptFails("wait;", 1, 4);
        Texts.scriptFails("wait rye;", 1, 5);
        Texts.scriptFails("wait 00001;", 1, 5);
        Texts.scriptFails("wait 1 1;", 1, 7);
        Texts.scriptFails("open", 1, 4);
        Texts.scriptFails("open 1;", 1, 5);
        Texts.scriptFails("open abcdefg;", 1, 5);
        Texts.scriptFails("open oats", 1, 9);
        Texts.scriptFails("open oats 1;", 1, 10);
        Texts.scriptFails("shut ;", 1, 5);
        Texts.scriptFails("mice rye;", 1, 8);
        Texts.scriptFails("grain rye rye;", 1, 10);
        Texts.scriptFails("dismiss tom;", 1, 8);
        Texts.scriptFails("dismisst;", 1, 0);
        Texts.scriptFails("dismissed;", 1, 0);
        Texts.scriptFails("dismiss", 1, 7);
        Texts.scriptFails("milk ;", 1, 5);
        Texts.scriptFails("wait 1;wait\u00801;", 1, 11);
        Texts.scriptFails("wait 0;", 2, 5);
        Texts.scriptFails("wait 100;", 2, 5);
        Texts.scriptFails("mice rye 0;", 2, 9);
        Texts.scriptFails("mice rye 100;", 2, 9);
        Texts.scriptFails("grain rye 0;", 2, 10);
        Texts.scriptFails("grain rye 1000;", 2, 10);
        Texts.scriptFails("milk 10;", 2, 5);
        Texts.scriptFails("open tom;", 4, 5);
        Texts.scriptFails("shut ry;", 4, 5);
        Texts.scriptFails("mice ryes 0;", 4, 5);
        Texts.scriptFails("wait 1;grain x 5;", 4, 13);
    }

    private static void scriptTooMany() {
        Texts.scriptFails("milk 1;".repeat(31), 5, 210);
        Texts.scriptFails("milk 1;".repeat(30) + " wait", 5, 211);
        Texts.scriptFails("milk 1;".repeat(30) + "cat", 1, 210);
        Texts.scriptFails("milk 1;".repeat(30) + ";", 1, 210);
    }

    private static void reportedError() {
        GranaryWatch watch = new GranaryWatch();
        Watch.load(watch, "cat a 0 left;");
        Check.same("6: of a setup", watch.errorCode(), GranaryWatch.OUT_OF_RANGE);
        Check.same("7: of a setup", watch.errorOffset(), 6);
        watch.letPass(1);
        watch.undo();
        Check.same("6: undo leaves it", watch.errorCode(), GranaryWatch.OUT_OF_RANGE);
        Check.same("7: undo leaves it", watch.errorOffset(), 6);
        Watch.append(watch, "open y;");
        Check.same("6: appending leaves it", watch.errorCode(), GranaryWatch.OUT_OF_RANGE);
        watch.runScript();
        Check.same("6: of a script", watch.errorCode(), GranaryWatch.UNKNOWN_NAME);
        Check.same("7: of a script", watch.errorOffset(), 5);
        watch.saveState();
        Watch.run(watch, "open rye;");
        Check.same("6: none", watch.errorCode(), GranaryWatch.NO_ERROR);
        Check.same("7: none", watch.errorOffset(), GranaryWatch.NONE);
        Watch.run(watch, "!");
        watch.restoreState();
        Check.same("6: restoring leaves it", watch.errorCode(), GranaryWatch.SYNTAX);
        Check.same("7: restoring leaves it", watch.errorOffset(), 0);
        Watch.load(watch, SMALL);
        Check.same("6: none after a setup", watch.errorCode(), GranaryWatch.NO_ERROR);
        Check.same("7: none after a setup", watch.errorOffset(), GranaryWatch.NONE);
    }

    /** Bytes that truncateInput cut off are no part of the text any more. */
    private static void cutTexts() {
        cut("wait 12;", 6, 6);
        cut("wait 1   ;", 7, 7);
        cut("dismissed", 7, 7);
        cut("wait 1;;", 6, 6);
    }

    private static void cut(String text, int length, int offset) {
        GranaryWatch watch = new GranaryWatch();
        Watch.append(watch, text);
        Check.same("3: cut " + text, watch.truncateInput(length), true);
        Check.same("5: cut " + text, watch.runScript(), -1);
        Check.same("6: cut " + text, watch.errorCode(), GranaryWatch.SYNTAX);
        Check.same("7: cut " + text, watch.errorOffset(), offset);
    }

    private static void fullBuffer() {
        GranaryWatch watch = new GranaryWatch();
        Check.same("5: 600 bytes end with a statement", Watch.run(watch, " ".repeat(592) + "wait 24;"), 1);
        Check.same("5: 600 bytes end with a blank", Watch.run(watch, "wait 24;" + " ".repeat(592)), 1);
        Check.same("5: 600 bytes end in a number", Watch.run(watch, " ".repeat(593) + "wait 24"), -1);
        Check.same("7: after 600 bytes", watch.errorOffset(), 600);
        Check.same("5: 600 bytes end in a word", Watch.run(watch, " ".repeat(596) + "open"), -1);
        Check.same("7: after 600 bytes again", watch.errorOffset(), 600);
        Check.same("4: 600 bytes", Watch.load(watch, SMALL + "\n".repeat(600 - SMALL.length())), 1);
        Check.same("4: 600 blanks", Watch.load(watch, " ".repeat(600)), -1);
        Check.same("6: 600 blanks", watch.errorCode(), GranaryWatch.INCOMPLETE);
        Check.same("7: 600 blanks", watch.errorOffset(), 600);
    }
}
