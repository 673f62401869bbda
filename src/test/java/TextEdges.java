import java.util.NoSuchElementException;

/** The edges that section 5 of the document's terms and promises 1 to 7 name: the input buffer, setups and scripts. */
final class TextEdges {
    private static final String TERMS = "Terms";
    private static final String SMALL = "cat a 1 left;sack b 1 1 open;shift a 1;";

    private TextEdges() {
    }

    static void run() {
        bufferSize();
        tokens();
        blanks();
        statementEnds();
        catStatement();
        sackStatement();
        shiftStatement();
        milkAndHour();
        scriptNumbers();
        scriptNames();
        firstError();
        smallestCode();
        errorOffsets();
        earlyEnds();
        errorCodes();
        newObject();
        appendInput();
        truncateInput();
        loadGranary();
        failedLoad();
        runScript();
        stoppedScript();
        reportedError();
    }

    private static void bufferSize() {
        Sentence.of(TERMS, "The input buffer holds at most 600 bytes.");
        GranaryWatch watch = new GranaryWatch();
        for (int length = 20; length <= 600; length += 20) {
            Check.same("20 bytes more", watch.appendInput(0, 0, 0, 0, 0), length);
        }
        Check.same("20 bytes too many", watch.appendInput(0, 0, 0, 0, 0), -1);
        Check.same("600 bytes of a script", Watch.run(new GranaryWatch(), " ".repeat(592) + "wait 24;"), 1);
        Check.same("600 bytes of a setup", Watch.load(new GranaryWatch(), "\n".repeat(600 - SMALL.length()) + SMALL), 1);
    }

    private static void tokens() {
        Sentence.of(TERMS, "A token is a word (a maximal run of lowercase letters, at most 8), a number (a maximal run of digits, at most 4) or a semicolon.");
        Check.same("a number of four digits", Watch.run(new GranaryWatch(), "wait 0001;"), 1);
        Texts.scriptFails("wait 00001;", GranaryWatch.SYNTAX, 5);
        Texts.scriptFails("wait 99999;", GranaryWatch.SYNTAX, 5);
        Texts.scriptFails("dismissx;", GranaryWatch.SYNTAX, 0);
        Texts.scriptFails("dismissxx;", GranaryWatch.SYNTAX, 0);
        Texts.setupFails("cat abcdefgh 1 left;", GranaryWatch.SYNTAX, 4);
        Texts.setupFails("cat abcdefghi 1 left;", GranaryWatch.SYNTAX, 4);
        Texts.setupFails("cat a 1 lefta;", GranaryWatch.SYNTAX, 8);
        Texts.setupFails("cata 1 left;", GranaryWatch.SYNTAX, 0);
        Check.same("runs of two kinds need no blank", Watch.run(new GranaryWatch(), "wait1;mice rye1;grain oats999;open oats;"), 4);
        Check.same("a run of letters ends at a digit", Watch.load(new GranaryWatch(), "cat z9right;sack a0 99shut;shift z24;"), 1);
        // The bytes just before and behind the letters, the digits and the semicolon.
        for (char sign : new char[] {'`', '{', '/', ':', '<', 'A', 'Z', '[', '@'}) {
            Texts.scriptFails("wait 1" + sign, GranaryWatch.SYNTAX, 6);
            Texts.scriptFails("wait " + sign + "1;", GranaryWatch.SYNTAX, 5);
        }
    }

    private static void blanks() {
        Sentence.of(TERMS, "Spaces (byte 32) and line feeds (byte 10) separate tokens and are otherwise ignored.");
        Check.same("before and behind all", Watch.run(new GranaryWatch(), " \n wait \n\n 1  ;\n\ndismiss\n; \n"), 2);
        Texts.scriptFails("wait 1 0;", GranaryWatch.SYNTAX, 7);
        Texts.scriptFails("wait 1\n0;", GranaryWatch.SYNTAX, 7);
        Texts.scriptFails("wa it 1;", GranaryWatch.SYNTAX, 0);
        for (char sign : new char[] {0, 9, 11, 12, 13, 31, 33, 127, 128, 128 + 10, 128 + 32, 255}) {
            Texts.scriptFails("wait" + sign + "1;", GranaryWatch.SYNTAX, 4);
            Texts.scriptFails("wait 1;" + sign, GranaryWatch.SYNTAX, 7);
        }
    }

    private static void statementEnds() {
        Sentence.of(TERMS, "Each statement ends with a semicolon.");
        Texts.scriptFails("wait 1", GranaryWatch.SYNTAX, 6);
        Texts.scriptFails("dismiss dismiss;", GranaryWatch.SYNTAX, 8);
        Texts.scriptFails("open oats wait 1;", GranaryWatch.SYNTAX, 10);
        Texts.scriptFails("wait 1;;", GranaryWatch.SYNTAX, 7);
        Texts.scriptFails(";", GranaryWatch.SYNTAX, 0);
        Texts.setupFails("cat a 1 left", GranaryWatch.SYNTAX, 12);
        Texts.setupFails("cat a 1 left cat b 1 left;", GranaryWatch.SYNTAX, 13);
        Texts.setupFails("sack a 1 1 open", GranaryWatch.SYNTAX, 15);
        Texts.setupFails("cat a 1 left;shift a 1", GranaryWatch.SYNTAX, 22);
        Texts.setupFails("milk 1", GranaryWatch.SYNTAX, 6);
        Texts.setupFails("hour 1", GranaryWatch.SYNTAX, 6);
        Texts.setupFails(SMALL + ";", GranaryWatch.SYNTAX, SMALL.length());

        Sentence.of(TERMS, "N stands for a number and NAME for a word of 1 to 6 letters.");
        Texts.setupFails("cat a left;", GranaryWatch.SYNTAX, 6);
        Texts.setupFails("cat 1 1 left;", GranaryWatch.SYNTAX, 4);
        Texts.setupFails("cat abcdefg 1 left;", GranaryWatch.SYNTAX, 4);
        Texts.setupFails("sack abcdefg 1 1 open;", GranaryWatch.SYNTAX, 5);
        Texts.setupFails("cat a 1 left;shift abcdefg 1;", GranaryWatch.SYNTAX, 19);
        Texts.scriptFails("open abcdefg;", GranaryWatch.SYNTAX, 5);
        Texts.scriptFails("wait rye;", GranaryWatch.SYNTAX, 5);
        Check.same("names of six letters", Watch.load(new GranaryWatch(), "cat abcdef 1 left;sack ghijkl 1 1 open;shift abcdef 1;"), 1);
    }

    private static void catStatement() {
        Sentence.of(TERMS, "cat NAME N PAW (the speed; PAW is one of the words left and right)");
        GranaryWatch watch = Watch.of("cat cat 1 left;cat left 9 right;sack b 1 1 open;shift cat 1;");
        Check.same("left", watch.isLeftPawed(0), true);
        Check.same("right", watch.isLeftPawed(1), false);
        Check.same("words of the language are names", Watch.catName(watch, 0) + Watch.catName(watch, 1), "catleft");
        Texts.setupFails("cat a 0 left;", GranaryWatch.OUT_OF_RANGE, 6);
        Texts.setupFails("cat a 10 right;", GranaryWatch.OUT_OF_RANGE, 6);
        Texts.setupFails("cat a 9999 right;", GranaryWatch.OUT_OF_RANGE, 6);
        Texts.setupFails("cat a 1 open;", GranaryWatch.SYNTAX, 8);
        Texts.setupFails("cat a 1 righ;", GranaryWatch.SYNTAX, 8);
        Texts.setupFails("cat a 1 righta;", GranaryWatch.SYNTAX, 8);
        Texts.setupFails("cat a 1 1;", GranaryWatch.SYNTAX, 8);
        Texts.setupFails("cat a 1;", GranaryWatch.SYNTAX, 7);
    }

    private static void sackStatement() {
        Sentence.of(TERMS, "sack NAME N N FLAP (grain, 0 to 999; mice; FLAP is one of the words open and shut)");
        GranaryWatch watch = Watch.of("cat a 1 left;sack sack 0 0 open;sack shut 999 99 shut;shift a 1;");
        Check.same("least and most", Watch.written(watch), "sack:0/0' shut:999/99");
        Texts.setupFails("sack a 1000 1 open;", GranaryWatch.OUT_OF_RANGE, 7);
        Texts.setupFails("sack a 9999 1 open;", GranaryWatch.OUT_OF_RANGE, 7);
        Texts.setupFails("sack a 1 100 open;", GranaryWatch.OUT_OF_RANGE, 9);
        Texts.setupFails("sack a 1 1 left;", GranaryWatch.SYNTAX, 11);
        Texts.setupFails("sack a 1 1 shu;", GranaryWatch.SYNTAX, 11);
        Texts.setupFails("sack a 1 1 shuta;", GranaryWatch.SYNTAX, 11);
        Texts.setupFails("sack a 1 1;", GranaryWatch.SYNTAX, 10);
        Texts.setupFails("sack a 1 open;", GranaryWatch.SYNTAX, 9);
        Texts.setupFails("sack a open;", GranaryWatch.SYNTAX, 7);
    }

    private static void shiftStatement() {
        Sentence.of(TERMS, "shift NAME N (a cat that was named earlier in the text; the hours)");
        Check.same("24 hours", Watch.of(SMALL.replace("shift a 1", "shift a 24")).hoursLeft(), 24);
        Texts.setupFails("shift a 1;cat a 1 left;sack b 1 1 open;", GranaryWatch.UNKNOWN_NAME, 6);
        Texts.setupFails("sack b 1 1 open;shift b 1;", GranaryWatch.UNKNOWN_NAME, 22);
        Texts.setupFails("shift tom 1;", GranaryWatch.UNKNOWN_NAME, 6);
        Texts.setupFails("cat ab 1 left;shift a 1;", GranaryWatch.UNKNOWN_NAME, 20);
        Texts.setupFails("cat ab 1 left;shift abc 1;", GranaryWatch.UNKNOWN_NAME, 20);
        Texts.setupFails("cat a 1 left;shift a 0;", GranaryWatch.OUT_OF_RANGE, 21);
        Texts.setupFails("cat a 1 left;shift a 25;", GranaryWatch.OUT_OF_RANGE, 21);
        Texts.setupFails("cat a 1 left;shift a;", GranaryWatch.SYNTAX, 20);
    }

    private static void milkAndHour() {
        Sentence.of(TERMS, "milk N (0 to 9; 3 if it is not given)");
        Check.same("least", Watch.of(SMALL + "milk 0;").milk(), 0);
        Check.same("most", Watch.of(SMALL + "milk 9;").milk(), 9);
        Texts.setupFails("milk 10;", GranaryWatch.OUT_OF_RANGE, 5);
        GranaryWatch watch = Watch.of(SMALL + "milk 9;hour 23;");
        Watch.load(watch, SMALL);
        Check.same("not given", watch.milk(), 3);

        Sentence.of(TERMS, "hour N (the clock at first, 0 to 23; 6 if it is not given)");
        Check.same("not given", watch.clock(), 6);
        Check.same("least", Watch.of(SMALL + "hour 0;").clock(), 0);
        Check.same("most", Watch.of(SMALL + "hour 23;").clock(), 23);
        Texts.setupFails("hour 24;", GranaryWatch.OUT_OF_RANGE, 5);

        Sentence.of(TERMS, "If milk or hour is given more than once, the last one counts.");
        GranaryWatch twice = Watch.of("milk 1;hour 1;" + SMALL + "hour 9;milk 8;milk 5;hour 2;");
        Check.same("milk", twice.milk(), 5);
        Check.same("hour", twice.clock(), 2);
        Texts.setupFails("hour 24;hour 2;" + SMALL, GranaryWatch.OUT_OF_RANGE, 5);

        Sentence.of(TERMS, "A cat and a sack may have the same name.");
        Check.same("a sack like a cat", Watch.load(new GranaryWatch(), "cat a 1 left;sack a 1 1 open;shift a 1;"), 1);
        Check.same("a cat like a sack", Watch.load(new GranaryWatch(), "sack a 1 1 open;cat b 1 left;cat a 1 left;shift a 1;"), 2);
    }

    private static void scriptNumbers() {
        Sentence.of(TERMS, "wait N (hours, 1 to 99)");
        GranaryWatch watch = new GranaryWatch();
        Check.same("least and most", Watch.run(watch, "wait 1;wait 99;"), 2);
        Check.same("hours", watch.clock(), 106);
        Texts.scriptFails("wait 0;", GranaryWatch.OUT_OF_RANGE, 5);
        Texts.scriptFails("wait 100;", GranaryWatch.OUT_OF_RANGE, 5);
        Texts.scriptFails("wait;", GranaryWatch.SYNTAX, 4);

        Sentence.of(TERMS, "mice NAME N (a sack, 1 to 99)");
        GranaryWatch mice = Watch.of("cat a 1 left;sack b 9 0 open;sack c 9 0 open;shift a 1;");
        Check.same("least and most", Watch.run(mice, "mice b 1;mice c 99;"), 2);
        Check.same("mice", Watch.written(mice), "b:9/1' c:9/99'");
        Texts.scriptFails("mice rye 0;", GranaryWatch.OUT_OF_RANGE, 9);
        Texts.scriptFails("mice rye 100;", GranaryWatch.OUT_OF_RANGE, 9);
        Texts.scriptFails("mice rye;", GranaryWatch.SYNTAX, 8);
        Texts.scriptFails("mice 1;", GranaryWatch.SYNTAX, 5);

        Sentence.of(TERMS, "grain NAME N (a sack, 1 to 999)");
        GranaryWatch grain = Watch.of("cat a 1 left;sack b 0 0 open;sack c 0 0 open;shift a 1;");
        Check.same("least and most", Watch.run(grain, "grain b 1;grain c 999;"), 2);
        Check.same("grain", Watch.written(grain), "b:1/0' c:999/0'");
        Texts.scriptFails("grain rye 0;", GranaryWatch.OUT_OF_RANGE, 10);
        Texts.scriptFails("grain rye 1000;", GranaryWatch.OUT_OF_RANGE, 10);
        Texts.scriptFails("grain rye;", GranaryWatch.SYNTAX, 9);

        Sentence.of(TERMS, "dismiss | milk N");
        GranaryWatch milk = new GranaryWatch();
        Check.same("least", Watch.run(milk, "milk 0;"), 1);
        Check.same("no milk", milk.milk(), 0);
        Check.same("most", Watch.run(milk, "dismiss;milk 9;"), 2);
        Check.same("most milk", milk.milk(), 9);
        Check.same("dismissed", milk.swornCat(), -1);
        Texts.scriptFails("milk 10;", GranaryWatch.OUT_OF_RANGE, 5);
        Texts.scriptFails("milk;", GranaryWatch.SYNTAX, 4);
        Texts.scriptFails("dismiss tom;", GranaryWatch.SYNTAX, 8);
    }

    private static void scriptNames() {
        Sentence.of(TERMS, "open NAME (a sack) | shut NAME (a sack)");
        GranaryWatch watch = new GranaryWatch();
        Check.same("both", Watch.run(watch, "open oats;shut rye;"), 2);
        Check.same("flaps", Watch.written(watch), "rye:60/4 oats:30/9' peas:8/2'");
        Texts.scriptFails("open tom;", GranaryWatch.UNKNOWN_NAME, 5);
        Texts.scriptFails("shut ry;", GranaryWatch.UNKNOWN_NAME, 5);
        Texts.scriptFails("shut ryes;", GranaryWatch.UNKNOWN_NAME, 5);
        Texts.scriptFails("open;", GranaryWatch.SYNTAX, 4);
        Texts.scriptFails("shut 1;", GranaryWatch.SYNTAX, 5);
        GranaryWatch six = Watch.of("cat a 1 left;shift a 1;" + Texts.sacks(6));
        Check.same("the last of six", Watch.run(six, "shut f;"), 1);
        Check.same("it is shut", six.isOpen(5), false);
    }

    private static void firstError() {
        Sentence.of(TERMS, "A text is parsed from left to right, and parsing stops at the first token with an error.");
        Texts.setupFails("cat a 10 lef;", GranaryWatch.OUT_OF_RANGE, 6);
        Texts.setupFails("cat a 1 left;cat a 10 left;", GranaryWatch.DUPLICATE_NAME, 17);
        Texts.setupFails("shift a 0;!", GranaryWatch.UNKNOWN_NAME, 6);
        Texts.setupFails(Texts.cats(8) + "cat a 10 lef;", GranaryWatch.TOO_MANY, Texts.cats(8).length());
        Texts.setupFails("sack abcdefg 1000 100 open;", GranaryWatch.SYNTAX, 5);
        Texts.scriptFails("mice tom 0;wait 0;", GranaryWatch.UNKNOWN_NAME, 5);
        Texts.scriptFails("wait 100 open tom;", GranaryWatch.OUT_OF_RANGE, 5);
        Texts.scriptFails("milk 1;".repeat(30) + "open tom;", GranaryWatch.TOO_MANY, 210);
    }

    private static void smallestCode() {
        Sentence.of(TERMS, "If several errors apply to that token, the one with the smallest code is reported.");
        // Too long and out of range, too long and unknown, not a statement and the 31st, too early and incomplete.
        Texts.setupFails("cat a 10000 left;", GranaryWatch.SYNTAX, 6);
        Texts.scriptFails("wait 10000;", GranaryWatch.SYNTAX, 5);
        Texts.setupFails("shift unknown 1;", GranaryWatch.SYNTAX, 6);
        Texts.scriptFails("open unknown;", GranaryWatch.SYNTAX, 5);
        Texts.scriptFails("milk 1;".repeat(30) + "nap;", GranaryWatch.SYNTAX, 210);
        Texts.scriptFails("milk 1;".repeat(30) + ";", GranaryWatch.SYNTAX, 210);
        Texts.scriptFails("milk 1;".repeat(30) + "dismissed;", GranaryWatch.SYNTAX, 210);
        Texts.setupFails("cat a 1 left;sack", GranaryWatch.SYNTAX, 17);
        Texts.setupFails(Texts.cats(8) + "cats", GranaryWatch.SYNTAX, Texts.cats(8).length());
    }

    private static void errorOffsets() {
        Sentence.of(TERMS, "The error offset is the index of the first byte of the token, or the length of the text if the text ends too early.");
        Texts.scriptFails("x", GranaryWatch.SYNTAX, 0);
        Texts.scriptFails(" \nx", GranaryWatch.SYNTAX, 2);
        Texts.scriptFails("wait 1;  wait   100 ;", GranaryWatch.OUT_OF_RANGE, 16);
        Texts.scriptFails("wait", GranaryWatch.SYNTAX, 4);
        Texts.scriptFails("wait 1 \n ", GranaryWatch.SYNTAX, 9);
        Texts.setupFails("cat \n", GranaryWatch.SYNTAX, 5);
        Texts.setupFails("cat a 1 left;   ", GranaryWatch.INCOMPLETE, 16);
        GranaryWatch full = new GranaryWatch();
        Check.same("600 bytes end too early", Watch.run(full, " ".repeat(596) + "wait"), -1);
        Check.same("the offset behind them", full.errorOffset(), 600);
        Check.same("600 bytes end with a wrong one", Watch.run(full, " ".repeat(599) + "!"), -1);
        Check.same("the offset of the last byte", full.errorOffset(), 599);
    }

    private static void earlyEnds() {
        Sentence.of(TERMS, "a byte belongs to no token, or the text ends too early.");
        String[] setup = {"cat a 1 left", "sack b 1 1 open", "cat a 1 left;shift a 1", "milk 1", "hour 1"};
        for (String statement : setup) {
            for (int end = statement.length(); end > 0; end = statement.lastIndexOf(' ', end - 1)) {
                Texts.setupFails(statement.substring(0, end), GranaryWatch.SYNTAX, end);
                Texts.setupFails(statement.substring(0, end) + " \n", GranaryWatch.SYNTAX, end + 2);
                Texts.setupFails(statement.substring(0, end) + "!", GranaryWatch.SYNTAX, end);
            }
        }
        String[] script = {"wait 1", "open oats", "shut rye", "mice rye 1", "grain rye 1", "dismiss", "milk 1"};
        for (String statement : script) {
            for (int end = statement.length(); end > 0; end = statement.lastIndexOf(' ', end - 1)) {
                Texts.scriptFails(statement.substring(0, end), GranaryWatch.SYNTAX, end);
                Texts.scriptFails(statement.substring(0, end) + " \n", GranaryWatch.SYNTAX, end + 2);
                Texts.scriptFails(statement.substring(0, end) + "!", GranaryWatch.SYNTAX, end);
            }
        }
    }

    private static void errorCodes() {
        Sentence.of(TERMS, "SYNTAX: the token is not allowed at its place, it is too long, a byte belongs to no token, or the text ends too early.");
        Texts.setupFails("wait 1;", GranaryWatch.SYNTAX, 0);
        Texts.setupFails("cat abcdefghi 1 left;", GranaryWatch.SYNTAX, 4);
        Texts.setupFails("cat\t", GranaryWatch.SYNTAX, 3);
        Texts.setupFails("cat", GranaryWatch.SYNTAX, 3);
        Texts.scriptFails("hour 1;", GranaryWatch.SYNTAX, 0);

        Sentence.of(TERMS, "OUT_OF_RANGE: a number is out of its range.");
        Texts.scriptFails("wait 0000;", GranaryWatch.OUT_OF_RANGE, 5);
        Texts.scriptFails("wait 9999;", GranaryWatch.OUT_OF_RANGE, 5);

        Sentence.of(TERMS, "DUPLICATE_NAME: the name of a new cat is the name of an earlier cat, or the name of a new sack is the name of an earlier sack.");
        Texts.setupFails("cat a 1 left;cat a 2 right;", GranaryWatch.DUPLICATE_NAME, 17);
        Texts.setupFails("cat abcdef 1 left;cat b 1 left;cat abcdef 1 left;", GranaryWatch.DUPLICATE_NAME, 35);
        Texts.setupFails(Texts.cats(7) + "cat g 1 left;", GranaryWatch.DUPLICATE_NAME, Texts.cats(7).length() + 4);
        Texts.setupFails("sack a 1 1 open;cat a 1 left;sack a 2 2 shut;", GranaryWatch.DUPLICATE_NAME, 34);
        Check.same("names that begin alike", Watch.load(new GranaryWatch(), "cat a 1 left;cat ab 1 left;cat b 1 left;" + SMALL.substring(13)), 3);
        Check.same("names of the granary before", Watch.load(new GranaryWatch(), "cat tom 1 left;sack rye 1 1 open;shift tom 1;"), 1);

        Sentence.of(TERMS, "UNKNOWN_NAME: no cat, or no sack, has the name.");
        Texts.setupFails("cat a 1 left;shift b 1;", GranaryWatch.UNKNOWN_NAME, 19);
        Texts.scriptFails("grain puss 1;", GranaryWatch.UNKNOWN_NAME, 6);

        Sentence.of(TERMS, "TOO_MANY: the word cat of a ninth cat, the word sack of a seventh sack, the word shift of a 13th shift, or the first word of a 31st statement of a script.");
        Texts.setupFails(Texts.cats(8) + "cat", GranaryWatch.TOO_MANY, Texts.cats(8).length());
        Texts.setupFails(Texts.sacks(6) + " sack", GranaryWatch.TOO_MANY, Texts.sacks(6).length() + 1);
        Texts.setupFails("cat a 1 left;" + Texts.shifts(12) + "shift", GranaryWatch.TOO_MANY, 13 + 120);
        Texts.scriptFails("milk 1;".repeat(30) + "\nmilk", GranaryWatch.TOO_MANY, 211);
        Check.same("30 statements", Watch.run(new GranaryWatch(), "milk 1;".repeat(30)), 30);
        Check.same("more than 30 statements of a setup", Watch.load(new GranaryWatch(), "milk 1;".repeat(40) + SMALL), 1);

        Sentence.of(TERMS, "INCOMPLETE: a setup text ends without a cat, without a sack or without a shift; the error offset is then the length of the text.");
        Texts.setupFails("", GranaryWatch.INCOMPLETE, 0);
        Texts.setupFails(" \n ", GranaryWatch.INCOMPLETE, 3);
        Texts.setupFails("sack b 1 1 open;", GranaryWatch.INCOMPLETE, 16);
        Texts.setupFails("cat a 1 left;shift a 1;", GranaryWatch.INCOMPLETE, 23);
        Texts.setupFails("cat a 1 left;sack b 1 1 open;", GranaryWatch.INCOMPLETE, 29);
        Check.same("a script is complete without them", new GranaryWatch().runScript(), 0);
    }

    private static void newObject() {
        Sentence.promise(1, "Creates the granary of the setup text \"cat tom 5 left;cat puss 3 right;cat moss 7 right;sack rye 60 4 open;sack oats 30 9 shut;"
                + "sack peas 8 2 open;shift tom 4;shift puss 3;shift moss 5;\" with an empty input buffer and an empty output.");
        GranaryWatch watch = new GranaryWatch();
        Check.same("the granary", Watch.state(watch), Watch.state(Watch.of("cat tom 5 left;cat puss 3 right;cat moss 7 right;sack rye 60 4 open;"
                + "sack oats 30 9 shut;sack peas 8 2 open;shift tom 4;shift puss 3;shift moss 5;")));
        Check.same("three cats", watch.catCount(), 3);
        Check.same("an empty output", watch.outputByte(0), -1);
        Check.same("an empty buffer", watch.truncateInput(1), false);
        Check.same("its length with 20 bytes", watch.appendInput(0, 0, 0, 0, 0), 20);
    }

    private static void appendInput() {
        Sentence.promise(2, "Each parameter contributes four bytes, the most significant byte first.");
        // "mice rye 12;" and "milk 7;" and a blank: each parameter begins with another letter.
        GranaryWatch watch = new GranaryWatch();
        Check.same("20 bytes", watch.appendInput(0x6d696365, 0x20727965, 0x2031323b, 0x6d696c6b, 0x20373b20), 20);
        Check.same("two statements", watch.runScript(), 2);
        Check.same("mice", watch.miceIn(0), 16);
        Check.same("milk", watch.milk(), 7);
        for (int at = 0; at < 20; at++) {
            int[] parts = {0x20202020, 0x20202020, 0x20202020, 0x20202020, 0x20202020};
            parts[at / 4] ^= 0x80 << 24 - at % 4 * 8;
            watch.appendInput(parts[0], parts[1], parts[2], parts[3], parts[4]);
            watch.runScript();
            Check.same("byte 160 is no blank, at " + at, watch.errorOffset(), at);
        }

        Sentence.promise(2, "Returns the new length of the input buffer, or NONE if it would exceed 600; the buffer is then unchanged.");
        GranaryWatch full = new GranaryWatch();
        Watch.append(full, "milk 9;" + " ".repeat(573));
        Check.same("just 600", full.appendInput(0x20202020, 0x20202020, 0x20202020, 0x20202020, 0x20202020), 600);
        Check.same("620", full.appendInput(0x21212121, 0, 0, 0, 0), -1);
        Check.same("no byte more", full.truncateInput(601), false);
        full.truncateInput(581);
        Check.same("601", full.appendInput(0x21212121, 0, 0, 0, 0), -1);
        Check.same("still no byte more", full.truncateInput(582), false);
        Check.same("the bytes are as before", full.runScript(), 1);
        Check.same("they were carried out", full.milk(), 9);
    }

    private static void truncateInput() {
        Sentence.promise(3, "Returns true if the buffer was truncated; false, without a change, if length is negative or greater than the current length.");
        GranaryWatch watch = new GranaryWatch();
        Check.same("empty to 0", watch.truncateInput(0), true);
        Check.same("empty to 1", watch.truncateInput(1), false);
        Watch.append(watch, "milk 9;milk 8;");
        Check.same("-1", watch.truncateInput(-1), false);
        Check.same("least", watch.truncateInput(Integer.MIN_VALUE), false);
        Check.same("one more", watch.truncateInput(15), false);
        Check.same("most", watch.truncateInput(Integer.MAX_VALUE), false);
        Check.same("its own length", watch.truncateInput(14), true);
        Check.same("nothing is cut so far", watch.runScript(), 2);
        Watch.append(watch, "milk 7;milk 6;");
        Check.same("one less", watch.truncateInput(13), true);
        Check.same("the semicolon is cut", watch.runScript(), -1);
        Check.same("the text ends there", watch.errorOffset(), 13);
        Watch.append(watch, "milk 7;milk 6;");
        Check.same("half", watch.truncateInput(7), true);
        Check.same("what was cut does not come back", watch.truncateInput(8), false);
        Check.same("one statement is left", watch.runScript(), 1);
        Check.same("the first one", watch.milk(), 7);
        Watch.append(watch, "!");
        Check.same("to 0", watch.truncateInput(0), true);
        Check.same("nothing is left", watch.runScript(), 0);
        Watch.append(watch, " ".repeat(600));
        Check.same("601 of 600", watch.truncateInput(601), false);
        Check.same("600 of 600", watch.truncateInput(600), true);
    }

    private static void loadGranary() {
        Sentence.promise(4, "Parses the input buffer as a setup text (section 5) and empties the buffer in any case.");
        GranaryWatch watch = new GranaryWatch();
        Check.same("no error", Watch.load(watch, SMALL), 1);
        Check.same("empty", watch.truncateInput(1), false);
        Check.same("an error in the first byte", Watch.load(watch, "!" + SMALL), -1);
        Check.same("empty then", watch.truncateInput(1), false);
        Check.same("incomplete", Watch.load(watch, "milk 1;"), -1);
        Check.same("empty then too", watch.appendInput(0, 0, 0, 0, 0), 20);

        Sentence.promise(4, "If the text has no error, it replaces cats, sacks, shifts, milk and clock; all totals are 0 then except for the oath of the"
                + " first sworn cat, there are no events, nothing can be undone and no state is saved.");
        GranaryWatch old = new GranaryWatch();
        old.setMilk(9);
        old.addGrain(0, 9);
        old.letPass(99);
        old.saveState();
        Check.same("a new one", Watch.load(old, "cat x 2 right;sack y 7 8 shut;shift x 3;"), 1);
        Check.same("all of it", Watch.state(old), "clock 6 milk 3 sworn 0 shift 0 left 3 cat x 2 false 0 0 1 sack y 7 8 false 0"
                + " shift 0 3 totals 0 0 0 0 1 0 events ");
        Check.raises("nothing to undo", NoSuchElementException.class, old::undo);
        Check.raises("no state is saved", NoSuchElementException.class, old::restoreState);
        Check.same("the invariants hold", old.isConsistent(), true);
        Check.same("a later change is the only one", old.setMilk(1), 3);
        Check.same("it is undone", old.undo(), 0);

        Sentence.promise(4, "Returns the number of cats, or NONE if the text has an error.");
        Check.same("one cat", Watch.load(new GranaryWatch(), SMALL), 1);
        Check.same("eight cats", Watch.load(new GranaryWatch(), Texts.cats(8) + SMALL.substring(13)), 8);
        Check.same("an error", Watch.load(new GranaryWatch(), SMALL + "milk 10;"), -1);
    }

    private static void failedLoad() {
        Sentence.promise(4, "If the text has an error, only the buffer and the reported error change.");
        // Each of these goes wrong as late as it can.
        String[] wrong = {"milk 9;hour 23;" + SMALL + "x", "cat x 9 right;sack y 9 9 shut;hour 1;", Texts.cats(9), Texts.sacks(6) + "sack"};
        for (String setup : wrong) {
            GranaryWatch watch = new GranaryWatch();
            watch.letPass(5);
            watch.saveState();
            watch.setMilk(9);
            watch.writeSacks();
            String before = Watch.state(watch) + Watch.output(watch);
            Check.same(setup, Watch.load(watch, setup), -1);
            Check.same("state and output", Watch.state(watch) + Watch.output(watch), before);
            Check.same("the change can be undone", watch.undo(), 1);
            Check.same("to the former milk", watch.milk(), 3);
            Check.same("the saved state", watch.restoreState(), 11);
        }
    }

    private static void runScript() {
        Sentence.promise(5, "Parses the input buffer as a script (section 5) and empties the buffer in any case.");
        GranaryWatch watch = new GranaryWatch();
        Check.same("no error", Watch.run(watch, "milk 1;"), 1);
        Check.same("empty", watch.truncateInput(1), false);
        Check.same("an error", Watch.run(watch, "milk 1;!"), -1);
        Check.same("empty then", watch.truncateInput(1), false);
        Check.same("a script that stops", Watch.run(watch, "open rye;milk 2;"), 0);
        Check.same("empty then too", watch.appendInput(0, 0, 0, 0, 0), 20);

        Sentence.promise(5, "If the text has no error, its statements are executed in order, like the methods letPass, openFlap, shutFlap, addMice, addGrain,"
                + " dismiss and setMilk.");
        GranaryWatch script = new GranaryWatch();
        GranaryWatch calls = new GranaryWatch();
        Check.same("all seven", Watch.run(script, "wait 1;open oats;shut rye;mice oats 90;grain peas 999;dismiss;milk 0;"), 7);
        calls.letPass(1);
        calls.openFlap(1);
        calls.shutFlap(0);
        calls.addMice(1, 90);
        calls.addGrain(2, 999);
        calls.dismiss();
        calls.setMilk(0);
        Check.same("as the methods", Watch.state(script), Watch.state(calls));
        Check.same("the invariants hold", script.isConsistent(), true);
        Check.same("an error in the last byte", Watch.run(script, "wait 1;!"), -1);
        Check.same("nothing is executed", Watch.state(script), Watch.state(calls));

        Sentence.promise(5, "If the text has no error, the whole script is one change.");
        Check.same("seven statements, one change", script.undo(), 0);
        Check.same("all of them are undone", Watch.state(script), Watch.state(new GranaryWatch()));
        Check.same("no statement", script.runScript(), 0);
        Check.same("it is a change", script.undo(), 0);
        Check.same("no statement is executed", Watch.run(script, "open rye;"), 0);
        Check.same("it is a change too", script.undo(), 0);
        Watch.run(script, "open rye");
        Check.raises("a text with an error is none", NoSuchElementException.class, script::undo);

        Sentence.promise(5, "Returns the number of statements that were executed, or NONE if the text has an error.");
        Check.same("none", new GranaryWatch().runScript(), 0);
        Check.same("thirty", Watch.run(new GranaryWatch(), "wait 1;".repeat(30)), 30);
        Check.same("an error in the 31st", Watch.run(new GranaryWatch(), "wait 1;".repeat(31)), -1);
    }

    private static void stoppedScript() {
        Sentence.promise(5, "Execution ends at the first statement whose method would throw; that statement has no effect.");
        stops("milk 1;", "open rye;");
        stops("open oats;", "open oats;");
        stops("", "shut oats;");
        stops("shut rye;", "shut rye;");
        stops("mice rye 95;", "mice rye 1;");
        stops("", "mice oats 91;");
        stops("grain rye 999;".repeat(9) + "grain rye 948;", "grain rye 1;");
        stops("dismiss;", "dismiss;");
        GranaryWatch late = new GranaryWatch();
        for (int i = 0; i < 4; i++) {
            Watch.run(late, "wait 99;".repeat(25));
        }
        Check.same("the clock of the last call", late.clock(), 9906);
        Check.same("93 hours are left", Watch.run(late, "wait 94;milk 9;"), 0);
        Check.same("they are left still", late.clock(), 9906);
        Check.same("to the last hour", Watch.run(late, "wait 93;milk 8;wait 1;milk 7;"), 2);
        Check.same("the last hour", late.clock(), 9999);
        Check.same("what came before", late.milk(), 8);
    }

    /** The second text is a statement that fails after the first text; a third statement is not reached. */
    private static void stops(String before, String failing) {
        GranaryWatch watch = new GranaryWatch();
        GranaryWatch due = new GranaryWatch();
        int statements = before.split(";").length - (before.isEmpty() ? 1 : 0);
        Check.same(before + failing, Watch.run(watch, before + failing + "wait 9;"), statements);
        Check.same("no error", watch.errorCode(), GranaryWatch.NO_ERROR);
        Check.same("those before it", Watch.run(due, before), statements);
        Check.same("nothing else", Watch.state(watch), Watch.state(due));
        Check.same("the invariants hold", watch.isConsistent(), true);
    }

    private static void reportedError() {
        Sentence.promise(6, "Returns the error code; NO_ERROR if that call found no error or there was no such call.");
        GranaryWatch watch = new GranaryWatch();
        Check.same("no such call", watch.errorCode(), GranaryWatch.NO_ERROR);
        Watch.append(watch, "!");
        Check.same("appending is no such call", watch.errorCode(), GranaryWatch.NO_ERROR);
        watch.loadGranary();
        Check.same("a setup with an error", watch.errorCode(), GranaryWatch.SYNTAX);
        watch.letPass(1);
        Check.same("other calls leave it", watch.errorCode(), GranaryWatch.SYNTAX);
        Watch.run(watch, "open rye;");
        Check.same("a script that stops has no error", watch.errorCode(), GranaryWatch.NO_ERROR);
        Watch.run(watch, "wait 0;");
        Check.same("a script with an error", watch.errorCode(), GranaryWatch.OUT_OF_RANGE);
        Watch.load(watch, "");
        Check.same("the latest of both", watch.errorCode(), GranaryWatch.INCOMPLETE);
        Watch.load(watch, SMALL);
        Check.same("a setup without an error", watch.errorCode(), GranaryWatch.NO_ERROR);

        Sentence.promise(7, "Returns the offset; NONE if errorCode() is NO_ERROR.");
        Check.same("after a setup", watch.errorOffset(), -1);
        Check.same("of a new object", new GranaryWatch().errorOffset(), -1);
        Watch.run(watch, "!");
        Check.same("the first byte", watch.errorOffset(), 0);
        Watch.run(watch, "milk 1;");
        Check.same("after a script", watch.errorOffset(), -1);
        Watch.run(watch, "milk 1; 2");
        Check.same("the last byte", watch.errorOffset(), 8);
        Check.raises("a call that throws", IllegalArgumentException.class, () -> watch.letPass(0));
        Check.same("other calls leave it", watch.errorOffset(), 8);
    }
}
