/** The edges that promises 8 to 36 and 44 to 52 name: what is told of the granary. */
final class AnswerEdges {
    private static final String SMALL = "cat a 1 left;sack b 1 1 open;shift a 1;";

    private AnswerEdges() {
    }

    static void run() {
        clock();
        counts();
        names();
        noSuchCat();
        noSuchSack();
        noSuchShift();
        catAnswers();
        sackAnswers();
        shiftAnswers();
        oathReason();
        huntingSack();
        eventCount();
        events();
        eventCats();
        milk();
        totals();
        totalsOfSteps();
        oathTotals();
        isConsistent();
        averageTiredness();
        shareOf();
    }

    /** A granary with as many cats, sacks and shifts as there may be. */
    static GranaryWatch full() {
        return Watch.of(Texts.cats(8) + Texts.sacks(6) + "shift a 24;" + Texts.shifts(10) + "shift h 2;");
    }

    private static void clock() {
        Sentence.promise(8, "Returns the clock in hours.");
        GranaryWatch watch = late();
        Check.same("the greatest", watch.clock(), 9999);
        Check.same("the least", Watch.of(SMALL + "hour 0;").clock(), 0);

        Sentence.promise(9, "Returns the hour of the day, 0 to 23.");
        Check.same("at 9999", watch.hourOfDay(), 15);
        GranaryWatch day = Watch.of(SMALL + "hour 23;");
        Check.same("23", day.hourOfDay(), 23);
        day.letPass(1);
        Check.same("24", day.hourOfDay(), 0);
    }

    /** A granary at the clock 9999. */
    static GranaryWatch late() {
        GranaryWatch watch = Watch.of("cat a 9 left;cat b 9 right;sack c 0 0 open;sack d 9 0 shut;shift a 24;hour 6;");
        for (int i = 0; i < 100; i++) {
            watch.letPass(99);
        }
        watch.letPass(93);
        return watch;
    }

    private static void counts() {
        Sentence.promise(10, "Returns the number of cats.");
        Check.same("least", Watch.of(SMALL).catCount(), 1);
        Check.same("most", full().catCount(), 8);
        Sentence.promise(11, "Returns the number of sacks.");
        Check.same("least", Watch.of(SMALL).sackCount(), 1);
        Check.same("most", full().sackCount(), 6);
        Sentence.promise(12, "Returns the number of shifts.");
        Check.same("least", Watch.of(SMALL).shiftCount(), 1);
        Check.same("most", full().shiftCount(), 12);
    }

    private static void names() {
        int[] none = {-1, Integer.MIN_VALUE, Integer.MAX_VALUE};
        GranaryWatch watch = Watch.of("cat abcdef 1 left;cat z 1 left;sack ghijkl 1 1 open;sack y 1 1 open;shift z 1;");
        Sentence.promise(13, "Returns the letter as a byte, or NONE if there is no such letter.");
        Check.same("the first of six", watch.catNameByte(0, 0), 97);
        Check.same("the last of six", watch.catNameByte(0, 5), 102);
        Check.same("behind six", watch.catNameByte(0, 6), -1);
        Check.same("the only one", watch.catNameByte(1, 0), 122);
        Check.same("behind the only one", watch.catNameByte(1, 1), -1);
        for (int index : none) {
            Check.same("letter " + index, watch.catNameByte(0, index), -1);
        }
        Sentence.promise(14, "Returns the letter as a byte, or NONE if there is no such letter.");
        Check.same("the first of six", watch.sackNameByte(0, 0), 103);
        Check.same("the last of six", watch.sackNameByte(0, 5), 108);
        Check.same("behind six", watch.sackNameByte(0, 6), -1);
        Check.same("the only one", watch.sackNameByte(1, 0), 121);
        Check.same("behind the only one", watch.sackNameByte(1, 1), -1);
        for (int index : none) {
            Check.same("letter " + index, watch.sackNameByte(0, index), -1);
        }
    }

    private interface Call {
        void at(GranaryWatch watch, int index);
    }

    private static void noSuchCat() {
        catCall(13, (watch, cat) -> watch.catNameByte(cat, 0));
        catCall(13, (watch, cat) -> watch.catNameByte(cat, -1));
        catCall(15, GranaryWatch::speedOf);
        catCall(16, GranaryWatch::isLeftPawed);
        catCall(17, GranaryWatch::tirednessOf);
        catCall(18, GranaryWatch::strengthOf);
        catCall(19, GranaryWatch::caughtBy);
        catCall(20, GranaryWatch::oathsOf);
        catCall(30, GranaryWatch::oathReason);
        catCall(52, GranaryWatch::shareOf);
    }

    private static void catCall(int promise, Call call) {
        Sentence.promise(promise, "Throws `IndexOutOfBoundsException` if there is no such cat");
        throwsBeyond(8, call);
    }

    private static void noSuchSack() {
        sackCall(14, (watch, sack) -> watch.sackNameByte(sack, 0));
        sackCall(14, (watch, sack) -> watch.sackNameByte(sack, -1));
        sackCall(21, GranaryWatch::grainIn);
        sackCall(22, GranaryWatch::miceIn);
        sackCall(23, GranaryWatch::isOpen);
        sackCall(24, GranaryWatch::eatenFrom);
        sackCall(37, (watch, sack) -> watch.miceAfter(sack, 0));
        sackCall(37, (watch, sack) -> watch.miceAfter(sack, 200));
        sackCall(38, (watch, sack) -> watch.grainAfter(sack, 0));
        sackCall(38, (watch, sack) -> watch.grainAfter(sack, 200));
        sackCall(41, GranaryWatch::hoursUntilEmpty);
        sackCall(54, (watch, sack) -> {
            if (sack >= 0 && sack < watch.sackCount() && watch.isOpen(sack)) {
                watch.shutFlap(sack);
            }
            watch.openFlap(sack);
        });
        sackCall(55, (watch, sack) -> {
            if (sack >= 0 && sack < watch.sackCount() && !watch.isOpen(sack)) {
                watch.openFlap(sack);
            }
            watch.shutFlap(sack);
        });
        sackCall(56, (watch, sack) -> watch.addMice(sack, 1));
        sackCall(57, (watch, sack) -> watch.addGrain(sack, 1));
    }

    private static void sackCall(int promise, Call call) {
        Sentence.promise(promise, "Throws `IndexOutOfBoundsException` if there is no such sack");
        throwsBeyond(6, call);
    }

    private static void noSuchShift() {
        for (int promise = 28; promise <= 29; promise++) {
            Call call = promise == 28 ? GranaryWatch::catOfShift : GranaryWatch::hoursOfShift;
            Sentence.promise(promise, "Throws `IndexOutOfBoundsException` if there is no such shift");
            throwsBeyond(12, call);
        }
    }

    /** A granary of one, of three and of the most, and one of one where the most were before. */
    private static void throwsBeyond(int most, Call call) {
        throwsBeyond(Watch.of(SMALL), 1, call);
        throwsBeyond(new GranaryWatch(), 3, call);
        GranaryWatch watch = full();
        throwsBeyond(watch, most, call);
        Watch.load(watch, SMALL);
        throwsBeyond(watch, 1, call);
    }

    private static void throwsBeyond(GranaryWatch watch, int count, Call call) {
        int[] wrong = {-1, count, count + 1, Integer.MIN_VALUE, Integer.MAX_VALUE};
        for (int index : wrong) {
            Check.raises("index " + index + " of " + count, IndexOutOfBoundsException.class, () -> call.at(watch, index));
        }
        call.at(watch, 0);
        call.at(watch, count - 1);
    }

    private static void catAnswers() {
        GranaryWatch watch = Watch.of("cat a 1 left;cat b 9 right;sack c 99 10 open;shift b 1;shift a 9;hour 7;");
        Sentence.promise(15, "Returns the speed.");
        Check.same("least", watch.speedOf(0), 1);
        Check.same("most", watch.speedOf(1), 9);
        Sentence.promise(16, "Returns true for the left paw, false for the right paw.");
        Check.same("left", watch.isLeftPawed(0), true);
        Check.same("right", watch.isLeftPawed(1), false);
        Sentence.promise(17, "Returns the tiredness.");
        Check.same("least", watch.tirednessOf(1), 0);
        Check.same("most", TermEdges.tired(1, 22).tirednessOf(0), 20);
        Sentence.promise(18, "Returns the strength.");
        Check.same("most", watch.strengthOf(1), 9);
        Check.same("least", TermEdges.tired(1, 22).strengthOf(0), 0);

        Sentence.promise(19, "Returns the number of mice since the setup was loaded.");
        Check.same("no mouse", watch.caughtBy(1), 0);
        watch.letPass(1);
        Check.same("one hunt", watch.caughtBy(1), 9);
        Check.same("of another cat", watch.caughtBy(0), 0);
        watch.letPass(1);
        Check.same("the last mouse", watch.caughtBy(0), 1);
        Check.same("as before", watch.caughtBy(1), 9);
        Watch.load(watch, SMALL);
        Check.same("a new setup", watch.caughtBy(0), 0);

        Sentence.promise(20, "Returns the number of times since the setup was loaded, including the swearing when it was loaded.");
        GranaryWatch oaths = Watch.of("cat a 1 left;cat b 1 right;sack c 9 0 open;shift b 1;shift b 1;shift a 24;hour 7;");
        Check.same("when it was loaded", oaths.oathsOf(1), 1);
        Check.same("not yet", oaths.oathsOf(0), 0);
        oaths.letPass(1);
        Check.same("sworn in by itself", oaths.oathsOf(1), 2);
        oaths.letPass(1);
        Check.same("sworn in by another cat", oaths.oathsOf(0), 1);
        oaths.dismiss();
        oaths.letPass(21);
        Check.same("at dawn", oaths.oathsOf(0), 2);
        Watch.load(oaths, "cat a 1 left;cat b 1 right;sack c 9 0 open;shift b 1;");
        Check.same("a new setup", oaths.oathsOf(0), 0);
        Check.same("a new first oath", oaths.oathsOf(1), 1);
    }

    private static void sackAnswers() {
        GranaryWatch watch = Watch.of("cat a 1 left;sack b 0 0 open;sack c 999 99 shut;shift a 24;hour 7;");
        Sentence.promise(21, "Returns the number of units.");
        Check.same("least", watch.grainIn(0), 0);
        Check.same("of the other", watch.grainIn(1), 999);
        Watch.run(watch, "grain c 900;".repeat(10));
        Check.same("most", watch.grainIn(1), 9999);
        Sentence.promise(22, "Returns the number of mice.");
        Check.same("least", watch.miceIn(0), 0);
        Check.same("most", watch.miceIn(1), 99);
        Sentence.promise(23, "Returns true if it is open.");
        Check.same("open", watch.isOpen(0), true);
        Check.same("shut", watch.isOpen(1), false);
        Sentence.promise(24, "Returns the number of units since the setup was loaded.");
        Check.same("nothing", watch.eatenFrom(1), 0);
        watch.letPass(1);
        Check.same("an hour", watch.eatenFrom(1), 99);
        Check.same("without mice", watch.eatenFrom(0), 0);
        watch.letPass(1);
        Check.same("two hours", watch.eatenFrom(1), 198);
        Watch.load(watch, "cat a 1 left;sack b 0 0 open;sack c 999 99 shut;shift a 24;");
        Check.same("a new setup", watch.eatenFrom(1), 0);
    }

    private static void shiftAnswers() {
        GranaryWatch watch = full();
        Sentence.promise(25, "Returns the index of the cat, or NONE if there is no sworn cat.");
        Check.same("the first cat", watch.swornCat(), 0);
        Check.same("the last cat", Watch.of(Texts.cats(8) + "sack b 1 1 open;shift h 1;").swornCat(), 7);
        watch.dismiss();
        Check.same("none", watch.swornCat(), -1);
        Sentence.promise(26, "Returns the index of the shift.");
        Check.same("the first shift", watch.currentShift(), 0);
        watch.letPass(24 + 10);
        Check.same("the last shift", watch.currentShift(), 11);
        Sentence.promise(27, "Returns the number of hours, at least 1.");
        Check.same("all of the last", watch.hoursLeft(), 2);
        watch.letPass(1);
        Check.same("the last hour", watch.hoursLeft(), 1);
        watch.letPass(1);
        Check.same("never 0", watch.hoursLeft(), 24);
        Sentence.promise(28, "Returns the index of the cat.");
        Check.same("of the first shift", watch.catOfShift(0), 0);
        Check.same("of the last shift", watch.catOfShift(11), 7);
        Sentence.promise(29, "Returns the number of hours.");
        Check.same("most", watch.hoursOfShift(0), 24);
        Check.same("least", watch.hoursOfShift(10), 1);
        Check.same("of the last shift", watch.hoursOfShift(11), 2);
    }

    private static void oathReason() {
        Sentence.promise(30, "Returns CAN_SWEAR, or the smallest of NOBODY_SWORN, TOO_TIRED and SAME_PAW that applies.");
        GranaryWatch fresh = TermEdges.tired(1, 0);
        Check.same("the sworn cat itself", fresh.oathReason(0), GranaryWatch.CAN_SWEAR);
        Check.same("the other paw", fresh.oathReason(1), GranaryWatch.CAN_SWEAR);
        Check.same("the same paw", fresh.oathReason(2), GranaryWatch.SAME_PAW);
        Check.same("itself with 11", TermEdges.tired(1, 11).oathReason(0), GranaryWatch.CAN_SWEAR);
        GranaryWatch itself = TermEdges.tired(1, 12);
        Check.same("itself with 12", itself.oathReason(0), GranaryWatch.TOO_TIRED);
        itself.dismiss();
        Check.same("nobody before too tired", itself.oathReason(0), GranaryWatch.NOBODY_SWORN);
        Check.same("nobody before the other paw", itself.oathReason(1), GranaryWatch.NOBODY_SWORN);
        Check.same("nobody before the same paw", itself.oathReason(2), GranaryWatch.NOBODY_SWORN);
        // a hunts, b swears in c, which has a's paw, while a rests: 13 - 2 are able, 14 - 2 are not.
        String rest = "shift b 1;shift c 24;hour 7;milk 0;";
        String cats = "cat a 1 left;cat b 1 right;cat c 1 left;sack d 999 20 open;";
        GranaryWatch able = Watch.of(cats + "shift a 13;" + rest);
        able.letPass(15);
        Check.same("c is sworn", able.swornCat(), 2);
        Check.same("11 of the same paw", able.oathReason(0), GranaryWatch.SAME_PAW);
        GranaryWatch tired = Watch.of(cats + "shift a 14;" + rest);
        tired.letPass(16);
        Check.same("c is sworn too", tired.swornCat(), 2);
        Check.same("too tired before the same paw", tired.oathReason(0), GranaryWatch.TOO_TIRED);
        Check.same("the other paw is able", tired.oathReason(1), GranaryWatch.CAN_SWEAR);
    }

    private static void huntingSack() {
        Sentence.promise(31, "Returns the index of the sack, or NONE if no sack with an open flap has mice.");
        Check.same("mice behind a shut flap", hunting("sack b 9 9 shut;"), -1);
        Check.same("no mice behind an open flap", hunting("sack b 9 0 open;"), -1);
        Check.same("both", hunting("sack b 9 0 open;sack c 9 9 shut;"), -1);
        Check.same("one mouse", hunting("sack b 9 0 open;sack c 9 9 shut;sack d 9 1 open;"), 2);
        Check.same("a tie", hunting("sack b 9 1 open;sack c 9 2 open;sack d 9 2 open;"), 1);
        Check.same("the most", hunting("sack b 9 98 open;sack c 9 99 open;"), 1);
        Check.same("the last of six", hunting("sack b 9 9 shut;sack c 9 9 shut;sack d 9 9 shut;sack e 9 9 shut;sack f 9 0 open;sack g 9 1 open;"), 5);

        Sentence.promise(31, "Returns the sack in which a sworn cat would hunt now (step 4), whether there is a sworn cat or not.");
        GranaryWatch watch = new GranaryWatch();
        Check.same("with a sworn cat", watch.huntingSack(), 0);
        watch.dismiss();
        Check.same("without one", watch.huntingSack(), 0);
    }

    private static int hunting(String sacks) {
        return Watch.of("cat a 1 left;" + sacks + "shift a 1;").huntingSack();
    }

    /** A granary whose events are as many hunts, the latest with the least mice caught. */
    private static GranaryWatch hunts(int count) {
        GranaryWatch watch = Watch.of("cat a 7 left;sack b 999 99 open;shift a 24;hour 7;");
        for (int i = 0; i < count; i++) {
            watch.letPass(1);
        }
        return watch;
    }

    private static void eventCount() {
        Sentence.promise(32, "The 16 latest events are stored.");
        int[] caught = {7, 7, 7, 7, 6, 6, 6, 6, 5, 5, 5, 5, 4, 4, 4, 4, 3};
        GranaryWatch sixteen = hunts(16);
        GranaryWatch more = hunts(17);
        for (int back = 0; back < 16; back++) {
            Check.same("of 16, back " + back, sixteen.eventNumber(back), caught[15 - back]);
            Check.same("of 17, back " + back, more.eventNumber(back), caught[16 - back]);
        }
        Check.same("the 17th is gone", more.eventKind(16), -1);

        Sentence.promise(32, "Returns the number of events, 0 to 16.");
        Check.same("none", hunts(0).eventCount(), 0);
        Check.same("one", hunts(1).eventCount(), 1);
        Check.same("fifteen", hunts(15).eventCount(), 15);
        Check.same("sixteen", sixteen.eventCount(), 16);
        Check.same("not seventeen", more.eventCount(), 16);
    }

    private static void events() {
        GranaryWatch none = hunts(0);
        GranaryWatch three = hunts(3);
        GranaryWatch full = hunts(20);
        Sentence.promise(33, "Returns HUNT, OATH, REFUSAL or DAWN, or NONE if there is no such stored event.");
        noSuchEvent(none, three, full, GranaryWatch::eventKind);
        Check.same("the oldest of three", three.eventKind(2), GranaryWatch.HUNT);
        Check.same("the oldest of sixteen", full.eventKind(15), GranaryWatch.HUNT);
        GranaryWatch kinds = Watch.of("cat a 1 left;cat b 1 right;cat c 1 right;sack d 9 1 open;shift a 1;shift b 1;shift c 3;hour 3;");
        kinds.letPass(3);
        // The only mouse is caught at 4, a swears in b, b does not swear in c, which the dawn at 6 does.
        Check.same("dawn", kinds.eventKind(0), GranaryWatch.DAWN);
        Check.same("refusal", kinds.eventKind(1), GranaryWatch.REFUSAL);
        Check.same("oath", kinds.eventKind(2), GranaryWatch.OATH);
        Check.same("hunt", kinds.eventKind(3), GranaryWatch.HUNT);
        Check.same("no fifth", kinds.eventKind(4), -1);

        Sentence.promise(34, "NONE if there is no such stored event.");
        noSuchEvent(none, three, full, GranaryWatch::eventCat);
        Sentence.promise(35, "NONE if there is no such stored event.");
        noSuchEvent(none, three, full, GranaryWatch::eventNumber);

        Sentence.promise(35, "Returns for a hunt the number of mice caught; for an oath or a refusal the index of the outgoing cat; for dawn the clock;");
        Check.same("dawn", kinds.eventNumber(0), 6);
        Check.same("refusal", kinds.eventNumber(1), 1);
        Check.same("oath", kinds.eventNumber(2), 0);
        Check.same("hunt", kinds.eventNumber(3), 1);
        Check.same("a hunt in vain", TermEdges.tired(1, 5).eventNumber(0), 0);
        GranaryWatch late = Watch.of("cat a 1 left;sack d 9 0 open;shift a 24;hour 7;");
        Watch.run(late, "wait 99;".repeat(30));
        Check.same("the clock, not the hour", late.eventNumber(1), 2958);
    }

    private static void noSuchEvent(GranaryWatch none, GranaryWatch three, GranaryWatch full, EventCall call) {
        int[] wrong = {-1, Integer.MIN_VALUE, Integer.MAX_VALUE};
        for (int back : wrong) {
            Check.same("back " + back + " of none", call.of(none, back), -1);
            Check.same("back " + back + " of three", call.of(three, back), -1);
            Check.same("back " + back + " of sixteen", call.of(full, back), -1);
        }
        Check.same("the first of none", call.of(none, 0), -1);
        Check.same("the fourth of three", call.of(three, 3), -1);
        Check.same("the 17th of twenty", call.of(full, 16), -1);
        GranaryWatch again = hunts(5);
        again.letPass(1);
        again.undo();
        Check.same("one that was undone", call.of(again, 5), -1);
        Watch.load(again, SMALL);
        Check.same("one before the setup", call.of(again, 0), -1);
    }

    private interface EventCall {
        int of(GranaryWatch watch, int back);
    }

    private static void eventCats() {
        Sentence.promise(34, "Returns for a hunt the cat that hunted; for an oath or a refusal the incoming cat; for dawn the cat that was sworn in, or NONE without one;");
        GranaryWatch kinds = Watch.of("cat a 1 left;cat b 1 right;cat c 1 right;sack d 9 1 open;shift a 1;shift b 1;shift c 3;hour 3;");
        kinds.letPass(3);
        Check.same("sworn in at dawn", kinds.eventCat(0), 2);
        Check.same("refusal", kinds.eventCat(1), 2);
        Check.same("oath", kinds.eventCat(2), 1);
        Check.same("hunt", kinds.eventCat(3), 0);
        GranaryWatch dawn = Watch.of("cat a 1 left;sack d 9 0 open;shift a 24;hour 5;");
        dawn.letPass(1);
        Check.same("a dawn", dawn.eventKind(0), GranaryWatch.DAWN);
        Check.same("dawn with a sworn cat", dawn.eventCat(0), -1);
        GranaryWatch last = Watch.of(Texts.cats(8) + "sack d 9 1 open;shift h 24;hour 7;");
        last.letPass(1);
        Check.same("the last cat", last.eventCat(0), 7);
    }

    private static void milk() {
        Sentence.promise(36, "Returns the milk, 0 to 9.");
        GranaryWatch watch = Watch.of(SMALL + "milk 0;");
        Check.same("least", watch.milk(), 0);
        watch.setMilk(9);
        Check.same("most", watch.milk(), 9);
        Watch.run(watch, "milk 0;");
        Check.same("least again", watch.milk(), 0);
    }

    private static void totals() {
        String setup = "cat a 9 left;cat b 1 left;sack c 99 9 open;sack d 300 9 shut;sack e 0 9 shut;shift a 1;shift b 1;";
        int[] promises = {44, 45, 46, 47, 48, 49};
        String[] words = {"Returns the number of mice caught since the setup was loaded.", "Returns the grain eaten since the setup was loaded.",
            "Returns the number of mice by which sacks grew in step 3 since the setup was loaded.",
            "Returns the number of mice that starved since the setup was loaded.",
            "Returns the number of times a cat was sworn in since the setup was loaded.",
            "Returns the number of refusals since the setup was loaded."};
        for (int i = 0; i < promises.length; i++) {
            Sentence.promise(promises[i], words[i]);
            GranaryWatch watch = Watch.of(setup);
            int first = total(watch, i);
            Check.same("at first", first, i == 4 ? 1 : 0);
            watch.letPass(30);
            Check.same("more now", total(watch, i) > first, true);
            Watch.load(watch, setup);
            Check.same("a new setup", total(watch, i), first);
        }
    }

    private static int total(GranaryWatch watch, int which) {
        return switch (which) {
            case 0 -> watch.totalCaught();
            case 1 -> watch.totalEaten();
            case 2 -> watch.totalBorn();
            case 3 -> watch.totalStarved();
            case 4 -> watch.totalOaths();
            default -> watch.totalRefusals();
        };
    }

    private static void totalsOfSteps() {
        Sentence.promise(44, "Returns the number of mice.");
        GranaryWatch watch = Watch.of("cat a 9 left;sack b 99 5 open;sack c 30 20 shut;sack d 99 66 shut;sack e 1 3 shut;shift a 24;hour 23;");
        watch.letPass(1);
        // b grows from 5 to 7, c from 20 to 30, d from 66 to 99; e keeps 1 of 3, which does not grow.
        Check.same("not more than there are", watch.totalCaught(), 7);
        Sentence.promise(45, "Returns the number of units.");
        Check.same("not more than there is", watch.totalEaten(), 5 + 20 + 66 + 1);
        Sentence.promise(46, "Returns the number of mice.");
        Check.same("only those up to 99", watch.totalBorn(), 2 + 10 + 33 + 0);
        Sentence.promise(47, "Returns the number of mice.");
        Check.same("half rounded up", watch.totalStarved(), 2);
        watch.letPass(1);
        // c has 10 units for 30 mice, 15 starve; e loses its last mouse; d eats its last 33 units with 99 mice, 50 starve.
        Check.same("the last mouse too", watch.totalStarved(), 2 + 15 + 1 + 50);
    }

    private static void oathTotals() {
        Sentence.promise(48, "Returns the number of times, including the swearing when it was loaded and those at dawn.");
        GranaryWatch watch = Watch.of("cat a 1 left;cat b 1 left;sack c 9 0 open;shift a 1;shift b 24;hour 4;");
        Check.same("when it was loaded", watch.totalOaths(), 1);
        watch.letPass(1);
        Check.same("a refusal is none", watch.totalOaths(), 1);
        watch.letPass(1);
        Check.same("at dawn", watch.totalOaths(), 2);
        GranaryWatch itself = Watch.of("cat a 1 left;sack c 9 0 open;shift a 1;hour 7;");
        itself.letPass(3);
        Check.same("each hour by itself", itself.totalOaths(), 4);

        Sentence.promise(49, "Returns the number of refusals.");
        Check.same("one", watch.totalRefusals(), 1);
        Check.same("none", itself.totalRefusals(), 0);
        itself.dismiss();
        itself.letPass(3);
        Check.same("a dismissal is none", itself.totalRefusals(), 0);
    }

    private static void isConsistent() {
        Sentence.promise(50, "Returns true if all invariants hold, which is always the case.");
        GranaryWatch watch = Watch.of("cat a 9 left;cat b 3 right;sack c 9 99 open;sack d 30 98 open;sack e 0 50 shut;shift a 5;shift b 5;hour 20;");
        Check.same("at first", watch.isConsistent(), true);
        for (int i = 0; i < 30; i++) {
            watch.letPass(1);
            Check.same("an hour", watch.isConsistent(), true);
            Watch.run(watch, "mice d 5;grain e 60;mice e 40;grain c 999;dismiss;");
            Check.same("a script", watch.isConsistent(), true);
            if (i % 4 == 3) {
                watch.undo();
                Check.same("undone", watch.isConsistent(), true);
            }
            if (i == 9) {
                watch.saveState();
            }
        }
        watch.restoreState();
        Check.same("restored", watch.isConsistent(), true);
        Check.same("full and late", full().isConsistent() && late().isConsistent(), true);
    }

    private static void averageTiredness() {
        Sentence.promise(51, "Returns the sum of the tirednesses converted to double, divided by the number of cats converted to double.");
        Check.sameDouble("nobody is tired", full().averageTiredness(), 0.0);
        Check.sameDouble("one of three", TermEdges.tired(1, 1).averageTiredness(), 1.0 / 3.0);
        Check.sameDouble("twenty of three", TermEdges.tired(1, 22).averageTiredness(), 20.0 / 3.0);
        GranaryWatch one = hunts(22);
        Check.sameDouble("the most", one.averageTiredness(), 20.0);
    }

    private static void shareOf() {
        Sentence.promise(52, "Returns the mice caught by the cat converted to float, divided by the mice caught by all cats converted to float; 0 if no mouse was caught.");
        GranaryWatch watch = Watch.of("cat a 2 left;cat b 1 right;sack c 99 9 open;shift a 1;shift b 9;hour 7;");
        Check.sameDouble("no mouse", watch.shareOf(0), 0.0f);
        Check.sameDouble("no mouse of the other", watch.shareOf(1), 0.0f);
        watch.letPass(1);
        Check.sameDouble("all", watch.shareOf(0), 1.0f);
        Check.sameDouble("none of them", watch.shareOf(1), 0.0f);
        watch.letPass(1);
        Check.sameDouble("two of three", watch.shareOf(0), 2.0f / 3.0f);
        Check.sameDouble("one of three", watch.shareOf(1), 1.0f / 3.0f);
    }
}
