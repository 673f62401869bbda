/** The edges that sections 1 to 4 of the document's terms name: cats, sacks, shifts and time. */
final class TermEdges {
    private static final String TERMS = "Terms";
    private static final String ONE_SHIFT = "shift a 24;hour 7;";

    private TermEdges() {
    }

    static void run() {
        swornCat();
        cats();
        tiredness();
        sacks();
        shifts();
        clock();
        eating();
        moving();
        starving();
        growing();
        hunting();
        tiring();
        changingShift();
        swearing();
        withoutCat();
        dawn();
        dawnSwearing();
    }

    private static void swornCat() {
        Sentence.of(TERMS, "At every time there is one sworn cat or none.");
        GranaryWatch watch = Watch.of("cat a 1 left;cat b 1 left;sack c 9 0 open;shift a 1;shift b 24;hour 7;");
        Check.same("one", watch.swornCat(), 0);
        watch.letPass(1);
        Check.same("none after a refusal", watch.swornCat(), -1);
        watch.letPass(22);
        Check.same("one from dawn on", watch.swornCat(), 1);
        watch.dismiss();
        Check.same("none after a dismissal", watch.swornCat(), -1);
    }

    private static void cats() {
        Sentence.of(TERMS, "There are 1 to 8 cats, indexed from 0 in the order of the setup.");
        String rest = "sack a 1 1 open;shift a 1;";
        Check.same("one cat", Watch.load(new GranaryWatch(), Texts.cats(1) + rest), 1);
        GranaryWatch watch = new GranaryWatch();
        Check.same("eight cats", Watch.load(watch, Texts.cats(8) + rest), 8);
        Check.same("the first", Watch.catName(watch, 0), "a");
        Check.same("the last", Watch.catName(watch, 7), "h");
        Texts.setupFails(Texts.cats(9) + rest, GranaryWatch.TOO_MANY, Texts.cats(8).length());
        Texts.setupFails("sack a 1 1 open;", GranaryWatch.INCOMPLETE, 16);

        Sentence.of(TERMS, "A cat has a name of 1 to 6 lowercase letters, a speed of 1 to 9,");
        GranaryWatch named = Watch.of("cat z 1 left;cat abcxyz 9 right;sack a 1 1 open;shift z 1;");
        Check.same("one letter", Watch.catName(named, 0), "z");
        Check.same("six letters", Watch.catName(named, 1), "abcxyz");
        Check.same("least speed", named.speedOf(0), 1);
        Check.same("greatest speed", named.speedOf(1), 9);
        Texts.setupFails("cat abcwxyz 1 left;", GranaryWatch.SYNTAX, 4);
        Texts.setupFails("cat 1 left;", GranaryWatch.SYNTAX, 4);
        Texts.setupFails("cat a 0 left;", GranaryWatch.OUT_OF_RANGE, 6);
        Texts.setupFails("cat a 10 left;", GranaryWatch.OUT_OF_RANGE, 6);
    }

    /** A cat of this speed, after so many hunts without milk. */
    static GranaryWatch tired(int speed, int hunts) {
        GranaryWatch watch = Watch.of("cat a " + speed + " left;cat b 1 right;cat c 1 left;sack d 999 20 open;"
                + "shift a 24;hour 7;milk 0;");
        watch.addGrain(0, 999);
        for (int i = 0; i < hunts; i++) {
            if (watch.miceIn(0) < 10) {
                watch.addMice(0, 20);
            }
            watch.letPass(1);
        }
        return watch;
    }

    private static void tiredness() {
        Sentence.of(TERMS, "a tiredness of 0 to 20 (0 at first)");
        Check.same("at first", tired(1, 0).tirednessOf(0), 0);
        Check.same("after one hunt", tired(1, 1).tirednessOf(0), 1);
        Check.same("after 20 hunts", tired(1, 20).tirednessOf(0), 20);
        Check.same("after 21 hunts", tired(1, 21).tirednessOf(0), 20);
        Check.same("of a cat that rests", tired(1, 1).tirednessOf(1), 0);

        Sentence.of(TERMS, "The strength of a cat is its speed minus a quarter of its tiredness (rounded down), but at least 0.");
        Check.same("9 at tiredness 3", tired(9, 3).strengthOf(0), 9);
        Check.same("9 at tiredness 4", tired(9, 4).strengthOf(0), 8);
        Check.same("9 at tiredness 7", tired(9, 7).strengthOf(0), 8);
        Check.same("9 at tiredness 8", tired(9, 8).strengthOf(0), 7);
        Check.same("9 at tiredness 19", tired(9, 19).strengthOf(0), 5);
        Check.same("9 at tiredness 20", tired(9, 20).strengthOf(0), 4);
        Check.same("1 at tiredness 3", tired(1, 3).strengthOf(0), 1);
        Check.same("1 at tiredness 4", tired(1, 4).strengthOf(0), 0);
        Check.same("1 at tiredness 8", tired(1, 8).strengthOf(0), 0);
        Check.same("1 at tiredness 20", tired(1, 20).strengthOf(0), 0);
        Check.same("5 at tiredness 20", tired(5, 20).strengthOf(0), 0);

        Sentence.of(TERMS, "A cat is able if its tiredness is less than 12.");
        Check.same("11", tired(1, 11).oathReason(0), GranaryWatch.CAN_SWEAR);
        Check.same("12", tired(1, 12).oathReason(0), GranaryWatch.TOO_TIRED);
        Check.same("20", tired(1, 20).oathReason(0), GranaryWatch.TOO_TIRED);
    }

    private static void sacks() {
        Sentence.of(TERMS, "There are 1 to 6 sacks, indexed from 0 in the order of the setup.");
        GranaryWatch watch = Watch.of("cat a 1 left;shift a 1;" + Texts.sacks(6));
        Check.same("six sacks", watch.sackCount(), 6);
        Check.same("the first", Watch.sackName(watch, 0), "a");
        Check.same("the last", Watch.sackName(watch, 5), "f");
        Check.same("one sack", Watch.of("cat a 1 left;shift a 1;" + Texts.sacks(1)).sackCount(), 1);
        Texts.setupFails(Texts.sacks(7), GranaryWatch.TOO_MANY, Texts.sacks(6).length());
        Texts.setupFails("cat a 1 left;shift a 1;", GranaryWatch.INCOMPLETE, 23);

        Sentence.of(TERMS, "A sack has a name of 1 to 6 lowercase letters, grain of 0 to 9999 units, 0 to 99 mice, and a flap that is open or shut.");
        GranaryWatch two = Watch.of("cat a 1 left;sack z 0 0 open;sack abcxyz 999 99 shut;shift a 1;");
        Check.same("least and most of a setup", Watch.written(two), "z:0/0' abcxyz:999/99");
        Watch.run(two, "grain z 999;".repeat(10) + "grain z 9;");
        Check.same("most grain", two.grainIn(0), 9999);
        Check.raises("more grain", IllegalStateException.class, () -> two.addGrain(0, 1));
        Check.raises("more mice", IllegalStateException.class, () -> two.addMice(1, 1));
        Texts.setupFails("sack abcwxyz 1 1 open;", GranaryWatch.SYNTAX, 5);
        Texts.setupFails("sack 1 1 open;", GranaryWatch.SYNTAX, 5);

        Sentence.of(TERMS, "In ring order, the sack after the last one is sack 0.");
        Check.same("of six", unguarded("sack b 9 0 open;sack c 9 0 open;sack d 9 0 shut;sack e 9 0 shut;sack f 9 0 shut;sack g 0 4 open;"),
                "b:9/4' c:9/0' d:9/0 e:9/0 f:9/0 g:0/0'");
        Check.same("of two", unguarded("sack b 9 0 open;sack c 0 4 open;"), "b:9/4' c:0/0'");
    }

    private static void shifts() {
        Sentence.of(TERMS, "There are 1 to 12 shifts, indexed from 0 in the order of the setup.");
        String rest = "cat a 1 left;cat b 1 right;sack a 1 0 open;";
        GranaryWatch one = Watch.of(rest + "shift b 24;");
        Check.same("one shift", one.shiftCount(), 1);
        GranaryWatch most = Watch.of(rest + "shift b 24;" + Texts.shifts(10) + "shift b 3;");
        Check.same("twelve shifts", most.shiftCount(), 12);
        Check.same("the hours of the first", most.hoursOfShift(0), 24);
        Check.same("the hours of the last", most.hoursOfShift(11), 3);
        Check.same("the cat of the eleventh", most.catOfShift(10), 0);
        Check.same("the cat of the last", most.catOfShift(11), 1);
        Texts.setupFails("cat a 1 left;" + Texts.shifts(13), GranaryWatch.TOO_MANY, 13 + Texts.shifts(12).length());
        Texts.setupFails(rest, GranaryWatch.INCOMPLETE, rest.length());

        Sentence.of(TERMS, "A shift has a cat and a number of hours from 1 to 24.");
        Check.same("1", Watch.of(rest + "shift a 1;").hoursOfShift(0), 1);
        Check.same("24", Watch.of(rest + "shift a 24;").hoursOfShift(0), 24);
        Texts.setupFails("cat a 1 left;shift a 0;", GranaryWatch.OUT_OF_RANGE, 21);
        Texts.setupFails("cat a 1 left;shift a 25;", GranaryWatch.OUT_OF_RANGE, 21);

        Sentence.of(TERMS, "One shift is the current one; it is shift 0 at first.");
        Check.same("at first", most.currentShift(), 0);

        Sentence.of(TERMS, "After the last shift comes shift 0 again.");
        GranaryWatch ring = Watch.of(rest + Texts.shifts(12));
        ring.letPass(11);
        Check.same("the last of twelve", ring.currentShift(), 11);
        ring.letPass(1);
        Check.same("shift 0 again", ring.currentShift(), 0);
        GranaryWatch single = Watch.of(rest + "shift a 2;");
        single.letPass(2);
        Check.same("after the only shift", single.currentShift(), 0);
        Check.same("with all its hours", single.hoursLeft(), 2);

        Sentence.of(TERMS, "When a setup is loaded, the cat of shift 0 is sworn in, and all hours of shift 0 are left.");
        GranaryWatch eight = Watch.of(Texts.cats(8) + "sack a 1 1 open;shift h 24;shift a 1;");
        Check.same("the last cat", eight.swornCat(), 7);
        Check.same("its oath", eight.oathsOf(7), 1);
        Check.same("its hours", eight.hoursLeft(), 24);
    }

    private static void clock() {
        String rest = "cat a 1 left;sack b 99 2 shut;shift a 24;";
        Sentence.of(TERMS, "The clock counts hours and starts with the hour of the setup.");
        Check.same("0", Watch.of(rest + "hour 0;").clock(), 0);
        Check.same("23", Watch.of(rest + "hour 23;").clock(), 23);

        Sentence.of(TERMS, "The hour of the day is the clock modulo 24.");
        GranaryWatch watch = Watch.of(rest + "hour 22;");
        watch.letPass(1);
        Check.same("23", watch.hourOfDay(), 23);
        watch.letPass(1);
        Check.same("24", watch.hourOfDay(), 0);
        watch.letPass(23);
        Check.same("47", watch.hourOfDay(), 23);
        watch.letPass(1);
        Check.same("48", watch.hourOfDay(), 0);

        Sentence.of(TERMS, "The clock advances by 1. All following steps use the new clock.");
        GranaryWatch midnight = Watch.of(rest + "hour 23;");
        midnight.letPass(1);
        Check.same("mice grow in the hour that ends at 24", midnight.miceIn(0), 3);
        GranaryWatch after = Watch.of(rest + "hour 0;");
        after.letPass(1);
        Check.same("and not in the hour that begins at 0", after.miceIn(0), 2);
        GranaryWatch dawn = Watch.of(rest + "hour 5;");
        dawn.letPass(1);
        Check.same("dawn in the hour that ends at 6", Watch.events(dawn), "4,-1,6 ");
        GranaryWatch late = Watch.of(rest + "hour 6;");
        late.letPass(1);
        Check.same("and not in the hour that begins at 6", Watch.events(late), "");
    }

    /** A granary of these sacks after an hour without a sworn cat. */
    private static GranaryWatch hourOf(String sacks) {
        GranaryWatch watch = Watch.of("cat a 1 left;" + sacks + ONE_SHIFT);
        watch.dismiss();
        watch.letPass(1);
        return watch;
    }

    private static String unguarded(String sacks) {
        return Watch.written(hourOf(sacks));
    }

    private static void eating() {
        Sentence.of(TERMS, "Each mouse of the sack eats one unit of grain; if there is less grain than mice, they eat all of it.");
        Check.same("one unit more than mice", unguarded("sack b 8 7 shut;"), "b:1/7");
        Check.same("as much as mice", hourOf("sack b 7 7 shut;").eatenFrom(0), 7);
        Check.same("one unit less than mice", hourOf("sack b 6 7 shut;").eatenFrom(0), 6);
        Check.same("none is left then", hourOf("sack b 6 7 shut;").grainIn(0), 0);
        Check.same("nothing to eat", hourOf("sack b 0 7 shut;").eatenFrom(0), 0);
        Check.same("no mouse", hourOf("sack b 7 0 shut;").grainIn(0), 7);

        Sentence.of(TERMS, "If the sack has mice and no grain after that, there are two cases.");
        Check.same("a unit is left", unguarded("sack b 8 7 open;sack c 9 0 open;"), "b:1/7' c:9/0'");
        Check.same("no unit is left", unguarded("sack b 7 7 open;sack c 9 0 open;"), "b:0/0' c:2/7'");
        Check.same("neither mice nor grain", unguarded("sack b 0 0 open;sack c 9 1 open;"), "b:0/0' c:8/1'");
        Check.same("nobody starves of no mice", hourOf("sack b 0 0 shut;").totalStarved(), 0);

        Sentence.of(TERMS, "The sacks are treated in index order.");
        Check.same("on and on", unguarded("sack b 1 4 open;sack c 2 3 open;sack d 9 0 open;"), "b:0/0' c:0/0' d:2/7'");
        Check.same("no second meal in a sack before", unguarded("sack b 9 1 open;sack c 9 0 shut;sack d 0 4 open;"), "b:8/5' c:9/0 d:0/0'");
    }

    private static void moving() {
        Sentence.of(TERMS, "If its flap is open and another sack has an open flap, all mice move to the first such sack after it in ring order;");
        Check.same("both open", unguarded("sack b 2 2 open;sack c 9 0 open;"), "b:0/0' c:7/2'");
        Check.same("its own is shut", unguarded("sack b 2 2 shut;sack c 9 0 open;"), "b:0/1 c:9/0'");
        Check.same("the other is shut", unguarded("sack b 2 2 open;sack c 9 0 shut;"), "b:0/1' c:9/0");
        Check.same("the nearest is shut", unguarded("sack b 0 4 open;sack c 9 0 shut;sack d 9 0 open;sack e 9 0 open;"),
                "b:0/0' c:9/0 d:5/4' e:9/0'");
        Check.same("after it, not before it", unguarded("sack b 9 0 open;sack c 0 4 open;sack d 9 0 shut;sack e 9 0 open;"),
                "b:9/0' c:0/0' d:9/0 e:5/4'");
        Check.same("around to the second", unguarded("sack b 9 0 shut;sack c 9 0 open;sack d 0 4 open;"), "b:9/0 c:9/4' d:0/0'");
        Check.same("just before it", unguarded("sack b 9 0 shut;sack c 9 0 shut;sack d 9 0 open;sack e 0 4 open;"),
                "b:9/0 c:9/0 d:9/4' e:0/0'");
        Check.same("nobody starves of those", hourOf("sack b 2 2 open;sack c 9 0 open;").totalStarved(), 0);

        Sentence.of(TERMS, "mice beyond 99 in that sack starve.");
        GranaryWatch full = hourOf("sack b 0 49 open;sack c 999 50 open;");
        Check.same("99", Watch.written(full), "b:0/0' c:900/99'");
        Check.same("none beyond", full.totalStarved(), 0);
        GranaryWatch one = hourOf("sack b 0 50 open;sack c 999 50 open;");
        Check.same("100", Watch.written(one), "b:0/0' c:900/99'");
        Check.same("one beyond", one.totalStarved(), 1);
        GranaryWatch all = hourOf("sack b 999 99 open;sack c 0 99 open;");
        Check.same("198", Watch.written(all), "b:900/99' c:0/0'");
        Check.same("99 beyond", all.totalStarved(), 99);
    }

    private static void starving() {
        Sentence.of(TERMS, "Otherwise half of the mice starve, rounded up.");
        int[] mice = {1, 2, 3, 4, 98, 99};
        int[] starved = {1, 1, 2, 2, 49, 50};
        for (int i = 0; i < mice.length; i++) {
            GranaryWatch shut = hourOf("sack b 0 " + mice[i] + " shut;sack c 9 0 open;sack d 9 0 open;");
            Check.same("left of " + mice[i], shut.miceIn(0), mice[i] - starved[i]);
            Check.same("starved of " + mice[i], shut.totalStarved(), starved[i]);
            GranaryWatch only = hourOf("sack b 0 " + mice[i] + " open;");
            Check.same("left of " + mice[i] + " in the only sack", only.miceIn(0), mice[i] - starved[i]);
        }
    }

    private static void growing() {
        Sentence.of(TERMS, "If the clock is a multiple of 24, the mice of each sack grow by half of their number, rounded down, but not above 99.");
        String many = "cat a 1 left;sack b 9 0 open;sack c 9 1 shut;sack d 99 2 shut;sack e 99 3 shut;sack f 99 65 shut;sack g 99 66 shut;"
                + "shift a 24;hour 23;";
        GranaryWatch watch = Watch.of(many);
        watch.letPass(1);
        Check.same("up to 99", Watch.written(watch), "b:9/0' c:8/1 d:97/3 e:96/4 f:34/97 g:33/99");
        Check.same("born", watch.totalBorn(), 0 + 0 + 1 + 1 + 32 + 33);
        GranaryWatch full = Watch.of("cat a 1 left;sack b 999 67 shut;sack c 999 98 shut;sack d 999 99 shut;shift a 24;hour 23;");
        full.letPass(1);
        Check.same("not above 99", Watch.written(full), "b:932/99 c:901/99 d:900/99");
        Check.same("born below 99", full.totalBorn(), 32 + 1 + 0);
        GranaryWatch days = Watch.of("cat a 1 left;sack b 999 2 shut;shift a 24;hour 22;");
        int[] hours = {1, 1, 1, 22, 1, 1};
        int[] mice = {2, 3, 3, 3, 4, 4};
        for (int i = 0; i < hours.length; i++) {
            days.letPass(hours[i]);
            Check.same("at the clock " + days.clock(), days.miceIn(0), mice[i]);
        }
    }

    private static void hunting() {
        Sentence.of(TERMS, "If there is a sworn cat and a sack with an open flap has mice, the cat hunts in the sack that has the most mice among the sacks"
                + " with an open flap, in a tie in the one with the smallest index.");
        Check.same("no sworn cat", hourOf("sack b 99 5 open;").eventCount(), 0);
        Check.same("no mice", hunted(1, "sack b 99 0 open;").eventCount(), 0);
        Check.same("no open flap", hunted(1, "sack b 99 5 shut;").eventCount(), 0);
        Check.same("mice behind a shut flap alone", hunted(1, "sack b 99 0 open;sack c 99 5 shut;").eventCount(), 0);
        Check.same("one mouse", Watch.written(hunted(1, "sack b 99 1 open;")), "b:98/0'");
        Check.same("the most mice", Watch.written(hunted(1, "sack b 99 3 open;sack c 99 4 open;sack d 99 9 shut;")), "b:96/3' c:95/3' d:90/9");
        Check.same("a tie", Watch.written(hunted(1, "sack b 99 3 open;sack c 99 3 open;")), "b:96/2' c:96/3'");
        Check.same("a tie of the last", Watch.written(hunted(1, "sack b 99 2 open;sack c 99 3 open;sack d 99 3 open;")), "b:97/2' c:96/2' d:96/3'");
        Check.same("mice after they moved", Watch.written(hunted(1, "sack b 99 3 open;sack c 0 4 open;")), "b:96/6' c:0/0'");

        Sentence.of(TERMS, "It catches as many mice as its strength, but not more than there are.");
        int[] mice = {4, 5, 6};
        int[] caught = {4, 5, 5};
        for (int i = 0; i < mice.length; i++) {
            GranaryWatch watch = hunted(5, "sack b 99 " + mice[i] + " open;");
            Check.same("caught of " + mice[i], watch.totalCaught(), caught[i]);
            Check.same("left of " + mice[i], watch.miceIn(0), mice[i] - caught[i]);
        }
        GranaryWatch weaker = tired(9, 3);
        weaker.addMice(0, 40);
        Check.same("the strength before the hunt tires", weaker.letPass(1), 9);
        Check.same("the strength after it tired", weaker.letPass(1), 8);

        Sentence.of(TERMS, "Hunting is an event, even if nothing is caught.");
        GranaryWatch vain = tired(1, 5);
        Check.same("nothing is caught", vain.totalCaught(), 4);
        Check.same("an event still", Watch.events(vain), "1,0,0 1,0,1 1,0,1 1,0,1 1,0,1 ");
    }

    private static GranaryWatch hunted(int speed, String sacks) {
        GranaryWatch watch = Watch.of("cat a " + speed + " left;" + sacks + ONE_SHIFT);
        watch.letPass(1);
        return watch;
    }

    private static void tiring() {
        Sentence.of(TERMS, "After that its tiredness grows by 1, up to 20.");
        Check.same("19", tired(2, 19).tirednessOf(0), 19);
        Check.same("20", tired(2, 20).tirednessOf(0), 20);
        Check.same("20 still", tired(2, 22).tirednessOf(0), 20);

        Sentence.of(TERMS, "The tiredness of each cat that did not hunt in step 4 shrinks by 1, but not below 0.");
        Check.same("of a cat at 0", hourOf("sack b 9 2 open;").tirednessOf(0), 0);
        GranaryWatch rests = tired(1, 2);
        rests.shutFlap(0);
        int[] left = {1, 0, 0};
        for (int due : left) {
            rests.letPass(1);
            Check.same("of a sworn cat that cannot hunt", rests.tirednessOf(0), due);
        }
        GranaryWatch most = tired(1, 20);
        most.dismiss();
        most.letPass(1);
        Check.same("from 20", most.tirednessOf(0), 19);
        Check.same("not of the cat that hunts", tired(1, 1).tirednessOf(0), 1);
    }

    private static void changingShift() {
        Sentence.of(TERMS, "The hours that are left of the current shift shrink by 1.");
        GranaryWatch watch = Watch.of("cat a 1 left;cat b 1 right;sack c 9 0 open;shift a 24;shift b 1;shift a 2;hour 7;");
        watch.letPass(1);
        Check.same("23 of 24", watch.hoursLeft(), 23);
        watch.letPass(22);
        Check.same("1 of 24", watch.hoursLeft(), 1);
        Check.same("still shift 0", watch.currentShift(), 0);

        Sentence.of(TERMS, "If none are left, the next shift becomes the current one, all its hours are left, and its cat is the incoming cat.");
        watch.letPass(1);
        Check.same("shift 1", watch.currentShift(), 1);
        Check.same("its only hour", watch.hoursLeft(), 1);
        Check.same("its cat", watch.eventCat(0), 1);
        watch.letPass(1);
        Check.same("shift 2 after that hour", watch.currentShift(), 2);
        Check.same("its two hours", watch.hoursLeft(), 2);
        Check.same("its cat again", watch.eventCat(0), 0);
        watch.letPass(2);
        Check.same("around to shift 0", watch.currentShift(), 0);
        Check.same("its 24 hours", watch.hoursLeft(), 24);
    }

    /** The last event after a's shift of so many hours of hunting, in which b takes its place for an hour. */
    private static String lastOath(int hours, String pawOfB) {
        GranaryWatch watch = Watch.of("cat a 1 left;cat b 1 " + pawOfB + ";sack d 999 20 open;shift a " + hours + ";shift b 1;hour 7;milk 0;");
        watch.letPass(hours + 1);
        return watch.eventKind(0) + "," + watch.eventCat(0) + "," + watch.eventNumber(0);
    }

    private static String ownOath(int hours) {
        GranaryWatch watch = Watch.of("cat a 1 left;sack d 999 20 open;shift a " + hours + ";hour 7;milk 0;");
        watch.letPass(hours);
        return watch.eventKind(0) + "," + watch.eventCat(0) + "," + watch.eventNumber(0) + " sworn " + watch.swornCat();
    }

    private static void swearing() {
        Sentence.of(TERMS, "The oath holds if the incoming cat is able, and is the outgoing cat or has the other paw.");
        // An hour of rest takes one tiredness from a, so 12 hours leave 11 and 13 hours leave 12.
        Check.same("the other paw, able with 11", lastOath(12, "right"), "2,0,1");
        Check.same("the other paw, not able with 12", lastOath(13, "right"), "3,0,1");
        Check.same("the outgoing cat itself, able with 11", ownOath(11), "2,0,0 sworn 0");
        Check.same("the outgoing cat itself, not able with 12", ownOath(12), "3,0,0 sworn -1");
        GranaryWatch left = Watch.of("cat a 1 left;cat b 1 left;sack c 9 0 open;shift a 1;shift b 9;hour 7;");
        left.letPass(1);
        Check.same("another cat of the left paw", Watch.events(left), "3,1,0 ");
        GranaryWatch right = Watch.of("cat a 1 right;cat b 1 right;sack c 9 0 open;shift a 1;shift b 9;hour 7;");
        right.letPass(1);
        Check.same("another cat of the right paw", Watch.events(right), "3,1,0 ");

        Sentence.of(TERMS, "If the oath holds, the incoming cat is sworn in; otherwise there is no sworn cat after that, which is a refusal.");
        GranaryWatch holds = Watch.of("cat a 1 left;cat b 1 right;sack c 9 0 open;shift a 1;shift b 9;hour 7;");
        holds.letPass(1);
        Check.same("sworn in", holds.swornCat(), 1);
        Check.same("its oath", holds.oathsOf(1), 1);
        Check.same("no refusal", holds.totalRefusals(), 0);
        Check.same("refused: no sworn cat", left.swornCat(), -1);
        Check.same("refused: no oath", left.oathsOf(1), 0);
        Check.same("refused: counted", left.totalRefusals(), 1);
    }

    private static void withoutCat() {
        Sentence.of(TERMS, "If there is no sworn cat when the shift changes, nothing else happens.");
        GranaryWatch watch = Watch.of("cat a 1 left;cat b 1 right;sack c 9 0 open;shift a 1;shift b 2;hour 7;");
        watch.dismiss();
        watch.letPass(1);
        Check.same("the shift changes", watch.currentShift(), 1);
        Check.same("its hours are left", watch.hoursLeft(), 2);
        Check.same("nobody is sworn in", watch.swornCat(), -1);
        Check.same("no oath", watch.totalOaths(), 1);
        Check.same("no refusal", watch.totalRefusals(), 0);
        Check.same("no event", watch.eventCount(), 0);
    }

    /** The tiredness after six hunts that end at dawn, and the given milk. */
    private static int atDawn(int milk) {
        GranaryWatch watch = Watch.of("cat a 1 left;sack b 999 20 open;shift a 24;hour 0;milk " + milk + ";");
        watch.letPass(6);
        return watch.tirednessOf(0);
    }

    private static void dawn() {
        Sentence.of(TERMS, "If the hour of the day is 6, the tiredness of each cat shrinks by the milk, but not below 0.");
        Check.same("no milk", atDawn(0), 6);
        Check.same("one less than its tiredness", atDawn(5), 1);
        Check.same("as much as its tiredness", atDawn(6), 0);
        Check.same("more than its tiredness", atDawn(7), 0);
        Check.same("the most milk", atDawn(9), 0);
        GranaryWatch hours = Watch.of("cat a 1 left;cat b 1 right;sack c 999 20 open;shift a 4;shift b 20;hour 0;milk 1;");
        hours.letPass(5);
        Check.same("not at 5", hours.tirednessOf(0), 3);
        Check.same("not at 5 either", hours.tirednessOf(1), 1);
        hours.letPass(1);
        Check.same("of a cat at rest", hours.tirednessOf(0), 1);
        Check.same("of the cat that hunts", hours.tirednessOf(1), 1);
        hours.letPass(1);
        Check.same("not at 7", hours.tirednessOf(1), 2);
    }

    private static void dawnSwearing() {
        Sentence.of(TERMS, "Then, if there is no sworn cat and the cat of the current shift is able, it is sworn in.");
        GranaryWatch able = refusedAtDawn(1);
        Check.same("able with 11 after the milk", able.swornCat(), 0);
        Check.same("its second oath", able.oathsOf(0), 2);
        GranaryWatch tired = refusedAtDawn(0);
        Check.same("not able with 12", tired.swornCat(), -1);
        Check.same("no second oath", tired.oathsOf(0), 1);
        GranaryWatch next = Watch.of("cat a 1 left;cat b 1 left;sack c 9 0 open;shift a 2;shift b 3;hour 4;");
        next.letPass(2);
        Check.same("the cat of the shift that began at 6", next.swornCat(), 1);
        GranaryWatch sworn = Watch.of("cat a 1 left;sack c 9 0 open;shift a 24;hour 5;");
        sworn.letPass(1);
        Check.same("a sworn cat is not sworn in again", sworn.oathsOf(0), 1);

        Sentence.of(TERMS, "This step is an event (dawn), whether a cat is sworn in or not; a swearing at dawn is not another event.");
        Check.same("a cat is sworn already", Watch.events(sworn), "4,-1,6 ");
        GranaryWatch dismissed = Watch.of("cat a 1 left;sack c 9 0 open;shift a 24;hour 5;");
        dismissed.dismiss();
        dismissed.letPass(1);
        Check.same("a cat is sworn in", Watch.events(dismissed), "4,0,6 ");
        Check.same("no cat is able", Watch.events(tired).substring(0, 14), "4,-1,30 3,0,0 ");
    }

    /** A granary whose only cat has hunted for twelve hours when it is refused at the dawn of the second day. */
    private static GranaryWatch refusedAtDawn(int milk) {
        GranaryWatch watch = Watch.of("cat a 1 left;sack b 999 20 open;shift a 12;hour 18;milk " + milk + ";");
        watch.letPass(12);
        return watch;
    }
}
