/** The steps of an hour (section 4) and promises 30 to 36: oath reasons, hunting sacks, events and milk. */
public final class TimeTest {
    public static void main(String[] args) {
        eating();
        moving();
        movingInIndexOrder();
        movingAround();
        crowding();
        starving();
        growing();
        hunting();
        huntingTies();
        huntingInVain();
        tiringAndResting();
        oaths();
        refusalOfTired();
        refusalOfSamePaw();
        shiftsWithoutCat();
        dawn();
        dawnAfterShift();
        oathReasons();
        huntingSacks();
        storedEvents();
        milk();
        fullGranary();
        Check.end();
    }

    private static void eating() {
        GranaryWatch watch = Watch.of("cat a 1 left;sack b 20 7 shut;shift a 24;hour 7;");
        watch.letPass(1);
        Check.same("step 2: one unit a mouse", Watch.written(watch), "b:13/7");
        watch.letPass(1);
        Check.same("step 2: no starving while there is grain", Watch.written(watch), "b:6/7");
        watch.letPass(1);
        Check.same("step 2: less grain than mice", Watch.written(watch), "b:0/3");
        Check.same("step 2: eaten", watch.totalEaten(), 20);
        Check.same("step 2: starved, rounded up", watch.totalStarved(), 4);
    }

    private static void moving() {
        GranaryWatch watch = Watch.of("cat a 1 left;sack b 5 5 open;sack c 9 1 shut;sack d 50 2 open;sack e 50 0 open;shift a 24;hour 7;");
        watch.dismiss();
        watch.letPass(1);
        // Just enough grain leaves none; the five move to d, which is treated after that.
        Check.same("step 2: mice move", Watch.written(watch), "b:0/0' c:8/1 d:43/7' e:50/0'");
        Check.same("step 2: nobody starves", watch.totalStarved(), 0);
    }

    private static void movingInIndexOrder() {
        GranaryWatch watch = Watch.of("cat a 1 left;sack b 30 1 open;sack c 0 0 open;sack d 3 9 open;shift a 24;hour 7;");
        watch.dismiss();
        watch.letPass(1);
        // From d around to b, which is treated already.
        Check.same("step 2: ring order", Watch.written(watch), "b:29/10' c:0/0' d:0/0'");
        GranaryWatch chain = Watch.of("cat a 1 left;sack b 1 4 open;sack c 2 3 open;sack d 9 0 open;shift a 24;hour 7;");
        chain.dismiss();
        chain.letPass(1);
        // The 4 of b move to c and with the 3 there on to d, where the 7 eat.
        Check.same("step 2: on and on", Watch.written(chain), "b:0/0' c:0/0' d:2/7'");
    }

    private static void movingAround() {
        GranaryWatch watch = Watch.of("cat a 1 left;sack b 0 4 open;sack c 0 0 open;shift a 24;hour 7;");
        watch.dismiss();
        watch.letPass(1);
        Check.same("step 2: to and fro", Watch.written(watch), "b:0/4' c:0/0'");
        Check.same("step 2: nobody starves with two flaps open", watch.totalStarved(), 0);
    }

    private static void crowding() {
        GranaryWatch watch = Watch.of("cat a 1 left;sack b 0 60 open;sack c 999 50 open;shift a 24;hour 7;");
        watch.dismiss();
        watch.letPass(1);
        Check.same("step 2: at most 99", Watch.written(watch), "b:0/0' c:900/99'");
        Check.same("step 2: the rest starves", watch.totalStarved(), 11);
        watch.addMice(0, 99);
        watch.letPass(1);
        Check.same("step 2: no room", Watch.written(watch), "b:0/0' c:801/99'");
        Check.same("step 2: all starve", watch.totalStarved(), 110);
        GranaryWatch exact = Watch.of("cat a 1 left;sack b 0 49 open;sack c 999 50 open;shift a 24;hour 7;");
        exact.letPass(1);
        Check.same("step 2: just 99", exact.totalStarved(), 0);
    }

    private static void starving() {
        GranaryWatch watch = Watch.of("cat a 1 left;sack b 0 9 shut;sack c 9 0 open;shift a 24;hour 7;");
        int[] mice = {4, 2, 1, 0, 0};
        for (int left : mice) {
            watch.letPass(1);
            Check.same("step 2: half starve behind a shut flap", watch.miceIn(0), left);
        }
        Check.same("step 2: starved", watch.totalStarved(), 9);
        GranaryWatch alone = Watch.of("cat a 1 left;sack b 0 9 open;sack c 9 0 shut;shift a 24;hour 7;");
        alone.dismiss();
        alone.letPass(1);
        Check.same("step 2: no other open flap", Watch.written(alone), "b:0/4' c:9/0");
    }

    private static void growing() {
        GranaryWatch watch = Watch.of("cat a 1 left;sack b 999 7 shut;sack c 999 80 shut;sack d 999 99 shut;sack e 9 1 shut;shift a 24;hour 22;");
        watch.letPass(1);
        Check.same("step 3: not at 23", watch.totalBorn(), 0);
        watch.letPass(1);
        Check.same("step 3: at midnight", Watch.written(watch), "b:985/10 c:839/99 d:801/99 e:7/1");
        Check.same("step 3: born", watch.totalBorn(), 3 + 19);
        watch.letPass(23);
        Check.same("step 3: once a day", watch.totalBorn(), 22);
        GranaryWatch first = Watch.of("cat a 1 left;sack b 999 8 shut;shift a 24;hour 0;");
        first.letPass(23);
        Check.same("step 3: not at the hour of the setup", first.totalBorn(), 0);
        first.letPass(1);
        Check.same("step 3: a day later", first.miceIn(0), 12);
    }

    private static void hunting() {
        GranaryWatch watch = Watch.of("cat a 6 left;sack b 900 50 shut;sack c 900 8 open;sack d 900 9 open;shift a 24;hour 7;");
        Check.same("53: caught", watch.letPass(1), 6);
        Check.same("step 4: in the fullest open sack", Watch.written(watch), "b:850/50 c:892/8' d:891/3'");
        Check.same("step 4: now the other", watch.letPass(1), 6);
        Check.same("step 4: two are left", watch.miceIn(1), 2);
        Check.same("step 4: not more than there are", watch.letPass(2), 5);
        Check.same("step 4: events", Watch.events(watch), "1,0,2 1,0,3 1,0,6 1,0,6 ");
        Check.same("step 4: no hunt in empty sacks", watch.letPass(1), 0);
        Check.same("step 4: no event", watch.eventCount(), 4);
        Check.same("step 5: the cat rests", watch.tirednessOf(0), 3);
        watch.addMice(1, 1);
        watch.dismiss();
        Check.same("step 4: no hunt without a sworn cat", watch.letPass(1), 0);
        Check.same("step 4: no event without a sworn cat", watch.eventCount(), 4);
    }

    private static void huntingTies() {
        GranaryWatch watch = Watch.of("cat a 2 left;sack b 900 5 shut;sack c 900 5 open;sack d 900 5 open;shift a 24;hour 7;");
        watch.letPass(1);
        Check.same("step 4: a tie", Watch.written(watch), "b:895/5 c:895/3' d:895/5'");
        watch.letPass(1);
        Check.same("step 4: then the other", Watch.written(watch), "b:890/5 c:892/3' d:890/3'");
    }

    private static void huntingInVain() {
        GranaryWatch watch = Watch.of("cat a 1 left;sack b 999 99 open;shift a 24;hour 7;");
        Check.same("step 4: until tiredness 4", watch.letPass(4), 4);
        Check.same("step 4: nothing is caught", watch.letPass(1), 0);
        Check.same("step 4: an event still", Watch.events(watch), "1,0,0 1,0,1 1,0,1 1,0,1 1,0,1 ");
        Check.same("step 4: it tires still", watch.tirednessOf(0), 5);
    }

    private static void tiringAndResting() {
        GranaryWatch watch = Watch.of("cat a 1 left;cat b 1 right;sack c 999 9 open;shift a 22;shift b 24;hour 7;milk 0;");
        Check.same("addMice", watch.addMice(0, 20), 29);
        watch.letPass(19);
        Check.same("step 4: tiredness 19", watch.tirednessOf(0), 19);
        watch.letPass(2);
        Check.same("step 4: at most 20", watch.tirednessOf(0), 20);
        watch.letPass(1);
        Check.same("step 6: the oath holds for an outgoing cat that is tired", watch.swornCat(), 1);
        watch.letPass(1);
        Check.same("step 5: the other one rests", watch.tirednessOf(0), 19);
        Check.same("step 4: the sworn one tires", watch.tirednessOf(1), 1);
        watch.dismiss();
        watch.letPass(2);
        Check.same("step 5: all rest", watch.tirednessOf(0), 17);
        Check.same("step 5: not below 0", watch.tirednessOf(1), 0);
    }

    private static void oaths() {
        GranaryWatch watch = Watch.of("cat a 1 left;cat b 1 right;sack c 9 0 open;shift a 1;shift a 2;shift b 1;hour 7;");
        watch.letPass(1);
        Check.same("step 6: a cat swears itself in", Watch.events(watch), "2,0,0 ");
        Check.same("step 6: it counts", watch.oathsOf(0), 2);
        Check.same("step 6: all hours are left", watch.hoursLeft(), 2);
        watch.letPass(2);
        Check.same("step 6: the other paw", Watch.events(watch), "2,1,0 2,0,0 ");
        watch.letPass(1);
        Check.same("step 6: back to shift 0", watch.currentShift(), 0);
        Check.same("step 6: back to its cat", Watch.events(watch), "2,0,1 2,1,0 2,0,0 ");
        Check.same("48: oaths", watch.totalOaths(), 4);
    }

    private static void refusalOfTired() {
        String setup = "cat a 1 left;sack b 999 30 open;shift a 12;hour 7;milk 0;";
        GranaryWatch watch = Watch.of(setup);
        watch.letPass(11);
        Check.same("step 6: not yet", watch.swornCat(), 0);
        watch.letPass(1);
        Check.same("step 6: tiredness 12", watch.tirednessOf(0), 12);
        Check.same("step 6: not able, though the outgoing cat", watch.swornCat(), -1);
        Check.same("step 6: refused", watch.totalRefusals(), 1);
        Check.same("step 6: event", Watch.events(watch).substring(0, 6), "3,0,0 ");
        Check.same("48: no oath", watch.totalOaths(), 1);
        GranaryWatch able = Watch.of(setup.replace("shift a 12", "shift a 11"));
        able.letPass(11);
        Check.same("step 6: able at 11", able.swornCat(), 0);
    }

    private static void refusalOfSamePaw() {
        GranaryWatch watch = Watch.of("cat a 1 left;cat b 1 left;sack c 9 0 open;shift a 1;shift b 3;hour 7;");
        watch.letPass(1);
        Check.same("step 6: the same paw", watch.swornCat(), -1);
        Check.same("step 6: the refusal", Watch.events(watch), "3,1,0 ");
        Check.same("step 6: the shift changes", watch.currentShift(), 1);
        Check.same("49: refusals", watch.totalRefusals(), 1);
    }

    private static void shiftsWithoutCat() {
        GranaryWatch watch = Watch.of("cat a 1 left;cat b 1 right;sack c 9 0 open;shift a 1;shift b 2;hour 7;");
        watch.dismiss();
        watch.letPass(1);
        Check.same("step 6: next shift", watch.currentShift(), 1);
        Check.same("step 6: its hours", watch.hoursLeft(), 2);
        Check.same("step 6: nothing else", watch.swornCat(), -1);
        Check.same("step 6: no event", watch.eventCount(), 0);
        Check.same("step 6: no refusal", watch.totalRefusals(), 0);
    }

    private static void dawn() {
        GranaryWatch watch = Watch.of("cat a 1 left;sack b 999 50 open;shift a 24;hour 1;milk 2;");
        watch.letPass(4);
        Check.same("step 7: not at 5", watch.tirednessOf(0), 4);
        watch.letPass(1);
        Check.same("step 7: milk", watch.tirednessOf(0), 3);
        Check.same("step 7: a cat is sworn already", Watch.events(watch).substring(0, 7), "4,-1,6 ");
        Check.same("step 7: no oath", watch.totalOaths(), 1);
        GranaryWatch again = Watch.of("cat a 1 left;cat b 1 right;sack c 9 0 open;shift a 24;hour 4;milk 9;");
        again.dismiss();
        again.letPass(2);
        Check.same("step 7: sworn in", again.swornCat(), 0);
        Check.same("step 7: one event", Watch.events(again), "4,0,6 ");
        Check.same("20: an oath at dawn", again.oathsOf(0), 2);
        Check.same("48: an oath at dawn", again.totalOaths(), 2);
        Check.same("27: the hours stay", again.hoursLeft(), 22);
        GranaryWatch atSix = new GranaryWatch();
        atSix.letPass(23);
        Check.same("step 7: not before the next day", Watch.events(atSix).contains("4,"), false);
        atSix.letPass(1);
        Check.same("step 7: the next day", Watch.events(atSix).substring(0, 7), "4,0,30 ");
    }

    private static void dawnAfterShift() {
        // b is refused at 6, and sworn in by the dawn of the same hour.
        GranaryWatch watch = Watch.of("cat a 1 left;cat b 1 left;sack c 9 0 open;shift a 2;shift b 3;hour 4;");
        watch.letPass(2);
        Check.same("step 7: after step 6", Watch.events(watch), "4,1,6 3,1,0 ");
        Check.same("step 7: sworn after a refusal", watch.swornCat(), 1);
        // a is refused with tiredness 12 at the hour 6, and the milk makes it able again.
        GranaryWatch tired = Watch.of("cat a 1 left;sack b 999 20 open;shift a 12;hour 18;milk 1;");
        tired.letPass(12);
        Check.same("step 7: able after the milk", Watch.events(tired).substring(0, 13), "4,0,30 3,0,0 ");
        GranaryWatch dry = Watch.of("cat a 1 left;sack b 999 20 open;shift a 12;hour 18;milk 0;");
        dry.letPass(12);
        Check.same("step 7: not able", Watch.events(dry).substring(0, 14), "4,-1,30 3,0,0 ");
        Check.same("step 7: nobody", dry.swornCat(), -1);
    }

    private static void oathReasons() {
        GranaryWatch watch = Watch.of("cat a 1 left;cat b 1 left;cat c 1 right;sack d 999 20 open;shift a 12;shift c 24;hour 7;milk 0;");
        Check.same("30: itself", watch.oathReason(0), GranaryWatch.CAN_SWEAR);
        Check.same("30: the same paw", watch.oathReason(1), GranaryWatch.SAME_PAW);
        Check.same("30: the other paw", watch.oathReason(2), GranaryWatch.CAN_SWEAR);
        watch.letPass(11);
        Check.same("30: able at 11", watch.oathReason(0), GranaryWatch.CAN_SWEAR);
        watch.letPass(1);
        Check.same("25: c is sworn", watch.swornCat(), 2);
        Check.same("30: tired at 12", watch.oathReason(0), GranaryWatch.TOO_TIRED);
        Check.same("30: the other paw is able", watch.oathReason(1), GranaryWatch.CAN_SWEAR);
        watch.dismiss();
        Check.same("30: nobody before too tired", watch.oathReason(0), GranaryWatch.NOBODY_SWORN);
        Check.same("30: nobody", watch.oathReason(2), GranaryWatch.NOBODY_SWORN);
        GranaryWatch itself = Watch.of("cat a 1 left;cat b 1 left;sack d 999 20 open;shift a 13;shift b 11;hour 7;milk 0;");
        itself.letPass(12);
        Check.same("30: tired itself", itself.oathReason(0), GranaryWatch.TOO_TIRED);
        GranaryWatch both = Watch.of("cat a 1 left;cat b 1 right;cat c 1 left;sack d 999 20 open;shift a 12;shift b 1;shift c 24;hour 7;milk 0;");
        both.letPass(13);
        Check.same("25: c is sworn by b", both.swornCat(), 2);
        Check.same("30: the same paw, after rest", both.oathReason(0), GranaryWatch.SAME_PAW);
        GranaryWatch tooTired = Watch.of("cat a 1 left;cat b 1 right;cat c 1 left;sack d 999 20 open;shift a 13;shift b 1;shift c 24;hour 7;milk 0;");
        tooTired.letPass(14);
        Check.same("25: c is sworn by b too", tooTired.swornCat(), 2);
        Check.same("30: too tired before the same paw", tooTired.oathReason(0), GranaryWatch.TOO_TIRED);
    }

    private static void huntingSacks() {
        GranaryWatch watch = Watch.of("cat a 1 left;sack b 9 3 shut;sack c 9 2 open;sack d 9 2 open;sack e 9 0 open;shift a 24;");
        Check.same("31: smallest of equals", watch.huntingSack(), 1);
        watch.addMice(2, 1);
        Check.same("31: most mice", watch.huntingSack(), 2);
        watch.openFlap(0);
        Check.same("31: open now", watch.huntingSack(), 0);
        watch.dismiss();
        Check.same("31: without a sworn cat", watch.huntingSack(), 0);
        GranaryWatch none = Watch.of("cat a 1 left;sack b 9 3 shut;sack c 9 0 open;shift a 24;");
        Check.same("31: none", none.huntingSack(), -1);
    }

    private static void storedEvents() {
        GranaryWatch watch = Watch.of("cat a 7 left;sack b 999 99 open;shift a 24;hour 7;");
        Check.same("32: none", watch.eventCount(), 0);
        Check.same("33: none", watch.eventKind(0), -1);
        Check.same("34: none", watch.eventCat(0), -1);
        Check.same("35: none", watch.eventNumber(0), -1);
        watch.letPass(16);
        Check.same("32: sixteen", watch.eventCount(), 16);
        Check.same("35: the oldest", watch.eventNumber(15), 7);
        Check.same("33: the 17th", watch.eventKind(16), -1);
        Check.same("34: the 17th", watch.eventCat(16), -1);
        Check.same("35: the 17th", watch.eventNumber(16), -1);
        int[] wrong = {-1, Integer.MIN_VALUE, Integer.MAX_VALUE};
        for (int back : wrong) {
            Check.same("33: no such event", watch.eventKind(back), -1);
            Check.same("34: no such event", watch.eventCat(back), -1);
            Check.same("35: no such event", watch.eventNumber(back), -1);
        }
        String four = "1,0,S 1,0,S 1,0,S 1,0,S ";
        String before = four.replace('S', '4') + four.replace('S', '5') + four.replace('S', '6') + four.replace('S', '7');
        Check.same("35: all of them", Watch.events(watch), before);
        watch.letPass(1);
        Check.same("32: not more than sixteen", watch.eventCount(), 16);
        Check.same("35: the others move back", Watch.events(watch), "1,0,3 " + before.substring(0, before.length() - 6));
    }

    private static void milk() {
        GranaryWatch watch = new GranaryWatch();
        Check.same("36: at first", watch.milk(), 3);
        watch.setMilk(9);
        Check.same("36: most", watch.milk(), 9);
        watch.setMilk(0);
        Check.same("36: least", watch.milk(), 0);
        Watch.run(watch, "milk 5;");
        Check.same("36: of a script", watch.milk(), 5);
    }

    private static void fullGranary() {
        StringBuilder setup = new StringBuilder("milk 4;");
        for (char letter = 'a'; letter <= 'h'; letter++) {
            setup.append("cat ").append(letter).append(letter % 2 == 0 ? " 3 left;" : " 4 right;");
        }
        for (char letter = 'a'; letter <= 'f'; letter++) {
            setup.append("sack ").append(letter).append(" 99 9 open;");
        }
        for (char letter = 'a'; letter <= 'l'; letter++) {
            setup.append("shift ").append((char) ('a' + (letter - 'a') % 8)).append(" 2;");
        }
        GranaryWatch watch = Watch.of(setup.toString());
        watch.letPass(3);
        Check.same("10: eight cats", watch.catCount(), 8);
        Check.same("11: six sacks", watch.sackCount(), 6);
        Check.same("12: twelve shifts", watch.shiftCount(), 12);
        Check.same("31: the first sack that nobody hunted in", watch.huntingSack(), 3);
        Check.same("37: the last sack", watch.miceAfter(5, 3), 5);
        Check.same("41: the last sack, whose mice are caught in time", watch.hoursUntilEmpty(5), -1);
        Check.same("42: three hunts", watch.caughtWithin(3), 3 + 4 + 4);
        Check.same("40: the paws take turns in the ring of shifts", watch.hoursUntilUnguarded(), -1);
        Check.same("43: no hours", watch.bestFlapToChange(0), -1);
        Check.sameDouble("51: eight cats", watch.averageTiredness(), 2.0 / 8.0);
        Check.same("30: the last cat", watch.oathReason(7), GranaryWatch.SAME_PAW);
        Check.same("30: the cat before it", watch.oathReason(6), GranaryWatch.CAN_SWEAR);
        Check.same("50: consistent", watch.isConsistent(), true);
        Check.same("54: all flaps", watch.shutFlap(5), 5);
        watch.letPass(99);
        Check.same("50: still consistent", watch.isConsistent(), true);
    }
}
