/** Promises 61 and 62: the output. */
public final class OutputTest {
    public static void main(String[] args) {
        first();
        numbers();
        longest();
        replacing();
        Check.end();
    }

    private static void first() {
        GranaryWatch watch = new GranaryWatch();
        Check.same("62: nothing written", watch.outputByte(0), -1);
        Check.same("61: length", watch.writeSacks(), 29);
        Check.same("61: text", Watch.output(watch), "rye:60/4' oats:30/9 peas:8/2'");
        Check.same("62: first byte", watch.outputByte(0), 'r');
        Check.same("62: last byte", watch.outputByte(28), 39);
        Check.same("62: beyond", watch.outputByte(29), -1);
        Check.same("62: negative", watch.outputByte(-1), -1);
        Check.same("62: least", watch.outputByte(Integer.MIN_VALUE), -1);
        Check.same("62: most", watch.outputByte(Integer.MAX_VALUE), -1);
    }

    private static void numbers() {
        GranaryWatch watch = Watch.of("cat a 1 left;sack b 0 0 shut;sack c 9 10 open;sack d 10 99 shut;sack e 100 9 open;sack f 999 1 shut;shift a 1;");
        Check.same("61: numbers", Watch.written(watch), "b:0/0 c:9/10' d:10/99 e:100/9' f:999/1");
        watch.addGrain(4, 1);
        Check.same("61: 1000", Watch.written(watch), "b:0/0 c:9/10' d:10/99 e:100/9' f:1000/1");
        Check.same("61: one sack", Watch.written(Watch.of("cat a 1 left;sack b 7 0 open;shift a 1;")), "b:7/0'");
    }

    private static void longest() {
        StringBuilder setup = new StringBuilder("cat a 1 left;shift a 1;");
        StringBuilder due = new StringBuilder();
        for (char letter = 'u'; letter <= 'z'; letter++) {
            String name = String.valueOf(letter).repeat(6);
            setup.append("sack ").append(name).append(" 999 99 open;");
            due.append(due.length() == 0 ? "" : " ").append(name).append(":9999/99'");
        }
        GranaryWatch watch = Watch.of(setup.toString());
        for (int sack = 0; sack < 6; sack++) {
            for (int i = 0; i < 9; i++) {
                watch.addGrain(sack, 999);
            }
            watch.addGrain(sack, 9);
        }
        Check.same("61: the longest", watch.writeSacks(), 95);
        Check.same("61: the longest text", Watch.output(watch), due.toString());
    }

    private static void replacing() {
        GranaryWatch watch = new GranaryWatch();
        watch.writeSacks();
        watch.shutFlap(0);
        Check.same("62: as it was written", Watch.output(watch), "rye:60/4' oats:30/9 peas:8/2'");
        Check.same("61: shorter", watch.writeSacks(), 28);
        Check.same("61: replaced", Watch.output(watch), "rye:60/4 oats:30/9 peas:8/2'");
        Check.same("62: the former byte is gone", watch.outputByte(28), -1);
        Check.same("61: is no change", watch.undo(), 0);
    }
}
