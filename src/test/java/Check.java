/** Counts the answers that are not due, and ends the program with exit code 1 if there was one. */
final class Check {
    /** What stands before the name of every check that fails. */
    static String heading = "";
    private static int checks;
    private static int wrong;

    private Check() {
    }

    static void same(String what, long got, long due) {
        note(got == due, what, String.valueOf(got), String.valueOf(due));
    }

    static void same(String what, boolean got, boolean due) {
        note(got == due, what, String.valueOf(got), String.valueOf(due));
    }

    static void same(String what, String got, String due) {
        note(got.equals(due), what, got, due);
    }

    static void sameDouble(String what, double got, double due) {
        note(got == due, what, String.valueOf(got), String.valueOf(due));
    }

    static void raises(String what, Class<? extends Exception> due, Runnable call) {
        String got = "nothing";
        try {
            call.run();
        } catch (RuntimeException e) {
            got = e.getClass().getName();
        }
        note(got.equals(due.getName()), what, got, due.getName());
    }

    static int count() {
        return checks;
    }

    static void end() {
        System.out.println(checks + " checks, " + wrong + " wrong");
        if (wrong > 0 || checks == 0) {
            System.exit(1);
        }
    }

    private static void note(boolean right, String what, String got, String due) {
        checks++;
        if (!right) {
            wrong++;
            System.out.println(heading + what + ": got " + got + ", due is " + due);
        }
    }
}
