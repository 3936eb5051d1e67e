/** Counts the answers that a test looks at, and prints those that are not as due. */
class Checks {
    private int wrong = 0;
    private int made = 0;

    final void due(String what, Object got, Object want) {
        made++;
        if (!want.equals(got)) {
            wrong++;
            System.out.println(what + " answered " + got + ", due is " + want);
        }
    }

    final int made() {
        return made;
    }

    /** Ends the program, with exit code 1 if an answer was wrong or none was looked at. */
    final void end() {
        System.out.println(made + " answers, " + wrong + " not as due");
        System.exit(wrong == 0 && made > 0 ? 0 : 1);
    }
}
