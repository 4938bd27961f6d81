/** Counts the answers that are not the ones that are due, and prints them. */
final class Check {
    private static final int MOST_PRINTED = 40;

    private int wrong = 0;
    private int answers = 0;
    private String topic = "";

    void topic(String name) {
        topic = name;
    }

    void due(String call, long got, long want) {
        answers++;
        if (got != want) {
            wrong++;
            print(topic + ": " + call + " answered " + got + ", due is " + want);
        }
    }

    void that(String what, boolean holds) {
        answers++;
        if (!holds) {
            wrong++;
            print(topic + ": " + what);
        }
    }

    boolean anyWrong() {
        return wrong > 0;
    }

    private void print(String line) {
        if (wrong <= MOST_PRINTED) {
            System.out.println(line);
        }
    }

    /** Ends the program with exit code 1 if an answer was wrong. */
    void end() {
        System.out.println(answers + " answers, " + wrong + " not as due");
        if (wrong > 0) {
            System.exit(1);
        }
    }
}
