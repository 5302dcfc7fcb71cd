/** What the project's tests share: it counts and prints the answers that are not as due. */
final class Check {
    /** A call whose answer, or whose exception, is looked at. */
    interface Call {
        Object make();
    }

    private int wrong;
    private String about = "";

    void about(String text) {
        about = text;
    }

    void due(String call, Object got, Object want) {
        if (!want.equals(got)) {
            wrong++;
            System.out.println(about + ": " + call + " answered " + got + ", due is " + want);
        }
    }

    void refused(String call, Class<? extends RuntimeException> want, Call made) {
        due(call, answer(made), "throws " + want.getName());
    }

    /** The exact class counts: an ArrayIndexOutOfBoundsException is thrown by the machine. */
    static Object answer(Call made) {
        try {
            return made.make();
        } catch (RuntimeException e) {
            return "throws " + e.getClass().getName();
        }
    }

    void end() {
        System.out.println(wrong == 0 ? "all answers are as due" : wrong + " answers are not as due");
        if (wrong != 0) {
            System.exit(1);
        }
    }
}
