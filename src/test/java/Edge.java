/** The last number that is taken and the first that is refused, each asked of a new object. */
final class Edge {
    interface Call {
        long ask(LetterFoundry f);
    }

    interface NumberCall {
        long ask(LetterFoundry f, int number);
    }

    private Edge() {
    }

    static long of(boolean answer) {
        return answer ? 1 : 0;
    }

    static LetterFoundry made(Same.Script script) {
        LetterFoundry f = new LetterFoundry();
        script.play(f);
        return f;
    }

    static void taken(String what, Same.Script script, long want, Call call) {
        Check.due(what, call.ask(made(script)), want);
    }

    /** Answers so, and nothing has changed behind it. */
    static void refused(String what, Same.Script script, long no, Call call) {
        Check.due(what, call.ask(made(script)), no);
        Same.due(what, script, f -> call.ask(f));
    }

    /** Refused below the least and above the most, taken at both. */
    static void numbers(String what, Same.Script script, int least, int most, long no, NumberCall call) {
        Check.due(what + " " + least + " is taken", call.ask(made(script), least) != no, true);
        Check.due(what + " " + most + " is taken", call.ask(made(script), most) != no, true);
        for (int bad : new int[] {least - 1, most + 1, Integer.MIN_VALUE, Integer.MAX_VALUE}) {
            refused(what + " " + bad, script, no, f -> call.ask(f, bad));
        }
    }

    /** No such letter: none below 0, none from as many as there are on. */
    static void noLetter(String what, Same.Script script, int letters, long no, NumberCall call) {
        for (int bad : new int[] {-1, letters, 31, 32, 33, Integer.MIN_VALUE, Integer.MAX_VALUE}) {
            if (bad < 0 || bad >= letters) {
                refused(what + " of letter " + bad, script, no, f -> call.ask(f, bad));
            }
        }
    }
}
