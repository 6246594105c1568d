import java.util.ArrayList;
import java.util.IdentityHashMap;
import java.util.List;
import java.util.Map;

/**
 * Tells whether a call leaves an object as it was. Each question is put to a new object of its own:
 * so a question may change it, and none is used for more than 512 calls.
 */
final class Same {
    /** Calls on a new object, 330 at most. */
    interface Script {
        void play(LetterFoundry f);
    }

    /** 180 calls at most. */
    private interface Question {
        void ask(LetterFoundry f, List<Long> to);
    }

    private static final int LETTERS = 7;
    private static final List<Question> QUESTIONS = questions();
    private static final Map<Script, List<List<Long>>> KNOWN = new IdentityHashMap<>();

    private Same() {
    }

    /** Nothing has changed behind the call. */
    static void due(String what, Script script, Script call) {
        int first = firstDifference(script, call);
        Check.due(what + " changes nothing (question " + first + ")", first < 0, true);
    }

    /** Something has changed behind the call. */
    static void notDue(String what, Script script, Script call) {
        Check.due(what + " changes something", firstDifference(script, call) >= 0, true);
    }

    private static int firstDifference(Script script, Script call) {
        List<List<Long>> before = KNOWN.computeIfAbsent(script, s -> answers(s, f -> { }));
        List<List<Long>> behind = answers(script, call);
        for (int q = 0; q < QUESTIONS.size(); q++) {
            if (!before.get(q).equals(behind.get(q))) {
                return q;
            }
        }
        return -1;
    }

    private static List<List<Long>> answers(Script script, Script call) {
        List<List<Long>> all = new ArrayList<>();
        for (Question question : QUESTIONS) {
            LetterFoundry f = new LetterFoundry();
            script.play(f);
            call.play(f);
            List<Long> answers = new ArrayList<>();
            question.ask(f, answers);
            all.add(answers);
        }
        return all;
    }

    private static List<Question> questions() {
        List<Question> all = new ArrayList<>();
        askLetters(all);
        askPoints(all);
        askFlat(all);
        askImage(all);
        askPrograms(all);
        askMasters(all);
        askKerning(all);
        askLine(all);
        return all;
    }

    private static void askLetters(List<Question> all) {
        for (int half = 0; half < 2; half++) {
            int from = 17 * half;
            all.add((f, to) -> {
                for (int l = from; l < from + 17; l++) {
                    for (int what = 0; what < 8; what++) {
                        to.add((long) f.info(l, what));
                    }
                }
            });
        }
        all.add((f, to) -> {
            for (int code = 0; code < 40; code++) {
                to.add((long) f.find(code));
            }
            to.add((long) f.letter(60000, 5));
        });
        all.add((f, to) -> {
            for (int l = 0; l < 32; l++) {
                to.add((long) f.outline(l));
            }
        });
        all.add((f, to) -> {
            for (int l = 0; l < LETTERS; l++) {
                for (int of = 0; of < LETTERS; of++) {
                    to.add((long) f.part(l, of, 7, 9));
                    to.add((long) f.info(l, 5));
                }
            }
        });
    }

    private static void askPoints(List<Question> all) {
        for (int l = 0; l < LETTERS; l++) {
            int letter = l;
            for (int from = 0; from < 100; from += 25) {
                int start = from;
                all.add((f, to) -> addPoints(f, to, letter, start));
            }
            all.add((f, to) -> {
                int open = f.info(letter, 6);
                to.add((long) f.close(letter));
                for (int k = 0; k < 20; k++) {
                    // what was open and lacks a second THREE or an ON, gets it now
                    to.add((long) f.point(letter, 1, 2, open >= 2 && k == 0 ? 2 : 0));
                    to.add((long) f.close(letter));
                }
                addPoints(f, to, letter, 0);
            });
            all.add((f, to) -> {
                while (f.drop(letter) > 0) {
                    to.add((long) f.info(letter, 3));
                }
                to.add((long) f.info(letter, 3));
            });
        }
    }

    private static void addPoints(LetterFoundry f, List<Long> to, int l, int from) {
        for (int k = from; k < from + 25 && k < f.info(l, 3); k++) {
            for (int what = 0; what < 4; what++) {
                to.add((long) f.at(l, k, what));
            }
        }
    }

    private static void askFlat(List<Question> all) {
        for (int from = 0; from < 500; from += 36) {
            int start = from;
            all.add((f, to) -> addFlat(f, to, start));
        }
        all.add((f, to) -> {
            to.add(f.area());
            to.add((long) f.crossings());
            for (int k = 0; k < 144; k++) {
                to.add((long) f.winding(700 * (k % 12) - 900, 700 * (k / 12) - 900));
            }
        });
        for (int l = 0; l < LETTERS; l++) {
            int letter = l;
            all.add((f, to) -> {
                to.add((long) f.flatten(letter, 8));
                addFlat(f, to, 0);
            });
        }
    }

    private static void addFlat(LetterFoundry f, List<Long> to, int from) {
        for (int k = from; k < from + 36 && f.flat(k, 0) != -1000000; k++) {
            for (int what = 0; what < 3; what++) {
                to.add((long) f.flat(k, what));
            }
        }
    }

    private static void askImage(List<Question> all) {
        all.add((f, to) -> {
            for (int k = 0; k < 144; k++) {
                to.add((long) f.dot(k % 12 - 2, k / 12 - 2));
            }
            for (int what = 0; what < 4; what++) {
                to.add((long) f.box(what));
            }
        });
    }

    private static void askPrograms(List<Question> all) {
        for (int from = 0; from < 100; from += 30) {
            int start = from;
            all.add((f, to) -> addFitted(f, to, start));
        }
        for (int l = 0; l < LETTERS; l++) {
            int letter = l;
            all.add((f, to) -> {
                to.add((long) f.run(letter, 16));
                addFitted(f, to, 0);
            });
            all.add((f, to) -> to.add((long) f.wipe(letter)));
        }
    }

    private static void addFitted(LetterFoundry f, List<Long> to, int from) {
        for (int k = from; k < from + 30 && f.fitted(k, 0) != -2000000000; k++) {
            for (int what = 0; what < 4; what++) {
                to.add((long) f.fitted(k, what));
            }
        }
    }

    private static void askMasters(List<Question> all) {
        for (int master = -1; master < 3; master++) {
            int alone = master;
            for (int l = 0; l < LETTERS; l++) {
                int letter = l;
                all.add((f, to) -> {
                    // with the weights as they are, then with each master's deltas by themselves
                    for (int m = 0; m < 3 && alone >= 0; m++) {
                        f.weight(m, m == alone ? 16384 : 0);
                    }
                    for (int k = 0; k < 50 && k < f.info(letter, 3); k++) {
                        to.add((long) f.mixed(letter, k, 0));
                        to.add((long) f.mixed(letter, k, 1));
                    }
                });
            }
        }
        all.add((f, to) -> {
            for (int m = 0; m < 3; m++) {
                for (int n = 0; n < 3; n++) {
                    f.delta(0, n, 0, n == m ? 2000 : 0, n == m ? 1 : 0);
                }
                to.add((long) f.mixed(0, 0, 0));
                to.add((long) f.mixed(0, 0, 1));
            }
        });
    }

    private static void askKerning(List<Question> all) {
        all.add((f, to) -> {
            for (int l = 0; l < 12; l++) {
                for (int m = 0; m < 12; m++) {
                    to.add((long) f.kerning(l, m));
                }
            }
        });
        for (int quarter = 0; quarter < 4; quarter++) {
            int from = 4 * quarter;
            all.add((f, to) -> {
                // what is told of the classes: letters 0 and 1 are put into each
                f.exception(0, 1, 10000);
                for (int right = from; right < from + 4; right++) {
                    f.classOf(0, 1, right);
                    for (int left = 0; left < 16; left++) {
                        f.classOf(1, 0, left);
                        to.add((long) f.kerning(0, 1));
                    }
                }
            });
            all.add((f, to) -> {
                // which classes the letters are in: each pair of classes gets a number of its own
                for (int right = from; right < from + 4; right++) {
                    for (int left = 0; left < 16; left++) {
                        f.kern(right, left, 1000 + 16 * right + left);
                    }
                }
                for (int k = 0; k < LETTERS * LETTERS; k++) {
                    to.add((long) f.kerning(k / LETTERS, k % LETTERS));
                }
            });
        }
    }

    private static void askLine(List<Question> all) {
        all.add((f, to) -> addPlaced(f, to, 0));
        all.add((f, to) -> addPlaced(f, to, 40));
        all.add((f, to) -> to.add((long) f.join(1, 1, -1, 1)));
        all.add((f, to) -> to.add((long) f.sign(1)));
        all.add((f, to) -> {
            to.add((long) f.set());
            addPlaced(f, to, 0);
        });
        all.add((f, to) -> {
            f.set();
            for (int code : new int[] {5, 5, 2, 3, 1, 2, 3, 1, 2, 1, 1, 2, 7, 8, 0, 7, 7, 12, 900}) {
                to.add((long) f.sign(code));
            }
            to.add((long) f.set());
            addPlaced(f, to, 0);
        });
    }

    private static void addPlaced(LetterFoundry f, List<Long> to, int from) {
        for (int k = from; k < from + 40 && f.placed(k, 0) != -1000000; k++) {
            for (int what = 0; what < 3; what++) {
                to.add((long) f.placed(k, what));
            }
        }
        to.add((long) f.length());
    }
}
