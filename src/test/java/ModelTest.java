/** All promises: long runs of calls, drawn from fixed seeds, each answer held against the Model's. */
public final class ModelTest {
    private static final int RUNS = 150;
    private static final int CALLS = 510;
    private static final int[] ODD = {Integer.MIN_VALUE, Integer.MAX_VALUE, -104, -2, -1, 4, 5, 6, 7, 8, 9, 99};
    private static final Check check = new Check();

    private final EndedByOthers x = new EndedByOthers();
    private final Model model = new Model();
    private final int run;
    private long state;
    private int calls = 0;

    private ModelTest(int run) {
        this.run = run;
        this.state = run * 7919L + 17;
    }

    public static void main(String[] args) {
        for (int run = 0; run < RUNS; run++) {
            new ModelTest(run).go();
        }
        check.finish("ModelTest");
    }

    private int draw(int of) {
        state = state * 6364136223846793005L + 1442695040888963407L;
        return (int) ((state >>> 33) % of);
    }

    private int number(int below) {
        return draw(25) == 0 ? ODD[draw(ODD.length)] : draw(below);
    }

    private void due(String call, long want, long got) {
        calls++;
        check.due("run " + run + ", call " + calls + ": " + call, want, got);
    }

    private void go() {
        if (draw(10) > 0) {
            typeRoom();
        }
        while (calls < CALLS - 35) {
            int way = draw(100);
            if (way < 2) {
                typeRoom();
            } else if (way < 5) {
                typeAnything();
            } else {
                call(way);
            }
        }
        due("digest()", model.digest(), x.digest());
    }

    private void type(char c) {
        due("letter(" + (int) c + ")", model.letter(c), x.letter(c));
    }

    private void typeAnything() {
        String some = "abcdef,;shtcp,abcdef~";
        for (int i = draw(6); i >= 0; i--) {
            type(some.charAt(draw(some.length())));
            due("fault()", model.fault(), x.fault());
        }
    }

    private void typeRoom() {
        due("blank()", model.blank(), x.blank());
        StringBuilder text = new StringBuilder();
        int endings = draw(3) == 0 ? 3 : 6;
        for (int opening = 0; opening < 4; opening++) {
            int fits = 0;
            for (int i = draw(3); i >= 0; i--) {
                fits |= 1 << draw(endings);
            }
            for (int ending = 0; ending < 6; ending++) {
                if ((fits >> ending & 1) != 0) {
                    text.append((char) ('a' + ending));
                }
            }
            text.append(opening < 3 ? ',' : ';');
        }
        int speakers = 2 + draw(3);
        for (int speaker = 0; speaker < speakers; speaker++) {
            text.append(speaker > 0 ? "," : "");
            text.append("shtcp".charAt(draw(5))).append((char) ('a' + draw(endings)));
        }
        if (draw(5) == 0) {
            text.setCharAt(draw(text.length()), "abcf,;sp".charAt(draw(8)));
        }
        for (int i = 0; i < text.length(); i++) {
            type(text.charAt(i));
        }
        due("fault()", model.fault(), x.fault());
        due("room()", model.room(), x.room());
    }

    private void call(int way) {
        int speaker = number(4);
        int opening = number(4);
        int ending = number(6);
        int sentence = number(8);
        int what = number(9);
        if (way < 25) {
            due("begin(" + speaker + ", " + opening + ")", model.begin(speaker, opening), x.begin(speaker, opening));
        } else if (way < 45) {
            due("end(" + sentence + ", " + speaker + ")", model.end(sentence, speaker), x.end(sentence, speaker));
        } else if (way < 50) {
            due("want(" + speaker + ", " + ending + ")", model.want(speaker, ending), x.want(speaker, ending));
        } else if (way < 55) {
            hear(speaker, opening, ending);
        } else if (way < 65) {
            due("about(" + speaker + ", " + what + ")", model.about(speaker, what), x.about(speaker, what));
        } else if (way < 69) {
            due("as(" + speaker + ", " + what + ")", model.as(speaker, what), x.as(speaker, what));
        } else if (way < 72) {
            due("would(" + speaker + ", " + opening + ")", model.would(speaker, opening), x.would(speaker, opening));
        } else if (way < 77) {
            due("sentence(" + sentence + ", " + what + ")", model.sentence(sentence, what), x.sentence(sentence, what));
        } else if (way < 81) {
            int asked = draw(5) == 0 ? what : draw(5) == 0 ? 0 : 10 + draw(5);
            due("match(" + asked + ")", model.match(asked), x.match(asked));
        } else if (way < 85) {
            talks(number(62), draw(Integer.MAX_VALUE), number(4));
        } else {
            plainCall(way, opening, what);
        }
    }

    private void hear(int speaker, int opening, int ending) {
        int told = model.would(speaker, opening);
        int heard = draw(4) == 0 || told < -1 ? ending : told;
        due("hear(" + speaker + ", " + opening + ", " + heard + ")", model.hear(speaker, opening, heard),
                x.hear(speaker, opening, heard));
    }

    private void talks(int times, int seed, int what) {
        due("talks(" + times + ", " + seed + ", " + what + ")", model.talks(times, seed, what), x.talks(times, seed, what));
    }

    private void plainCall(int way, int opening, int what) {
        if (way < 86) {
            due("forget()", model.forget(), x.forget());
        } else if (way < 88) {
            due("image()", model.image(), x.image());
        } else if (way < 90) {
            due("restore()", model.restore(), x.restore());
        } else if (way < 91) {
            due("fits(" + opening + ")", model.fits(opening), x.fits(opening));
        } else if (way < 94) {
            due("count(" + what + ")", model.count(what), x.count(what));
        } else if (way < 95) {
            int code = number(128);
            due("letter(" + code + ")", model.letter(code), x.letter(code));
        } else {
            due("digest()", model.digest(), x.digest());
        }
    }
}
