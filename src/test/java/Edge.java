/** Both sides of a boundary: what is taken, and what is refused without a change. */
final class Edge {
    private Edge() {
    }

    /** An answer that is due behind a story. */
    static void due(String sentence, Object want, Story before, Story.Step call) {
        LunchMarks x = before.told();
        Check.due(sentence, want, () -> call.on(x));
    }

    /** The answer that refuses, and then all as if the call had not been made, now and in what follows. */
    static void refused(String sentence, Object want, Story before, Story.Step call) {
        due(sentence, want, before, call);
        Story behind = before.then(x -> Check.told(() -> call.on(x)));
        Check.due(sentence + ": it changes nothing", before.everything(), behind::everything);
        Check.due(sentence + ": nor what comes behind", before.goingOn(), behind::goingOn);
    }

    static void none(String sentence, Story before, Story.Step call) {
        refused(sentence, LunchMarks.NONE, before, call);
    }

    static void noSuch(String sentence, Story before, Story.Step call) {
        refused(sentence, Check.NO_SUCH, before, call);
    }

    static void illegal(String sentence, Story before, Story.Step call) {
        refused(sentence, Check.ILLEGAL, before, call);
    }

    /** An ask, too, leaves all as it is. */
    static void asked(String sentence, Object want, Story before, Story.Step ask) {
        refused(sentence, want, before, ask);
    }
}
