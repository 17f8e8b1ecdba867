import java.util.function.Supplier;

/** "What is refused, or found, changes nothing but status()": a town with the refused call and its twin without it. */
final class Refused {
    private final Check check;
    private final Supplier<Run> town;

    Refused(Check check, Supplier<Run> town) {
        this.check = check;
        this.town = town;
    }

    /** The call is the last that is made ahead of the questions; those before it are made in the twin too. */
    void due(String call, int want, String... before) {
        Run refused = town.get().then(before).due(call, want);
        Run twin = town.get().then(before);
        boolean found = want < -1000010 && want >= -1000015;
        for (String question : Town.questions()) {
            int due = twin.say(question);
            if (found && question.equals("status()")) {
                due = -1000010 - want;
            }
            check.due(question + " behind the refused " + call, refused.say(question), due);
        }
    }
}
