/** Counts what is as due and tells what isn't, with the document's sentence that it breaks. */
final class Due {
    private static int wrong;
    private static int checks;
    private static String sentence = "";

    private Due() {
    }

    /** The sentence that the checks from here on are of. */
    static void says(String words) {
        sentence = words;
    }

    static void is(String what, long got, long want) {
        checks++;
        if (got != want) tell(what + " answered " + got + ", due is " + want);
    }

    /** What a line answers behind a story, if nothing was asked ahead of it and if something was. */
    static void is(Story story, String line, long want) {
        is(line, story.then(line).last(), want);
        is(line + " behind much that was asked", story.then(line).lastWatched(), want);
    }

    /** A line is refused, and all that can be asked afterwards is as it was. */
    static void refused(Story story, String line, long refusal) {
        is(story, line, refusal);
        checks++;
        String differs = story.then(line).differs(story);
        if (differs != null) tell("behind " + line + ", which is refused, " + differs);
    }

    /** A number of a line is taken at both of its bounds and refused beyond them. */
    static void bounds(Story story, String line, int place, int low, int high, long refusal) {
        for (int v : new int[] {low, high}) {
            String with = with(line, place, v);
            checks++;
            if (story.then(with).last() == refusal) tell(with + " is refused");
        }
        for (int v : new int[] {low - 1, high + 1, Integer.MIN_VALUE, Integer.MAX_VALUE}) {
            refused(story, with(line, place, v), refusal);
        }
    }

    /** As bounds, of a call that only asks: all are asked of one object, and then it is as it was. */
    static void askedBounds(Story story, String line, int place, int low, int high, long refusal) {
        for (int v : new int[] {low, high}) {
            String with = with(line, place, v);
            checks++;
            if (story.then(with).last() == refusal) tell(with + " is none such");
        }
        int[] beyond = {low - 1, high + 1, Integer.MIN_VALUE, Integer.MAX_VALUE};
        for (int v : beyond) is(story, with(line, place, v), refusal);
        Story asked = story;
        for (int v : beyond) asked = asked.then(with(line, place, v));
        checks++;
        String differs = asked.differs(story);
        if (differs != null) tell("behind " + line + " with none such, " + differs);
    }

    private static String with(String line, int place, int v) {
        String[] words = line.split(" ");
        words[place + 1] = "" + v;
        return String.join(" ", words);
    }

    private static void tell(String what) {
        wrong++;
        System.out.println("\"" + sentence + "\": " + what);
    }

    static void end() {
        System.out.println(checks + " checks, " + wrong + " wrong");
        if (wrong != 0) System.exit(1);
    }
}
