/** Makes a call that is written as text, such as "show(3, 199, MAX)", and tells its answer as text. */
final class Calls {
    static final String DONE = "done";
    static final String THROWS = "throws.";

    private Calls() {
    }

    /**
     * The exception's very class is told, and where it comes from if that is not a throw of the class
     * itself: what the machine or the library throws by itself is no answer.
     */
    static String make(LockHouse x, String call) {
        int open = call.indexOf('(');
        int[] with = numbers(call.substring(open + 1, call.indexOf(')')));
        try {
            return answer(x, call.substring(0, open), with);
        } catch (RuntimeException e) {
            return THROWS + e.getClass().getSimpleName() + source(e);
        }
    }

    private static String source(RuntimeException e) {
        StackTraceElement[] frames = e.getStackTrace();
        String from = frames.length == 0 ? "the machine" : frames[0].getClassName();
        return from.startsWith("LockHouse") ? "" : " from " + from;
    }

    private static int[] numbers(String inside) {
        if (inside.isBlank()) {
            return new int[0];
        }
        String[] parts = inside.split(",");
        int[] numbers = new int[parts.length];
        for (int i = 0; i < parts.length; i++) {
            numbers[i] = number(parts[i].trim());
        }
        return numbers;
    }

    private static int number(String text) {
        return switch (text) {
            case "MIN" -> Integer.MIN_VALUE;
            case "MAX" -> Integer.MAX_VALUE;
            case "true" -> 1;
            case "false" -> 0;
            default -> Integer.parseInt(text);
        };
    }

    private static String answer(LockHouse x, String name, int[] a) {
        return switch (name) {
            case "gate", "zoneOf", "tear", "loseBattery", "visit" -> {
                change(x, name, a);
                yield DONE;
            }
            case "refuses" -> String.valueOf(x.refuses(a[0], a[1]));
            default -> String.valueOf(number(x, name, a));
        };
    }

    private static void change(LockHouse x, String name, int[] a) {
        switch (name) {
            case "gate" -> x.gate(a[0]);
            case "zoneOf" -> x.zoneOf(a[0], a[1]);
            case "tear" -> x.tear(a[0], a[1]);
            case "loseBattery" -> x.loseBattery(a[0]);
            default -> x.visit(a[0], a[1], a[2], a[3]);
        }
    }

    private static int number(LockHouse x, String name, int[] a) {
        return switch (name) {
            case "issue" -> x.issue(a[0], a[1]);
            case "cards" -> x.cards();
            case "revoke" -> x.revoke(a[0]);
            case "entries" -> x.entries();
            case "show" -> x.show(a[0], a[1], a[2]);
            case "written" -> x.written(a[0]);
            case "word" -> x.word(a[0], a[1], a[2]);
            case "carries" -> x.carries(a[0], a[1]);
            case "memory" -> x.memory(a[0], a[1]);
            case "about" -> x.about(a[0], a[1]);
            case "run" -> x.run(a[0], a[1], a[2] == 1);
            case "reach" -> x.reach(a[0]);
            case "spread" -> x.spread(a[0]);
            default -> throw new AssertionError("no such call: " + name);
        };
    }
}
