/** The program and the model, called alike; each answer of the program is compared with the model's. */
final class Pair {
    private final StreamMultiplexer program = new StreamMultiplexer();
    private final Model model = new Model();

    /** Calls a method of both by its name and answers what the model does; missing arguments are 0. */
    long call(String where, String method, int... arguments) {
        int a = arguments.length > 0 ? arguments[0] : 0;
        int b = arguments.length > 1 ? arguments[1] : 0;
        int c = arguments.length > 2 ? arguments[2] : 0;
        long want = ofModel(method, a, b, c);
        long got = ofProgram(method, a, b, c);
        if (want == got) {
            // The text is left out where it would not be printed, as there are millions of calls.
            Check.due("", want, got);
        } else {
            Check.due(where + ": " + method + " " + a + " " + b + " " + c, want, got);
        }
        return want;
    }

    /** What told(5) answers, without a call to the program. */
    int currentEpoch() {
        return model.told(5);
    }

    private long ofModel(String method, int a, int b, int c) {
        return switch (method) {
            case "open" -> model.open(a, b);
            case "close" -> model.close(a);
            case "setWeight" -> model.setWeight(a, b);
            case "push" -> model.push(a, b);
            case "edge" -> model.edge(a, b, c);
            case "commit" -> model.commit();
            case "revert" -> model.revert(a);
            case "witness" -> model.witness(a, b, c);
            case "send" -> model.send();
            case "sendSome" -> model.sendSome(a);
            case "undo" -> model.undo();
            case "told" -> model.told(a);
            case "stream" -> model.stream(a, b);
            case "frame" -> model.frame(a, b, c);
            case "log" -> model.log(a, b);
            case "relation" -> model.relation(a, b, c);
            case "order" -> model.order(a, b);
            case "lists" -> model.lists(a);
            case "keep" -> model.keep(a);
            case "back" -> model.back(a);
            default -> throw new IllegalArgumentException(method);
        };
    }

    private long ofProgram(String method, int a, int b, int c) {
        return switch (method) {
            case "open" -> program.open(a, b);
            case "close" -> program.close(a);
            case "setWeight" -> program.setWeight(a, b);
            case "push" -> program.push(a, b);
            case "edge" -> program.edge(a, b, c);
            case "commit" -> program.commit();
            case "revert" -> program.revert(a);
            case "witness" -> program.witness(a, b, c);
            case "send" -> program.send();
            case "sendSome" -> program.sendSome(a);
            case "undo" -> program.undo();
            case "told" -> program.told(a);
            case "stream" -> program.stream(a, b);
            case "frame" -> program.frame(a, b, c);
            case "log" -> program.log(a, b);
            case "relation" -> program.relation(a, b, c);
            case "order" -> program.order(a, b);
            case "lists" -> program.lists(a);
            case "keep" -> program.keep(a);
            case "back" -> program.back(a);
            default -> throw new IllegalArgumentException(method);
        };
    }
}
