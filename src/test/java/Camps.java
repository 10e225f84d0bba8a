/**
 * Camps for the tests, made by calls of the methods. The calls are written short, with blanks between them:
 * p, e, l, j, f as in a text (p051: pitch(5, 1)), U16: the usual size, K032: what it keeps, P0 and P1: whether it is
 * poisoned, u: undo(), s0: save(0), r0: restore(0), t..: the text gets these characters; 24*p011: 24 times.
 */
final class Camps {
    private Camps() { }

    static TentCamp of(String calls) {
        TentCamp camp = new TentCamp();
        go(camp, calls);
        return camp;
    }

    /** Does the calls; answers what the last one answered. */
    static int go(TentCamp camp, String calls) {
        int last = 0;
        for (String call : calls.trim().split(" +")) {
            if (call.isEmpty()) {
                continue;
            }
            int star = call.indexOf('*');
            int times = star < 0 ? 1 : Integer.parseInt(call.substring(0, star));
            for (int i = 0; i < times; i++) {
                last = one(camp, call.substring(star + 1));
            }
        }
        return last;
    }

    private static int one(TentCamp camp, String call) {
        String rest = call.substring(1);
        return switch (call.charAt(0)) {
            case 'p' -> camp.pitch(Integer.parseInt(rest.substring(0, 2)), Integer.parseInt(rest.substring(2)));
            case 'e' -> camp.enter();
            case 'l' -> camp.leave();
            case 'j' -> camp.jump(Integer.parseInt(rest));
            case 'f' -> camp.fill(Integer.parseInt(rest.substring(0, 2)), Integer.parseInt(rest.substring(2)));
            case 'U' -> camp.set(0, Integer.parseInt(rest));
            case 'K' -> camp.set(1, Integer.parseInt(rest));
            case 'P' -> camp.set(2, Integer.parseInt(rest));
            case 'u' -> camp.undo();
            case 's' -> camp.save(Integer.parseInt(rest));
            case 'r' -> camp.restore(Integer.parseInt(rest));
            case 't' -> write(camp, rest);
            default -> throw new AssertionError("no such call: " + call);
        };
    }

    /** Appends the characters; answers the length of the text then. */
    static int write(TentCamp camp, String text) {
        int length = 0;
        for (int i = 0; i < text.length(); i++) {
            length = camp.append(text.charAt(i));
        }
        return length;
    }

    static TentCamp withText(String text) {
        TentCamp camp = new TentCamp();
        write(camp, text);
        return camp;
    }

    static TentCamp loaded(String text) {
        TentCamp camp = withText(text);
        camp.load();
        return camp;
    }
}
