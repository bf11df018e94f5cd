import java.util.LinkedHashMap;
import java.util.Map;

/** All that the calls which only look can tell of a hut, to see what another call changed. */
final class Sight {
    private final Map<String, Integer> told = new LinkedHashMap<>();

    Sight(HutAnswers x) {
        for (int what = 0; what < 17; what++) {
            told.put("count(" + what + ")", x.count(what));
        }
        told.put("status()", x.status());
        told.put("fault()", x.fault());
        told.put("stopped()", x.stopped());
        told.put("hens()", x.hens());
        for (int what = 0; what < 3; what++) {
            told.put("known(" + what + ")", x.known(what));
        }
        for (int what = 0; what < 12; what++) {
            told.put("drawn(" + what + ")", x.drawn(what));
        }
        eachQuestion(x);
        paper(x);
    }

    private void eachQuestion(HutAnswers x) {
        for (int q = 0; q < x.count(1); q++) {
            for (int what = 0; what < 14; what++) {
                told.put("of(" + q + ", " + what + ")", x.of(q, what));
            }
            told.put("odds(" + q + ", 0)", x.odds(q, 0));
            told.put("order(" + (1 << q) + ", -1)", x.order(1 << q, -1));
        }
    }

    private void paper(HutAnswers x) {
        for (int i = 0; i < 2; i++) {
            told.put("worst(-1, 0, " + i + ")", x.worst(-1, 0, i));
            told.put("mean(-1, 0, " + i + ")", x.mean(-1, 0, i));
            told.put("worst(1, 0, " + i + ")", x.worst(1, 0, i));
            told.put("heap(" + i + ")", x.heap(i));
        }
        for (int t = 1; t < 8; t++) {
            told.put("apart(0, " + t + ")", x.apart(0, t));
        }
        told.put("guess", x.guess(Math.max(0, x.count(16) - 9), 2, -1, 0));
        for (int v = 0; v < 7; v++) {
            told.put("share(" + v + ")", x.share(v));
        }
        for (int law = -1; law < 7; law++) {
            told.put("compare(" + law + ")", x.compare(law));
        }
    }

    /** What a call is allowed to change: the answer that is due behind it. */
    void put(String call, int answer) {
        if (!told.containsKey(call)) {
            throw new IllegalArgumentException(call);
        }
        told.put(call, answer);
    }

    int get(String call) {
        return told.get(call);
    }

    /** Every answer of another sight is held against this one's. */
    void hold(Due due, String what, Sight other) {
        due.same(what + ": how much is seen", other.told.size(), told.size());
        for (Map.Entry<String, Integer> e : told.entrySet()) {
            Integer got = other.told.get(e.getKey());
            due.same(what + ": then " + e.getKey(), got == null ? Integer.MIN_VALUE : got, e.getValue());
        }
    }
}
