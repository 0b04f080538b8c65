import java.util.ArrayList;
import java.util.List;
import java.util.function.Supplier;
import java.util.function.ToIntFunction;

/**
 * Where a call is refused nothing happens, and by what is asked nothing changes: an object on which such a call was made
 * is, in all that can be seen of it, as one on which it was not.
 */
public final class RefusedTest {
    private record Call(String name, ToIntFunction<FireTax> made, int answer) {
    }

    private static final int LEAST = Integer.MIN_VALUE;
    private static final int MOST = Integer.MAX_VALUE;
    private static final int[] FAR = {LEAST, -2, -1, 4, 5, 8, MOST};

    public static void main(String[] args) {
        Due due = new Due("RefusedTest");
        whatFullIs(due);
        held(due, "new", FireTax::new, ofANewObject());
        held(due, "full", RefusedTest::full, tapeAndRules());
        held(due, "full", RefusedTest::full, actsOfWhom());
        held(due, "full", RefusedTest::full, actsOfHowMuch());
        held(due, "full", RefusedTest::full, questionsRefused());
        held(due, "full", RefusedTest::full, booksAndImages());
        held(due, "plain", RefusedTest::plain, ofAPlainDuchy());
        asked(due, "full", RefusedTest::full);
        asked(due, "plain", RefusedTest::plain);
        faultsOfADuchy(due);
        faultsOfARule(due);
        due.end();
    }

    private static void held(Due due, String state, Supplier<FireTax> maker, List<Call> calls) {
        List<Integer> without = Picture.all(maker);
        for (Call call : calls) {
            due.is(state + ": " + call.name(), call.made().applyAsInt(maker.get()), call.answer());
            due.is(state + ": nothing happened by " + call.name(), Picture.parting(Picture.all(with(maker, call.made())), without), -1);
        }
    }

    /** The object, with a call more that was made on it. */
    private static Supplier<FireTax> with(Supplier<FireTax> maker, ToIntFunction<FireTax> call) {
        return () -> {
            FireTax x = maker.get();
            call.applyAsInt(x);
            return x;
        };
    }

    /** Six rules, ten books, 385 bytes, twenty acts to be undone, images 0 to 2; house 2 is frozen, house 3 alone. */
    private static FireTax full() {
        FireTax x = Due.land("duchy 10 1 9;house 90 9 3;house 60 2 2;house 8 0 0;house 70 95 1;lane 0 1;lane 1 2;hat 0 9;"
                + "hat 1 50;officer 0 90;officer 1 5;officer 3 40;snow 3", "call warmth if officer<2", "call wood+1 if officer=0",
                "call 1 if here=1", "call since", "call 5-house", "call 1 if night>3");
        x.seed(4711);
        x.image(0);
        x.force(3);
        for (int i = 0; i < 10; i++) {
            x.book(6 * i, i % 4, x.ahead(i % 4, 6 * i + 1, 0));
        }
        x.force(1);
        x.night();
        x.image(1);
        for (int i = 0; i < 11; i++) {
            x.fell(0, 1);
            x.hide(1, 1);
        }
        x.lend(0, 1, 7);
        x.night();
        x.image(2);
        x.spit(0);
        String text = "duchy 20 2 5;house 33 3 3;house 44 4 4;lane 0 1;officer 1 50;hat 1 5";
        Due.tell(x, text + " ".repeat(385 - text.length()));
        return x;
    }

    private static void whatFullIs(Due due) {
        FireTax x = full();
        int[] what = {6, 7, 9, 12, 13, 14, 15};
        int[] count = {6, 1, 4, 10, 20, 4711, 385};
        for (int i = 0; i < what.length; i++) {
            due.is("full: count " + what[i], x.count(what[i]), count[i]);
        }
        due.is("full: the books are as by 3", x.ruled(1), 3);
        due.is("full: and by one more", x.ruled(0), 2);
        due.is("full: something is on the hill", x.count(10) > 0 ? 1 : 0, 1);
        due.is("full: officer 1 can lift", x.lift(1) >= 0 ? 1 : 0, 1);
    }

    private static FireTax plain() {
        return Due.land("duchy 10 1 9;house 50 9 3;house 40 2 2;lane 0 1;hat 0 9;officer 0 90;officer 1 5", "call warmth");
    }

    private static void add(List<Call> calls, String name, int answer, ToIntFunction<FireTax> made) {
        calls.add(new Call(name, made, answer));
    }

    private static List<Call> ofANewObject() {
        List<Call> calls = new ArrayList<>();
        add(calls, "end 1", -1, x -> x.end(1));
        add(calls, "end -1", -1, x -> x.end(-1));
        add(calls, "force 0", -2, x -> x.force(0));
        add(calls, "house", -2, x -> x.house(0, 0));
        add(calls, "officer", -1, x -> x.officer(0, 0));
        add(calls, "night", -1, FireTax::night);
        add(calls, "fell", -1, x -> x.fell(0, 1));
        add(calls, "lend", -1, x -> x.lend(0, 1, 1));
        add(calls, "hide", -1, x -> x.hide(0, 1));
        add(calls, "lift", -1, x -> x.lift(0));
        add(calls, "spit", -1, x -> x.spit(0));
        add(calls, "undo", -2, FireTax::undo);
        for (int what = 0; what < 3; what++) {
            int of = what;
            add(calls, "ahead " + what, -2, x -> x.ahead(0, 0, of));
        }
        add(calls, "freezes", -1, x -> x.freezes(0));
        add(calls, "round", -3, x -> x.round(0, 1, -1));
        add(calls, "span", -1, x -> x.span(0, 1, 0));
        add(calls, "logs", -1, x -> x.logs(0, 1));
        add(calls, "rate", -1, x -> x.rate(1));
        add(calls, "levy", -1, x -> x.levy(0, 0));
        add(calls, "district", -1, x -> x.district(0, 0));
        add(calls, "hats", -1, x -> x.hats(1, 0));
        add(calls, "loan", -1, x -> x.loan(0, 1, 1));
        add(calls, "book", -2, x -> x.book(0, 0, 0));
        add(calls, "no books", 0, x -> x.book(-1, 0, 0));
        add(calls, "ruled", -3, x -> x.ruled(0));
        add(calls, "look", -1, x -> x.look(0, 0));
        add(calls, "seed", -1, x -> x.seed(-1));
        add(calls, "winters", -1, x -> x.winters(1, 1, 0, 0));
        add(calls, "count", -1, x -> x.count(16));
        add(calls, "image", -1, x -> x.image(4));
        add(calls, "back", -1, x -> x.back(0));
        return calls;
    }

    private static List<Call> tapeAndRules() {
        List<Call> calls = new ArrayList<>();
        add(calls, "feed behind 385", -1, x -> x.feed(0x78787878, 1, 2, 3, 4));
        for (int n : new int[] {LEAST, -2, -1, 386, 400, MOST}) {
            add(calls, "end " + n, -1, x -> x.end(n));
        }
        add(calls, "end 385", 385, x -> x.end(385));
        add(calls, "a seventh rule", -1, FireTax::rule);
        for (int r : new int[] {LEAST, -3, -2, 6, 7, MOST}) {
            add(calls, "force " + r, -2, x -> x.force(r));
        }
        for (int x0 : new int[] {LEAST, -2, -1}) {
            add(calls, "seed " + x0, -1, x -> x.seed(x0));
        }
        return calls;
    }

    private static List<Call> actsOfWhom() {
        List<Call> calls = new ArrayList<>();
        for (int far : FAR) {
            add(calls, "fell at " + far, -1, x -> x.fell(far, 1));
            add(calls, "lend from " + far, -1, x -> x.lend(far, 1, 1));
            add(calls, "lend to " + far, -1, x -> x.lend(0, far, 1));
            add(calls, "hide at " + far, -1, x -> x.hide(far, 1));
        }
        for (int far : new int[] {LEAST, -2, -1, 3, 4, MOST}) {
            add(calls, "lift by " + far, -1, x -> x.lift(far));
            add(calls, "spit by " + far, -1, x -> x.spit(far));
        }
        add(calls, "lend to itself", -1, x -> x.lend(0, 0, 1));
        add(calls, "lend two lanes off", -1, x -> x.lend(0, 2, 1));
        add(calls, "lend without a lane", -1, x -> x.lend(0, 3, 1));
        add(calls, "lend from a frozen one", -1, x -> x.lend(2, 1, 1));
        add(calls, "hide in a frozen one", -1, x -> x.hide(2, 1));
        add(calls, "lift where nothing is hidden", -1, x -> x.lift(2));
        add(calls, "spit by one who has nothing", -1, x -> x.spit(0));
        add(calls, "spit by another who has nothing", -1, x -> x.spit(2));
        return calls;
    }

    private static List<Call> actsOfHowMuch() {
        List<Call> calls = new ArrayList<>();
        for (int far : new int[] {LEAST, -1, 0, 10, 11, MOST}) {
            add(calls, "fell " + far, -1, x -> x.fell(1, far));
        }
        add(calls, "fell beyond 99", -1, x -> x.fell(3, 100 - x.house(3, 1)));
        for (int far : new int[] {LEAST, -1, 0, MOST}) {
            add(calls, "lend " + far, -1, x -> x.lend(0, 1, far));
            add(calls, "hide " + far, -1, x -> x.hide(0, far));
        }
        add(calls, "lend one more than it has", -1, x -> x.lend(0, 1, x.house(0, 0) + 1));
        add(calls, "hide one more than it has", -1, x -> x.hide(1, x.house(1, 0) + 1));
        add(calls, "hide beyond 99", -1, x -> x.hide(1, 100 - x.house(1, 3)));
        return calls;
    }

    private static List<Call> questionsRefused() {
        List<Call> calls = new ArrayList<>();
        for (int far : FAR) {
            add(calls, "house " + far, -2, x -> x.house(far, 0));
            add(calls, "officer " + far, -1, x -> x.officer(far, 0));
            add(calls, "ahead of house " + far, -2, x -> x.ahead(far, 1, 0));
            add(calls, "ahead of officer " + far, -2, x -> x.ahead(far, 1, 1));
            add(calls, "freezes " + far, -1, x -> x.freezes(far));
            add(calls, "round of " + far, -3, x -> x.round(far, 1, -1));
            add(calls, "span of " + far, -1, x -> x.span(far, 1, 0));
            add(calls, "logs of " + far, -1, x -> x.logs(far, 1));
            add(calls, "levy of " + far, -1, x -> x.levy(1, far));
            add(calls, "district of " + far, -1, x -> x.district(far, 0));
            add(calls, "loan from " + far, -1, x -> x.loan(far, 1, 1));
            add(calls, "loan to " + far, -1, x -> x.loan(0, far, 1));
        }
        add(calls, "freezes of a frozen one", -1, x -> x.freezes(2));
        add(calls, "logs of a frozen one", -1, x -> x.logs(2, 1));
        add(calls, "loan from a frozen one", -1, x -> x.loan(2, 1, 1));
        add(calls, "loan to a frozen one", -1, x -> x.loan(1, 2, 1));
        add(calls, "loan two lanes off", -1, x -> x.loan(0, 3, 1));
        add(calls, "ahead 101", -2, x -> x.ahead(0, 101, 2));
        add(calls, "ahead what 3", -2, x -> x.ahead(0, 1, 3));
        add(calls, "round for 5", -3, x -> x.round(0, 5, -1));
        add(calls, "round what 4", -3, x -> x.round(0, 4, 4));
        add(calls, "span for 5", -1, x -> x.span(0, 5, 0));
        add(calls, "logs for 61", -1, x -> x.logs(0, 61));
        add(calls, "rate for 61", -1, x -> x.rate(61));
        add(calls, "rate for 0", -1, x -> x.rate(0));
        add(calls, "loan for 61", -1, x -> x.loan(0, 1, 61));
        add(calls, "levy 10000", -1, x -> x.levy(10000, 0));
        add(calls, "hats 0", -1, x -> x.hats(0, 0));
        add(calls, "hats 401", -1, x -> x.hats(401, 0));
        add(calls, "ruled 2", -3, x -> x.ruled(2));
        add(calls, "look 61", -1, x -> x.look(61, 0));
        add(calls, "winters 11", -1, x -> x.winters(11, 1, 0, 0));
        add(calls, "winters for 61", -1, x -> x.winters(1, 61, 0, 0));
        add(calls, "winters by 101", -1, x -> x.winters(1, 1, 101, 0));
        add(calls, "winters what 2", -1, x -> x.winters(1, 1, 0, 2));
        add(calls, "count 16", -1, x -> x.count(16));
        return calls;
    }

    private static List<Call> booksAndImages() {
        List<Call> calls = new ArrayList<>();
        add(calls, "an eleventh book", -2, x -> x.book(0, 0, 0));
        add(calls, "a book of -2", -2, x -> x.book(-2, 0, 0));
        for (int far : new int[] {LEAST, -2, -1, 4, 5, MOST}) {
            add(calls, "image " + far, -1, x -> x.image(far));
            add(calls, "back " + far, -1, x -> x.back(far));
        }
        add(calls, "back to one never made", -1, x -> x.back(3));
        return calls;
    }

    /** Where there are fewer than ten books, and nothing can be undone. */
    private static List<Call> ofAPlainDuchy() {
        List<Call> calls = new ArrayList<>();
        add(calls, "undo", -2, FireTax::undo);
        for (int far : new int[] {LEAST, -2, 61, 62, MOST}) {
            add(calls, "book behind " + far, -2, x -> x.book(far, 0, 0));
        }
        for (int far : new int[] {LEAST, -1, 2, 7, 8, MOST}) {
            add(calls, "book of " + far, -2, x -> x.book(0, far, 0));
        }
        for (int far : new int[] {LEAST, -1, 1000, 1001, MOST}) {
            add(calls, "book that tells " + far, -2, x -> x.book(0, 0, far));
        }
        for (int k = 0; k < 4; k++) {
            int of = k;
            add(calls, "back to " + k, -1, x -> x.back(of));
        }
        add(calls, "spit", -1, x -> x.spit(0));
        add(calls, "lift", -1, x -> x.lift(1));
        return calls;
    }

    /** (By what is asked nothing changes.) */
    private static void asked(Due due, String state, Supplier<FireTax> maker) {
        List<ToIntFunction<FireTax>> questions = List.of(x -> x.house(0, 0), x -> x.officer(0, 0), x -> x.ahead(0, 100, 0),
                x -> x.ahead(0, 60, 1), x -> x.ahead(0, 100, 2), x -> x.freezes(0), x -> x.round(0, 4, -1), x -> x.round(1, 3, 2),
                x -> x.span(0, 4, 0), x -> x.span(1, 4, 1), x -> x.logs(0, 60), x -> x.logs(1, 9), x -> x.rate(60), x -> x.rate(1),
                x -> x.levy(9999, 0), x -> x.district(1, 0), x -> x.hats(50, 1), x -> x.loan(0, 1, 60), x -> x.loan(1, 0, 9),
                x -> x.ruled(0), x -> x.ruled(1), x -> x.look(60, 0), x -> x.look(0, 1), x -> x.winters(10, 60, 50, 0),
                x -> x.winters(3, 9, 100, 1), x -> x.count(14));
        List<Integer> without = Picture.all(maker);
        Supplier<FireTax> all = maker;
        for (int i = 0; i < questions.size(); i++) {
            FireTax x = maker.get();
            int first = questions.get(i).applyAsInt(x);
            due.is(state + ": asked once more, question " + i, questions.get(i).applyAsInt(x), first);
            due.is(state + ": nothing changed by question " + i,
                    Picture.parting(Picture.all(with(maker, questions.get(i))), without), -1);
            all = with(all, questions.get(i));
        }
        due.is(state + ": nor by all of them", Picture.parting(Picture.all(all), without), -1);
    }

    /** -2 - its FAULT, and all stays, but for the tape, which is empty then. */
    private static void faultsOfADuchy(Due due) {
        List<Integer> without = Picture.all(with(RefusedTest::full, x -> x.end(0)));
        for (String text : new String[] {"", "duchy 0 0 0;", "duchy 99 9 9;house 1 1 1;house 2 2 2;lane 0 1;officer 0 9;snow 1;x",
            "duchy 101 0 0", "duchy 0 0 0" + ";house 9 9 9".repeat(9), "duchy 0 0 0;duchy 0 0 0", "call 1"}) {
            due.is("a fault of '" + text + "'", Due.duchy(full(), text) <= -3 ? 1 : 0, 1);
            due.is("all stays by '" + text + "'",
                    Picture.parting(Picture.all(with(RefusedTest::full, x -> Due.duchy(x, text))), without), -1);
        }
    }

    private static void faultsOfARule(Due due) {
        for (String text : new String[] {"", "call", "call 1;", "call 1 if", "call 123456", "call 1" + "+1".repeat(60), "duchy 0 0 0",
            "call 1 if " + "[".repeat(11), "call 1;".repeat(12) + "call 1"}) {
            due.is("a fault of '" + text + "'", Due.rule(plain(), text) <= -3 ? 1 : 0, 1);
            due.is("all stays by '" + text + "'", Picture.parting(Picture.all(with(RefusedTest::plain, x -> Due.rule(x, text))),
                    Picture.all(RefusedTest::plain)), -1);
        }
    }
}
