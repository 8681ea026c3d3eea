import java.util.ArrayList;
import java.util.Arrays;
import java.util.List;

/**
 * A house by its story. The story is told again on a new object for each handful of questions, so that no object
 * is used for more than the 512 calls that are promised.
 */
final class Scene {
    /** Calls on a new house. */
    interface Story {
        void tell(HoldHouse x);
    }

    /** One call, with its answer. */
    interface Call {
        int on(HoldHouse x);
    }

    private static final int HANDFUL = 30;

    private final Check check;
    private final Story story;
    private int[] picture;
    private int[] later;

    Scene(Check check, Story story) {
        this.check = check;
        this.story = story;
    }

    /** The same story, and more of it. */
    Scene then(Story more) {
        return new Scene(check, and(story, more));
    }

    HoldHouse house() {
        return told(story);
    }

    void due(String name, Call call, int want) {
        check.due(name, call.on(house()), want);
    }

    /** The call is refused with that answer, and nothing has changed, now and in what comes later. */
    void refused(String name, Call call, int want) {
        due(name, call, want);
        if (picture == null) {
            picture = picture(story);
            later = picture(and(story, Scene::goOn));
        }
        Story withCall = and(story, call::on);
        check.isTrue(name + ", refused, changes nothing", Arrays.equals(picture, picture(withCall)));
        check.isTrue(name + ", refused, changes nothing later",
                Arrays.equals(later, picture(and(withCall, Scene::goOn))));
    }

    private static Story and(Story first, Story second) {
        return x -> {
            first.tell(x);
            second.tell(x);
        };
    }

    private static HoldHouse told(Story story) {
        HoldHouse x = new HoldHouse();
        story.tell(x);
        return x;
    }

    /** What shows things that no question tells: where LEVELS began, ENDS since rows were forced, what waits. */
    private static void goOn(HoldHouse x) {
        int began = x.count(1);
        for (int t = Math.max(1, began - 11); t <= began; t++) {
            x.back(t);
            x.end(t);
            x.retry(t);
        }
        x.crash();
        x.rest();
        x.begin(7);
    }

    /** All that can be seen of a house. */
    static int[] picture(Story story) {
        HoldHouse x = told(story);
        List<Call> questions = questions(x.count(0), x.count(1), x.count(4), x.count(11));
        int[] answers = new int[questions.size()];
        for (int i = 0; i < answers.length; i++) {
            x = i % HANDFUL == 0 ? told(story) : x;
            answers[i] = questions.get(i).on(x);
        }
        return answers;
    }

    private static List<Call> questions(int objects, int began, int ends, int rows) {
        List<Call> all = new ArrayList<>();
        many(all, 0, 17, HoldHouse::count);
        many(all, -1, 12, HoldHouse::ring);
        many(all, 0, 15, HoldHouse::trace);
        many(all, 1, ends, HoldHouse::ended);
        all.add(HoldHouse::digest);
        all.add(HoldHouse::serial);
        for (int n = 0; n < objects; n++) {
            int o = n;
            many(all, 0, 3, (x, what) -> x.object(o, what));
            many(all, 0, ends, (x, e) -> x.version(o, e));
            many(all, 0, 19, (x, i) -> x.lock(o, i / 4, i % 4));
            many(all, 0, 11, (x, i) -> x.waits(o, i / 4, i % 4));
        }
        for (int n = 1; n <= began; n++) {
            int t = n;
            many(all, 0, 11, (x, what) -> x.of(t, what));
        }
        many(all, 0, 8 * rows - 1, (x, i) -> x.row(i / 8, i % 8));
        return all;
    }

    /** A question with a number. */
    private interface Question {
        int on(HoldHouse x, int n);
    }

    private static void many(List<Call> all, int from, int to, Question question) {
        for (int n = from; n <= to; n++) {
            int one = n;
            all.add(x -> question.on(x, one));
        }
    }
}
