import java.util.List;
import java.util.Random;

/** Whatever was asked of an object before, it answers of its code as a new object with the same code does. */
public final class UsedTest {
    private static final Due due = new Due();

    public static void main(String[] args) {
        Random random = new Random(1848);
        for (int n = 0; n < 400; n++) {
            List<String> first = Draw.steps(random, 0, 12, 2 + random.nextInt(3));
            List<String> then = Draw.steps(random, 0, 8, 2 + random.nextInt(3));
            int wanted = 1 + random.nextInt(15);
            FewerSteps used = Due.with(Draw.text(first));
            answers(used);
            used.want(wanted);
            Due.code(used, Draw.text(then));
            FewerSteps fresh = Due.with(Draw.text(then), wanted);
            due.text(Draw.text(then) + " behind " + Draw.text(first), answers(used), answers(fresh));
        }
        due.end();
    }

    /** All that depends on the code and the wanted registers alone. */
    private static String answers(FewerSteps x) {
        StringBuilder text = new StringBuilder();
        for (int place = 0; place <= x.told(0); place++) {
            text.append(x.live(place)).append(' ').append(x.held(place)).append(' ');
            text.append(x.known(place, place % 4)).append(' ').append(x.sort(place, place % 4)).append(' ');
            text.append(x.behind(place)).append(' ').append(x.tick(place)).append(' ').append(x.reads(place, 1)).append(' ');
            text.append(x.quickest(place - 1)).append(' ').append(x.fewest(place - 1)).append(' ').append(x.shortest(place - 1)).append(';');
        }
        for (int k = 1; k <= 3; k++) {
            text.append(x.spill(k)).append(' ');
        }
        text.append(x.bad(0)).append(' ').append(x.bad(1)).append(' ').append(x.orders()).append(' ');
        return text.append(x.time()).append(' ').append(x.width()).append(' ').append(x.run(1234, x.told(0))).toString();
    }
}
