import java.util.ArrayDeque;
import java.util.ArrayList;
import java.util.List;
import java.util.regex.Matcher;
import java.util.regex.Pattern;

/** The document once more, in the plainest words, to compare with; arguments are right here. */
final class Model {
    private static final Pattern SHAPE = Pattern.compile("((=|[v^]2?)(\\[[1-9][0-9]?\\])?){1,20}");
    private static final Pattern PART = Pattern.compile("(=|[v^]2?)(?:\\[([1-9][0-9]?)\\])?");

    /** What a joint has. */
    static final class Joint {
        int weight;
        int hanger;
        int prop;

        Joint copy() {
            Joint other = new Joint();
            other.weight = weight;
            other.hanger = hanger;
            other.prop = prop;
            return other;
        }
    }

    List<Integer> steps = new ArrayList<>(List.of(0));
    List<Joint> joints = new ArrayList<>(List.of(new Joint(), new Joint()));
    int[] settings = {1, -2, 1, 60};
    String buffer = "";
    private ArrayDeque<Model> saved = new ArrayDeque<>();

    Model copy() {
        Model other = new Model();
        other.steps = new ArrayList<>(steps);
        other.joints = new ArrayList<>();
        for (Joint joint : joints) {
            other.joints.add(joint.copy());
        }
        other.settings = settings.clone();
        return other;
    }

    void save() {
        saved.addLast(copy());
        if (saved.size() > 6) {
            saved.removeFirst();
        }
    }

    int undo() {
        Model latest = saved.removeLast();
        steps = latest.steps;
        joints = latest.joints;
        settings = latest.settings;
        return saved.size();
    }

    int saved() {
        return saved.size();
    }

    int n() {
        return steps.size();
    }

    int link(int step) {
        steps.add(step);
        joints.add(new Joint());
        return n();
    }

    int cut(int link) {
        steps.remove(link);
        joints.remove(link + 1);
        return n();
    }

    int turn() {
        List<Integer> turned = new ArrayList<>();
        List<Joint> turnedJoints = new ArrayList<>();
        for (int step : steps) {
            turned.add(0, -step);
        }
        for (Joint joint : joints) {
            turnedJoints.add(0, joint);
        }
        steps = turned;
        joints = turnedJoints;
        return height(n()) + 100;
    }

    int move(int joint, int to) {
        int moved = 0;
        while (joints.get(joint).weight > 0 && joints.get(to).weight < 99) {
            joints.get(joint).weight--;
            joints.get(to).weight++;
            moved++;
        }
        return moved;
    }

    private static boolean begins(String text) {
        Matcher matcher = SHAPE.matcher(text);
        return matcher.matches() || matcher.hitEnd();
    }

    int firstError() {
        for (int k = 0; k < buffer.length(); k++) {
            if (!begins(buffer.substring(0, k + 1))) {
                return k;
            }
        }
        return buffer.length();
    }

    boolean isShape() {
        return SHAPE.matcher(buffer).matches();
    }

    int shape() {
        int had = n();
        steps.clear();
        joints.clear();
        joints.add(new Joint());
        Matcher part = PART.matcher(buffer);
        while (part.find()) {
            steps.add(List.of("v2", "v", "=", "^", "^2").indexOf(part.group(1)) - 2);
            Joint joint = new Joint();
            joint.weight = part.group(2) == null ? 0 : Integer.parseInt(part.group(2));
            joints.add(joint);
        }
        buffer = "";
        return had;
    }

    int height(int joint) {
        return joint == 0 ? 0 : height(joint - 1) + steps.get(joint - 1);
    }

    int burden(int joint) {
        return joint == 0 || joint == n() ? 0 : joints.get(joint).weight + settings[0] + settings[0];
    }

    int hangerTakes(int joint) {
        int burden = burden(joint);
        int holds = joints.get(joint).hanger;
        return holds < burden ? holds : burden;
    }

    int propTakes(int joint) {
        int rest = burden(joint) - hangerTakes(joint);
        int holds = joints.get(joint).prop;
        return height(joint) > settings[1] ? 0 : holds < rest ? holds : rest;
    }

    int load(int joint) {
        return burden(joint) - hangerTakes(joint) - propTakes(joint);
    }

    int loads(int last) {
        int sum = 0;
        for (int k = 1; k <= last; k++) {
            sum += load(k);
        }
        return sum;
    }

    int behind() {
        int sum = 0;
        for (int k = 0; k <= n(); k++) {
            sum += Math.floorDiv(load(k) * k, n());
        }
        return sum;
    }

    int ahead() {
        return loads(n()) - behind();
    }

    int force(int link) {
        int step = steps.get(link);
        return Math.abs(ahead() - loads(link)) + (step < 0 ? -step : step) * settings[2];
    }

    int greatest() {
        int greatest = force(0);
        for (int link = 1; link < n(); link++) {
            greatest = Math.max(greatest, force(link));
        }
        return greatest;
    }

    int broken() {
        int broken = 0;
        for (int link = 0; link < n(); link++) {
            broken += force(link) > settings[3] ? 1 : 0;
        }
        return broken;
    }

    int lowest() {
        int lowest = n();
        for (int joint = n(); joint >= 0; joint--) {
            lowest = height(joint) <= height(lowest) ? joint : lowest;
        }
        return lowest;
    }

    int linkOf(int link, int what) {
        int[] numbers = {steps.get(link) + 2, force(link), force(link) > settings[3] ? 1 : 0};
        return numbers[what];
    }

    int joint(int joint, int what) {
        Joint one = joints.get(joint);
        int[] numbers = {height(joint) + 100, one.weight, one.hanger, one.prop, burden(joint),
            hangerTakes(joint), propTakes(joint), load(joint)};
        return numbers[what];
    }

    int count(int what) {
        int weights = 0;
        for (Joint joint : joints) {
            weights += joint.weight;
        }
        int[] numbers = {n(), weights, loads(n()), ahead(), behind(), greatest(), broken(),
            broken() == 0 ? 1 : 0, lowest(), height(lowest()) + 100, saved.size()};
        return numbers[what];
    }

    int ifWeight(int joint, int weight) {
        Model other = copy();
        other.joints.get(joint).weight = weight;
        return other.greatest();
    }

    int mostWeight(int joint) {
        int most = -1;
        for (int weight = 0; weight <= 99; weight++) {
            most = ifWeight(joint, weight) <= settings[3] ? weight : most;
        }
        return most;
    }

    int bestMove(int joint) {
        int best = -1;
        int least = Integer.MAX_VALUE;
        for (int to = 0; to <= n() && joints.get(joint).weight > 0; to++) {
            Model other = copy();
            if (to != joint) {
                other.move(joint, to);
            }
            if (to != joint && other.greatest() < least) {
                best = to;
                least = other.greatest();
            }
        }
        return best;
    }

    int bestHanger(int holds) {
        int best = -1;
        int least = Integer.MAX_VALUE;
        for (int joint = 1; joint < n(); joint++) {
            Model other = copy();
            Joint one = other.joints.get(joint);
            one.hanger = one.hanger + holds > 99 ? 99 : one.hanger + holds;
            if (other.greatest() < least) {
                best = joint;
                least = other.greatest();
            }
        }
        return best;
    }

    int bestStep(int link) {
        int best = -1;
        int least = Integer.MAX_VALUE;
        for (int step = -2; step <= 2; step++) {
            Model other = copy();
            other.steps.set(link, step);
            if (other.greatest() < least) {
                best = step + 2;
                least = other.greatest();
            }
        }
        return best;
    }

    double evenness() {
        double ahead = ahead();
        double behind = behind();
        return ahead == behind ? 1.0 : ahead < behind ? ahead / behind : behind / ahead;
    }
}
