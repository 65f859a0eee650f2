import java.lang.reflect.InvocationTargetException;
import java.lang.reflect.Method;
import java.lang.reflect.Modifier;
import java.util.ArrayList;
import java.util.Arrays;
import java.util.List;

/** Every call with every mix of odd arguments: none throws, and a refusal changes nothing but its count. */
public final class EdgesTest {
    private static final Check CHECK = new Check("EdgesTest");
    private static final int[] ODD = {Integer.MIN_VALUE, -1000, -2, -1, 0, 1, 2, 5, 6, 7, 8, 9, 10, 19, 20, 21, 30, 31,
        60, 61, 99, 100, 255, 256, 999, 1000, Integer.MAX_VALUE};
    private static final String[] VALLEYS = {"", "p109;", "rs00;", "p000;p199;rl95;rq00;g000;",
        "p109;p102;p105;p070;p139;rs00;rr41;rg22;rd33;rq54;rl15;rs93;rr02;rg61;",
        "g999;p109;p139;rs00;rs01;rs02;rs03;rs04;rs05;s0;s1;s2;s3;s4;n01;"};

    public static void main(String[] args) throws Exception {
        face();
        for (String text : VALLEYS) {
            for (Method method : methods()) {
                for (int[] arguments : mixes(method.getParameterCount())) {
                    one(text, method, arguments);
                }
            }
        }
        CHECK.end();
    }

    private static List<Method> methods() {
        List<Method> all = new ArrayList<>();
        for (Method method : RocketsAsk.class.getDeclaredMethods()) {
            if (Modifier.isPublic(method.getModifiers())) {
                all.add(method);
            }
        }
        return all;
    }

    private static void face() {
        String[] due = {"letter1", "valley0", "rocket2", "reader2", "keeps2", "sends1", "boxes1", "wind1", "grant1",
            "stands2", "turn3", "nights1", "wordsThen2", "then2", "whole1", "next1", "fewest2", "windBest2", "move3",
            "forgo1", "firstUp1", "longest1", "seen1", "words1", "near0", "alone0", "tell0", "two3", "rain4", "mean1",
            "whatSaid2", "row1", "judge0", "clear0", "lots3", "image0", "on0", "count1"};
        String[] got = methods().stream().map(m -> m.getName() + m.getParameterCount()).toArray(String[]::new);
        Arrays.sort(due);
        Arrays.sort(got);
        CHECK.same("the face", Arrays.toString(got), Arrays.toString(due));
        for (Method method : methods()) {
            boolean isLong = method.getName().equals("rain") || method.getName().equals("mean");
            CHECK.same(method.getName(), method.getReturnType().toString(), isLong ? "long" : "int");
        }
        CHECK.due("constructors", RocketsAsk.class.getConstructors().length, 1);
        CHECK.due("public fields", RocketsAsk.class.getFields().length, 0);
        CHECK.due("final", Modifier.isFinal(RocketsAsk.class.getModifiers()) ? 1 : 0, 1);
    }

    private static List<int[]> mixes(int count) {
        List<int[]> all = new ArrayList<>();
        all.add(new int[0]);
        for (int i = 0; i < count; i++) {
            List<int[]> longer = new ArrayList<>();
            for (int[] mix : all) {
                for (int k = 0; k < ODD.length; k++) {
                    // four arguments with all values each would be half a million mixes
                    if (count < 3 || (k + 5 * i + mix.length) % (count < 4 ? 2 : 5) == 0) {
                        int[] more = Arrays.copyOf(mix, i + 1);
                        more[i] = ODD[k];
                        longer.add(more);
                    }
                }
            }
            all = longer;
        }
        return all;
    }

    private static void one(String text, Method method, int[] arguments) throws Exception {
        RocketsAsk x = text.isEmpty() ? new RocketsAsk() : CHECK.told(text);
        x.row(1);
        x.letter('w');
        String before = Check.look(x);
        Object[] boxed = Arrays.stream(arguments).boxed().toArray();
        String call = method.getName() + Arrays.toString(arguments) + " behind " + text;
        try {
            long answer = ((Number) method.invoke(x, boxed)).longValue();
            long number = answer >= 4000000000000000000L ? 4000000000000000000L - answer : answer;
            StringBuilder refusals = new StringBuilder();
            for (int i = 1; i <= 6; i++) {
                refusals.append(number == -i ? "1 " : "0 ");
            }
            CHECK.same("refusals of " + call, Check.refusals(x), refusals.toString());
            if (number < 0 && number >= -6) {
                CHECK.same("what there is behind " + call, Check.look(x), before);
            }
        } catch (InvocationTargetException thrown) {
            CHECK.same(call, "thrown: " + thrown.getCause(), "an answer");
        }
    }
}
