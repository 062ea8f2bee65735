import java.lang.reflect.Method;
import java.util.ArrayList;
import java.util.Arrays;
import java.util.Comparator;
import java.util.List;
import java.util.Random;

/** Runs of drawn calls, each answered by the class and by the Model alike. */
public final class ModelTest {
    private static final int RUNS = 1000;
    private static final int CALLS = 512;
    private static int wrong = 0;
    private static long asked = 0;

    private static Method[] face() {
        List<Method> face = new ArrayList<>();
        for (Method m : ThanksByPost.class.getDeclaredMethods()) {
            if (java.lang.reflect.Modifier.isPublic(m.getModifiers())) face.add(m);
        }
        face.sort(Comparator.comparing(Method::getName));
        return face.toArray(new Method[0]);
    }

    public static void main(String[] args) throws Exception {
        if (args.length == 0) Checks.at("drawn calls");
        Method[] face = face();
        int runs = args.length > 0 ? Integer.parseInt(args[0]) : RUNS;
        for (int run = 0; run < runs && wrong < 10; run++) {
            new Run(face, new Random(run), run).go();
        }
        System.out.println(asked + " drawn calls, " + wrong + " answers unlike the model's");
        if (wrong > 0) System.exit(1);
    }

    private static final class Run {
        final Method[] face;
        final Random random;
        final int number;
        final ThanksByPost real = new ThanksByPost();
        final Model model = new Model();
        final DrawnText drawn;
        final boolean late;
        final List<String> said = new ArrayList<>();

        Run(Method[] face, Random random, int number) {
            this.face = face;
            this.random = random;
            this.number = number;
            drawn = new DrawnText(random);
            late = number % 8 == 7;
        }

        void go() throws Exception {
            if (number % 5 != 0) settle();
            while (said.size() < CALLS && wrong < 10) {
                int pick = random.nextInt(40);
                if (pick == 0 && (model.r.texts.size() < 4 || random.nextInt(10) == 0)) {
                    tellText(drawn.text());
                } else {
                    Method m = pick < 16 ? named(often()) : pick < 20 ? named("fewest") : face[random.nextInt(face.length)];
                    // To go back too often leaves hardly any time in which something is.
                    if (m.getName().equals("back") && random.nextInt(3) > 0) m = named("steal");
                    call(m, drawnArgs(m));
                }
            }
        }

        private String often() {
            String[] often = {"steal", "steal", "steal", "send", "day", "give", "by", "by", "played", "decades", "undo",
                "law", "law", "undo", "of", "foretold", "pence", "plan", "first", "book", "early"};
            return often[random.nextInt(often.length)];
        }

        private Method named(String name) {
            for (Method m : face) if (m.getName().equals(name)) return m;
            throw new IllegalArgumentException(name);
        }

        /** Some owners and things at first, so that the drawn calls find something. */
        private void settle() throws Exception {
            int owners = 1 + random.nextInt(6);
            for (int i = 0; i < owners; i++) call(named("owner"), random.nextInt(11));
            int things = 1 + random.nextInt(8);
            for (int i = 0; i < things; i++) {
                call(named("thing"), random.nextInt(100), random.nextInt(owners), 1 + random.nextInt(9));
            }
            call(named("room"), 5 + random.nextInt(40));
            if (late) {
                tellText("day 60;".repeat(24));
                for (int i = 0; i < 6; i++) call(named("played"), 0);
                tellText("day 60;".repeat(21) + "day " + (20 + random.nextInt(40)) + ";");
                call(named("played"), 1);
            }
            for (int i = random.nextInt(4); i > 0; i--) tellText(drawn.text());
            if (random.nextInt(4) > 0) call(named("image"));
        }

        private void tellText(String text) throws Exception {
            StringBuilder padded = new StringBuilder(text);
            while (padded.length() % 20 != 0) padded.append(' ');
            call(named("end"), 0);
            for (int i = 0; i < padded.length(); i += 20) {
                Object[] five = new Object[5];
                for (int k = 0; k < 5; k++) {
                    int v = 0;
                    for (int j = 0; j < 4; j++) v = v << 8 | padded.charAt(i + 4 * k + j) & 255;
                    five[k] = v;
                }
                call(named("feed"), five);
            }
            call(named("end"), text.length());
            call(named("text"));
            call(named("fault"), 0);
            call(named("fault"), 1);
            if (random.nextInt(4) > 0) call(named("by"), model.r.texts.size() - 1);
        }

        private Object[] drawnArgs(Method m) {
            Object[] args = new Object[m.getParameterCount()];
            for (int i = 0; i < args.length; i++) {
                args[i] = m.getParameterTypes()[i] == boolean.class ? (Object) random.nextBoolean()
                    : (Object) drawnNumber(m.getName(), i);
            }
            return args;
        }

        private int drawnNumber(String name, int i) {
            int dice = random.nextInt(40);
            if (dice == 0) return random.nextInt();
            if (dice == 1) return new int[] {Integer.MIN_VALUE, Integer.MAX_VALUE, -2, 100, 9999, 10000}[random.nextInt(6)];
            if (name.equals("by") && dice > 6) return model.r.texts.size() - 1;
            if (dice == 2 || dice < 9 && name.equals("fewest") && i == 3) return -1;
            int owners = model.r.lives.size() + random.nextInt(6) / 5;
            int things = model.w.things.size() + random.nextInt(6) / 5;
            int most = switch (name + i) {
                case "owner0" -> 12;
                case "thing0", "since1", "since2", "seen0", "vote0", "worth0", "room0" -> 101;
                case "thing2", "seen1" -> 11;
                case "day0" -> 12;
                case "foretold0", "pence0", "plan1" -> 62;
                case "decades0", "bargain0" -> 10001;
                case "decades1" -> 32;
                case "bargain1" -> 22;
                case "bargain2" -> 2000;
                case "feed0", "feed1", "feed2", "feed3", "feed4" -> Integer.MAX_VALUE;
                case "end0" -> 301;
                case "odds0" -> 65;
                case "book0" -> model.w.book.size() + 1;
                case "about0" -> 13;
                case "fewest2" -> 4;
                case "fewest3" -> 3;
                case "odds1", "law1", "book1" -> 5;
                case "foretold2" -> 3;
                case "steal0", "send0", "give0", "of0", "law0", "fewest0", "whose0", "since0", "plan0",
                    "foretold1" -> things;
                case "give1", "ofOwner0", "fewest1", "pence1", "thing1" -> owners;
                case "by0", "played0" -> model.r.texts.size() + 1;
                case "lying0" -> model.r.votes.size() + 1;
                default -> 7;
            };
            return random.nextInt(Math.max(most, 1));
        }

        private void call(Method m, Object... args) throws Exception {
            if (said.size() >= CALLS) return;
            Method other = null;
            for (Method o : Model.class.getDeclaredMethods()) {
                if (o.getName().equals(m.getName()) && Arrays.equals(o.getParameterTypes(), m.getParameterTypes())) other = o;
            }
            Object want = other.invoke(model, args);
            Object got;
            try {
                got = m.invoke(real, args);
            } catch (java.lang.reflect.InvocationTargetException e) {
                got = e.getCause().toString();
            }
            said.add(m.getName() + Arrays.toString(args) + " = " + got);
            asked++;
            if (!want.equals(got)) {
                wrong++;
                System.out.println("run " + number + ", call " + said.size() + ": " + said.get(said.size() - 1)
                    + ", the model: " + want);
            }
        }
    }

    /** Texts as the grammar has them, now and then with something put wrong. */
    private static final class DrawnText {
        private final Random random;
        private StringBuilder out;

        DrawnText(Random random) {
            this.random = random;
        }

        String text() {
            String text = once();
            for (int i = 0; i < 20 && text.length() > 300; i++) text = once();
            return text.length() > 300 ? text.substring(0, 300) : text;
        }

        private String once() {
            out = new StringBuilder();
            int number = random.nextInt(3);
            int clauses = random.nextInt(20) == 0 ? 26 : 1 + random.nextInt(7);
            List<String> laws = new ArrayList<>(List.of("dears", "after", "to", "brings"));
            java.util.Collections.shuffle(laws, random);
            for (int i = 0; i < clauses; i++) {
                int room = clauses > 7 ? 9 : 5;
                int kind = random.nextInt(room + (number % 2 == 0 ? 1 : 7));
                if (kind < room && (i < laws.size() || random.nextInt(8) == 0)) law(laws.get(i % 4), clauses > 7 ? 3 : random.nextInt(4));
                else act(random.nextInt(7));
            }
            String text = out.toString();
            return random.nextInt(3) == 0 ? spoilt(text) : text;
        }

        private String spoilt(String text) {
            String[] bits = {";", "(", ")", "-", "not ", "9999", "10000", "thing", "pence", "dears", "end", " ", "<",
                "=", "@", "\u00e9", "of", "A", "if ", "left ", "((((((((", "--------", "not not not not ", "and", "5"};
            for (int times = 1 + random.nextInt(2); times > 0; times--) {
                int at = random.nextInt(text.length() + 1);
                int to = random.nextBoolean() ? at : Math.min(text.length(), at + random.nextInt(4));
                text = text.substring(0, at) + (random.nextInt(3) == 0 ? "" : bits[random.nextInt(bits.length)])
                    + text.substring(to);
            }
            return random.nextInt(6) == 0 ? text.substring(0, random.nextInt(text.length() + 1)) : text;
        }

        private void word(String w) {
            if (out.length() > 0) {
                char last = out.charAt(out.length() - 1);
                boolean joins = Character.isLetter(last) && Character.isLetter(w.charAt(0))
                    || Character.isDigit(last) && Character.isDigit(w.charAt(0));
                if (joins || random.nextInt(8) == 0) out.append(random.nextInt(5) == 0 ? '\n' : ' ');
            }
            out.append(w);
        }

        private void law(String law, int deep) {
            word(law);
            if (random.nextBoolean()) {
                // A law that stays small lets more come of it.
                word("left");
                word("(");
                sum(law, deep + 1);
                word(")");
                word("of");
                word("" + (1 + random.nextInt(8)));
            } else {
                sum(law, deep);
            }
            word(";");
        }

        private void act(int kind) {
            int wild = random.nextInt(30) == 0 ? 40 : 0;
            switch (kind) {
                case 0 -> put("owner", random.nextInt(11) + wild);
                case 1 -> {
                    put("thing", random.nextInt(100) + wild);
                    put("of", random.nextInt(6));
                    put("bulk", 1 + random.nextInt(9));
                }
                case 2 -> put("room", random.nextInt(60) + wild);
                case 3 -> put("steal", random.nextInt(8) + wild);
                case 4 -> put("send", random.nextInt(8));
                case 5 -> {
                    put("give", random.nextInt(8));
                    put("to", random.nextInt(6) + wild);
                }
                default -> put("day", 1 + random.nextInt(12) + wild);
            }
            word(";");
        }

        private void put(String word, int number) {
            word(word);
            word("" + number);
        }

        private void sum(String law, int deep) {
            product(law, deep);
            for (int n = random.nextInt(4); n > 1; n--) {
                word(random.nextBoolean() ? "+" : "-");
                product(law, deep);
            }
        }

        private void product(String law, int deep) {
            one(law, deep);
            for (int n = random.nextInt(4); n > 2; n--) {
                word(random.nextBoolean() ? "*" : "/");
                one(law, deep);
            }
        }

        private void one(String law, int deep) {
            int kind = random.nextInt(deep > 3 ? 4 : 10);
            switch (kind) {
                case 0 -> word("" + random.nextInt(12));
                case 1 -> word("" + (random.nextInt(4) == 0 ? random.nextInt(10000) : random.nextInt(100)));
                case 2, 3, 4 -> {
                    String[] names = {"day", "kept", "dear", "bulk", "owner", "from", "thing", "pence"};
                    int most = law.equals("brings") ? 8 : law.equals("to") ? 7 : 6;
                    word(names[random.nextInt(random.nextInt(40) == 0 ? 8 : most)]);
                }
                case 5, 6 -> {
                    word("(");
                    sum(law, deep + 1);
                    word(")");
                }
                case 7 -> {
                    word("-");
                    one(law, deep + 1);
                }
                case 8 -> {
                    word("left");
                    one(law, deep + 1);
                    word("of");
                    one(law, deep + 1);
                }
                default -> {
                    word("if");
                    either(law, deep + 1);
                    word("then");
                    sum(law, deep + 1);
                    word("else");
                    sum(law, deep + 1);
                    word("end");
                }
            }
        }

        private void either(String law, int deep) {
            ask(law, deep);
            for (int n = random.nextInt(3); n > 1; n--) {
                word(random.nextBoolean() ? "or" : "and");
                ask(law, deep);
            }
        }

        private void ask(String law, int deep) {
            if (random.nextInt(5) == 0) {
                word("not");
                if (deep < 8) {
                    ask(law, deep + 1);
                    return;
                }
            }
            String[] signs = {"<", "<=", ">", ">=", "=", "#"};
            sum(law, deep);
            word(signs[random.nextInt(6)]);
            sum(law, deep);
        }
    }
}
