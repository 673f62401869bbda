import java.util.ArrayDeque;
import java.util.ArrayList;
import java.util.Arrays;
import java.util.Deque;
import java.util.HashMap;
import java.util.List;
import java.util.Map;
import java.util.regex.Matcher;
import java.util.regex.Pattern;

/**
 * The document written down a second time, with other means than the class: tables of statements, maps of numbers
 * and a list of all events. ModelTest compares the two.
 */
final class Model {
    static final class Failure extends RuntimeException {
        private static final long serialVersionUID = 1L;

        Failure(String name) {
            super(name);
        }
    }

    private static final Pattern TOKEN = Pattern.compile("[a-z]+|[0-9]+|[ \\n]+|.", Pattern.DOTALL);
    private static final Map<String, String> SETUP = Map.of("cat", "newcat 1-9 left|right", "sack", "newsack 0-999 0-99 open|shut",
            "shift", "oldcat 1-24", "milk", "0-9", "hour", "0-23");
    private static final Map<String, String> SCRIPT = Map.of("wait", "1-99", "open", "oldsack", "shut", "oldsack",
            "mice", "oldsack 1-99", "grain", "oldsack 1-999", "dismiss", "", "milk", "0-9");
    private static final Map<String, Integer> MOST = Map.of("cat", 8, "sack", 6, "shift", 12);

    /** The numbers of the granary by name, such as "clock", "sack0.mice" and "caught". */
    private Map<String, Integer> numbers = new HashMap<>();
    private List<String> cats = new ArrayList<>();
    private List<String> sacks = new ArrayList<>();
    private List<int[]> shifts = new ArrayList<>();
    private List<int[]> events = new ArrayList<>();
    private final Deque<Model> past = new ArrayDeque<>();
    private Model saved;
    int errorCode;
    int errorOffset = -1;

    Model() {
        load("cat tom 5 left;cat puss 3 right;cat moss 7 right;sack rye 60 4 open;sack oats 30 9 shut;sack peas 8 2 open;"
                + "shift tom 4;shift puss 3;shift moss 5;");
    }

    private Model(Model other) {
        copy(other);
    }

    private void copy(Model other) {
        numbers = new HashMap<>(other.numbers);
        cats = other.cats;
        sacks = other.sacks;
        shifts = other.shifts;
        events = new ArrayList<>(other.events);
    }

    int get(String name) {
        return numbers.getOrDefault(name, 0);
    }

    private int add(String name, int amount) {
        numbers.merge(name, amount, Integer::sum);
        return get(name);
    }

    int sackCount() {
        return sacks.size();
    }

    String sackName(int sack) {
        return sacks.get(sack);
    }

    // Texts

    int load(String text) {
        List<List<String>> statements = parse(text, SETUP, List.of(), false);
        if (statements == null) {
            return -1;
        }
        Map<String, Integer> fresh = new HashMap<>(Map.of("milk", 3, "clock", 6));
        numbers = fresh;
        cats = new ArrayList<>();
        sacks = new ArrayList<>();
        shifts = new ArrayList<>();
        events = new ArrayList<>();
        past.clear();
        saved = null;
        for (List<String> words : statements) {
            build(words);
        }
        fresh.put("sworn", shifts.get(0)[0]);
        fresh.put("left", shifts.get(0)[1]);
        swear(shifts.get(0)[0]);
        return cats.size();
    }

    private void build(List<String> words) {
        switch (words.get(0)) {
            case "cat" -> {
                String key = "cat" + cats.size();
                cats.add(words.get(1));
                numbers.put(key + ".speed", Integer.parseInt(words.get(2)));
                numbers.put(key + ".left", words.get(3).equals("left") ? 1 : 0);
            }
            case "sack" -> {
                String key = "sack" + sacks.size();
                sacks.add(words.get(1));
                numbers.put(key + ".grain", Integer.parseInt(words.get(2)));
                numbers.put(key + ".mice", Integer.parseInt(words.get(3)));
                numbers.put(key + ".open", words.get(4).equals("open") ? 1 : 0);
            }
            case "shift" -> shifts.add(new int[] {cats.indexOf(words.get(1)), Integer.parseInt(words.get(2))});
            case "milk" -> numbers.put("milk", Integer.parseInt(words.get(1)));
            default -> numbers.put("clock", Integer.parseInt(words.get(1)));
        }
    }

    int run(String text) {
        List<List<String>> statements = parse(text, SCRIPT, sacks, true);
        if (statements == null) {
            return -1;
        }
        push(new Model(this));
        int executed = 0;
        try {
            for (List<String> words : statements) {
                execute(words);
                executed++;
            }
        } catch (Failure e) {
            return executed;
        }
        return executed;
    }

    private void execute(List<String> words) {
        int sack = words.size() > 1 ? sacks.indexOf(words.get(1)) : -1;
        switch (words.get(0)) {
            case "wait" -> doPass(Integer.parseInt(words.get(1)));
            case "open" -> doTurn(sack, 1);
            case "shut" -> doTurn(sack, 0);
            case "mice" -> doAdd(sack, ".mice", Integer.parseInt(words.get(2)), 99);
            case "grain" -> doAdd(sack, ".grain", Integer.parseInt(words.get(2)), 9999);
            case "dismiss" -> doDismiss();
            default -> numbers.put("milk", Integer.parseInt(words.get(1)));
        }
    }

    /** Returns the statements as words, or null after an error. */
    private List<List<String>> parse(String text, Map<String, String> table, List<String> knownSacks, boolean isScript) {
        List<String> tokens = new ArrayList<>();
        List<Integer> offsets = new ArrayList<>();
        Matcher matcher = TOKEN.matcher(text);
        while (matcher.find()) {
            if (!matcher.group().isBlank() || matcher.group().matches(".*[^ \\n].*")) {
                tokens.add(matcher.group());
                offsets.add(matcher.start());
            }
        }
        offsets.add(text.length());
        errorCode = 0;
        errorOffset = -1;
        Map<String, List<String>> names = new HashMap<>(Map.of("cat", new ArrayList<>(), "sack", new ArrayList<>(knownSacks)));
        List<List<String>> statements = new ArrayList<>();
        Map<String, Integer> counts = new HashMap<>();
        int at = 0;
        while (at < tokens.size()) {
            String first = tokens.get(at);
            String shape = table.get(first);
            if (shape == null) {
                return fail(1, offsets.get(at));
            }
            int number = counts.merge(first, 1, Integer::sum);
            if (isScript ? statements.size() == 30 : number > MOST.getOrDefault(first, 999)) {
                return fail(5, offsets.get(at));
            }
            List<String> words = new ArrayList<>(List.of(first));
            for (String part : (shape + " ;").trim().split(" ")) {
                at++;
                int code = at < tokens.size() ? codeOf(tokens.get(at), part, names) : 1;
                if (code != 0) {
                    return fail(code, offsets.get(at));
                }
                words.add(tokens.get(at));
            }
            at++;
            statements.add(words);
        }
        if (!isScript && !counts.keySet().containsAll(List.of("cat", "sack", "shift"))) {
            return fail(6, text.length());
        }
        return statements;
    }

    private List<List<String>> fail(int code, int offset) {
        errorCode = code;
        errorOffset = offset;
        return null;
    }

    private static int codeOf(String token, String part, Map<String, List<String>> names) {
        if (part.matches("[0-9]+-[0-9]+")) {
            String[] ends = part.split("-");
            if (!token.matches("[0-9]{1,4}")) {
                return 1;
            }
            int number = Integer.parseInt(token);
            return number < Integer.parseInt(ends[0]) || number > Integer.parseInt(ends[1]) ? 2 : 0;
        }
        if (part.equals(";") || part.contains("|")) {
            return Arrays.asList(part.split("\\|")).contains(token) ? 0 : 1;
        }
        if (!token.matches("[a-z]{1,6}")) {
            return 1;
        }
        List<String> known = names.get(part.substring(3));
        if (part.startsWith("old")) {
            return known.contains(token) ? 0 : 4;
        }
        if (known.contains(token)) {
            return 3;
        }
        known.add(token);
        return 0;
    }

    // Changes

    private void push(Model before) {
        past.push(before);
        if (past.size() > 8) {
            past.removeLast();
        }
    }

    private static void demand(boolean holds, String failure) {
        if (!holds) {
            throw new Failure(failure);
        }
    }

    private void demandSack(int sack) {
        demand(sack >= 0 && sack < sacks.size(), "IndexOutOfBoundsException");
    }

    private static void demandRange(int number, int least, int most) {
        demand(number >= least && number <= most, "IllegalArgumentException");
    }

    private interface Act {
        int go();
    }

    /** Every act demands what it needs before it changes anything, so a failing one leaves no trace. */
    private int change(Act act) {
        Model before = new Model(this);
        int answer = act.go();
        push(before);
        return answer;
    }

    int letPass(int hours) {
        demandRange(hours, 1, 99);
        return change(() -> doPass(hours));
    }

    int turn(int sack, int open) {
        demandSack(sack);
        return change(() -> doTurn(sack, open));
    }

    int addMice(int sack, int mice) {
        demandSack(sack);
        demandRange(mice, 1, 99);
        return change(() -> doAdd(sack, ".mice", mice, 99));
    }

    int addGrain(int sack, int grain) {
        demandSack(sack);
        demandRange(grain, 1, 999);
        return change(() -> doAdd(sack, ".grain", grain, 9999));
    }

    int dismiss() {
        return change(this::doDismiss);
    }

    int setMilk(int milk) {
        demandRange(milk, 0, 9);
        return change(() -> {
            int before = get("milk");
            numbers.put("milk", milk);
            return before;
        });
    }

    int undo() {
        demand(!past.isEmpty(), "NoSuchElementException");
        copy(past.pop());
        return past.size();
    }

    int save() {
        saved = new Model(this);
        return get("clock");
    }

    int restore() {
        demand(saved != null, "NoSuchElementException");
        copy(saved);
        past.clear();
        return get("clock");
    }

    private int doPass(int hours) {
        demand(get("clock") + hours <= 9999, "IllegalStateException");
        int before = get("caught");
        for (int i = 0; i < hours; i++) {
            hour();
        }
        return get("caught") - before;
    }

    private int doTurn(int sack, int open) {
        demand(get("sack" + sack + ".open") != open, "IllegalStateException");
        numbers.put("sack" + sack + ".open", open);
        int count = 0;
        for (int i = 0; i < sacks.size(); i++) {
            count += get("sack" + i + ".open");
        }
        return count;
    }

    private int doAdd(int sack, String what, int amount, int most) {
        demand(get("sack" + sack + what) + amount <= most, "IllegalStateException");
        return add("sack" + sack + what, amount);
    }

    private int doDismiss() {
        demand(get("sworn") >= 0, "IllegalStateException");
        return numbers.put("sworn", -1);
    }

    // Time

    private void swear(int cat) {
        numbers.put("sworn", cat);
        add("cat" + cat + ".oaths", 1);
        add("oaths", 1);
    }

    private void event(int kind, int cat, int number) {
        events.add(0, new int[] {kind, cat, number});
    }

    void hour() {
        int clock = add("clock", 1);
        for (int i = 0; i < sacks.size(); i++) {
            eat(i);
        }
        for (int i = 0; i < sacks.size() && clock % 24 == 0; i++) {
            int mice = get("sack" + i + ".mice");
            int grown = Math.min(mice + mice / 2, 99);
            numbers.put("sack" + i + ".mice", grown);
            add("born", grown - mice);
        }
        int hunter = huntingSack() >= 0 ? get("sworn") : -1;
        if (hunter >= 0) {
            hunt(hunter);
        }
        for (int i = 0; i < cats.size(); i++) {
            int tiredness = get("cat" + i + ".tired");
            numbers.put("cat" + i + ".tired", i == hunter ? Math.min(20, tiredness + 1) : Math.max(0, tiredness - 1));
        }
        if (add("left", -1) == 0) {
            nextShift();
        }
        if (clock % 24 == 6) {
            dawn(clock);
        }
    }

    private void eat(int sack) {
        int mice = get("sack" + sack + ".mice");
        int grain = get("sack" + sack + ".grain");
        int eaten = grain < mice ? grain : mice;
        add("sack" + sack + ".grain", -eaten);
        add("sack" + sack + ".eaten", eaten);
        add("eaten", eaten);
        if (mice == 0 || grain > mice) {
            return;
        }
        List<Integer> ring = new ArrayList<>();
        for (int i = sack + 1; i < sacks.size(); i++) {
            ring.add(i);
        }
        for (int i = 0; i < sack; i++) {
            ring.add(i);
        }
        ring.removeIf(i -> get("sack" + i + ".open") == 0);
        if (get("sack" + sack + ".open") == 1 && !ring.isEmpty()) {
            int there = get("sack" + ring.get(0) + ".mice");
            numbers.put("sack" + ring.get(0) + ".mice", Math.min(99, there + mice));
            add("starved", Math.max(0, there + mice - 99));
            numbers.put("sack" + sack + ".mice", 0);
        } else {
            numbers.put("sack" + sack + ".mice", mice / 2);
            add("starved", mice - mice / 2);
        }
    }

    int strength(int cat) {
        return Math.max(0, get("cat" + cat + ".speed") - get("cat" + cat + ".tired") / 4);
    }

    private void hunt(int cat) {
        int sack = huntingSack();
        int caught = Math.min(strength(cat), get("sack" + sack + ".mice"));
        add("sack" + sack + ".mice", -caught);
        add("cat" + cat + ".caught", caught);
        add("caught", caught);
        event(1, cat, caught);
    }

    int huntingSack() {
        int best = -1;
        for (int i = sacks.size() - 1; i >= 0; i--) {
            int mice = get("sack" + i + ".mice") * get("sack" + i + ".open");
            if (mice > 0 && (best < 0 || mice >= get("sack" + best + ".mice"))) {
                best = i;
            }
        }
        return best;
    }

    private void nextShift() {
        numbers.put("shift", (get("shift") + 1) % shifts.size());
        int[] shift = shifts.get(get("shift"));
        numbers.put("left", shift[1]);
        int outgoing = get("sworn");
        if (outgoing >= 0 && reason(shift[0]) == 0) {
            swear(shift[0]);
            event(2, shift[0], outgoing);
        } else if (outgoing >= 0) {
            numbers.put("sworn", -1);
            add("refusals", 1);
            event(3, shift[0], outgoing);
        }
    }

    int reason(int cat) {
        int sworn = get("sworn");
        if (sworn < 0) {
            return 1;
        }
        if (get("cat" + cat + ".tired") >= 12) {
            return 2;
        }
        return cat == sworn || get("cat" + cat + ".left") != get("cat" + sworn + ".left") ? 0 : 3;
    }

    private void dawn(int clock) {
        for (int i = 0; i < cats.size(); i++) {
            numbers.put("cat" + i + ".tired", Math.max(0, get("cat" + i + ".tired") - get("milk")));
        }
        int cat = shifts.get(get("shift"))[0];
        if (get("sworn") < 0 && get("cat" + cat + ".tired") < 12) {
            swear(cat);
            event(4, cat, clock);
        } else {
            event(4, -1, clock);
        }
    }

    // Predictions

    Model after(int hours) {
        demandRange(hours, 0, 200);
        Model later = new Model(this);
        for (int i = 0; i < hours; i++) {
            later.hour();
        }
        return later;
    }

    int after(int sack, int hours, String what) {
        demandSack(sack);
        return after(hours).get("sack" + sack + what);
    }

    int until(String name, int value) {
        Model later = new Model(this);
        for (int hours = 0; hours <= 200; hours++) {
            if (later.get(name) == value) {
                return hours;
            }
            later.hour();
        }
        return -1;
    }

    int untilEmpty(int sack) {
        demandSack(sack);
        return until("sack" + sack + ".grain", 0);
    }

    int caughtWithin(int hours) {
        return after(hours).get("caught") - get("caught");
    }

    int bestFlap(int hours) {
        int best = -1;
        int most = after(hours).grain();
        for (int i = 0; i < sacks.size(); i++) {
            Model other = new Model(this);
            other.numbers.merge("sack" + i + ".open", 1, (a, b) -> b - a);
            int grain = other.after(hours).grain();
            if (grain > most) {
                most = grain;
                best = i;
            }
        }
        return best;
    }

    private int grain() {
        int sum = 0;
        for (int i = 0; i < sacks.size(); i++) {
            sum += get("sack" + i + ".grain");
        }
        return sum;
    }

    // Answers

    String written() {
        List<String> parts = new ArrayList<>();
        for (int i = 0; i < sacks.size(); i++) {
            parts.add(sacks.get(i) + ":" + get("sack" + i + ".grain") + "/" + get("sack" + i + ".mice")
                    + (get("sack" + i + ".open") == 1 ? "'" : ""));
        }
        return String.join(" ", parts);
    }

    double averageTiredness() {
        int sum = 0;
        for (int i = 0; i < cats.size(); i++) {
            sum += get("cat" + i + ".tired");
        }
        return (double) sum / (double) cats.size();
    }

    /** The same text as Watch.state gives. */
    String state() {
        StringBuilder text = new StringBuilder("clock " + get("clock") + " milk " + get("milk") + " sworn " + get("sworn")
                + " shift " + get("shift") + " left " + get("left"));
        for (int i = 0; i < cats.size(); i++) {
            String key = "cat" + i;
            text.append(" cat " + cats.get(i) + " " + get(key + ".speed") + " " + (get(key + ".left") == 1) + " "
                    + get(key + ".tired") + " " + get(key + ".caught") + " " + get(key + ".oaths"));
        }
        for (int i = 0; i < sacks.size(); i++) {
            String key = "sack" + i;
            text.append(" sack " + sacks.get(i) + " " + get(key + ".grain") + " " + get(key + ".mice") + " "
                    + (get(key + ".open") == 1) + " " + get(key + ".eaten"));
        }
        for (int[] shift : shifts) {
            text.append(" shift " + shift[0] + " " + shift[1]);
        }
        text.append(" totals " + get("caught") + " " + get("eaten") + " " + get("born") + " " + get("starved") + " "
                + get("oaths") + " " + get("refusals") + " events ");
        for (int[] event : events.subList(0, Math.min(16, events.size()))) {
            text.append(event[0] + "," + event[1] + "," + event[2] + " ");
        }
        return text.toString();
    }
}
