import java.util.ArrayList;
import java.util.List;
import java.util.function.Predicate;
import java.util.function.ToIntFunction;
import java.util.regex.Matcher;
import java.util.regex.Pattern;

/** A consent by recursive descent, for NaiveHouse. */
final class NaiveConsent {
    static final class Fault extends Exception {
        private static final long serialVersionUID = 1L;
        final int number;
        final int place;

        Fault(int number, int place) {
            this.number = number;
            this.place = place;
        }
    }

    record Case(int kind, int use, int age, int dead, int piece, int names, int own, List<Integer> in) { }

    private record Rule(String head, Predicate<Case> holds) { }

    private record Token(String text, int place) { }

    private static final Pattern NEXT = Pattern.compile("[a-z]+|[0-9]+|[=!<]=|[;+*<()-]");

    private final List<Token> tokens = new ArrayList<>();
    private final List<Integer> badNames = new ArrayList<>();
    private final List<Rule> rules = new ArrayList<>();
    private final int topics;
    private int next;
    private int depth;

    private NaiveConsent(int topics) {
        this.topics = topics;
    }

    static NaiveConsent of(String text, int topics) throws Fault {
        NaiveConsent consent = new NaiveConsent(topics);
        consent.cut(text);
        consent.parseText();
        if (!consent.badNames.isEmpty()) {
            throw new Fault(4, consent.badNames.get(0));
        }
        return consent;
    }

    /** What is no token becomes "?", and the end "". */
    private void cut(String text) {
        Matcher matcher = NEXT.matcher(text);
        int at = 0;
        while (true) {
            while (at < text.length() && "\t\n\r ".indexOf(text.charAt(at)) >= 0) {
                at++;
            }
            if (at == text.length()) {
                tokens.add(new Token("", at));
                return;
            }
            matcher.region(at, text.length());
            String token = matcher.lookingAt() ? matcher.group() : "?";
            if (token.matches("[a-z]{9,}|[0-9]{5,}")) {
                token = "?";
            }
            tokens.add(new Token(token, at));
            if (token.equals("?")) {
                return;
            }
            at += token.length();
        }
    }

    private boolean sees(String pattern) {
        return tokens.get(next).text.matches(pattern);
    }

    private String take(String pattern, boolean room) throws Fault {
        Token token = tokens.get(next);
        if (!sees(pattern)) {
            throw new Fault(1, token.place);
        }
        if (next == 400 || !room) {
            throw new Fault(2, token.place);
        }
        next++;
        return token.text;
    }

    private void parseText() throws Fault {
        while (!sees("")) {
            String head = take("let|keep|mask", rules.size() < 16);
            Predicate<Case> holds = c -> true;
            if (!sees(";")) {
                take("if", true);
                holds = any();
            }
            take(";", true);
            rules.add(new Rule(head, holds));
        }
    }

    private Predicate<Case> any() throws Fault {
        Predicate<Case> any = all();
        while (sees("or")) {
            take("or", true);
            any = any.or(all());
        }
        return any;
    }

    private Predicate<Case> all() throws Fault {
        Predicate<Case> all = literal();
        while (sees("and")) {
            take("and", true);
            all = all.and(literal());
        }
        return all;
    }

    private Predicate<Case> literal() throws Fault {
        if (sees("in")) {
            take("in", true);
            int place = tokens.get(next).place;
            int topic = Integer.parseInt(take("[0-9]+", true));
            if (topic >= topics) {
                badNames.add(place);
            }
            return c -> c.in.contains(topic);
        }
        ToIntFunction<Case> left = sum();
        String test = take("==|!=|<|<=", true);
        ToIntFunction<Case> right = sum();
        return c -> {
            int a = left.applyAsInt(c);
            int b = right.applyAsInt(c);
            return test.equals("==") ? a == b : test.equals("!=") ? a != b : test.equals("<") ? a < b : a <= b;
        };
    }

    private ToIntFunction<Case> sum() throws Fault {
        ToIntFunction<Case> sum = product();
        while (sees("[+-]")) {
            ToIntFunction<Case> before = sum;
            boolean plus = take("[+-]", true).equals("+");
            ToIntFunction<Case> part = product();
            sum = c -> plus ? before.applyAsInt(c) + part.applyAsInt(c) : before.applyAsInt(c) - part.applyAsInt(c);
        }
        return sum;
    }

    private ToIntFunction<Case> product() throws Fault {
        ToIntFunction<Case> product = unit();
        while (sees("[*]")) {
            take("[*]", true);
            ToIntFunction<Case> before = product;
            ToIntFunction<Case> unit = unit();
            product = c -> before.applyAsInt(c) * unit.applyAsInt(c);
        }
        return product;
    }

    private ToIntFunction<Case> unit() throws Fault {
        if (sees("[0-9]+")) {
            int value = Integer.parseInt(take("[0-9]+", true));
            return c -> value;
        }
        if (sees("[(]")) {
            take("[(]", depth < 6);
            depth++;
            ToIntFunction<Case> inner = sum();
            take("[)]", true);
            depth--;
            return inner;
        }
        return switch (take("kind|use|age|dead|piece|names|own", true)) {
            case "kind" -> Case::kind;
            case "use" -> Case::use;
            case "age" -> Case::age;
            case "dead" -> Case::dead;
            case "piece" -> Case::piece;
            case "names" -> Case::names;
            default -> Case::own;
        };
    }

    int let(Case c) {
        for (int i = 0; i < rules.size(); i++) {
            if (!rules.get(i).head.equals("mask") && rules.get(i).holds.test(c)) {
                return rules.get(i).head.equals("let") ? i : -2;
            }
        }
        return -3;
    }

    int mask(Case c) {
        for (int i = 0; i < rules.size(); i++) {
            if (rules.get(i).head.equals("mask") && rules.get(i).holds.test(c)) {
                return i;
            }
        }
        return -1;
    }
}
