import java.util.ArrayList;
import java.util.HashMap;
import java.util.HashSet;
import java.util.LinkedHashMap;
import java.util.LinkedHashSet;
import java.util.List;
import java.util.Map;
import java.util.Random;
import java.util.Set;
import java.util.TreeSet;
import java.util.regex.Matcher;
import java.util.regex.Pattern;

/** Promises 2 to 26: random texts, faulty ones too, and random letters, against a slow and literal reading of the document. */
public final class OracleTest {
    private static int wrong = 0;
    private static int checked = 0;

    private static void due(String where, String call, long got, long want) {
        checked++;
        if (got != want) {
            wrong++;
            if (wrong <= 20) {
                System.out.println(where + ": " + call + " answered " + got + ", due is " + want);
            }
        }
    }

    // ---- the literal reading: text ----

    static final class Fault extends RuntimeException {
        private static final long serialVersionUID = 1;
        final int code;
        final int at;

        Fault(int code, int at) {
            super("fault", null, false, false);
            this.code = code;
            this.at = at;
        }
    }

    static final class TooLarge extends RuntimeException {
        private static final long serialVersionUID = 1;
    }

    static final class Token {
        String type;
        String text;
        int at;
        int end;

        Token(String type, String text, int at, int end) {
            this.type = type;
            this.text = text;
            this.at = at;
            this.end = end;
        }
    }

    static final class Kind {
        String name;
        int under = -1;
        boolean sealed;
        List<Integer> parts = new ArrayList<>();
    }

    static final class Pat {
        String type;
        int sort;
        long low;
        long high;
        String text;
        int kind;
        List<Pat> subs = new ArrayList<>();
        List<String> names = new ArrayList<>();
    }

    static final class Term {
        String name;
        int number;
    }

    static final class Rule {
        int number;
        int at;
        List<Pat> pats = new ArrayList<>();
        LinkedHashMap<String, Integer> names = new LinkedHashMap<>();
        List<Term> terms = new ArrayList<>();
        String[] signs = {"", ""};
        String compare = "";
        String answerName;
        int answerNumber;
        String call;
        int callAt;
        List<String> args = new ArrayList<>();
        List<Integer> argsAt = new ArrayList<>();
        List<Row> rows = new ArrayList<>();
    }

    static final class Row {
        Rule rule;
        List<Test> tests = new ArrayList<>();
        Map<String, String> places = new HashMap<>();
    }

    static final class Test {
        String place;
        Pat want;
    }

    static final class Node {
        int what;
        Row row;
        int sort;
        String place;
        int number;
        List<Known> labels = new ArrayList<>();
        List<Node> branches = new ArrayList<>();
        int depth = 1;
    }

    static final class Known {
        long low;
        long high;
        String text;
        Set<String> notTexts;
        int leaf;
    }

    static final class Fun {
        String name;
        List<Integer> sorts = new ArrayList<>();
        List<Rule> rules = new ArrayList<>();
        List<Row> rows = new ArrayList<>();
        List<Node> tree;
        int way;
        int kindsThen;
    }

    static final class Model {
        List<Kind> kinds = new ArrayList<>();
        List<Fun> funs = new ArrayList<>();
        String text = "";
        int pos;

        static final Set<String> WORDS = Set.of("kind", "under", "sort", "if", "as", "whole", "truth", "text", "true",
            "false", "none");

        Token lex(int from) {
            int i = from;
            while (i < text.length() && (text.charAt(i) == ' ' || text.charAt(i) == '\n')) {
                i++;
            }
            String rest = text.substring(i);
            if (rest.isEmpty()) {
                return new Token("END", "", i, i);
            }
            String got = rest.replaceFirst("(?s)^([a-z][a-z0-9]*|[A-Z][a-z0-9]*|[0-9]+|'[a-z]*'|\\.\\.|[;,(){}:|_<=>+\\-*/%]).*", "$1");
            boolean found = rest.matches("(?s)^([a-z]|[A-Z]|[0-9]|'[a-z]*'|\\.\\.|[;,(){}:|_<=>+\\-*/%]).*");
            if (!found) {
                return new Token("BAD", "", i, i);
            }
            char c = got.charAt(0);
            int end = i + got.length();
            if (Character.isLetter(c)) {
                if (got.length() > 8) {
                    return new Token("BAD", "", i, i);
                }
                String type = WORDS.contains(got) ? got : Character.isUpperCase(c) ? "KINDNAME" : "NAME";
                return new Token(type, got, i, end);
            }
            if (Character.isDigit(c)) {
                return new Token(got.length() > 9 ? "BAD" : "NUMBER", got, i, end);
            }
            if (c == '\'') {
                return new Token(got.length() > 10 ? "BAD" : "TEXT", got.substring(1, got.length() - 1), i, end);
            }
            return new Token(got, got, i, end);
        }

        Token peek() {
            Token t = lex(pos);
            if (t.type.equals("BAD")) {
                throw new Fault(1, t.at);
            }
            return t;
        }

        boolean at(String type) {
            return peek().type.equals(type);
        }

        Token take(String type) {
            Token t = peek();
            if (!t.type.equals(type)) {
                throw new Fault(2, t.at);
            }
            pos = t.end;
            return t;
        }

        int kindOf(String name) {
            for (int k = 0; k < kinds.size(); k++) {
                if (kinds.get(k).name.equals(name)) {
                    return k;
                }
            }
            return -1;
        }

        Fun funOf(String name) {
            for (Fun f : funs) {
                if (f.name.equals(name)) {
                    return f;
                }
            }
            return null;
        }

        boolean below(int k, int upper) {
            return k >= 0 && (k == upper || below(kinds.get(k).under, upper));
        }

        void readAll() {
            while (at("kind")) {
                readKind(false);
            }
            while (at("sort")) {
                readFun();
            }
            take("END");
            judgeCalls();
            judgeRows();
        }

        void readKind(boolean late) {
            take("kind");
            Token name = take("KINDNAME");
            if (kindOf(name.text) >= 0) {
                throw new Fault(3, name.at);
            }
            if (kinds.size() == 24) {
                throw new Fault(9, name.at);
            }
            Kind kind = new Kind();
            kind.name = name.text;
            int upper = -1;
            if (late || at("under")) {
                take("under");
                Token up = take("KINDNAME");
                upper = kindOf(up.text);
                if (upper < 0) {
                    throw new Fault(4, up.at);
                }
                if (!kinds.get(upper).parts.isEmpty() || late && !kinds.get(upper).sealed) {
                    throw new Fault(5, up.at);
                }
                kinds.get(upper).sealed = true;
            }
            kind.under = upper;
            kinds.add(kind);
            if (at("(")) {
                take("(");
                kind.parts.addAll(readSorts(4));
                take(")");
            }
            take(";");
        }

        List<Integer> readSorts(int most) {
            List<Integer> sorts = new ArrayList<>();
            do {
                if (!sorts.isEmpty()) {
                    take(",");
                }
                Token t = peek();
                int sort = List.of("whole", "truth", "text").indexOf(t.type);
                if (sort < 0) {
                    take("KINDNAME");
                    if (kindOf(t.text) < 0) {
                        throw new Fault(4, t.at);
                    }
                    sort = 3 + kindOf(t.text);
                }
                if (sorts.size() == most) {
                    throw new Fault(9, t.at);
                }
                pos = t.end;
                sorts.add(sort);
            } while (at(","));
            return sorts;
        }

        void readFun() {
            take("sort");
            Token name = take("NAME");
            if (funOf(name.text) != null) {
                throw new Fault(3, name.at);
            }
            if (funs.size() == 12) {
                throw new Fault(9, name.at);
            }
            Fun f = new Fun();
            f.name = name.text;
            funs.add(f);
            take("(");
            f.sorts = readSorts(3);
            take(")");
            take("{");
            while (!at("}")) {
                readRule(f);
            }
            take("}");
        }

        final Set<String> everBound = new HashSet<>();

        void readRule(Fun f) {
            Rule rule = new Rule();
            rule.number = f.rules.size();
            rule.at = peek().at;
            Map<String, Integer> names = new LinkedHashMap<>();
            everBound.clear();
            for (int c = 0; c < f.sorts.size(); c++) {
                if (c > 0) {
                    comma();
                }
                rule.pats.add(readPat(f.sorts.get(c), 0, c == 0 && rule.number == 16, names));
            }
            if (at(",")) {
                throw new Fault(6, peek().at);
            }
            rule.names.putAll(names);
            if (at("if")) {
                take("if");
                readSum(rule, 0);
                Token t = peek();
                if (!List.of("<", "=", ">").contains(t.type)) {
                    throw new Fault(2, t.at);
                }
                rule.compare = t.type;
                pos = t.end;
                readSum(rule, 1);
            }
            take(":");
            readAnswer(rule);
            take(";");
            f.rules.add(rule);
        }

        void comma() {
            if (!at(",")) {
                throw new Fault(6, peek().at);
            }
            take(",");
        }

        Pat readPat(int sort, int within, boolean tooMany, Map<String, Integer> names) {
            Token t = peek();
            List<Integer> faults = new ArrayList<>();
            faultsOfFirst(t, sort, names, faults);
            if (tooMany || within >= 6) {
                faults.add(9);
            }
            if (faults.contains(9) && turned()) {
                faults.add(7);
            }
            if (!faults.isEmpty()) {
                throw new Fault(faults.stream().min(Integer::compare).get(), t.at);
            }
            Pat p = new Pat();
            p.sort = sort;
            p.type = t.type;
            switch (t.type) {
                case "-":
                case "NUMBER":
                    p.type = "RANGE";
                    p.low = number();
                    p.high = p.low;
                    if (at("..")) {
                        take("..");
                        p.high = number();
                    }
                    if (p.low > p.high) {
                        throw new Fault(7, t.at);
                    }
                    break;
                case "NAME":
                    pos = t.end;
                    names.put(t.text, sort);
                    everBound.add(t.text);
                    p.names.add(t.text);
                    break;
                case "KINDNAME":
                    pos = t.end;
                    readKindPat(p, t, within, names);
                    break;
                case "(":
                    readEither(p, t, within, names);
                    break;
                default:
                    p.text = t.text;
                    pos = t.end;
                    break;
            }
            if (at("as")) {
                take("as");
                Token name = take("NAME");
                if (names.containsKey(name.text)) {
                    throw new Fault(3, name.at);
                }
                if (isNinth(name.text)) {
                    throw new Fault(9, name.at);
                }
                names.put(name.text, sort);
                everBound.add(name.text);
                p.names.add(name.text);
            }
            return p;
        }

        /** Whether a name would be the ninth of all that the rule binds, in whatever alternative they stand. */
        boolean isNinth(String name) {
            return everBound.size() == 8 && !everBound.contains(name);
        }

        boolean turned() {
            int before = pos;
            try {
                int low = number();
                take("..");
                return low > number();
            } catch (Fault e) {
                return false;
            } finally {
                pos = before;
            }
        }

        void faultsOfFirst(Token t, int sort, Map<String, Integer> names, List<Integer> faults) {
            int wanted = -1;
            switch (t.type) {
                case "_":
                case "(":
                    return;
                case "NAME":
                    if (names.containsKey(t.text)) {
                        faults.add(3);
                    }
                    if (isNinth(t.text)) {
                        faults.add(9);
                    }
                    return;
                case "-":
                case "NUMBER":
                    wanted = 0;
                    break;
                case "true":
                case "false":
                    wanted = 1;
                    break;
                case "TEXT":
                    wanted = 2;
                    break;
                case "none":
                    wanted = Math.max(3, sort);
                    break;
                case "KINDNAME":
                    int k = kindOf(t.text);
                    if (k < 0) {
                        faults.add(4);
                        return;
                    }
                    wanted = sort >= 3 && (below(k, sort - 3) || below(sort - 3, k)) ? sort : -1;
                    break;
                default:
                    faults.add(2);
                    return;
            }
            if (wanted != sort) {
                faults.add(5);
            }
        }

        void readKindPat(Pat p, Token t, int within, Map<String, Integer> names) {
            p.kind = kindOf(t.text);
            if (!at("(")) {
                return;
            }
            List<Integer> parts = kinds.get(p.kind).parts;
            if (parts.isEmpty()) {
                throw new Fault(6, peek().at);
            }
            take("(");
            for (int i = 0; i < parts.size(); i++) {
                if (i > 0) {
                    comma();
                }
                p.subs.add(readPat(parts.get(i), within + 1, false, names));
            }
            if (at(",")) {
                throw new Fault(6, peek().at);
            }
            take(")");
        }

        void readEither(Pat p, Token t, int within, Map<String, Integer> names) {
            Map<String, Integer> before = new LinkedHashMap<>(names);
            Map<String, Integer> first = null;
            boolean same = true;
            take("(");
            do {
                if (first != null) {
                    take("|");
                }
                Map<String, Integer> mine = new LinkedHashMap<>(before);
                p.subs.add(readPat(p.sort, within + 1, p.subs.size() == 6, mine));
                if (first == null) {
                    first = mine;
                }
                same &= first.equals(mine);
            } while (at("|"));
            take(")");
            if (!same) {
                throw new Fault(8, t.at);
            }
            names.putAll(first);
        }

        int number() {
            int sign = 1;
            if (at("-")) {
                take("-");
                sign = -1;
            }
            return sign * Integer.parseInt(take("NUMBER").text);
        }

        void readSum(Rule rule, int side) {
            while (rule.terms.size() < 2 * side) {
                rule.terms.add(null);
            }
            readTerm(rule);
            Token t = peek();
            if (List.of("+", "-", "*", "/", "%").contains(t.type)) {
                rule.signs[side] = t.type;
                pos = t.end;
                readTerm(rule);
            }
        }

        void readTerm(Rule rule) {
            Term term = new Term();
            if (at("NAME")) {
                term.name = wholeName(rule);
            } else {
                term.number = number();
            }
            rule.terms.add(term);
        }

        String wholeName(Rule rule) {
            Token t = take("NAME");
            if (!rule.names.containsKey(t.text)) {
                throw new Fault(4, t.at);
            }
            if (rule.names.get(t.text) != 0) {
                throw new Fault(5, t.at);
            }
            return t.text;
        }

        void readAnswer(Rule rule) {
            if (!at("NAME")) {
                rule.answerNumber = number();
                return;
            }
            Token t = peek();
            if (!lex(t.end).type.equals("(")) {
                rule.answerName = wholeName(rule);
                return;
            }
            rule.call = t.text;
            rule.callAt = t.at;
            pos = t.end;
            take("(");
            while (true) {
                Token arg = take("NAME");
                if (!rule.names.containsKey(arg.text)) {
                    throw new Fault(4, arg.at);
                }
                rule.args.add(arg.text);
                rule.argsAt.add(arg.at);
                if (!at(",")) {
                    break;
                }
                take(",");
            }
            take(")");
        }

        void judgeCalls() {
            for (Fun f : funs) {
                for (Rule rule : f.rules) {
                    if (rule.call != null) {
                        judgeCall(rule);
                    }
                }
            }
        }

        void judgeCall(Rule rule) {
            Fun called = funOf(rule.call);
            if (called == null) {
                throw new Fault(4, rule.callAt);
            }
            if (called.sorts.size() != rule.args.size()) {
                throw new Fault(6, rule.callAt);
            }
            for (int i = 0; i < rule.args.size(); i++) {
                int given = rule.names.get(rule.args.get(i));
                int wanted = called.sorts.get(i);
                boolean fits = given == wanted || given >= 3 && wanted >= 3 && below(given - 3, wanted - 3);
                if (!fits) {
                    throw new Fault(5, rule.argsAt.get(i));
                }
            }
        }

        // ---- the literal reading: rows and trees ----

        void judgeRows() {
            for (Fun f : funs) {
                long all = 0;
                for (Rule rule : f.rules) {
                    long ways = 1;
                    for (Pat p : rule.pats) {
                        ways = Math.min(1000, ways * ways(p));
                    }
                    all += ways;
                    if (all > 40) {
                        throw new Fault(9, rule.at);
                    }
                }
            }
            for (Fun f : funs) {
                for (Rule rule : f.rules) {
                    List<String> columns = new ArrayList<>();
                    for (int c = 0; c < f.sorts.size(); c++) {
                        columns.add(String.valueOf(c));
                    }
                    for (List<Object[]> items : all(rule.pats, columns)) {
                        f.rows.add(row(rule, items));
                    }
                }
            }
        }

        long ways(Pat p) {
            long ways = p.type.equals("(") ? 0 : 1;
            for (Pat sub : p.subs) {
                ways = Math.min(1000, p.type.equals("(") ? ways + ways(sub) : ways * ways(sub));
            }
            return ways;
        }

        Row row(Rule rule, List<Object[]> items) {
            Row row = new Row();
            row.rule = rule;
            for (Object[] item : items) {
                if (item[1] instanceof Pat p) {
                    Test test = new Test();
                    test.place = (String) item[0];
                    test.want = p;
                    row.tests.add(test);
                } else {
                    row.places.put((String) item[1], (String) item[0]);
                }
            }
            rule.rows.add(row);
            return row;
        }

        /** Every way to lay a list of patterns at places, the first turning slowest. */
        List<List<Object[]>> all(List<Pat> pats, List<String> places) {
            List<List<Object[]>> ways = new ArrayList<>();
            if (pats.isEmpty()) {
                ways.add(new ArrayList<>());
                return ways;
            }
            int n = pats.size();
            for (List<Object[]> head : one(pats.get(0), places.get(0))) {
                for (List<Object[]> tail : all(pats.subList(1, n), places.subList(1, n))) {
                    List<Object[]> both = new ArrayList<>(head);
                    both.addAll(tail);
                    ways.add(both);
                }
            }
            return ways;
        }

        List<List<Object[]>> one(Pat p, String place) {
            List<List<Object[]>> ways = new ArrayList<>();
            if (p.type.equals("(")) {
                for (Pat sub : p.subs) {
                    ways.addAll(one(sub, place));
                }
            } else {
                List<String> parts = new ArrayList<>();
                for (int i = 0; i < p.subs.size(); i++) {
                    parts.add(place + "." + i);
                }
                ways = all(p.subs, parts);
                if (!p.type.equals("_") && !p.type.equals("NAME")) {
                    for (List<Object[]> way : ways) {
                        way.add(0, new Object[] {place, p});
                    }
                }
            }
            for (String name : p.names) {
                for (List<Object[]> way : ways) {
                    way.add(new Object[] {place, name});
                }
            }
            return ways;
        }

        /** 1 the test holds, -1 it can't, 0 it is left. */
        int status(Test test, Map<String, Known> known) {
            Known k = known.get(test.place);
            Pat p = test.want;
            if (k == null) {
                return 0;
            }
            switch (p.type) {
                case "RANGE":
                    return p.low <= k.low && k.high <= p.high ? 1 : k.high < p.low || p.high < k.low ? -1 : 0;
                case "true":
                    return k.leaf == 1 ? 1 : -1;
                case "false":
                    return k.leaf == 0 ? 1 : -1;
                case "TEXT":
                    return k.text != null ? k.text.equals(p.text) ? 1 : -1 : k.notTexts.contains(p.text) ? -1 : 0;
                case "none":
                    return k.leaf == -1 ? 1 : -1;
                default:
                    return k.leaf >= 0 && below(k.leaf, p.kind) ? 1 : -1;
            }
        }

        List<Node> tree(List<Row> rows, int way) {
            List<Node> nodes = new ArrayList<>();
            grow(rows, new HashMap<>(), way, nodes);
            return nodes;
        }

        Node grow(List<Row> given, Map<String, Known> known, int way, List<Node> nodes) {
            if (nodes.size() == 120) {
                throw new TooLarge();
            }
            List<Row> rows = new ArrayList<>();
            for (Row row : given) {
                boolean can = true;
                for (Test test : row.tests) {
                    can &= status(test, known) >= 0;
                }
                if (can) {
                    rows.add(row);
                }
            }
            Node node = new Node();
            node.number = nodes.size();
            nodes.add(node);
            if (rows.isEmpty()) {
                return node;
            }
            Row first = rows.get(0);
            List<String> places = candidates(first, known);
            if (places.isEmpty()) {
                node.row = first;
                node.what = 1;
                if (!first.rule.compare.isEmpty()) {
                    node.what = 2;
                    rows.removeIf(row -> row.rule == first.rule);
                    node.branches.add(grow(rows, known, way, nodes));
                }
            } else {
                node.place = chosen(places, rows, known, way);
                node.sort = sortAt(node.place, rows, known);
                node.what = node.sort >= 3 ? 3 : List.of(6, 4, 5).get(node.sort);
                node.labels = branches(node.place, rows, known);
                for (Known label : node.labels) {
                    Map<String, Known> more = new HashMap<>(known);
                    more.put(node.place, label);
                    node.branches.add(grow(rows, more, way, nodes));
                }
            }
            for (Node b : node.branches) {
                node.depth = Math.max(node.depth, b.depth + 1);
            }
            return node;
        }

        List<String> candidates(Row row, Map<String, Known> known) {
            Set<String> left = new LinkedHashSet<>();
            for (Test test : row.tests) {
                if (status(test, known) == 0) {
                    left.add(test.place);
                }
            }
            List<String> places = new ArrayList<>();
            for (String place : left) {
                boolean within = false;
                for (String other : left) {
                    within |= place.startsWith(other + ".");
                }
                if (!within) {
                    places.add(place);
                }
            }
            return places;
        }

        String chosen(List<String> places, List<Row> rows, Map<String, Known> known, int way) {
            String best = null;
            int bestWorth = 0;
            for (int i = 0; i < places.size(); i++) {
                String place = places.get(i);
                int worth = 0;
                if (way == 1) {
                    for (Row row : rows) {
                        worth += left(row, place, known).isEmpty() ? 0 : 1;
                    }
                } else if (way == 2) {
                    worth = -branches(place, rows, known).size();
                } else if (way == 3) {
                    worth = i;
                }
                if (best == null || worth > bestWorth) {
                    best = place;
                    bestWorth = worth;
                }
            }
            return best;
        }

        List<Test> left(Row row, String place, Map<String, Known> known) {
            List<Test> tests = new ArrayList<>();
            for (Test test : row.tests) {
                if (test.place.equals(place) && status(test, known) == 0) {
                    tests.add(test);
                }
            }
            return tests;
        }

        int sortAt(String place, List<Row> rows, Map<String, Known> known) {
            return left(rows.get(0), place, known).get(0).want.sort;
        }

        List<Known> branches(String place, List<Row> rows, Map<String, Known> known) {
            int sort = sortAt(place, rows, known);
            List<Known> labels = new ArrayList<>();
            List<Pat> wants = new ArrayList<>();
            for (Row row : rows) {
                for (Test test : left(row, place, known)) {
                    wants.add(test.want);
                }
            }
            if (sort == 0) {
                TreeSet<Long> starts = new TreeSet<>();
                starts.add((long) Integer.MIN_VALUE);
                for (Pat p : wants) {
                    starts.add(p.low);
                    starts.add(p.high + 1);
                }
                for (long start : starts) {
                    Known k = new Known();
                    Long next = starts.higher(start);
                    k.low = start;
                    k.high = next == null ? Integer.MAX_VALUE : next - 1;
                    labels.add(k);
                }
            } else if (sort == 2) {
                Set<String> texts = new LinkedHashSet<>();
                for (Pat p : wants) {
                    texts.add(p.text);
                }
                for (String text : texts) {
                    Known k = new Known();
                    k.text = text;
                    labels.add(k);
                }
                Known others = new Known();
                others.notTexts = texts;
                labels.add(others);
            } else {
                for (int leaf = sort == 1 ? 0 : -1; leaf < (sort == 1 ? 2 : kinds.size()); leaf++) {
                    if (sort == 1 || leaf == -1 || !kinds.get(leaf).sealed && below(leaf, sort - 3)) {
                        Known k = new Known();
                        k.leaf = leaf;
                        labels.add(k);
                    }
                }
            }
            return labels;
        }

        int remake(Fun f, int way) {
            try {
                f.tree = tree(f.rows, way);
            } catch (TooLarge e) {
                return LetterPost.FULL;
            }
            f.way = way;
            f.kindsThen = kinds.size();
            return f.tree.size();
        }

        int missing(Fun f) {
            List<Row> rows = new ArrayList<>(f.rows);
            rows.removeIf(row -> !row.rule.compare.isEmpty());
            try {
                for (Node node : tree(rows, 0)) {
                    if (node.what == 0) {
                        return 1;
                    }
                }
                return 0;
            } catch (TooLarge e) {
                return LetterPost.FULL;
            }
        }

        int unreached(Fun f, Rule rule) {
            try {
                for (Node node : tree(f.rows, 0)) {
                    if (node.row != null && node.row.rule == rule) {
                        return 0;
                    }
                }
                return 1;
            } catch (TooLarge e) {
                return LetterPost.FULL;
            }
        }

        // ---- the literal reading: letters and sorting ----

        List<Val> vals = new ArrayList<>();
        int outcome;
        int answer;
        int begun;
        int tests;
        List<Integer> guards = new ArrayList<>();
        int lastFun;
        int lastRule;
        List<Integer> firstBound = new ArrayList<>();

        boolean isOf(int v, int sort) {
            if (v < 0 || v >= vals.size()) {
                return false;
            }
            Val val = vals.get(v);
            if (sort < 3) {
                return val.what == sort;
            }
            return val.what == 3 || val.what == 4 && below(val.kind, sort - 3);
        }

        boolean alike(int a, int b) {
            Val x = vals.get(a);
            Val y = vals.get(b);
            boolean same = x.what == y.what && x.number == y.number && x.text.equals(y.text) && x.kind == y.kind
                && x.parts.size() == y.parts.size();
            for (int i = 0; same && i < x.parts.size(); i++) {
                same = alike(x.parts.get(i), y.parts.get(i));
            }
            return same;
        }

        int run(int fun, List<Integer> letters, boolean trees) {
            outcome = 0;
            answer = 0;
            begun = 0;
            tests = 0;
            guards.clear();
            firstBound.clear();
            int result = LetterPost.NONE;
            int f = fun;
            List<Integer> handed = new ArrayList<>(letters);
            while (true) {
                if (begun == 100) {
                    outcome = 4;
                    lastRule = LetterPost.NONE;
                    return result;
                }
                begun++;
                lastFun = f;
                lastRule = LetterPost.NONE;
                Map<String, Integer> names = new HashMap<>();
                Rule rule = trees ? byTree(f, handed, names) : byRules(f, handed, names);
                if (rule == null) {
                    return result;
                }
                if (begun == 1) {
                    result = rule.number;
                    for (String name : rule.names.keySet()) {
                        firstBound.add(names.get(name));
                    }
                }
                if (rule.call == null) {
                    lastRule = rule.number;
                    answer = rule.answerName == null ? rule.answerNumber : vals.get(names.get(rule.answerName)).number;
                    return result;
                }
                handed.clear();
                for (String arg : rule.args) {
                    handed.add(names.get(arg));
                }
                f = funs.indexOf(funOf(rule.call));
            }
        }

        int at(List<Integer> handed, String place) {
            int v = -1;
            for (String step : place.split("\\.")) {
                v = v < 0 ? handed.get(Integer.parseInt(step)) : vals.get(v).parts.get(Integer.parseInt(step));
            }
            return v;
        }

        Rule byTree(int f, List<Integer> handed, Map<String, Integer> names) {
            Node node = funs.get(f).tree.get(0);
            while (true) {
                if (node.what == 0) {
                    outcome = 1;
                    return null;
                }
                if (node.what < 3) {
                    names.clear();
                    for (Map.Entry<String, String> e : node.row.places.entrySet()) {
                        names.put(e.getKey(), at(handed, e.getValue()));
                    }
                    int said = ask(f, node.row.rule, names);
                    if (said != 0) {
                        return said > 0 ? node.row.rule : null;
                    }
                    node = node.branches.get(0);
                    continue;
                }
                tests++;
                Val val = vals.get(at(handed, node.place));
                Node next = null;
                for (int i = 0; i < node.labels.size() && next == null; i++) {
                    Known k = node.labels.get(i);
                    boolean leads;
                    switch (node.what) {
                        case 6:
                            leads = k.low <= val.number && val.number <= k.high;
                            break;
                        case 5:
                            leads = k.text == null || k.text.equals(val.text);
                            break;
                        case 4:
                            leads = k.leaf == val.number;
                            break;
                        default:
                            leads = k.leaf == val.kind;
                            break;
                    }
                    next = leads ? node.branches.get(i) : null;
                }
                if (next == null) {
                    outcome = 2;
                    return null;
                }
                node = next;
            }
        }

        Rule byRules(int f, List<Integer> handed, Map<String, Integer> names) {
            for (Rule rule : funs.get(f).rules) {
                names.clear();
                boolean fits = true;
                for (int c = 0; c < rule.pats.size() && fits; c++) {
                    Map<String, Integer> more = fit(rule.pats.get(c), handed.get(c));
                    fits = more != null;
                    if (fits) {
                        names.putAll(more);
                    }
                }
                if (fits) {
                    int said = ask(f, rule, names);
                    if (said != 0) {
                        return said > 0 ? rule : null;
                    }
                }
            }
            outcome = 1;
            return null;
        }

        /** What a pattern binds to a value that it fits, or null. */
        Map<String, Integer> fit(Pat p, int v) {
            Val val = vals.get(v);
            Map<String, Integer> names = new HashMap<>();
            boolean fits;
            switch (p.type) {
                case "(":
                    fits = false;
                    for (int i = 0; i < p.subs.size() && !fits; i++) {
                        Map<String, Integer> more = fit(p.subs.get(i), v);
                        fits = more != null;
                        if (fits) {
                            names.putAll(more);
                        }
                    }
                    break;
                case "RANGE":
                    fits = p.low <= val.number && val.number <= p.high;
                    break;
                case "true":
                case "false":
                    fits = val.number == (p.type.equals("true") ? 1 : 0);
                    break;
                case "TEXT":
                    fits = val.text.equals(p.text);
                    break;
                case "none":
                    fits = val.what == 3;
                    break;
                case "KINDNAME":
                    fits = val.what == 4 && below(val.kind, p.kind);
                    for (int i = 0; i < p.subs.size() && fits; i++) {
                        Map<String, Integer> more = fit(p.subs.get(i), val.parts.get(i));
                        fits = more != null;
                        if (fits) {
                            names.putAll(more);
                        }
                    }
                    break;
                default:
                    fits = true;
                    break;
            }
            for (String name : p.names) {
                names.put(name, v);
            }
            return fits ? names : null;
        }

        /** 1 the guard is true or there is none, 0 it is false, -1 it throws. */
        int ask(int f, Rule rule, Map<String, Integer> names) {
            if (rule.compare.isEmpty()) {
                return 1;
            }
            guards.add(100 * f + rule.number);
            try {
                int right = rule.signs[0].isEmpty() ? 1 : 2;
                int a = sum(rule, 0, 0, names);
                int b = sum(rule, 1, right, names);
                boolean is = rule.compare.equals("<") ? a < b : rule.compare.equals("=") ? a == b : a > b;
                return is ? 1 : 0;
            } catch (ArithmeticException e) {
                outcome = 3;
                lastRule = rule.number;
                return -1;
            }
        }

        int sum(Rule rule, int side, int from, Map<String, Integer> names) {
            List<Term> terms = new ArrayList<>(rule.terms);
            terms.removeIf(t -> t == null);
            int a = term(terms.get(from), names);
            switch (rule.signs[side]) {
                case "+":
                    return a + term(terms.get(from + 1), names);
                case "-":
                    return a - term(terms.get(from + 1), names);
                case "*":
                    return a * term(terms.get(from + 1), names);
                case "/":
                    return a / term(terms.get(from + 1), names);
                case "%":
                    return a % term(terms.get(from + 1), names);
                default:
                    return a;
            }
        }

        int term(Term t, Map<String, Integer> names) {
            return t.name == null ? t.number : vals.get(names.get(t.name)).number;
        }
    }

    static final class Val {
        int what;
        int number;
        String text = "";
        int kind = -1;
        int size = 1;
        List<Integer> parts = new ArrayList<>();
    }

    // ---- random texts ----

    static final class Maker {
        final Random r;
        final StringBuilder s = new StringBuilder();
        List<Integer> under = new ArrayList<>();
        List<Boolean> sealed = new ArrayList<>();
        List<List<Integer>> parts = new ArrayList<>();
        List<List<Integer>> funs = new ArrayList<>();
        List<String> bound = new ArrayList<>();
        List<Integer> boundSorts = new ArrayList<>();
        int fresh;

        Maker(Random r) {
            this.r = r;
        }

        static String kindName(int k) {
            return String.valueOf((char) ('A' + k));
        }

        String sort(int sort) {
            return sort < 3 ? List.of("whole", "truth", "text").get(sort) : kindName(sort - 3);
        }

        boolean below(int k, int upper) {
            return k >= 0 && (k == upper || below(under.get(k), upper));
        }

        int anySort() {
            return parts.isEmpty() || r.nextInt(3) == 0 ? r.nextInt(3) : 3 + r.nextInt(parts.size());
        }

        String make() {
            int kinds = r.nextInt(8) == 0 ? 0 : 1 + r.nextInt(6);
            for (int k = 0; k < kinds; k++) {
                oneKind(k);
            }
            int count = 1 + r.nextInt(3);
            for (int f = 0; f < count; f++) {
                List<Integer> sorts = new ArrayList<>();
                int columns = 1 + r.nextInt(3);
                for (int c = 0; c < columns; c++) {
                    sorts.add(anySort());
                }
                funs.add(sorts);
            }
            for (int f = 0; f < count; f++) {
                oneFunction(f);
            }
            return s.toString();
        }

        void oneKind(int k) {
            s.append("kind ").append(kindName(k));
            int upper = k > 0 && r.nextInt(4) > 0 ? r.nextInt(k) : -1;
            if (upper >= 0 && !parts.get(upper).isEmpty()) {
                upper = -1;
            }
            under.add(upper);
            sealed.add(false);
            if (upper >= 0) {
                sealed.set(upper, true);
                s.append(" under ").append(kindName(upper));
            }
            List<Integer> mine = new ArrayList<>();
            parts.add(mine);
            if (k > 0 && r.nextInt(2) == 0) {
                int n = 1 + r.nextInt(r.nextInt(4) == 0 ? 4 : 2);
                for (int i = 0; i < n; i++) {
                    mine.add(anySort());
                    s.append(i == 0 ? "(" : ",").append(sort(mine.get(i)));
                }
                s.append(")");
            }
            s.append(";");
        }

        void oneFunction(int f) {
            s.append("sort f").append(f);
            List<Integer> sorts = funs.get(f);
            for (int c = 0; c < sorts.size(); c++) {
                s.append(c == 0 ? "(" : ",").append(sort(sorts.get(c)));
            }
            s.append("){");
            int rules = r.nextInt(6);
            for (int i = 0; i < rules; i++) {
                oneRule(sorts);
            }
            s.append("}");
        }

        void oneRule(List<Integer> sorts) {
            bound.clear();
            boundSorts.clear();
            fresh = 0;
            for (int c = 0; c < sorts.size(); c++) {
                s.append(c == 0 ? "" : ",");
                pattern(sorts.get(c), 0, true);
            }
            List<String> wholes = new ArrayList<>();
            for (int i = 0; i < bound.size(); i++) {
                if (boundSorts.get(i) == 0) {
                    wholes.add(bound.get(i));
                }
            }
            if (r.nextInt(3) == 0) {
                s.append(" if ");
                sum(wholes);
                s.append(List.of("<", "=", ">").get(r.nextInt(3)));
                sum(wholes);
            }
            s.append(":");
            answer(wholes);
            s.append(";");
        }

        void answer(List<String> wholes) {
            int f = r.nextInt(funs.size());
            List<String> args = new ArrayList<>();
            for (int sort : funs.get(f)) {
                for (int tries = 0; tries < 10 && !bound.isEmpty(); tries++) {
                    int i = r.nextInt(bound.size());
                    int given = boundSorts.get(i);
                    if (given == sort || given >= 3 && sort >= 3 && below(given - 3, sort - 3)) {
                        args.add(bound.get(i));
                        break;
                    }
                }
            }
            if (args.size() == funs.get(f).size() && r.nextInt(3) > 0) {
                s.append("f").append(f).append("(").append(String.join(",", args)).append(")");
            } else if (!wholes.isEmpty() && r.nextInt(2) == 0) {
                s.append(wholes.get(r.nextInt(wholes.size())));
            } else {
                number(9);
            }
        }

        void sum(List<String> wholes) {
            term(wholes);
            if (r.nextInt(2) == 0) {
                s.append("+-*/%".charAt(r.nextInt(5)));
                term(wholes);
            }
        }

        void term(List<String> wholes) {
            if (!wholes.isEmpty() && r.nextInt(3) > 0) {
                s.append(wholes.get(r.nextInt(wholes.size())));
            } else {
                number(r.nextInt(5) == 0 ? 999999999 : 3);
            }
        }

        void number(int most) {
            s.append(r.nextInt(3) == 0 ? "-" : "").append(r.nextInt(most + 1));
        }

        void name(int sort) {
            String name = "n" + fresh++;
            bound.add(name);
            boundSorts.add(sort);
            s.append(name);
        }

        void pattern(int sort, int depth, boolean naming) {
            int pick = r.nextInt(8);
            if (pick == 0 && naming && bound.size() < 8) {
                name(sort);
            } else if (pick <= 1) {
                s.append("_");
            } else if (pick == 2 && depth < 4) {
                either(sort, depth, naming);
            } else {
                tested(sort, depth, naming);
            }
            if (naming && bound.size() < 8 && r.nextInt(4) == 0) {
                s.append(" as ");
                name(sort);
            }
        }

        void either(int sort, int depth, boolean naming) {
            s.append("(");
            int n = 1 + r.nextInt(3);
            boolean named = naming && r.nextInt(3) == 0 && bound.size() < 8;
            String name = "m" + fresh++;
            for (int i = 0; i < n; i++) {
                s.append(i == 0 ? "" : "|");
                pattern(sort, depth + 1, false);
                if (named) {
                    s.append(" as ").append(name);
                }
            }
            s.append(")");
            if (named) {
                bound.add(name);
                boundSorts.add(sort);
            }
        }

        void tested(int sort, int depth, boolean naming) {
            switch (sort) {
                case 0:
                    int low = r.nextInt(9) - 4;
                    s.append(low);
                    if (r.nextInt(2) == 0) {
                        s.append("..").append(low + r.nextInt(4));
                    }
                    break;
                case 1:
                    s.append(r.nextBoolean());
                    break;
                case 2:
                    s.append(List.of("''", "'a'", "'ab'", "'zzzzzzzz'").get(r.nextInt(4)));
                    break;
                default:
                    kindTest(sort - 3, depth, naming);
                    break;
            }
        }

        void kindTest(int k, int depth, boolean naming) {
            List<Integer> can = new ArrayList<>();
            for (int other = 0; other < parts.size(); other++) {
                if (below(other, k) || r.nextInt(6) == 0 && below(k, other)) {
                    can.add(other);
                }
            }
            int pick = can.get(r.nextInt(can.size()));
            if (r.nextInt(6) == 0) {
                s.append("none");
                return;
            }
            s.append(kindName(pick));
            List<Integer> mine = parts.get(pick);
            if (!mine.isEmpty() && depth < 4 && r.nextInt(4) > 0) {
                for (int i = 0; i < mine.size(); i++) {
                    s.append(i == 0 ? "(" : ",");
                    pattern(mine.get(i), depth + 1, naming);
                }
                s.append(")");
            }
        }
    }

    /** Rules that bind many names of few letters in nested alternatives, most of them faulty. */
    static final class NameMaker {
        static final String HEAD = "kind S;kind A under S(whole,whole,whole,whole);kind B under S(S,S,truth);sort f(S,S,whole){";
        final Random r;
        final StringBuilder s = new StringBuilder(HEAD);
        final int letters;
        final int likeliness;
        int latest;

        NameMaker(Random r) {
            this.r = r;
            letters = 7 + r.nextInt(8);
            likeliness = 2 + r.nextInt(4);
        }

        String make() {
            for (int rule = r.nextInt(2); rule < 2; rule++) {
                pattern('S', 0);
                s.append(",");
                pattern('S', 0);
                s.append(",");
                pattern('w', 0);
                s.append(":1;");
            }
            return s.append("}").toString();
        }

        void pattern(char sort, int depth) {
            int from = s.length();
            int pick = r.nextInt(6);
            if (pick < 2 && depth < 4) {
                int n = 1 + r.nextInt(4);
                s.append("(");
                int first = s.length();
                pattern(sort, depth + 1);
                String same = s.substring(first);
                for (int i = 1; i < n; i++) {
                    s.append("|");
                    if (r.nextInt(3) > 0) {
                        s.append(turned(same));
                    } else {
                        pattern(sort, depth + 1);
                    }
                }
                s.append(")");
            } else if (sort == 'S' && pick < 5 && depth < 4) {
                parts(depth);
            } else {
                s.append(r.nextInt(likeliness) == 0 ? "_" : name());
            }
            if (s.length() > from && r.nextInt(likeliness) == 0) {
                s.append(" as ").append(name());
            }
        }

        /** The same pattern with two of its names changed for one another. */
        String turned(String pattern) {
            String one = String.valueOf((char) ('a' + r.nextInt(letters)));
            String other = String.valueOf((char) ('a' + r.nextInt(letters)));
            return one.equals(other) ? pattern
                : pattern.replace(" as ", "#").replace(one, "!").replace(other, one).replace("!", other).replace("#", " as ");
        }

        void parts(int depth) {
            String sorts = r.nextInt(3) > 0 ? "wwww" : "SSt";
            s.append(sorts.equals("SSt") ? "B" : "A");
            for (int i = 0; i < sorts.length(); i++) {
                s.append(i == 0 ? "(" : ",");
                pattern(sorts.charAt(i), depth + 1);
            }
            s.append(")");
        }

        /** Mostly the next letter, so that a rule comes to many names ahead of one that it binds already. */
        String name() {
            latest = r.nextInt(12) == 0 ? r.nextInt(letters) : (latest + 1) % letters;
            return String.valueOf((char) ('a' + latest));
        }
    }

    /** Promise 3: names alone, for random texts seldom bind as many as the limit. */
    private static void oneNameRun(long seed) {
        Random r = new Random(seed);
        LetterPost x = new LetterPost();
        for (int i = 0; i < 2; i++) {
            String text = new NameMaker(r).make();
            if (text.length() <= 1600) {
                int[] fault = new int[1];
                int want = modelRead(new Model(), text, fault);
                feedAll(x, text);
                int got = x.read();
                due("names of seed " + seed, "read " + text, got, want);
                due("names of seed " + seed, "fault " + text, x.fault(), fault[0]);
                String result = want >= 0 ? "read" : want == LetterPost.FULL ? "full" : "fault " + fault[0];
                nameResults.merge(result, 1, Integer::sum);
                if (got >= 0) {
                    return;
                }
            }
        }
    }

    private static String spoiled(Random r, String text) {
        StringBuilder s = new StringBuilder(text);
        String bytes = ";,(){}:|_<=>+-*/%.' \nabnfAB0129#";
        List<String> words = List.of("kind ", "under ", "sort ", " if ", " as ", "whole", "none", "true", "..", "'ab'", "n0",
            "f1", "f0(", "A", "(", ")", ",", "|", "-", "(1|2)", "12345678901", "abcdefghij", ":1;_", "_", "5..3", "(a|b)", "x as y", "-", "false",
            "((((((1))))))", "(1|2|3|4|5|6|7)", "Z", "B(", "n1", "m2", "f(n0)", "{", "}");
        int times = 1 + r.nextInt(2);
        for (int i = 0; i < times && s.length() > 0; i++) {
            int at = r.nextInt(s.length());
            switch (r.nextInt(5)) {
                case 0:
                    s.deleteCharAt(at);
                    break;
                case 1:
                    s.setCharAt(at, bytes.charAt(r.nextInt(bytes.length())));
                    break;
                case 2:
                    s.insert(at, words.get(r.nextInt(words.size())));
                    break;
                case 3:
                    s.setLength(at);
                    break;
                default:
                    int from = r.nextInt(s.length());
                    int to = Math.min(s.length(), from + 1 + r.nextInt(12));
                    s.insert(at, s.substring(from, to));
                    break;
            }
        }
        return s.length() > 1600 ? s.substring(0, 1600) : s.toString();
    }

    private static final Pattern PIECE =
        Pattern.compile("[a-z][a-z0-9]*|[A-Z][a-z0-9]*|[0-9]+|'[a-z]*'|\\.\\.|[^ \n]");
    private static final List<String> STRAYS = List.of("kind", "under", "sort", "if", "as", "whole", "truth", "text", "true",
        "false", "none", "n0", "n1", "m0", "q", "f0", "f9", "A", "B", "Z", "0", "7", "-", "..", "'a'", "_", "(", ")", "|",
        ",", ":", ";", "=", "%", "{", "}", ".", "?");

    private static int classOf(String piece) {
        char c = piece.charAt(0);
        return STRAYS.indexOf(piece) >= 0 && STRAYS.indexOf(piece) < 11 ? 0 : Character.isLowerCase(c) ? 1
            : Character.isUpperCase(c) ? 2 : Character.isDigit(c) ? 3 : c == '\'' ? 4 : 5;
    }

    /** A text with whole tokens changed, mostly for ones of the same class, so that few of its faults are 2. */
    private static String respelled(Random r, String text) {
        List<String> pieces = new ArrayList<>();
        Matcher found = PIECE.matcher(text);
        while (found.find()) {
            pieces.add(found.group());
        }
        int times = 1 + r.nextInt(3);
        for (int i = 0; i < times && !pieces.isEmpty(); i++) {
            int at = r.nextInt(pieces.size());
            for (int tries = 0; tries < 5 && classOf(pieces.get(at)) == 5; tries++) {
                at = r.nextInt(pieces.size());
            }
            respellOne(r, pieces, at);
        }
        StringBuilder s = new StringBuilder();
        for (String piece : pieces) {
            boolean words = s.length() > 0 && Character.isLetterOrDigit(s.charAt(s.length() - 1))
                && Character.isLetterOrDigit(piece.charAt(0));
            s.append(words || r.nextInt(20) == 0 ? r.nextInt(9) == 0 ? "\n" : " " : "").append(piece);
        }
        return s.length() > 1600 ? s.substring(0, 1600) : s.toString();
    }

    private static void respellOne(Random r, List<String> pieces, int at) {
        List<String> same = new ArrayList<>();
        for (String piece : pieces) {
            if (classOf(piece) == classOf(pieces.get(at))) {
                same.add(piece);
            }
        }
        switch (r.nextInt(16)) {
            case 0:
                pieces.remove(at);
                break;
            case 1:
                pieces.set(at, STRAYS.get(r.nextInt(STRAYS.size())));
                break;
            case 2:
                pieces.add(at, STRAYS.get(r.nextInt(STRAYS.size())));
                break;
            case 3:
                int from = r.nextInt(pieces.size());
                pieces.addAll(at, new ArrayList<>(pieces.subList(from, Math.min(pieces.size(), from + 1 + r.nextInt(9)))));
                break;
            default:
                pieces.set(at, same.get(r.nextInt(same.size())));
                break;
        }
    }

    /** Promises 3 and 4: texts with tokens changed, several on one object until one is read. */
    private static void oneRespelledRun(long seed) {
        Random r = new Random(~seed);
        LetterPost x = new LetterPost();
        String sound = new Maker(r).make();
        for (int i = 0; i < 4; i++) {
            String text = respelled(r, sound);
            Model m = new Model();
            int[] fault = new int[1];
            int want = modelRead(m, text, fault);
            String where = "respelled of seed " + seed;
            feedAll(x, text);
            int got = x.read();
            due(where, "read " + text, got, want);
            due(where, "fault " + text, x.fault(), fault[0]);
            respelledResults.merge(want >= 0 ? "read" : want == LetterPost.FULL ? "full" : "fault " + fault[0], 1, Integer::sum);
            compareKinds(where, x, m);
            if (got >= 0) {
                for (int f = 0; f < m.funs.size(); f++) {
                    compareTree(where + " " + text, x, m, f);
                }
                return;
            }
        }
    }

    // ---- comparing ----

    private static void feedAll(LetterPost x, String text) {
        int i = 0;
        while (i < text.length()) {
            int n = Math.min(8, text.length() - i);
            long w = 0;
            for (int k = 0; k < n; k++) {
                w = w << 8 | text.charAt(i + k) & 255;
            }
            x.feed(w, n);
            i += n;
        }
    }

    private static int modelRead(Model m, String text, int[] fault) {
        m.text = text;
        m.pos = 0;
        fault[0] = 0;
        try {
            m.readAll();
        } catch (Fault e) {
            fault[0] = e.code;
            m.kinds.clear();
            m.funs.clear();
            return -10 - e.at;
        }
        for (Fun f : m.funs) {
            if (m.remake(f, 0) < 0) {
                m.kinds.clear();
                m.funs.clear();
                return LetterPost.FULL;
            }
        }
        return m.funs.size();
    }

    private static void modelAdd(Model m, LetterPost x, String where, String text) {
        m.text = text;
        m.pos = 0;
        int size = m.kinds.size();
        int want = size;
        int fault = 0;
        try {
            m.readKind(true);
            m.take("END");
        } catch (Fault e) {
            want = -10 - e.at;
            fault = e.code;
            while (m.kinds.size() > size) {
                m.kinds.remove(size);
            }
        }
        feedAll(x, text);
        due(where, "add " + text, x.add(), want);
        due(where, "fault of " + text, x.fault(), fault);
    }

    private static void compareKinds(String where, LetterPost x, Model m) {
        due(where, "count(0)", x.count(0), m.kinds.size());
        for (int k = 0; k < m.kinds.size(); k++) {
            Kind kind = m.kinds.get(k);
            due(where, "under", x.kind(k, 0), kind.under < 0 ? LetterPost.NONE : kind.under);
            due(where, "sealed", x.kind(k, 1), kind.sealed ? 1 : 0);
            due(where, "parts", x.kind(k, 2), kind.parts.size());
            for (int i = 0; i < 4; i++) {
                due(where, "part", x.kind(k, 3 + i), i < kind.parts.size() ? kind.parts.get(i) : LetterPost.NONE);
            }
            due(where, "late", x.kind(k, 7), !m.funs.isEmpty() && k >= m.funs.get(0).kindsThen ? 1 : 0);
            due(where, "kindNamed", x.kindNamed(kind.name.charAt(0)), kind.name.length() > 1 ? x.kindNamed(kind.name.charAt(0)) : k);
        }
    }

    private static void compareTree(String where, LetterPost x, Model m, int f) {
        Fun fun = m.funs.get(f);
        due(where, "columns", x.function(f, 0), fun.sorts.size());
        due(where, "rules", x.function(f, 1), fun.rules.size());
        due(where, "rows", x.function(f, 2), fun.rows.size());
        due(where, "nodes", x.function(f, 3), fun.tree.size());
        due(where, "way", x.function(f, 4), fun.way);
        due(where, "depth", x.function(f, 5), fun.tree.get(0).depth);
        for (int c = 0; c < 3; c++) {
            due(where, "column", x.function(f, 6 + c), c < fun.sorts.size() ? fun.sorts.get(c) : LetterPost.NONE);
        }
        for (Node node : fun.tree) {
            int n = node.number;
            due(where, "node what", x.node(f, n, 0), node.what);
            due(where, "node rule", x.node(f, n, 1), node.row == null ? LetterPost.NONE : node.row.rule.number);
            due(where, "node branches", x.node(f, n, 2), node.branches.size());
            String[] steps = node.place == null ? new String[0] : node.place.split("\\.");
            due(where, "node depth", x.node(f, n, 3), steps.length == 0 ? LetterPost.NONE : steps.length - 1);
            due(where, "node last", x.node(f, n, 4), steps.length == 0 ? LetterPost.NONE : Integer.parseInt(steps[steps.length - 1]));
            for (int i = 0; i < node.branches.size(); i++) {
                due(where, "branch", x.branch(f, n, i), node.branches.get(i).number);
            }
            due(where, "branch beyond", x.branch(f, n, node.branches.size()), LetterPost.BAD);
        }
        due(where, "node beyond", x.node(f, fun.tree.size(), 0), LetterPost.BAD);
        due(where, "missing", x.missing(f), m.missing(fun));
        for (Rule rule : fun.rules) {
            due(where, "unreached", x.unreached(f, rule.number), m.unreached(fun, rule));
        }
        due(where, "unreached beyond", x.unreached(f, fun.rules.size()), LetterPost.BAD);
    }

    private static void addVal(String where, LetterPost x, Model m, Random r) {
        Val val = new Val();
        int want = m.vals.size() >= 160 ? LetterPost.FULL : m.vals.size();
        int pick = r.nextInt(m.kinds.isEmpty() ? 4 : 9);
        int got;
        switch (pick) {
            case 0:
                val.number = r.nextInt(12) == 0 ? r.nextInt() : r.nextInt(11) - 5;
                got = x.whole(val.number);
                break;
            case 1:
                val.what = 1;
                val.number = r.nextInt(2);
                got = x.truth(val.number * (r.nextInt(9) - 4) == 0 && val.number == 1 ? 7 : val.number);
                break;
            case 2:
                val.what = 2;
                val.text = List.of("", "a", "ab", "zzzzzzzz", "b").get(r.nextInt(5));
                long w = 0;
                for (char c : val.text.toCharArray()) {
                    w = w << 8 | c;
                }
                got = x.letters(w);
                break;
            case 3:
                val.what = 3;
                got = x.nothing();
                break;
            default:
                val.what = 4;
                // the newest kind oftener, for it may be a late one
                val.kind = r.nextInt(4) == 0 ? m.kinds.size() - 1 : r.nextInt(m.kinds.size() + 1);
                int[] parts = new int[4];
                for (int i = 0; i < 4; i++) {
                    parts[i] = pickPart(m, r, val.kind, i);
                }
                want = wantOfMake(m, val, parts, want);
                got = x.make(val.kind, parts[0], parts[1], parts[2], parts[3]);
                break;
        }
        due(where, "a value " + pick, got, want);
        if (want >= 0) {
            m.vals.add(val);
            compareVal(where, x, m, want);
        }
    }

    private static int pickPart(Model m, Random r, int kind, int i) {
        int v = r.nextInt(m.vals.size() + 2) - 1;
        if (kind < m.kinds.size() && i < m.kinds.get(kind).parts.size()) {
            for (int tries = 0; tries < 40 && !m.isOf(v, m.kinds.get(kind).parts.get(i)); tries++) {
                v = r.nextInt(m.vals.size() + 2) - 1;
            }
        }
        return v;
    }

    private static int wantOfMake(Model m, Val val, int[] parts, int room) {
        if (val.kind >= m.kinds.size() || m.kinds.get(val.kind).sealed) {
            return LetterPost.BAD;
        }
        List<Integer> sorts = m.kinds.get(val.kind).parts;
        for (int i = 0; i < sorts.size(); i++) {
            if (!m.isOf(parts[i], sorts.get(i))) {
                return LetterPost.BAD;
            }
            val.parts.add(parts[i]);
            val.size += m.vals.get(parts[i]).size;
        }
        return val.size > 60 ? LetterPost.FULL : room;
    }

    private static void compareVal(String where, LetterPost x, Model m, int v) {
        Val val = m.vals.get(v);
        int worth = val.what < 2 ? val.number : val.what == 2 ? val.text.length() : val.what == 3 ? LetterPost.NONE : val.kind;
        due(where, "value what", x.value(v, 0), val.what);
        due(where, "value worth", x.value(v, 1), worth);
        due(where, "value size", x.value(v, 2), val.size);
        for (int i = 0; i < 5; i++) {
            due(where, "value part", x.value(v, 3 + i), i < val.parts.size() ? val.parts.get(i) : LetterPost.NONE);
        }
        due(where, "value -1", x.value(v, -1), LetterPost.NONE);
        for (int other = 0; other <= v; other++) {
            due(where, "alike", x.alike(v, other), m.alike(v, other) ? 1 : 0);
        }
    }

    private static void compareSort(String where, LetterPost x, Model m, Random r, boolean trees) {
        int f = r.nextInt(m.funs.size());
        List<Integer> sorts = m.funs.get(f).sorts;
        int[] v = new int[3];
        boolean good = true;
        for (int c = 0; c < 3; c++) {
            v[c] = r.nextInt(m.vals.size() + 2) - 1;
            for (int tries = 0; tries < 60 && c < sorts.size() && !m.isOf(v[c], sorts.get(c)); tries++) {
                v[c] = r.nextInt(m.vals.size() + 2) - 1;
            }
            good &= c >= sorts.size() || m.isOf(v[c], sorts.get(c));
        }
        int want = LetterPost.BAD;
        if (good) {
            List<Integer> handed = new ArrayList<>();
            for (int c = 0; c < sorts.size(); c++) {
                handed.add(v[c]);
            }
            want = m.run(f, handed, trees);
        }
        String call = (trees ? "sort " : "plain ") + f + " " + v[0] + " " + v[1] + " " + v[2];
        due(where, call, trees ? x.sort(f, v[0], v[1], v[2]) : x.plain(f, v[0], v[1], v[2]), want);
        if (good) {
            outcomes[m.outcome]++;
            int[] told = {m.outcome, m.answer, m.begun, m.tests, m.guards.size(), m.lastFun, m.lastRule};
            for (int i = 0; i < 7; i++) {
                due(where, call + " told " + i, x.told(i), told[i]);
            }
            for (int i = 0; i < 34; i++) {
                due(where, call + " guard " + i, x.guard(i), i < m.guards.size() && i < 32 ? m.guards.get(i) : LetterPost.NONE);
            }
            for (int i = 0; i < 10; i++) {
                due(where, call + " bound " + i, x.bound(i), i < m.firstBound.size() ? m.firstBound.get(i) : LetterPost.NONE);
            }
        }
    }

    private static final int[] outcomes = new int[5];
    private static final Map<String, Integer> results = new HashMap<>();
    private static final Map<String, Integer> nameResults = new HashMap<>();
    private static final Map<String, Integer> respelledResults = new HashMap<>();

    private static void oneRun(long seed) {
        Random r = new Random(seed);
        LetterPost x = new LetterPost();
        Model m = new Model();
        String text = "";
        int want = -1;
        int[] fault = new int[1];
        for (int tries = 0; tries < 4 && want < 0; tries++) {
            text = new Maker(r).make();
            text = text.length() > 1600 ? text.substring(0, 1600) : text;
            if (tries > 0 && r.nextInt(2) == 0 || seed % 3 == 0) {
                text = spoiled(r, text);
            }
            m = new Model();
            want = modelRead(m, text, fault);
            feedAll(x, text);
            due("seed " + seed, "count(3)", x.count(3), text.length());
            due("seed " + seed, "read " + text, x.read(), want);
            due("seed " + seed, "fault " + text, x.fault(), fault[0]);
            due("seed " + seed, "count(1)", x.count(1), Math.max(0, want));
            results.merge(want >= 0 ? "read" : want == LetterPost.FULL ? "full" : "fault " + fault[0], 1, Integer::sum);
        }
        String where = "seed " + seed + " " + text;
        compareKinds(where, x, m);
        if (want < 0) {
            return;
        }
        for (int f = 0; f < m.funs.size(); f++) {
            compareTree(where, x, m, f);
        }
        for (int step = 0; step < 60; step++) {
            int pick = r.nextInt(12);
            if (pick < 5 || m.vals.isEmpty()) {
                addVal(where, x, m, r);
            } else if (pick < 10 && !m.funs.isEmpty()) {
                compareSort(where, x, m, r, r.nextInt(3) > 0);
            } else if (pick == 10 && !m.funs.isEmpty()) {
                int f = r.nextInt(m.funs.size());
                int way = r.nextInt(4);
                due(where, "remake " + f + " " + way, x.remake(f, way), m.remake(m.funs.get(f), way));
                compareTree(where, x, m, f);
            } else if (pick == 11 && r.nextInt(2) == 0) {
                addLate(where, x, m, r);
            }
        }
    }

    private static void addLate(String where, LetterPost x, Model m, Random r) {
        String name = String.valueOf((char) ('A' + r.nextInt(26)));
        String upper = String.valueOf((char) ('A' + r.nextInt(Math.min(26, m.kinds.size() + 2))));
        for (int k = r.nextInt(2); k < m.kinds.size(); k++) {
            upper = m.kinds.get(k).sealed ? m.kinds.get(k).name : upper;
        }
        String text = "kind " + name + " under " + upper + (r.nextInt(2) == 0 ? "" : "(whole," + upper + ")") + ";";
        modelAdd(m, x, where, r.nextInt(4) == 0 ? spoiled(r, text) : text);
        compareKinds(where, x, m);
        for (int f = 0; f < m.funs.size(); f++) {
            due(where, "missing behind add", x.missing(f), m.missing(m.funs.get(f)));
        }
    }

    public static void main(String[] args) {
        long runs = args.length > 0 ? Long.parseLong(args[0]) : 3000;
        long from = args.length > 1 ? Long.parseLong(args[1]) : 0;
        for (long seed = from; seed < from + runs; seed++) {
            oneRun(seed);
            oneRespelledRun(seed);
            for (int i = 0; i < 5; i++) {
                oneNameRun(seed * 5 + i);
            }
        }
        System.out.println(checked + " answers, outcomes " + java.util.Arrays.toString(outcomes) + ", texts " + results
            + ", texts of names " + nameResults + ", respelled " + respelledResults);
        System.out.println(wrong == 0 ? "all answers are as due" : wrong + " answers are not as due");
        if (wrong != 0) {
            System.exit(1);
        }
    }
}
