import java.util.ArrayList;
import java.util.List;
import java.util.Random;

/** Makes input texts: mostly right ones with busy railways, some with a fault somewhere. */
final class RandomText {
    private static final String[] NAMES = {"a", "b", "c", "d", "ee", "fff", "gggg", "stop", "run", "x"};
    private static final String[] WASTE = {
        ";", "a", "stop", "9", "0", "-", "abcde", "10", "61", "00000000000000000000007", "close", "A", "\t", "{",
        "99999999999999999999", "\u00e9", "\u0000", "`", "/", ":", "request", "track", "train", "parcel", "zzzz"};

    private final Random random;
    private final List<String> statements = new ArrayList<>();
    private final List<String> names = new ArrayList<>();
    private final List<String[]> tracks = new ArrayList<>();

    RandomText(Random random) {
        this.random = random;
    }

    String make() {
        int stations = random.nextInt(50) == 0 ? 9 : random.nextInt(10) == 0 ? random.nextInt(3) : 3 + random.nextInt(6);
        for (int i = 0; i < stations; i++) {
            names.add(NAMES[i]);
            statements.add((random.nextInt(3) == 0 ? "stop " : "request ") + NAMES[i]);
        }
        addTracks();
        addTrains();
        int rest = random.nextInt(22);
        for (int i = 0; i < rest; i++) {
            addAny();
        }
        StringBuilder text = new StringBuilder();
        for (String s : statements) {
            text.append(s).append(random.nextInt(8) == 0 ? " ;\n" : ";");
        }
        return random.nextInt(4) == 0 ? spoil(text) : text.toString();
    }

    private String name() {
        return names.get(random.nextInt(names.size()));
    }

    private void addTracks() {
        int count = names.size() < 2 ? 0 : random.nextInt(40) == 0 ? 13 : names.size() - 1 + random.nextInt(4);
        for (int i = 0; i < count; i++) {
            String from = i < names.size() - 1 ? names.get(i) : name();
            String to = i < names.size() - 1 ? names.get(i + 1) : name();
            boolean known = from.equals(to) && random.nextInt(30) > 0;
            for (String[] t : tracks) {
                known |= t[0].equals(from) && t[1].equals(to) || t[0].equals(to) && t[1].equals(from);
            }
            if (!known || random.nextInt(60) == 0) {
                tracks.add(new String[] {from, to});
                statements.add("track " + from + " " + to + " " + (1 + random.nextInt(random.nextInt(3) == 0 ? 9 : 3)));
            }
        }
    }

    private void addTrains() {
        int count = tracks.isEmpty() ? 0 : random.nextInt(60) == 0 ? 5 : 1 + random.nextInt(4);
        for (int i = 0; i < count; i++) {
            int length = random.nextInt(120) == 0 ? 7 : 2 + random.nextInt(5);
            StringBuilder route = new StringBuilder("train " + (1 + random.nextInt(4)));
            String at = name();
            String before = "";
            route.append(' ').append(at);
            int found = 1;
            for (int tries = 0; tries < 60 && found < length; tries++) {
                String[] t = tracks.get(random.nextInt(tracks.size()));
                String next = t[0].equals(at) ? t[1] : t[1].equals(at) ? t[0] : null;
                if (next != null && (!next.equals(before) || random.nextInt(6) == 0)) {
                    route.append(' ').append(next);
                    before = at;
                    at = next;
                    found++;
                }
            }
            if (found > 1) {
                statements.add(route.toString());
            }
        }
    }

    private void addAny() {
        int kind = random.nextInt(20);
        if (kind < 12 && names.size() > 1) {
            String from = name();
            String to = name();
            if (!from.equals(to) || random.nextInt(30) == 0) {
                statements.add("parcel " + from + " " + to + " " + (1 + random.nextInt(9)));
            }
        } else if (kind < 15 && !names.isEmpty()) {
            statements.add("inspect " + name() + " " + random.nextInt(10));
        } else if (kind < 16 && !tracks.isEmpty()) {
            String[] t = tracks.get(random.nextInt(tracks.size()));
            statements.add("close " + t[1] + " " + t[0]);
        } else if (kind > 17) {
            statements.add("run " + (random.nextInt(3) == 0 ? random.nextInt(61) : random.nextInt(10)));
        }
    }

    private String spoil(StringBuilder text) {
        String[] tokens = text.toString().replace(";", " ; ").trim().split("[ \n]+");
        int at = random.nextInt(tokens.length);
        String waste = WASTE[random.nextInt(WASTE.length)];
        switch (random.nextInt(4)) {
            case 0:
                tokens[at] = "";
                break;
            case 1:
                tokens[at] = waste;
                break;
            case 2:
                tokens[at] = tokens[at] + " " + waste;
                break;
            default:
                tokens[at] = tokens[at] + waste;
                break;
        }
        String joined = String.join(" ", tokens);
        return random.nextInt(5) == 0 ? joined.substring(0, random.nextInt(joined.length() + 1)) : joined;
    }
}
