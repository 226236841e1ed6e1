import java.util.ArrayList;
import java.util.List;
import java.util.TreeSet;

/**
 * The document once more, told as slowly as its words go: all sums are made anew each time,
 * each kept size is an entry of its own, and files that are due come back in a step of each day.
 */
final class PlainServer {
    private static final class Dir {
        int parent;
        int quota;
    }

    private static final class Item {
        int department;
        int size;
        int lastUse;
        int backOn = -1;
        final List<Integer> links = new ArrayList<>();
        final TreeSet<Integer> matters = new TreeSet<>();
        final List<Integer> keptSizes = new ArrayList<>();

        boolean gone() {
            return links.isEmpty();
        }
    }

    private final List<Dir> dirs = new ArrayList<>();
    private final List<Item> items = new ArrayList<>();
    private final int[] purse = {100, 100, 100, 100};
    private int today;

    PlainServer() {
        Dir root = new Dir();
        root.parent = -1;
        root.quota = -1;
        dirs.add(root);
    }

    int directories() {
        return dirs.size();
    }

    int files() {
        return items.size();
    }

    int call(String name, int a, int b, int c) {
        switch (name) {
            case "addDirectory": return addDirectory(a, b);
            case "setQuota": return setQuota(a, b);
            case "make": return make(a, b, c);
            case "link": return link(a, b);
            case "unlink": return unlink(a, b);
            case "write": return write(a, b);
            case "read": return read(a);
            case "hold": return hold(a, b);
            case "release": return release(a);
            case "fund": return fund(a, b);
            case "pass": return pass(a);
            case "day": return today;
            case "directories": return dirs.size();
            case "files": return items.size();
            case "usage": return usageOf(index(a, dirs.size()));
            case "usageByWalking": return usageOf(index(a, dirs.size()));
            case "size": return sizeOf(items.get(index(a, items.size())));
            case "home": return homeOf(items.get(index(a, items.size())));
            case "kept": return keptOf(items.get(index(a, items.size())));
            case "holders": return bitsOf(items.get(index(a, items.size())));
            case "tier": return tierOf(items.get(index(a, items.size())));
            case "coins": return purse[index(a, 4)];
            case "bill": return billOf(index(a, 4));
            default: throw new AssertionError("no call is named " + name);
        }
    }

    private int addDirectory(int parent, int quota) {
        index(parent, dirs.size());
        argument(quota >= -1 && quota <= 100000);
        state(dirs.size() < 12);
        Dir dir = new Dir();
        dir.parent = parent;
        dir.quota = quota;
        dirs.add(dir);
        return dirs.size() - 1;
    }

    private int setQuota(int directory, int quota) {
        index(directory, dirs.size());
        argument(quota >= -1 && quota <= 100000);
        int before = dirs.get(directory).quota;
        dirs.get(directory).quota = quota;
        return before;
    }

    private int make(int department, int directory, int size) {
        index(department, 4);
        index(directory, dirs.size());
        argument(size >= 1 && size <= 1000);
        state(items.size() < 30);
        state(growthPossible(department, directory, size));
        Item item = new Item();
        item.department = department;
        item.size = size;
        item.lastUse = today;
        item.links.add(directory);
        items.add(item);
        return items.size() - 1;
    }

    private int link(int file, int directory) {
        index(file, items.size());
        index(directory, dirs.size());
        Item item = items.get(file);
        state(!item.gone() && !item.links.contains(directory));
        item.links.add(directory);
        return item.links.size();
    }

    private int unlink(int file, int directory) {
        index(file, items.size());
        index(directory, dirs.size());
        Item item = items.get(file);
        state(item.links.remove(Integer.valueOf(directory)));
        if (item.gone() && !item.matters.isEmpty()) {
            item.keptSizes.add(item.size);
        }
        return item.links.size();
    }

    private int write(int file, int size) {
        index(file, items.size());
        argument(size >= 1 && size <= 1000);
        Item item = items.get(file);
        state(!item.gone());
        state(tierOf(item) != 2);
        state(size <= item.size || growthPossible(item.department, item.links.get(0), size - item.size));
        if (!item.matters.isEmpty()) {
            item.keptSizes.add(item.size);
        }
        item.size = size;
        item.lastUse = today;
        return keptOf(item);
    }

    private int read(int file) {
        index(file, items.size());
        Item item = items.get(file);
        state(!item.gone());
        if (tierOf(item) < 2) {
            item.lastUse = today;
            return 0;
        }
        if (item.backOn < 0) {
            int cost = item.size / 10 + (item.size % 10 == 0 ? 0 : 1);
            state(purse[item.department] >= cost);
            purse[item.department] -= cost;
            item.backOn = today + 2;
        }
        return item.backOn - today;
    }

    private int hold(int matter, int file) {
        index(matter, 5);
        index(file, items.size());
        Item item = items.get(file);
        state(!item.gone());
        item.matters.add(matter);
        return item.matters.size();
    }

    private int release(int matter) {
        index(matter, 5);
        int before = keptOfAll();
        for (Item item : items) {
            item.matters.remove(matter);
            if (item.matters.isEmpty()) {
                item.keptSizes.clear();
            }
        }
        return before - keptOfAll();
    }

    private int fund(int department, int coins) {
        index(department, 4);
        argument(coins >= 1 && coins <= 10000);
        state(purse[department] + coins <= 1000000);
        purse[department] += coins;
        return purse[department];
    }

    private int pass(int days) {
        argument(days >= 1 && days <= 100);
        state(today + days <= 10000);
        int paid = 0;
        for (int i = 0; i < days; i++) {
            for (int department = 0; department < 4; department++) {
                int bill = billOf(department);
                int payment = bill < purse[department] ? bill : purse[department];
                purse[department] -= payment;
                paid += payment;
            }
            today++;
            for (Item item : items) {
                if (item.backOn == today) {
                    item.lastUse = today;
                    item.backOn = -1;
                }
            }
        }
        return paid;
    }

    /** The same text as Sight.of gives of a HoldServer in the same state. */
    String sight() {
        StringBuilder text = new StringBuilder("day " + today);
        for (int d = 0; d < dirs.size(); d++) {
            text.append("; directory " + d + ": " + usageOf(d) + " " + usageOf(d));
        }
        for (int f = 0; f < items.size(); f++) {
            Item item = items.get(f);
            text.append("; file " + f + ": " + sizeOf(item) + " " + homeOf(item) + " " + keptOf(item)
                + " " + bitsOf(item) + " " + tierOf(item));
        }
        for (int p = 0; p < 4; p++) {
            text.append("; department " + p + ": " + purse[p] + " " + billOf(p));
        }
        return text.toString();
    }

    private boolean growthPossible(int department, int home, int growth) {
        if (purse[department] == 0) {
            return false;
        }
        for (int d = home; d != -1; d = dirs.get(d).parent) {
            int quota = dirs.get(d).quota;
            if (quota != -1 && usageOf(d) + growth > quota) {
                return false;
            }
        }
        return true;
    }

    private int usageOf(int directory) {
        int sum = 0;
        for (Item item : items) {
            for (int d = item.gone() ? -1 : item.links.get(0); d != -1; d = dirs.get(d).parent) {
                if (d == directory) {
                    sum += item.size;
                }
            }
        }
        return sum;
    }

    private static int sizeOf(Item item) {
        return item.gone() ? 0 : item.size;
    }

    private static int homeOf(Item item) {
        return item.gone() ? -1 : item.links.get(0);
    }

    private static int bitsOf(Item item) {
        int bits = 0;
        for (int matter : item.matters) {
            bits += 1 << matter;
        }
        return bits;
    }

    private int tierOf(Item item) {
        if (item.gone()) {
            return -1;
        }
        int ago = today - item.lastUse;
        return ago < 30 ? 0 : ago < 90 ? 1 : 2;
    }

    private static int keptOf(Item item) {
        int sum = 0;
        for (int size : item.keptSizes) {
            sum += size;
        }
        return sum;
    }

    private int keptOfAll() {
        int sum = 0;
        for (Item item : items) {
            sum += keptOf(item);
        }
        return sum;
    }

    private int billOf(int department) {
        int sum = 0;
        for (Item item : items) {
            if (item.department == department) {
                int tier = tierOf(item);
                sum += keptOf(item) + (tier == -1 ? 0 : item.size * (3 - tier));
            }
        }
        return sum / 100 + (sum % 100 == 0 ? 0 : 1);
    }

    private static int index(int number, int count) {
        if (number < 0 || number >= count) {
            throw new IndexOutOfBoundsException();
        }
        return number;
    }

    private static void argument(boolean fine) {
        if (!fine) {
            throw new IllegalArgumentException();
        }
    }

    private static void state(boolean fine) {
        if (!fine) {
            throw new IllegalStateException();
        }
    }
}
