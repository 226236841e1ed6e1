import java.util.ArrayList;

/**
 * A file server of four departments: nested directories with quotas, files with links,
 * holds, tiers by last use, and budgets that pay by the day.
 *
 * No list in this file ever holds null, so what is taken out of one is used as it is.
 */
public final class HoldServer {
    private static final int DEPARTMENTS = 4;
    private static final int MATTERS = 5;
    private static final int MOST_DIRECTORIES = 12;
    private static final int MOST_FILES = 30;

    private static final int NO_QUOTA = -1;
    private static final int LARGEST_QUOTA = 100000;
    private static final int LARGEST_SIZE = 1000;

    private static final int FIRST_COINS = 100;
    private static final int MOST_COINS = 1000000;
    private static final int LARGEST_FUNDING = 10000;
    private static final int BILLED_PER_COIN = 100;

    private static final int MOST_DAYS_AT_ONCE = 100;
    private static final int LAST_DAY = 10000;

    private static final int NO_TIER = -1;
    private static final int COLD_TIER = 2;
    private static final int DAYS_OF_TIER_0 = 30;
    private static final int DAYS_TO_COLD_TIER = 90;
    private static final int DAYS_TO_BRING_BACK = 2;
    private static final int BROUGHT_BACK_PER_COIN = 10;

    private final ArrayList<Directory> directories = new ArrayList<Directory>();
    private final ArrayList<StoredFile> files = new ArrayList<StoredFile>();
    private final ArrayList<Department> departments = new ArrayList<Department>();
    private int day;

    public HoldServer() {
        directories.add(new Directory(0, null, NO_QUOTA));
        for (int i = 0; i < DEPARTMENTS; i++) {
            departments.add(new Department());
        }
    }

    // ---- directories

    public int addDirectory(int parent, int quota)
            throws IndexOutOfBoundsException, IllegalArgumentException, IllegalStateException {
        Directory above = directoryNumbered(parent);
        requireBetween(NO_QUOTA, quota, LARGEST_QUOTA);
        int number = directories.size();
        if (number >= MOST_DIRECTORIES) {
            throw new IllegalStateException("there is no room for another directory");
        }
        directories.add(new Directory(number, above, quota));
        return number;
    }

    public int setQuota(int directory, int quota)
            throws IndexOutOfBoundsException, IllegalArgumentException {
        Directory changed = directoryNumbered(directory);
        requireBetween(NO_QUOTA, quota, LARGEST_QUOTA);
        int before = changed.quota;
        changed.quota = quota;
        return before;
    }

    // ---- files

    public int make(int department, int directory, int size)
            throws IndexOutOfBoundsException, IllegalArgumentException, IllegalStateException {
        Department owner = departmentNumbered(department);
        Directory home = directoryNumbered(directory);
        requireBetween(1, size, LARGEST_SIZE);
        int number = files.size();
        if (number >= MOST_FILES) {
            throw new IllegalStateException("there is no room for another file");
        }
        requireGrowthPossible(owner, home, size);
        StoredFile file = new StoredFile(owner, size, day);
        file.links.add(home);
        home.addUsage(size);
        owner.ownFiles.add(file);
        files.add(file);
        return number;
    }

    public int link(int file, int directory)
            throws IndexOutOfBoundsException, IllegalStateException {
        StoredFile linked = fileNumbered(file);
        Directory target = directoryNumbered(directory);
        requireNotGone(linked);
        if (linked.placeOfLinkTo(target) >= 0) {
            throw new IllegalStateException("the file has a link to the directory");
        }
        linked.links.add(target);
        return linked.links.size();
    }

    public int unlink(int file, int directory)
            throws IndexOutOfBoundsException, IllegalStateException {
        StoredFile unlinked = fileNumbered(file);
        Directory left = directoryNumbered(directory);
        Directory homeBefore = unlinked.firstLink();
        if (homeBefore == null || !unlinked.removeLinkTo(left)) {
            throw new IllegalStateException("the file has no link to the directory");
        }
        homeBefore.addUsage(-unlinked.size);
        Directory homeNow = unlinked.firstLink();
        if (homeNow == null) {
            unlinked.replaceSize(0);
        } else {
            homeNow.addUsage(unlinked.size);
        }
        return unlinked.links.size();
    }

    public int write(int file, int size)
            throws IndexOutOfBoundsException, IllegalArgumentException, IllegalStateException {
        StoredFile written = fileNumbered(file);
        requireBetween(1, size, LARGEST_SIZE);
        Directory home = written.firstLink();
        if (home == null || written.tierOn(day) == COLD_TIER) {
            throw new IllegalStateException("the file is gone or has to be brought back");
        }
        int growth = size - written.size;
        if (growth > 0) {
            requireGrowthPossible(written.owner, home, growth);
        }
        home.addUsage(growth);
        written.replaceSize(size);
        written.usedOn = day;
        return written.kept;
    }

    public int read(int file) throws IndexOutOfBoundsException, IllegalStateException {
        StoredFile wanted = fileNumbered(file);
        requireNotGone(wanted);
        if (wanted.tierOn(day) != COLD_TIER) {
            wanted.usedOn = day;
        } else if (!wanted.isComingBackOn(day)) {
            startBringingBack(wanted);
        }
        return wanted.usedOn - day;
    }

    // ---- holds, budgets, days

    public int hold(int matter, int file)
            throws IndexOutOfBoundsException, IllegalStateException {
        int bit = bitOfMatter(matter);
        StoredFile held = fileNumbered(file);
        requireNotGone(held);
        held.holders |= bit;
        return Integer.bitCount(held.holders);
    }

    public int release(int matter) throws IndexOutOfBoundsException {
        int bit = bitOfMatter(matter);
        int dropped = 0;
        for (int i = 0; i < files.size(); i++) {
            dropped += files.get(i).releaseFrom(bit);
        }
        return dropped;
    }

    public int fund(int department, int coins)
            throws IndexOutOfBoundsException, IllegalArgumentException, IllegalStateException {
        Department funded = departmentNumbered(department);
        requireBetween(1, coins, LARGEST_FUNDING);
        if (funded.coins + coins > MOST_COINS) {
            throw new IllegalStateException("the department would have too many coins");
        }
        funded.coins += coins;
        return funded.coins;
    }

    public int pass(int days) throws IllegalArgumentException, IllegalStateException {
        requireBetween(1, days, MOST_DAYS_AT_ONCE);
        if (day + days > LAST_DAY) {
            throw new IllegalStateException("the day would be above the last one");
        }
        int paid = 0;
        for (int i = 0; i < days; i++) {
            paid += payBills();
            day++;
        }
        return paid;
    }

    // ---- what there is; nothing from here on changes anything

    public int day() {
        return day;
    }

    public int directories() {
        return directories.size();
    }

    public int files() {
        return files.size();
    }

    public int usage(int directory) throws IndexOutOfBoundsException {
        return directoryNumbered(directory).usage;
    }

    public int usageByWalking(int directory) throws IndexOutOfBoundsException {
        Directory top = directoryNumbered(directory);
        int sum = 0;
        for (int i = 0; i < files.size(); i++) {
            StoredFile file = files.get(i);
            Directory home = file.firstLink();
            if (home != null && home.hasOnItsWay(top)) {
                sum += file.size;
            }
        }
        return sum;
    }

    public int size(int file) throws IndexOutOfBoundsException {
        return fileNumbered(file).size;
    }

    public int home(int file) throws IndexOutOfBoundsException {
        Directory home = fileNumbered(file).firstLink();
        return home == null ? -1 : home.number;
    }

    public int kept(int file) throws IndexOutOfBoundsException {
        return fileNumbered(file).kept;
    }

    public int holders(int file) throws IndexOutOfBoundsException {
        return fileNumbered(file).holders;
    }

    public int tier(int file) throws IndexOutOfBoundsException {
        return fileNumbered(file).tierOn(day);
    }

    public int coins(int department) throws IndexOutOfBoundsException {
        return departmentNumbered(department).coins;
    }

    public int bill(int department) throws IndexOutOfBoundsException {
        return departmentNumbered(department).billOn(day);
    }

    // ---- what the calls above share

    private Directory directoryNumbered(int number) {
        if (number < 0 || number >= directories.size()) {
            throw new IndexOutOfBoundsException("there is no such directory");
        }
        return directories.get(number);
    }

    private StoredFile fileNumbered(int number) {
        if (number < 0 || number >= files.size()) {
            throw new IndexOutOfBoundsException("there is no such file");
        }
        return files.get(number);
    }

    private Department departmentNumbered(int number) {
        if (number < 0 || number >= departments.size()) {
            throw new IndexOutOfBoundsException("there is no such department");
        }
        return departments.get(number);
    }

    private static int bitOfMatter(int matter) {
        if (matter < 0 || matter >= MATTERS) {
            throw new IndexOutOfBoundsException("there is no such matter");
        }
        return 1 << matter;
    }

    private static void requireBetween(int least, int value, int most) {
        if (value < least || value > most) {
            throw new IllegalArgumentException("a number is out of range");
        }
    }

    private static void requireNotGone(StoredFile file) {
        if (file.isGone()) {
            throw new IllegalStateException("the file is gone");
        }
    }

    private static void requireGrowthPossible(Department owner, Directory home, int growth) {
        if (owner.coins == 0 || !home.hasRoomFor(growth)) {
            throw new IllegalStateException("the growth is not possible");
        }
    }

    private void startBringingBack(StoredFile file) {
        int cost = file.costToBringBack();
        if (file.owner.coins < cost) {
            throw new IllegalStateException("the department has too few coins to bring it back");
        }
        file.owner.coins -= cost;
        file.usedOn = day + DAYS_TO_BRING_BACK;
    }

    private int payBills() {
        int paid = 0;
        for (int i = 0; i < departments.size(); i++) {
            Department payer = departments.get(i);
            int payment = Math.min(payer.billOn(day), payer.coins);
            payer.coins -= payment;
            paid += payment;
        }
        return paid;
    }

    private static final class Directory {
        final int number;
        final Directory parent;
        int quota;
        int usage;

        Directory(int number, Directory parent, int quota) {
            this.number = number;
            this.parent = parent;
            this.quota = quota;
        }

        boolean hasRoomFor(int growth) {
            for (Directory d = this; d != null; d = d.parent) {
                if (d.quota != NO_QUOTA && d.usage + growth > d.quota) {
                    return false;
                }
            }
            return true;
        }

        void addUsage(int change) {
            for (Directory d = this; d != null; d = d.parent) {
                d.usage += change;
            }
        }

        boolean hasOnItsWay(Directory other) {
            for (Directory d = this; d != null; d = d.parent) {
                if (d == other) {
                    return true;
                }
            }
            return false;
        }
    }

    private static final class StoredFile {
        final Department owner;
        final ArrayList<Directory> links = new ArrayList<Directory>();
        // 0 once the file is gone, since that is what is told of it then
        int size;
        int holders;
        int kept;
        // A day still to come while the file is being brought back: it will be used
        // on that day, and so needs no step of its own when that day has come.
        int usedOn;

        StoredFile(Department owner, int size, int usedOn) {
            this.owner = owner;
            this.size = size;
            this.usedOn = usedOn;
        }

        boolean isGone() {
            return links.isEmpty();
        }

        Directory firstLink() {
            return links.isEmpty() ? null : links.get(0);
        }

        int placeOfLinkTo(Directory directory) {
            for (int i = 0; i < links.size(); i++) {
                if (links.get(i) == directory) {
                    return i;
                }
            }
            return -1;
        }

        boolean removeLinkTo(Directory directory) {
            int place = placeOfLinkTo(directory);
            if (place < 0 || place >= links.size()) {
                return false;
            }
            links.remove(place);
            return true;
        }

        void replaceSize(int newSize) {
            if (holders != 0) {
                kept += size;
            }
            size = newSize;
        }

        int releaseFrom(int bit) {
            holders &= ~bit;
            if (holders != 0) {
                return 0;
            }
            int dropped = kept;
            kept = 0;
            return dropped;
        }

        boolean isComingBackOn(int day) {
            return usedOn > day;
        }

        int costToBringBack() {
            return (size + BROUGHT_BACK_PER_COIN - 1) / BROUGHT_BACK_PER_COIN;
        }

        int tierOn(int day) {
            if (isGone()) {
                return NO_TIER;
            }
            int age = day - usedOn;
            if (isComingBackOn(day) || age >= DAYS_TO_COLD_TIER) {
                return COLD_TIER;
            }
            return age < DAYS_OF_TIER_0 ? 0 : 1;
        }

        int billedOn(int day) {
            int perSize = isGone() ? 0 : 3 - tierOn(day);
            return perSize * size + kept;
        }
    }

    private static final class Department {
        final ArrayList<StoredFile> ownFiles = new ArrayList<StoredFile>();
        int coins = FIRST_COINS;

        int billOn(int day) {
            int sum = 0;
            for (int i = 0; i < ownFiles.size(); i++) {
                sum += ownFiles.get(i).billedOn(day);
            }
            return (sum + BILLED_PER_COIN - 1) / BILLED_PER_COIN;
        }
    }
}
