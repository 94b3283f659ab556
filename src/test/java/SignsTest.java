import java.util.Random;

/**
 * Promises 4 and 5: each of the 256 bytes at each place of many texts, the answers beside the model's.
 * Random runs seldom put one certain byte on one certain place; here none is left out.
 */
public final class SignsTest {
    private static final int WOODS = 60;
    private static final String[] FULL = {
        "FG000G051G11-G100",
        "FX00X01X02X03X04X05X06X07X08X09X10X11",
        "FX00X01X02X03X04X05X06X07X08X09X10G11-",
        "FT1000T1111T0002T0113T0204T0314W01W10W25W52",
        "FT0000T0100W01W10T0200W02W12W20W21",
        "FT0000G00-X01T0113W01G021X10T1004W12"};
    private static final TrapsWatchTraps[] IN_USE = {new TrapsWatchTraps()};
    private static int calls = 0;

    private SignsTest() {
    }

    public static void main(String[] args) {
        for (String text : FULL) {
            Due.dueTrue(text + " is a wood", WoodModel.parse(text) != null);
            everySignOf(text);
        }
        Random random = new Random(7);
        for (int i = 0; i < WOODS; i++) everySignOf(wood(random));
        Due.end();
    }

    private static String wood(Random random) {
        String text = "F";
        for (int i = 0; i < 20; i++) {
            String more = text + WoodModel.PARTS.get(random.nextInt(WoodModel.PARTS.size()));
            if (more.length() <= 64 && WoodModel.parse(more) != null) text = more;
        }
        return text;
    }

    /** Every start of a wood, with every byte behind it. */
    private static void everySignOf(String text) {
        for (int n = 0; n <= text.length() && n < 64; n++) {
            for (int sign = 0; sign < 256; sign++) one(text.substring(0, n) + (char) sign);
        }
    }

    private static void one(String text) {
        int last = text.length() - 1;
        WoodModel.World told = WoodModel.parse(text);
        int fault = told != null ? WoodModel.NONE : WoodModel.canBecome(text) ? last + 1 : last;
        int wood = told == null ? WoodModel.STATE : 10 * told.traps.size() + told.walkers.size();
        TrapsWatchTraps x = object();
        Due.tell(x, text);
        String name = text.substring(0, last) + " and byte " + (int) text.charAt(last);
        Due.due("fault of " + name, x.fault(), fault);
        Due.due("wood of " + name, x.wood(), wood);
        // A fault stays where it was, whatever comes behind it.
        if (fault == last && text.length() < 64) {
            x.write(1, 'F');
            Due.due("fault ahead of the end of " + name + ", F", x.fault(), fault);
        }
    }

    /** One object for some texts, as it promises no more than 512 calls. */
    private static TrapsWatchTraps object() {
        calls++;
        if (calls % 32 == 0) IN_USE[0] = new TrapsWatchTraps();
        return IN_USE[0];
    }
}
