import java.math.BigInteger;
import java.util.ArrayList;
import java.util.List;

/** The digest by the words of promise 31, from the other calls. */
final class Hash {
    private Hash() {
    }

    static long of(SealedSpots x, boolean snapshot, String buffer) {
        BigInteger hash = BigInteger.valueOf(3797);
        for (long value : values(x, snapshot, buffer)) {
            hash = hash.multiply(BigInteger.valueOf(31)).add(BigInteger.valueOf(value));
        }
        return hash.longValue();
    }

    private static List<Long> values(SealedSpots x, boolean snapshot, String buffer) {
        List<Long> values = new ArrayList<>();
        for (int what = 0; what <= 14; what++) {
            values.add((long) x.count(what));
        }
        for (int setting = 0; setting <= 2; setting++) {
            values.add((long) x.setting(setting));
        }
        for (int spot = 0; spot < 6; spot++) {
            for (int what = 0; what < 6; what++) {
                values.add((long) x.spot(spot, what));
            }
            values.add((long) x.ifOpened(spot, 0));
            values.add((long) x.ifOpened(spot, 1));
        }
        for (int i = 0; i < 36; i++) {
            values.add((long) x.bidder(i / 6, i % 6));
        }
        for (int i = 0; i < 180; i++) {
            values.add((long) x.sealed(i / 30, i / 5 % 6, i % 5));
        }
        for (int i = 0; i < 14; i++) {
            values.add((long) x.worth(i / 2, i % 2));
        }
        values.add((long) x.ifBid(1, 2, 20, 0));
        values.add((long) x.ifBid(1, 2, 20, 1));
        values.add((long) x.least(0, 0));
        values.add((long) x.keenest());
        values.add(Double.doubleToLongBits(x.chestShare()));
        values.add((long) Float.floatToIntBits(x.meanPrice()));
        values.add(snapshot ? 1L : 0L);
        values.add((long) buffer.length());
        for (int i = 0; i < buffer.length(); i++) {
            values.add((long) buffer.charAt(i));
        }
        return values;
    }
}
