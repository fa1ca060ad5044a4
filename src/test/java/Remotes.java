import java.math.BigInteger;

/** The sender's side: enciphers and sends frames, written apart from the class that it tests. */
final class Remotes {
    private Remotes() {
    }

    /** E(s, x) in the words of the document, on numbers without a limit. */
    static long e(long secret, long x) {
        BigInteger s = new BigInteger(Long.toUnsignedString(secret));
        BigInteger bits16 = BigInteger.valueOf(65535);
        BigInteger left = BigInteger.valueOf(x).shiftRight(16).and(bits16);
        BigInteger right = BigInteger.valueOf(x).and(bits16);
        for (int k = 0; k <= 15; k++) {
            BigInteger p = s.shiftRight(16 * (k % 4)).and(bits16);
            BigInteger f = right.multiply(BigInteger.valueOf(40503))
                    .add(p.multiply(BigInteger.valueOf(2 * k + 1)))
                    .xor(right.divide(BigInteger.valueOf(32)))
                    .xor(p.multiply(BigInteger.valueOf(8)))
                    .and(bits16);
            BigInteger was = left;
            left = right;
            right = was.xor(f);
        }
        return left.multiply(BigInteger.valueOf(65536)).add(right).longValueExact();
    }

    static long sign(long secret) {
        long sign = 0;
        for (int part = 0; part < 4; part++) {
            sign ^= (secret >>> (16 * part)) & 65535;
        }
        return sign;
    }

    static long code(long secret, int counter) {
        return e(secret, 65536 * sign(secret) + (counter & 65535));
    }

    static long question(long n) {
        return BigInteger.valueOf(2654435761L).multiply(BigInteger.valueOf(n))
                .mod(BigInteger.ONE.shiftLeft(32)).longValueExact();
    }

    /** The eight octets of a frame, its sum right. */
    static byte[] frame(int key, int command, long code, int flags) {
        byte[] octets = {(byte) key, (byte) command, (byte) (code >> 24), (byte) (code >> 16),
            (byte) (code >> 8), (byte) code, (byte) flags, 0};
        for (int i = 0; i < 7; i++) {
            octets[7] ^= octets[i];
        }
        return octets;
    }

    /** Sends octets as one frame: the answer to the last one, or -99 if one before it was not answered with 0. */
    static int send(DoorKeys x, byte[] octets) {
        int answer = 0;
        for (int i = 0; i < octets.length; i++) {
            boolean last = i == octets.length - 1;
            answer = x.remote(octets[i], last);
            if (!last && answer != 0) {
                return -99;
            }
        }
        return answer;
    }

    static int press(DoorKeys x, int key, long secret, int command, int counter) {
        return press(x, key, secret, command, counter, 0);
    }

    static int press(DoorKeys x, int key, long secret, int command, int counter, int flags) {
        return send(x, frame(key, command, code(secret, counter), flags));
    }
}
