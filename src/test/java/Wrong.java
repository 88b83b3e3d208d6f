/** Calls with a policy or a packet that is too small or too large, and with the least and the greatest right one. */
final class Wrong {
    private static final int[] WRONG_PACKETS = {-1, -2, -64, 64, 65, 127, 128, Integer.MIN_VALUE, Integer.MAX_VALUE};

    /** A call of an object whose other arguments are right. */
    interface Asked {
        long answer(PolicyVerifier x, int number);
    }

    private Wrong() {
    }

    /** The call throws for each number that no policy has, and finds the first and the last policy. */
    static void noSuchPolicy(String name, Asked call) {
        noSuchPolicyFirst(name, call);
        for (int policies : new int[] {1, 2, 50}) {
            PolicyVerifier x = Checks.withPolicies(policies);
            found(name + " of the first of " + policies, () -> call.answer(x, 0));
            found(name + " of the last of " + policies, () -> call.answer(x, policies - 1));
        }
    }

    /** The call throws for each number that no policy has, whatever else is wrong with it. */
    static void noSuchPolicyFirst(String name, Asked call) {
        for (int policies : new int[] {0, 1, 2, 49, 50}) {
            PolicyVerifier x = Checks.withPolicies(policies);
            for (int wrong : new int[] {-1, -2, policies, policies + 1, Integer.MIN_VALUE, Integer.MAX_VALUE}) {
                Checks.dueThrow(name + " of policy " + wrong + " of " + policies, Checks.NO_SUCH, () -> call.answer(x, wrong));
            }
        }
    }

    /** The call throws for each code that no packet has, and takes the least and the greatest code. */
    static void noSuchPacket(String name, Asked call) {
        PolicyVerifier x = Checks.withPolicies(2);
        for (int wrong : WRONG_PACKETS) {
            Checks.dueThrow(name + " of packet " + wrong, Checks.ARGUMENT, () -> call.answer(x, wrong));
        }
        found(name + " of packet 0", () -> call.answer(x, 0));
        found(name + " of packet 63", () -> call.answer(x, 63));
    }

    private static void found(String name, Checks.Call call) {
        String answer = Checks.told(call);
        boolean refused = answer.equals("throws.NoSuchElementException") || answer.equals("throws.IllegalArgumentException");
        Checks.due(name + " is not refused", 1, () -> refused ? 0 : 1);
    }
}
