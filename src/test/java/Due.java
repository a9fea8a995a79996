/** What an exchange of Hands.ready() comes to, by the words of the document. */
final class Due {
    final byte[] clientPublic = Model.publicRow(Hands.clientSecret());
    final byte[] serverPublic = Model.publicRow(Hands.serverSecret());
    final byte[] hostRow = Model.publicRow(Hands.hostSecret());
    final byte[] shared = Model.product(Hands.clientSecret(), serverPublic);
    final byte[] h = Model.digest(Hands.bytes(20), Hands.counted(8, 60), Hands.bytes(20), Hands.counted(8, 80),
            hostRow, clientPublic, serverPublic, shared);
    final byte[] proof = Model.digest(Model.product(Hands.hostSecret(), clientPublic), h);

    byte[] key(int mark) {
        return Model.digest(shared, h, Hands.bytes(mark), h);
    }

    byte[][] keys(int end) {
        return end == 0 ? new byte[][] {key(65), key(66)} : new byte[][] {key(67), key(68)};
    }

    byte[] reply() {
        return Model.join(Hands.bytes(31), hostRow, serverPublic, proof);
    }
}
