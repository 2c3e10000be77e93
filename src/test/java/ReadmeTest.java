/** The calls of README.md's examples answer what stands there. */
final class ReadmeTest {
    public static void main(String[] args) {
        Due due = new Due("ReadmeTest");
        LeaseNet net = new LeaseNet();
        net.pool(1, 10, 20, 40);
        net.join(3, 1);
        due.is("run(200)", net.run(200), 8);
        due.is("client(3, 3)", net.client(3, 3), 266);
        due.is("record(266, 0)", net.record(266, 0), 2);
        due.is("tick()", net.tick(), 1);

        due.is("type", net.type(0x010000000001L, 8), true);
        due.is("type", net.type(0, 8), true);
        due.is("type", net.type(0xFF010135050101L, 7), true);
        due.is("told(5)", net.told(5), 257);
        net.inject(16);
        due.is("carry(0)", net.carry(0), 16);
        due.is("packet(0, -1)", net.packet(0, -1), 13);
        due.is("packet(0, 13)", net.packet(0, 13), 11);
        due.end();
    }
}
