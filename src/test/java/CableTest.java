/** Promises 1 to 8: a new object, and what changes the cable. */
public final class CableTest {
    private CableTest() {
    }

    public static void main(String[] args) {
        newObject();
        begin();
        exchange();
        cut();
        connect();
        repair();
        plug();
        pass();
        Check.finish();
    }

    private static void newObject() {
        CableTester x = new CableTester();
        int[] due = {100, 66, 0, 0, 0, 0, 8, 0, 0};
        for (int what = 0; what <= 8; what++) {
            Check.due("new: count(" + what + ")", x.count(what), due[what]);
        }
        for (int pin = 0; pin < 8; pin++) {
            Check.due("new: wire(0, " + pin + ")", x.wire(0, pin), pin);
            Check.due("new: wire(1, " + pin + ")", x.wire(1, pin), pin);
            Check.due("new: records", x.records(pin, 0), 0);
        }
        Check.due("new: clearBuffer", x.clearBuffer(), 0);
    }

    private static void begin() {
        CableTester x = new CableTester();
        Check.due("begin", x.begin(2, 50), 100);
        Check.due("begin", x.begin(999, 99), 2);
        Check.due("velocity", x.count(1), 99);
        x.cut(3, 998, 1, 1);
        x.exchange(0, 1, 2);
        x.exchange(1, 5, 7);
        x.plug(7);
        x.pass(3);
        x.append('c');
        Check.due("begin", x.begin(300, 70), 999);
        int[] due = {300, 70, 0, 0, 0, 0, 8, 0, 0};
        for (int what = 0; what <= 8; what++) {
            Check.due("begun: count(" + what + ")", x.count(what), due[what]);
        }
        for (int pin = 0; pin < 8; pin++) {
            Check.due("begun: wire(0, " + pin + ")", x.wire(0, pin), pin);
            Check.due("begun: wire(1, " + pin + ")", x.wire(1, pin), pin);
            for (int what = 0; what <= 3; what++) {
                Check.due("begun: records", x.records(pin, what), 0);
            }
        }
        Check.due("the buffer stays", x.clearBuffer(), 1);
    }

    private static void exchange() {
        CableTester x = new CableTester();
        Check.due("exchange(0, 0, 7)", x.exchange(0, 0, 7), 7);
        Check.due("wire(0, 7)", x.wire(0, 7), 0);
        Check.due("exchange(0, 7, 3)", x.exchange(0, 7, 3), 3);
        Check.due("wire(0, 3)", x.wire(0, 3), 0);
        Check.due("the far end stays", x.wire(1, 0), 0);
        Check.due("exchange(1, 2, 1)", x.exchange(1, 2, 1), 1);
        Check.due("wire(1, 1)", x.wire(1, 1), 2);
        Check.due("exchange(1, 6, 0)", x.exchange(1, 6, 0), 0);
        Check.due("exchange(0, 2, 3)", x.exchange(0, 2, 3), 0);
        Check.due("exchange(0, 7, 0)", x.exchange(0, 7, 0), 7);
        Check.due("the near end stays", x.wire(0, 1), 1);
    }

    private static void cut() {
        CableTester x = new CableTester();
        Check.due("cut", x.cut(0, 1, 1, 1), 0);
        Check.due("cut", x.cut(7, 99, 32, 32), 1);
        Check.due("kind", x.fault(1, 0), 0);
        Check.due("faults", x.count(4), 2);
    }

    private static void connect() {
        CableTester x = new CableTester();
        Check.due("connect", x.connect(0, 7, 1, 1, 1), 0);
        Check.due("connect", x.connect(6, 2, 99, 32, 1), 1);
        Check.due("kind", x.fault(1, 0), 1);
        Check.due("faults", x.count(4), 2);
    }

    private static void repair() {
        CableTester x = new CableTester();
        x.cut(0, 10, 1, 1);
        x.cut(1, 20, 1, 1);
        x.connect(2, 3, 30, 1, 1);
        Check.due("repair(1)", x.repair(1), 2);
        Check.due("fault 0 stays", x.fault(0, 3), 10);
        Check.due("fault 2 is now 1", x.fault(1, 3), 30);
        Check.due("pin 1 is good again", x.status(1), 0);
        Check.due("repair(0)", x.repair(0), 1);
        Check.due("repair(0)", x.repair(0), 0);
        Check.due("all good", x.count(7), 0);
    }

    private static void plug() {
        CableTester x = new CableTester();
        Check.due("plug(99)", x.plug(99), 0);
        Check.due("plug(1)", x.plug(1), 99);
        Check.due("plug(0)", x.plug(0), 1);
        Check.due("the unit", x.count(2), 0);
    }

    private static void pass() {
        CableTester x = new CableTester();
        x.cut(4, 10, 5, 2);
        Check.due("pass(1)", x.pass(1), 1);
        Check.due("present at 1", x.status(4), 1);
        Check.due("pass(1)", x.pass(1), 2);
        Check.due("absent at 2", x.status(4), 0);
        Check.due("pass(3)", x.pass(3), 5);
        Check.due("present at 5", x.status(4), 1);
        Check.due("five records", x.records(4, 0), 5);
        Check.due("wrong at 1 and 5", x.records(4, 1), 2);
        Check.due("pass(100)", x.pass(100), 105);
    }

}
