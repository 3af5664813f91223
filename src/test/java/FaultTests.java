final class FaultTests { }
