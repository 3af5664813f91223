final class PromiseTests { }
