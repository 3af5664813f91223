final class RuleTests { }
