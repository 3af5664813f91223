final class WidthTests { }
