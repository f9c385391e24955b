/-! puppetOf, stringOf, ifCut -/
