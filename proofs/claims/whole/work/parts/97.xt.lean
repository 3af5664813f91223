/-! ===== what stays true of the launch's own things ===== -/
abbrev eA : String := "java/lang/IllegalArgumentException"
abbrev eN : String := "java/util/NoSuchElementException"
abbrev eUp : List String := ["java/lang/RuntimeException", "java/lang/Exception"]
def kXn : Nat → String := fun x => if x = 0 then eA else eN
/-- one constant text -/
def kTxt (a v : Nat) (len : Nat) (byt : List Int32) (A : Nat → Prop) (U : State) (H : Heap) : Prop := va_O "java/lang/String" a A U H ∧ va_OF "java/lang/String" "coder" "B" (.int 0) a A U H ∧ va_OF "java/lang/String" "value" "[B" (.ref v) a A U H ∧ va_T .byte v len (fun j => .int (byt.getD j 0)) A U H
theorem kTxt.moved {a v len : Nat} {byt : List Int32} {A : Nat → Prop} {u U : State} {H : Heap} (hvm : u.vm.Alike U.vm) (h : kTxt a v len byt A u H) : kTxt a v len byt A U H := ⟨va_O.moved hvm h.1, va_OF.moved hvm h.2.1, va_OF.moved hvm h.2.2.1, va_T.moved hvm h.2.2.2⟩
theorem kTxt.kept {a v len : Nat} {byt : List Int32} {A : Nat → Prop} {U : State} {H H1 : Heap} (h : kTxt a v len byt A U H) (hq : ∀ a : Nat, a < H.size → ¬ A a → H1[a]? = H[a]?) : kTxt a v len byt A U H1 := ⟨h.1.kept hq, h.2.1.kept hq, h.2.2.1.kept hq, h.2.2.2.kept hq⟩
def kByt (j : Nat) : List Int32 := (kTx.getD j []).map nI
/-- words that aren't the tables' alone -/
def kNw (U : State) : Prop := (∀ (i : Nat) (own : String) (idx : Nat) (y : MethodName) (host : String), kNsl[i]? = some (.methodLinkNest own idx y host) → va_Nw (.methodLinkNest own idx y host) U) ∧ (va_Nw (.castable eA eA) U ∧ va_Nw (.castable eN eN) U) ∧
  (va_Nw (.declares ⟨"java/lang/RuntimeException", "<init>", "()V"⟩) U ∧ va_Nw (.declares ⟨"java/lang/Exception", "<init>", "()V"⟩) U ∧ va_Nw (.declares ⟨"java/lang/Throwable", "<init>", "()V"⟩) U) ∧ va_Nc eA eN U
def kXT (ad adV : Nat → Nat) (nL : Nat) (xs : Nat → Int32) (Hb : Heap) (U : State) : Prop :=
  TXm ad U ∧ kNw U ∧ va_X (ad 2500) nL xs U Hb ∧ (vx_Zq Bundle.tN "UNASSIGNED_STACK" Bundle.steD (AX Hb) U Hb ∧ vx_Zq Bundle.tN "SUPPRESSED_SENTINEL" Bundle.listD (AX Hb) U Hb) ∧ (∀ j, j < 20 → kTxt (ad (3000 + j)) (adV j) (kByt j).length (kByt j) (AX Hb) U Hb) ∧ va_Z "java/lang/String" "COMPACT_STRINGS" "Z" (.int 1) (AX Hb) U Hb ∧ va_Zq "jdk/internal/util/Preconditions" "SIOOBE_FORMATTER" "Ljava/util/function/BiFunction;" (AX Hb) U Hb
theorem kXT_w {ad adV : Nat → Nat} {nL : Nat} {xs : Nat → Int32} {Hb : Heap} (s U : State) (hW : s.WarmedH U.vm) (h : kXT ad adV nL xs Hb s) : kXT ad adV nL xs Hb U := by
  obtain ⟨h1, ⟨h2, h3, h4, h5⟩, h6, h7, h8, h9, h10⟩ := h
  exact ⟨TXm.moved hW h1, ⟨fun i own idx y host hi => va_Nw.warmM hW (h2 i own idx y host hi), ⟨va_Nw.warmC hW h3.1, va_Nw.warmC hW h3.2⟩, ⟨va_Nw.warmD hW h4.1, va_Nw.warmD hW h4.2.1, va_Nw.warmD hW h4.2.2⟩, h5.moved hW.alike⟩, h6.moved hW.alike, ⟨h7.1.moved hW.alike, h7.2.moved hW.alike⟩, fun j hj => (h8 j hj).moved hW.alike, h9.moved hW.alike, h10.moved hW.alike⟩
theorem kTY {ad adV : Nat → Nat} {nL : Nat} {xs : Nat → Int32} {Hb : Heap} : TY kSts ad (kXT ad adV nL xs Hb) := fun i own idx tx a hi U hU => hU.1 i own idx tx a hi
theorem kNS {ad adV : Nat → Nat} {nL : Nat} {xs : Nat → Int32} {Hb : Heap} : ∀ (i : Nat) (own : String) (idx : Nat) (y : MethodName) (host : String), kNsl[i]? = some (.methodLinkNest own idx y host) → ∀ s, kXT ad adV nL xs Hb s → va_Nw (.methodLinkNest own idx y host) s := fun i own idx y host hi s hs => hs.2.1.1 i own idx y host hi
