/-! ===== a small machine over positions: what a method does, as a function ===== -/
abbrev Ent : Type := Instr × Nat × Nat × Nat × Value
abbrev Sto : Type := (Nat → Int32) × (Nat → Int64) × (Nat → Nat → Int32) × (Nat → Nat → Int64) × (Nat → Nat)
abbrev St3 : Type := Sto × Sto × Sto
abbrev Lo : Type := List (Option Value)
abbrev Shp : Type := Nat → Option (Nat × Nat × List (Nat × Nat))
abbrev Res : Type := Option Value ⊕ Nat
/-- the scripts's length and ints, and the texts of the constants -/
abbrev Sct : Type := Nat × (Nat → Int32) × List (List Nat)
def gi (S : Sto) (k : Nat) : Int32 := S.1 k
def gl (S : Sto) (k : Nat) : Int64 := S.2.1 k
def ai (S : Sto) (k : Nat) : Nat → Int32 := S.2.2.1 k
def al (S : Sto) (k : Nat) : Nat → Int64 := S.2.2.2.1 k
def gr (S : Sto) (k : Nat) : Nat := S.2.2.2.2 k
def si (S : Sto) (k : Nat) (v : Int32) : Sto := (fun j => if j = k then v else S.1 j, S.2)
def sl (S : Sto) (k : Nat) (v : Int64) : Sto := (S.1, fun j => if j = k then v else S.2.1 j, S.2.2)
def ui (S : Sto) (k : Nat) (f : Nat → Int32) : Sto := (S.1, S.2.1, fun j => if j = k then f else S.2.2.1 j, S.2.2.2)
def ul (S : Sto) (k : Nat) (f : Nat → Int64) : Sto := (S.1, S.2.1, S.2.2.1, fun j => if j = k then f else S.2.2.2.1 j, S.2.2.2.2)
def sr (S : Sto) (k : Nat) (v : Nat) : Sto := (S.1, S.2.1, S.2.2.1, S.2.2.2.1, fun j => if j = k then v else S.2.2.2.2 j)
def g3 (σ : St3) (k : Nat) : Sto := bif Nat.blt k 1000 then σ.1 else bif Nat.blt k 2000 then σ.2.1 else σ.2.2
def p3 (σ : St3) (k : Nat) (S : Sto) : St3 := bif Nat.blt k 1000 then (S, σ.2) else bif Nat.blt k 2000 then (σ.1, S, σ.2.2) else (σ.1, σ.2.1, S)
/-- a field's value; kinds 0 int, 1 long, 2 a fixed cell, 3 a cell, 4 boolean -/
def afv (σ : St3) (q : Nat × Nat) : Value := match q.1 with
  | 0 => .int (gi (g3 σ q.2) q.2)
  | 1 => .long (gl (g3 σ q.2) q.2)
  | 2 => .ref q.2
  | 3 => .ref (gr (g3 σ q.2) q.2)
  | 4 => .int (gi (g3 σ q.2) q.2)
  | _ => .null
def b01 (x : Int32) : Bool := decide (x = 0 ∨ x = 1)
def ib (i : Int32) (n : Nat) : Bool := !(decide (i < 0)) && Nat.blt i.toNatClampNeg n
def nzI (x : Int32) : Bool := decide (¬ x = 0)
def nzL (x : Int64) : Bool := decide (¬ x = 0)
/-- a method: name, code, locals, answer; its code's length, entries, switches, handlers, places of words; its parameters, and the places of its own words -/
abbrev MI : Type := (MethodName × ByteArray × Nat × Option FieldType) × Nat × (Nat → Option Ent) × (Nat → List (Int32 × Nat)) × (Nat → Nat → Option (Nat × Nat)) × (Nat → Nat) × Nat × List Nat × Nat × List (Nat × Nat × Nat × Nat)
def MI.y (mi : MI) : MethodName := mi.1.1
def MI.bytes (mi : MI) : ByteArray := mi.1.2.1
def MI.maxL (mi : MI) : Nat := mi.1.2.2.1
def MI.ret (mi : MI) : Option FieldType := mi.1.2.2.2
def MI.clen (mi : MI) : Nat := mi.2.1
def MI.code (mi : MI) (pc : Nat) : Option Ent := bif Nat.blt pc mi.2.1 then mi.2.2.1 pc else none
def MI.sw (mi : MI) : Nat → List (Int32 × Nat) := mi.2.2.2.1
def MI.hnd (mi : MI) : Nat → Nat → Option (Nat × Nat) := mi.2.2.2.2.1
def MI.pls (mi : MI) : Nat → Nat := mi.2.2.2.2.2.1
def MI.npar (mi : MI) : Nat := mi.2.2.2.2.2.2.1
def MI.ply (mi : MI) : List Nat := mi.2.2.2.2.2.2.2.1
/-- 0 static, 1 of an object, 2 static with handlers, 3 the law -/
def MI.flag (mi : MI) : Nat := mi.2.2.2.2.2.2.2.2.1
def MI.hh (mi : MI) : List (Nat × Nat × Nat × Nat) := mi.2.2.2.2.2.2.2.2.2
def swp (x : Int32) : List (Int32 × Nat) → Nat → Nat
  | [], d => d
  | (v, t) :: r, d => if x = v then t else swp x r d
/-- locals: a long that ends at i is gone when i is stored -/
def kil (i : Nat) (L : Lo) : Lo := match i with
  | 0 => L
  | j + 1 => match L[j]? with
    | some (some (.long _)) => L.set j none
    | some (some (.double _)) => L.set j none
    | _ => L
def st1 (i : Nat) (v : Value) (L : Lo) : Lo := (kil i L).set i (some v)
def st2 (i : Nat) (v : Value) (L : Lo) : Lo := ((kil i L).set i (some v)).set (i + 1) none
def entL : List Value → Lo
  | [] => []
  | .long x :: r => some (.long x) :: none :: entL r
  | .double x :: r => some (.double x) :: none :: entL r
  | v :: r => some v :: entL r
def ent (n : Nat) (as : List Value) : Lo := entL as ++ List.replicate (n - (entL as).length) none
def ldI (L : Lo) (i : Nat) : Option Value := match L[i]? with
  | some (some (.int x)) => some (.int x)
  | _ => none
def ldL (L : Lo) (i : Nat) : Option Value := match L[i]? with
  | some (some (.long x)) => some (.long x)
  | _ => none
def ldA (L : Lo) (i : Nat) : Option Value := match L[i]? with
  | some (some (.ref x)) => some (.ref x)
  | _ => none
abbrev Cfg : Type := Nat × Lo × List Value × St3
def push (pc : Nat) (L : Lo) (st : List Value) (σ : St3) (v : Option Value) : Option Cfg := match v with
  | some w => some (pc, L, w :: st, σ)
  | none => none
def stoI (pc i : Nat) (L : Lo) (st : List Value) (σ : St3) : Option Cfg := match st with
  | .int x :: r => bif Nat.blt i L.length then some (pc, st1 i (.int x) L, r, σ) else none
  | _ => none
def stoA (pc i : Nat) (L : Lo) (st : List Value) (σ : St3) : Option Cfg := match st with
  | .ref x :: r => bif Nat.blt i L.length then some (pc, st1 i (.ref x) L, r, σ) else none
  | _ => none
def stoL (pc i : Nat) (L : Lo) (st : List Value) (σ : St3) : Option Cfg := match st with
  | .long x :: r => bif Nat.blt (i + 1) L.length then some (pc, st2 i (.long x) L, r, σ) else none
  | _ => none
def binI (pc : Nat) (L : Lo) (st : List Value) (σ : St3) (f : Int32 → Int32 → Int32) : Option Cfg := match st with
  | .int y :: .int x :: r => some (pc, L, .int (f x y) :: r, σ)
  | _ => none
def binL (pc : Nat) (L : Lo) (st : List Value) (σ : St3) (f : Int64 → Int64 → Int64) : Option Cfg := match st with
  | .long y :: .long x :: r => some (pc, L, .long (f x y) :: r, σ)
  | _ => none
def cmpI (c : ClassFile.Cond) (x y : Int32) (a b : Nat) : Nat := match c with
  | .eq => if x = y then a else b
  | .ne => if ¬ x = y then a else b
  | .lt => if x < y then a else b
  | .ge => if y ≤ x then a else b
  | .gt => if y < x then a else b
  | .le => if x ≤ y then a else b
section Mach
variable (sh : Shp) (sc : Sct)
def getA (k : Nat) : Option (Nat × Nat × List (Nat × Nat)) := sh k
/-- one instruction that is no call and no end -/
def istep (mi : MI) (pc : Nat) (L : Lo) (st : List Value) (σ : St3) : Option Cfg := match mi.code pc with
  | none => none
  | some (ins, len, a, b, v) => match ins with
    | .iconst _ => some (pc + len, L, v :: st, σ)
    | .bipush _ => some (pc + len, L, v :: st, σ)
    | .sipush _ => some (pc + len, L, v :: st, σ)
    | .lconst _ => some (pc + len, L, v :: st, σ)
    | .ldc _ => some (pc + len, L, v :: st, σ)
    | .ldc_w _ => some (pc + len, L, v :: st, σ)
    | .ldc2_w _ => some (pc + len, L, v :: st, σ)
    | .iload i => push (pc + len) L st σ (ldI L i)
    | .iload_n i => push (pc + len) L st σ (ldI L i.val)
    | .lload i => push (pc + len) L st σ (ldL L i)
    | .lload_n i => push (pc + len) L st σ (ldL L i.val)
    | .aload i => push (pc + len) L st σ (ldA L i)
    | .aload_n i => push (pc + len) L st σ (ldA L i.val)
    | .istore i => stoI (pc + len) i L st σ
    | .istore_n i => stoI (pc + len) i.val L st σ
    | .lstore i => stoL (pc + len) i L st σ
    | .lstore_n i => stoL (pc + len) i.val L st σ
    | .astore i => stoA (pc + len) i L st σ
    | .astore_n i => stoA (pc + len) i.val L st σ
    | .iinc i _ => match L[i]? with
      | some (some (.int x)) => match v with
        | .int w => some (pc + len, st1 i (.int (x + w)) L, st, σ)
        | _ => none
      | _ => none
    | .iadd => binI (pc + len) L st σ (fun x y => x + y)
    | .isub => binI (pc + len) L st σ (fun x y => x - y)
    | .imul => binI (pc + len) L st σ (fun x y => x * y)
    | .iand => binI (pc + len) L st σ (fun x y => x &&& y)
    | .ior => binI (pc + len) L st σ (fun x y => x ||| y)
    | .ixor => binI (pc + len) L st σ (fun x y => x ^^^ y)
    | .ishl => binI (pc + len) L st σ (fun x y => x <<< (y &&& 31))
    | .ishr => binI (pc + len) L st σ (fun x y => x >>> (y &&& 31))
    | .iushr => binI (pc + len) L st σ (fun x y => (x.toUInt32 >>> (y.toUInt32 &&& Int32.toUInt32 31)).toInt32)
    | .idiv => match st with
      | .int y :: .int x :: r => bif nzI y then some (pc + len, L, .int (x / y) :: r, σ) else none
      | _ => none
    | .irem => match st with
      | .int y :: .int x :: r => bif nzI y then some (pc + len, L, .int (x - x / y * y) :: r, σ) else none
      | _ => none
    | .ineg => match st with
      | .int x :: r => some (pc + len, L, .int (-x) :: r, σ)
      | _ => none
    | .ladd => binL (pc + len) L st σ (fun x y => x + y)
    | .lsub => binL (pc + len) L st σ (fun x y => x - y)
    | .lmul => binL (pc + len) L st σ (fun x y => x * y)
    | .land => binL (pc + len) L st σ (fun x y => x &&& y)
    | .lor => binL (pc + len) L st σ (fun x y => x ||| y)
    | .lxor => binL (pc + len) L st σ (fun x y => x ^^^ y)
    | .ldiv => match st with
      | .long y :: .long x :: r => bif nzL y then some (pc + len, L, .long (x / y) :: r, σ) else none
      | _ => none
    | .lrem => match st with
      | .long y :: .long x :: r => bif nzL y then some (pc + len, L, .long (x - x / y * y) :: r, σ) else none
      | _ => none
    | .lneg => match st with
      | .long x :: r => some (pc + len, L, .long (-x) :: r, σ)
      | _ => none
    | .lshl => match st with
      | .int y :: .long x :: r => some (pc + len, L, .long (x <<< (y.toInt64 &&& 63)) :: r, σ)
      | _ => none
    | .lshr => match st with
      | .int y :: .long x :: r => some (pc + len, L, .long (x >>> (y.toInt64 &&& 63)) :: r, σ)
      | _ => none
    | .lushr => match st with
      | .int y :: .long x :: r => some (pc + len, L, .long ((x.toUInt64 >>> (y.toInt64.toUInt64 &&& Int64.toUInt64 63)).toInt64) :: r, σ)
      | _ => none
    | .lcmp => match st with
      | .long y :: .long x :: r => some (pc + len, L, .int (lg_cmp x y) :: r, σ)
      | _ => none
    | .i2l => match st with
      | .int x :: r => some (pc + len, L, .long x.toInt64 :: r, σ)
      | _ => none
    | .l2i => match st with
      | .long x :: r => some (pc + len, L, .int x.toInt32 :: r, σ)
      | _ => none
    | .dup => match st with
      | .int x :: r => some (pc + len, L, .int x :: .int x :: r, σ)
      | .ref x :: r => some (pc + len, L, .ref x :: .ref x :: r, σ)
      | _ => none
    | .dup2 => match st with
      | .int y :: .ref x :: r => some (pc + len, L, .int y :: .ref x :: .int y :: .ref x :: r, σ)
      | _ => none
    | .pop => match st with
      | .int _ :: r => some (pc + len, L, r, σ)
      | .ref _ :: r => some (pc + len, L, r, σ)
      | _ => none
    | .goto _ => some (a, L, st, σ)
    | .ifCond c _ => match st with
      | .int x :: r => some (cmpI c x 0 a (pc + len), L, r, σ)
      | _ => none
    | .if_icmp c _ => match st with
      | .int y :: .int x :: r => some (cmpI c x y a (pc + len), L, r, σ)
      | _ => none
    | .tableswitch _ _ _ _ => match st with
      | .int x :: r => some (swp x (mi.sw pc) a, L, r, σ)
      | _ => none
    | .getfield _ => match st with
      | .ref k :: r => match sh k with
        | some (0, ci, fs) => bif Nat.beq ci a then (match fs[b]? with
          | some q => some (pc + len, L, afv σ q :: r, σ)
          | none => none) else none
        | _ => none
      | _ => none
    | .putfield _ => match st with
      | w :: .ref k :: r => match sh k with
        | some (0, ci, fs) => bif Nat.beq ci a then (match fs[b]? with
          | some (0, key) => (match w with
            | .int x => some (pc + len, L, r, p3 σ key (si (g3 σ key) key x))
            | _ => none)
          | some (1, key) => (match w with
            | .long x => some (pc + len, L, r, p3 σ key (sl (g3 σ key) key x))
            | _ => none)
          | some (3, key) => (match w with
            | .ref x => some (pc + len, L, r, p3 σ key (sr (g3 σ key) key x))
            | _ => none)
          | some (4, key) => (match w with
            | .int x => bif b01 x then some (pc + len, L, r, p3 σ key (si (g3 σ key) key x)) else none
            | _ => none)
          | _ => none) else none
        | _ => none
      | _ => none
    | .iaload => match st with
      | .int i :: .ref k :: r => match sh k with
        | some (1, n, _) => bif ib i n then some (pc + len, L, .int (ai (g3 σ k) k i.toNatClampNeg) :: r, σ) else none
        | some (7, _, _) => bif ib i sc.1 then some (pc + len, L, .int (sc.2.1 i.toNatClampNeg) :: r, σ) else none
        | _ => none
      | _ => none
    | .baload => match st with
      | .int i :: .ref k :: r => match sh k with
        | some (2, n, _) => bif ib i n then some (pc + len, L, .int (ai (g3 σ k) k i.toNatClampNeg) :: r, σ) else none
        | _ => none
      | _ => none
    | .laload => match st with
      | .int i :: .ref k :: r => match sh k with
        | some (3, n, _) => bif ib i n then some (pc + len, L, .long (al (g3 σ k) k i.toNatClampNeg) :: r, σ) else none
        | _ => none
      | _ => none
    | .aaload => match st with
      | .int i :: .ref k :: r => match sh k with
        | some (4, n, q) => bif ib i n then some (pc + len, L, .ref ((q.map Prod.fst).getD 0 0 + i.toNatClampNeg) :: r, σ) else none
        | some (5, n, q) => bif ib i n then some (pc + len, L, .ref ((q.map Prod.fst).getD 0 0 + i.toNatClampNeg) :: r, σ) else none
        | _ => none
      | _ => none
    | .iastore => match st with
      | .int x :: .int i :: .ref k :: r => match sh k with
        | some (1, n, _) => bif ib i n then some (pc + len, L, r, p3 σ k (ui (g3 σ k) k (upd (ai (g3 σ k) k) i.toNatClampNeg x))) else none
        | _ => none
      | _ => none
    | .bastore => match st with
      | .int x :: .int i :: .ref k :: r => match sh k with
        | some (2, n, _) => bif ib i n then some (pc + len, L, r, p3 σ k (ui (g3 σ k) k (upd (ai (g3 σ k) k) i.toNatClampNeg (vp_nar .boolean x)))) else none
        | _ => none
      | _ => none
    | .lastore => match st with
      | .long x :: .int i :: .ref k :: r => match sh k with
        | some (3, n, _) => bif ib i n then some (pc + len, L, r, p3 σ k (ul (g3 σ k) k (vp_updL (al (g3 σ k) k) i.toNatClampNeg x))) else none
        | _ => none
      | _ => none
    | .arraylength => match st with
      | .ref k :: r => match sh k with
        | some (1, n, _) => some (pc + len, L, .int (nI n) :: r, σ)
        | some (2, n, _) => some (pc + len, L, .int (nI n) :: r, σ)
        | some (3, n, _) => some (pc + len, L, .int (nI n) :: r, σ)
        | some (4, n, _) => some (pc + len, L, .int (nI n) :: r, σ)
        | some (5, n, _) => some (pc + len, L, .int (nI n) :: r, σ)
        | some (7, _, _) => some (pc + len, L, .int (nI sc.1) :: r, σ)
        | _ => none
      | _ => none
    | _ => none
/-- an end: a return, or 'new' of an exception that is thrown at once -/
def ifin (mi : MI) (pc : Nat) (st : List Value) : Option Res := match mi.code pc with
  | none => none
  | some (ins, _, a, _, _) => match ins with
    | .ireturn => match st with
      | [.int x] => match mi.ret with
        | some .int => some (.inl (some (.int x)))
        | some .boolean => bif b01 x then some (.inl (some (.int x))) else none
        | _ => none
      | _ => none
    | .lreturn => match st with
      | [.long x] => match mi.ret with
        | some .long => some (.inl (some (.long x)))
        | _ => none
      | _ => none
    | .return_ => match st with
      | [] => match mi.ret with
        | none => some (.inl none)
        | _ => none
      | _ => none
    | .new _ => match st with
      | [] => some (.inr a)
      | _ => none
    | _ => none
/-- a call: its kind, the callee, what it is given, the rest -/
def icall (mi : MI) (pc : Nat) (st : List Value) : Option (Nat × Nat × List Value × List Value) := match mi.code pc with
  | none => none
  | some (ins, _, a, b, v) => match v with
    | .retAddr kind => match ins with
      | .invokestatic _ => bif Nat.ble b st.length && Nat.ble ((st.drop b).map Value.category).sum 8 then some (kind, a, (st.take b).reverse, st.drop b) else none
      | .invokevirtual _ => bif Nat.ble (b + 1) st.length && Nat.ble ((st.drop (b + 1)).map Value.category).sum 8 then some (kind, a, (st.take (b + 1)).reverse, st.drop (b + 1)) else none
      | _ => none
    | _ => none
/-- String's length and charAt, of a constant -/
def ibuilt (kind : Nat) (as : List Value) : Option Value := match kind, as with
  | 7, [.ref a] => match sh a with
    | some (6, i, _) => some (.int (nI (sc.2.2.getD i []).length))
    | _ => none
  | 8, [.ref a, .int j] => match sh a with
    | some (6, i, _) => bif ib j (sc.2.2.getD i []).length then some (.int (nI ((sc.2.2.getD i []).getD j.toNatClampNeg 0))) else none
    | _ => none
  | 9, [.int x, .int y] => some (.int (if x < y then y else x))
  | 10, [.int x, .int y] => some (.int (if y < x then y else x))
  | 11, [.long x, .long y] => some (.long (if y < x then x else y))
  | 12, [.long x, .long y] => some (.long (if y < x then y else x))
  | _, _ => none
theorem ibuilt_at {kind : Nat} {as : List Value} {v : Value} (h : ibuilt sh sc kind as = some v) : (kind = 7 ∨ kind = 8) ∨ (kind = 9 ∧ ∃ x y, as = [.int x, .int y] ∧ v = .int (if x < y then y else x)) ∨ (kind = 10 ∧ ∃ x y, as = [.int x, .int y] ∧ v = .int (if y < x then y else x)) ∨
    (kind = 11 ∧ ∃ x y, as = [.long x, .long y] ∧ v = .long (if y < x then x else y)) ∨ (kind = 12 ∧ ∃ x y, as = [.long x, .long y] ∧ v = .long (if y < x then y else x)) := by
  unfold ibuilt at h
  split at h
  · exact Or.inl (Or.inl rfl)
  · exact Or.inl (Or.inr rfl)
  · cases h; exact Or.inr (Or.inl ⟨rfl, _, _, rfl, rfl⟩)
  · cases h; exact Or.inr (Or.inr (Or.inl ⟨rfl, _, _, rfl, rfl⟩))
  · cases h; exact Or.inr (Or.inr (Or.inr (Or.inl ⟨rfl, _, _, rfl, rfl⟩)))
  · cases h; exact Or.inr (Or.inr (Or.inr (Or.inr ⟨rfl, _, _, rfl, rfl⟩)))
  · cases h
/-- the receiver is of the method's class -/
def rcvOk (my : MI) (as : List Value) : Bool := bif Nat.beq my.flag 1 then (match as with
  | .ref k :: _ => match sh k with
    | some (0, ci, _) => Nat.beq ci (my.ply.getD 4 0)
    | _ => false
  | _ => false) else true
variable (M : List MI)
/-- runs to an end: what comes, the stores, how many exceptions were made -/
def exec : Nat → Nat → MI → Nat → Lo → List Value → St3 → Option (Res × St3 × Nat)
  | 0, _, _, _, _, _, _ => none
  | n + 1, d, mi, pc, L, st, σ => match istep sh sc mi pc L st σ with
    | some (pc', L', st', σ') => exec n d mi pc' L' st' σ'
    | none => match ifin mi pc st with
      | some (.inl v) => some (.inl v, σ, 0)
      | some (.inr a) => bif Nat.ble 8 d then some (.inr a, σ, 1) else none
      | none => match icall mi pc st with
        | none => none
        | some (kind, y, as, rest) => match d with
          | 0 => none
          | d' + 1 => match ibuilt sh sc kind as with
            | some v => bif Nat.ble 4 d' then exec n (d' + 1) mi (pc + 3) L (v :: rest) σ else none
            | none => match M[y]? with
              | none => none
              | some my => bif Nat.ble (entL as).length my.maxL && (rcvOk sh my as && Nat.ble kind 4) then (match exec n d' my 0 (ent my.maxL as) [] σ with
                | some (.inl v, σ1, k1) => (match exec n (d' + 1) mi (pc + 3) L (v.toList ++ rest) σ1 with
                  | some (r, σ2, k2) => some (r, σ2, k1 + k2)
                  | none => none)
                | some (.inr x, σ1, k1) => bif Nat.beq kind 3 then (match mi.hnd pc x with
                  | some (pc', i) => (match exec n (d' + 1) mi pc' ((kil i L).set i none) [] σ1 with
                    | some (r, σ2, k2) => some (r, σ2, k1 + k2)
                    | none => none)
                  | none => none) else none
                | none => none) else none
end Mach
