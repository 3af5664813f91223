/-! ===== a small machine over positions: what a method does, as a function ===== -/
abbrev Ent : Type := Instr × Nat × Nat × Nat × Value
abbrev Sto : Type := (Nat → Int32) × (Nat → Int64) × (Nat → Nat → Int32) × (Nat → Nat → Int64) × (Nat → Nat)
abbrev St3 : Type := Sto × Sto × Sto
abbrev Lo : Type := List (Option Value)
abbrev Shp : Type := Nat → Option (Nat × Nat × List (Nat × Nat))
def gi (S : Sto) (k : Nat) : Int32 := S.1 k
def gl (S : Sto) (k : Nat) : Int64 := S.2.1 k
def ai (S : Sto) (k : Nat) : Nat → Int32 := S.2.2.1 k
def al (S : Sto) (k : Nat) : Nat → Int64 := S.2.2.2.1 k
def gr (S : Sto) (k : Nat) : Nat := S.2.2.2.2 k
def si (S : Sto) (k : Nat) (v : Int32) : Sto := (fun j => if j = k then v else S.1 j, S.2)
def sl (S : Sto) (k : Nat) (v : Int64) : Sto := (S.1, fun j => if j = k then v else S.2.1 j, S.2.2)
def ui (S : Sto) (k : Nat) (f : Nat → Int32) : Sto := (S.1, S.2.1, fun j => if j = k then f else S.2.2.1 j, S.2.2.2)
def ul (S : Sto) (k : Nat) (f : Nat → Int64) : Sto := (S.1, S.2.1, S.2.2.1, fun j => if j = k then f else S.2.2.2.1 j, S.2.2.2.2)
def sr (S : Sto) (k : Nat) (v : Nat) : Sto := (S.1, S.2.1, S.2.2.1, S.2.2.2.1, fun j => if j = k then v else S.2.2.2.2 j)
theorem tst1 : (1 : Nat) + 1 = 2 := rfl
