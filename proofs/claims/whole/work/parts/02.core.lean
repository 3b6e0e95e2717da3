/-! The abstract machine: a method's frame as lists of tagged whole numbers, the heap's ints as one function of cell and place. Refs are cell numbers. -/
abbrev cV : Type := Nat × Int
abbrev cM : Type := Int → Int → Int
/-- addresses of cells, tables, String constants, their bytes; the formatter static; array classes; what the constant cells hold -/
abbrev cT : Type := (Int → Nat) × (Int → Nat) × (Nat → Nat) × (Nat → Nat) × Value × (Nat → ClassId) × cM
abbrev vI (x : Int) : cV := (0, x)
abbrev vL (x : Int) : cV := (1, x)
abbrev vR (k : Int) : cV := (2, k)
abbrev vT (k : Int) : cV := (3, k)
abbrev vS (k : Int) : cV := (4, k)
abbrev vB (k : Int) : cV := (5, k)
abbrev vF : cV := (7, 0)
abbrev vU : cV := (9, 0)
def tr (t : cT) (v : cV) : Value := match v.1 with
  | 0 => .int (Int32.ofInt v.2)
  | 1 => .long (Int64.ofInt v.2)
  | 2 => .ref (t.1 v.2)
  | 3 => .ref (t.2.1 v.2)
  | 4 => .ref (t.2.2.1 v.2.toNat)
  | 5 => .ref (t.2.2.2.1 v.2.toNat)
  | 7 => t.2.2.2.2.1
  | _ => .null
def iR (x : Int) : Prop := -2147483648 ≤ x ∧ x < 2147483648
def lR (x : Int) : Prop := -9223372036854775808 ≤ x ∧ x < 9223372036854775808
def vok (v : cV) : Prop := (v.1 = 0 → iR v.2) ∧ (v.1 = 1 → lR v.2)
def wfL (l : List cV) : Prop := ∀ v ∈ l, vok v
def wfM (M : cM) : Prop := ∀ c j, iR (M c j)
def wr (M : cM) (c j v : Int) : cM := fun c' j' => if c' = c ∧ j' = j then v else M c' j'
def w32 (x : Int) : Int := (x + 2147483648) % 4294967296 - 2147483648
def w64 (x : Int) : Int := (x + 9223372036854775808) % 18446744073709551616 - 9223372036854775808
theorem w32_R (x : Int) : iR (w32 x) := by unfold iR w32; omega
theorem w64_R (x : Int) : lR (w64 x) := by unfold lR w64; omega
theorem w32_id {x : Int} (h : iR x) : w32 x = x := by unfold iR at h; unfold w32; omega
theorem w64_id {x : Int} (h : lR x) : w64 x = x := by unfold lR at h; unfold w64; omega
theorem w32_e {x : Int} (h1 : -2147483648 ≤ x) (h2 : x < 2147483648) : w32 x = x := w32_id ⟨h1, h2⟩
theorem w64_e {x : Int} (h1 : -9223372036854775808 ≤ x) (h2 : x < 9223372036854775808) : w64 x = x := w64_id ⟨h1, h2⟩
theorem oI_toInt (x : Int) : (Int32.ofInt x).toInt = w32 x := by
  rw [Int32.toInt_ofInt, show Int32.size = 4294967296 from rfl]
  unfold w32
  rw [Int.bmod_def]
  split <;> omega
theorem oL_toInt (x : Int) : (Int64.ofInt x).toInt = w64 x := by
  rw [Int64.toInt_ofInt, show Int64.size = 18446744073709551616 from rfl]
  unfold w64
  rw [Int.bmod_def]
  split <;> omega
theorem oI_id {x : Int} (h : iR x) : (Int32.ofInt x).toInt = x := by rw [oI_toInt, w32_id h]
theorem oL_id {x : Int} (h : lR x) : (Int64.ofInt x).toInt = x := by rw [oL_toInt, w64_id h]
theorem oI_w (x : Int) : Int32.ofInt (w32 x) = Int32.ofInt x := by
  apply Int32.toInt_inj.mp
  rw [oI_toInt, oI_toInt, w32_id (w32_R x)]
theorem oL_w (x : Int) : Int64.ofInt (w64 x) = Int64.ofInt x := by
  apply Int64.toInt_inj.mp
  rw [oL_toInt, oL_toInt, w64_id (w64_R x)]
theorem oI_of (x : Int32) : Int32.ofInt x.toInt = x := Int32.ofInt_toInt x
theorem oL_of (x : Int64) : Int64.ofInt x.toInt = x := Int64.ofInt_toInt x
theorem iR_of (x : Int32) : iR x.toInt := ⟨Int32.le_toInt x, Int32.toInt_lt x⟩
theorem lR_of (x : Int64) : lR x.toInt := ⟨Int64.le_toInt x, Int64.toInt_lt x⟩
theorem oI_add (x y : Int) : Int32.ofInt x + Int32.ofInt y = Int32.ofInt (w32 (x + y)) := by rw [oI_w, Int32.ofInt_add]
theorem oI_sub (x y : Int) : Int32.ofInt x - Int32.ofInt y = Int32.ofInt (w32 (x - y)) := by rw [oI_w, Int32.ofInt_sub]
theorem oI_mul (x y : Int) : Int32.ofInt x * Int32.ofInt y = Int32.ofInt (w32 (x * y)) := by rw [oI_w, Int32.ofInt_mul]
theorem oL_add (x y : Int) : Int64.ofInt x + Int64.ofInt y = Int64.ofInt (w64 (x + y)) := by rw [oL_w, Int64.ofInt_add]
theorem oL_mul (x y : Int) : Int64.ofInt x * Int64.ofInt y = Int64.ofInt (w64 (x * y)) := by rw [oL_w, Int64.ofInt_mul]
theorem oI_eq {x y : Int} (hx : iR x) (hy : iR y) : Int32.ofInt x = Int32.ofInt y ↔ x = y := by rw [← Int32.toInt_inj, oI_id hx, oI_id hy]
theorem oI_lt {x y : Int} (hx : iR x) (hy : iR y) : Int32.ofInt x < Int32.ofInt y ↔ x < y := by rw [Int32.lt_iff_toInt_lt, oI_id hx, oI_id hy]
theorem oI_le {x y : Int} (hx : iR x) (hy : iR y) : Int32.ofInt x ≤ Int32.ofInt y ↔ x ≤ y := by rw [Int32.le_iff_toInt_le, oI_id hx, oI_id hy]
theorem oL_eq {x y : Int} (hx : lR x) (hy : lR y) : Int64.ofInt x = Int64.ofInt y ↔ x = y := by rw [← Int64.toInt_inj, oL_id hx, oL_id hy]
theorem oL_lt {x y : Int} (hx : lR x) (hy : lR y) : Int64.ofInt x < Int64.ofInt y ↔ x < y := by rw [Int64.lt_iff_toInt_lt, oL_id hx, oL_id hy]
theorem iR_0 : iR 0 := by unfold iR; omega
theorem oI_div {x y : Int} (hx : iR x) (hy : iR y) : Int32.ofInt x / Int32.ofInt y = Int32.ofInt (w32 (x.tdiv y)) := by
  apply Int32.toInt_inj.mp
  rw [Int32.toInt_div, oI_id hx, oI_id hy, oI_w, Int32.toInt_ofInt]
theorem oI_mod {x y : Int} (hx : iR x) (hy : iR y) : Int32.ofInt x - Int32.ofInt x / Int32.ofInt y * Int32.ofInt y = Int32.ofInt (x.tmod y) := by
  rw [oI_div hx hy, oI_w, ← Int32.ofInt_mul, ← Int32.ofInt_sub]
  congr 1
  have := Int.tmod_add_tdiv_mul x y
  omega
theorem tmod_R {x y : Int} (hx : iR x) : iR (x.tmod y) := by
  have h1 := Int.natAbs_tmod x y
  have h2 := Nat.mod_le x.natAbs y.natAbs
  have h3 : (x.tmod y).natAbs ≤ x.natAbs := by omega
  unfold iR at *
  rcases Int.le_total 0 x with h | h
  · have := Int.tmod_nonneg y h
    omega
  · have : x.tmod y ≤ 0 := by
      have h5 := Int.tmod_nonneg y (show 0 ≤ -x by omega)
      rw [Int.neg_tmod] at h5
      omega
    omega
/-- bits, by way of the machine's ints -/
def zand (x y : Int) : Int := (Int32.ofInt x &&& Int32.ofInt y).toInt
def zor (x y : Int) : Int := (Int32.ofInt x ||| Int32.ofInt y).toInt
def zxor (x y : Int) : Int := (Int32.ofInt x ^^^ Int32.ofInt y).toInt
def zshl (x y : Int) : Int := (Int32.ofInt x <<< (Int32.ofInt y &&& 31)).toInt
def zshr (x y : Int) : Int := (Int32.ofInt x >>> (Int32.ofInt y &&& 31)).toInt
def zushr (x y : Int) : Int := ((Int32.ofInt x).toUInt32 >>> ((Int32.ofInt y).toUInt32 &&& Int32.toUInt32 31)).toInt32.toInt
def zi2b (x : Int) : Int := (Int32.ofInt x).toInt8.toInt32.toInt
def zi2s (x : Int) : Int := (Int32.ofInt x).toInt16.toInt32.toInt
def zi2c (x : Int) : Int := ((Int32.ofInt x).toUInt32 % 65536).toInt32.toInt
/-- what a return narrows to, by the kind of the answer: 1 int, 4 boolean, 5 byte, 6 char -/
def nrt : Nat → FieldType
  | 4 => .boolean
  | 5 => .byte
  | 6 => .char
  | _ => .int
def narK (k : Nat) (x : Int) : Int := (vp_nar (nrt k) (Int32.ofInt x)).toInt
theorem narK_1 {x : Int} (h : iR x) : narK 1 x = x := by
  show (vp_nar .int (Int32.ofInt x)).toInt = x
  exact oI_id h
theorem narK_R (k : Nat) (x : Int) : iR (narK k x) := iR_of _
