def cR_S : String := "SlantSheets"
def cF_S : u_T := fun k => match k with
  | 0 => ("SlantSheets", "scene", "LSlantSheets$Scene;", true)
  | 1 => ("SlantSheets", "kept", "LSlantSheets$Scene;", true)
  | 2 => ("SlantSheets", "isKept", "Z", false)
  | 3 => ("SlantSheets", "draft", "LSlantSheets$Scene;", true)
  | 4 => ("SlantSheets", "tape", "LSlantSheets$Tape;", true)
  | 5 => ("SlantSheets", "reader", "LSlantSheets$TextReader;", true)
  | 6 => ("SlantSheets", "rows", "[LSlantSheets$Row;", true)
  | 7 => ("SlantSheets", "findings", "[I", true)
  | 8 => ("SlantSheets", "arrangement", "LSlantSheets$Arrangement;", true)
  | 9 => ("SlantSheets", "orderLights", "[I", true)
  | 10 => ("SlantSheets", "marks", "[I", true)
  | 11 => ("SlantSheets", "soleLights", "[I", true)
  | 12 => ("SlantSheets", "partners", "[I", true)
  | _ => ("SlantSheets", "tellingTilts", "[I", true)
def cY_S : Nat → FieldType := fun k => match k with
  | 0 => .object "SlantSheets$Scene"
  | 1 => .object "SlantSheets$Scene"
  | 2 => .boolean
  | 3 => .object "SlantSheets$Scene"
  | 4 => .object "SlantSheets$Tape"
  | 5 => .object "SlantSheets$TextReader"
  | 6 => .array (.object "SlantSheets$Row")
  | 7 => .array .int
  | 8 => .object "SlantSheets$Arrangement"
  | 9 => .array .int
  | 10 => .array .int
  | 11 => .array .int
  | 12 => .array .int
  | _ => .array .int
theorem cn_S : ∀ a, a < 14 → ∀ b, b < 14 → a ≠ b → (cF_S a).2.1 ≠ (cF_S b).2.1 := by decide +kernel
theorem cy_S : ∀ k, k < 14 → parseFieldDescriptor (cF_S k).2.2.1 = some (cY_S k) := by decide +kernel
theorem ci_S : ∀ w ∈ u_ws cR_S cF_S 14, w ∈ bw := by decide +kernel
def cR_G : String := "SlantSheets$Scene"
def cF_G : u_T := fun k => match k with
  | 0 => ("SlantSheets$Scene", "sheets", "I", false)
  | 1 => ("SlantSheets$Scene", "kinds", "[I", true)
  | 2 => ("SlantSheets$Scene", "turns", "[I", true)
  | 3 => ("SlantSheets$Scene", "passes", "[I", true)
  | 4 => ("SlantSheets$Scene", "load", "I", false)
  | 5 => ("SlantSheets$Scene", "lampShare", "I", false)
  | 6 => ("SlantSheets$Scene", "lampSlant", "I", false)
  | 7 => ("SlantSheets$Scene", "stacks", "[[I", true)
  | 8 => ("SlantSheets$Scene", "heights", "[I", true)
  | 9 => ("SlantSheets$Scene", "looks", "I", false)
  | 10 => ("SlantSheets$Scene", "lookTilts", "[I", true)
  | 11 => ("SlantSheets$Scene", "lookViews", "[I", true)
  | 12 => ("SlantSheets$Scene", "z", "I", false)
  | _ => ("SlantSheets$Scene", "spots", "[I", true)
def cY_G : Nat → FieldType := fun k => match k with
  | 0 => .int
  | 1 => .array .int
  | 2 => .array .int
  | 3 => .array .int
  | 4 => .int
  | 5 => .int
  | 6 => .int
  | 7 => .array (.array .int)
  | 8 => .array .int
  | 9 => .int
  | 10 => .array .int
  | 11 => .array .int
  | 12 => .int
  | _ => .array .int
theorem cn_G : ∀ a, a < 14 → ∀ b, b < 14 → a ≠ b → (cF_G a).2.1 ≠ (cF_G b).2.1 := by decide +kernel
theorem cy_G : ∀ k, k < 14 → parseFieldDescriptor (cF_G k).2.2.1 = some (cY_G k) := by decide +kernel
theorem ci_G : ∀ w ∈ u_ws cR_G cF_G 14, w ∈ bw := by decide +kernel
def cR_P : String := "SlantSheets$Tape"
def cF_P : u_T := fun k => match k with
  | 0 => ("SlantSheets$Tape", "bytes", "[B", true)
  | _ => ("SlantSheets$Tape", "length", "I", false)
def cY_P : Nat → FieldType := fun k => match k with
  | 0 => .array .byte
  | _ => .int
theorem cn_P : ∀ a, a < 2 → ∀ b, b < 2 → a ≠ b → (cF_P a).2.1 ≠ (cF_P b).2.1 := by decide +kernel
theorem cy_P : ∀ k, k < 2 → parseFieldDescriptor (cF_P k).2.2.1 = some (cY_P k) := by decide +kernel
theorem ci_P : ∀ w ∈ u_ws cR_P cF_P 2, w ∈ bw := by decide +kernel
def cR_Q : String := "SlantSheets$TextReader"
def cF_Q : u_T := fun k => match k with
  | 0 => ("SlantSheets$TextReader", "tape", "LSlantSheets$Tape;", true)
  | 1 => ("SlantSheets$TextReader", "scene", "LSlantSheets$Scene;", true)
  | 2 => ("SlantSheets$TextReader", "numbers", "[I", true)
  | 3 => ("SlantSheets$TextReader", "type", "I", false)
  | 4 => ("SlantSheets$TextReader", "start", "I", false)
  | _ => ("SlantSheets$TextReader", "end", "I", false)
def cY_Q : Nat → FieldType := fun k => match k with
  | 0 => .object "SlantSheets$Tape"
  | 1 => .object "SlantSheets$Scene"
  | 2 => .array .int
  | 3 => .int
  | 4 => .int
  | _ => .int
theorem cn_Q : ∀ a, a < 6 → ∀ b, b < 6 → a ≠ b → (cF_Q a).2.1 ≠ (cF_Q b).2.1 := by decide +kernel
theorem cy_Q : ∀ k, k < 6 → parseFieldDescriptor (cF_Q k).2.2.1 = some (cY_Q k) := by decide +kernel
theorem ci_Q : ∀ w ∈ u_ws cR_Q cF_Q 6, w ∈ bw := by decide +kernel
def cR_A : String := "SlantSheets$Arrangement"
def cF_A : u_T := fun k => match k with
  | 0 => ("SlantSheets$Arrangement", "row", "[I", true)
  | _ => ("SlantSheets$Arrangement", "length", "I", false)
def cY_A : Nat → FieldType := fun k => match k with
  | 0 => .array .int
  | _ => .int
theorem cn_A : ∀ a, a < 2 → ∀ b, b < 2 → a ≠ b → (cF_A a).2.1 ≠ (cF_A b).2.1 := by decide +kernel
theorem cy_A : ∀ k, k < 2 → parseFieldDescriptor (cF_A k).2.2.1 = some (cY_A k) := by decide +kernel
theorem ci_A : ∀ w ∈ u_ws cR_A cF_A 2, w ∈ bw := by decide +kernel
def cR_W : String := "SlantSheets$Row"
def cF_W : u_T := fun k => match k with
  | 0 => ("SlantSheets$Row", "bits", "I", false)
  | 1 => ("SlantSheets$Row", "length", "I", false)
  | _ => ("SlantSheets$Row", "numbers", "[I", true)
def cY_W : Nat → FieldType := fun k => match k with
  | 0 => .int
  | 1 => .int
  | _ => .array .int
theorem cn_W : ∀ a, a < 3 → ∀ b, b < 3 → a ≠ b → (cF_W a).2.1 ≠ (cF_W b).2.1 := by decide +kernel
theorem cy_W : ∀ k, k < 3 → parseFieldDescriptor (cF_W k).2.2.1 = some (cY_W k) := by decide +kernel
theorem ci_W : ∀ w ∈ u_ws cR_W cF_W 3, w ∈ bw := by decide +kernel
def cR_M : String := "SlantSheetsModel"
def cF_M : u_T := fun k => match k with
  | 0 => ("SlantSheetsModel", "s", "[I", true)
  | 1 => ("SlantSheetsModel", "keptS", "[I", true)
  | 2 => ("SlantSheetsModel", "other", "[I", true)
  | 3 => ("SlantSheetsModel", "statuses", "[I", true)
  | 4 => ("SlantSheetsModel", "isKept", "Z", false)
  | 5 => ("SlantSheetsModel", "line", "[I", true)
  | 6 => ("SlantSheetsModel", "share", "I", false)
  | 7 => ("SlantSheetsModel", "slant", "I", false)
  | 8 => ("SlantSheetsModel", "isThere", "[Z", true)
  | 9 => ("SlantSheetsModel", "sign", "[I", true)
  | 10 => ("SlantSheetsModel", "tilts", "[I", true)
  | 11 => ("SlantSheetsModel", "tape", "[I", true)
  | 12 => ("SlantSheetsModel", "taped", "I", false)
  | 13 => ("SlantSheetsModel", "from", "I", false)
  | 14 => ("SlantSheetsModel", "to", "I", false)
  | 15 => ("SlantSheetsModel", "value", "I", false)
  | 16 => ("SlantSheetsModel", "isWrong", "Z", false)
  | 17 => ("SlantSheetsModel", "bitsOf", "[I", true)
  | 18 => ("SlantSheetsModel", "sizeOf", "[I", true)
  | 19 => ("SlantSheetsModel", "number", "[I", true)
  | _ => ("SlantSheetsModel", "moved", "[I", true)
def cY_M : Nat → FieldType := fun k => match k with
  | 0 => .array .int
  | 1 => .array .int
  | 2 => .array .int
  | 3 => .array .int
  | 4 => .boolean
  | 5 => .array .int
  | 6 => .int
  | 7 => .int
  | 8 => .array .boolean
  | 9 => .array .int
  | 10 => .array .int
  | 11 => .array .int
  | 12 => .int
  | 13 => .int
  | 14 => .int
  | 15 => .int
  | 16 => .boolean
  | 17 => .array .int
  | 18 => .array .int
  | 19 => .array .int
  | _ => .array .int
theorem cn_M : ∀ a, a < 21 → ∀ b, b < 21 → a ≠ b → (cF_M a).2.1 ≠ (cF_M b).2.1 := by decide +kernel
theorem cy_M : ∀ k, k < 21 → parseFieldDescriptor (cF_M k).2.2.1 = some (cY_M k) := by decide +kernel
theorem ci_M : ∀ w ∈ u_ws cR_M cF_M 21, w ∈ bw := by decide +kernel
def ccl : List vw_C := [(cR_S, cF_S, 14), (cR_G, cF_G, 14), (cR_P, cF_P, 2), (cR_Q, cF_Q, 6), (cR_A, cF_A, 2), (cR_W, cF_W, 3), (cR_M, cF_M, 21)]
/-- which fields hold ints -/
def cfk : List (List Bool) := [[false, false, true, false, false, false, false, false, false, false, false, false, false, false], [true, false, false, false, true, true, true, false, false, true, false, false, true, false], [false, true], [false, false, false, true, true, true], [false, true], [true, true, false], [false, false, false, false, true, false, true, true, false, false, false, false, true, true, true, true, true, false, false, false, false]]
/-- cells: number, kind (0 object, 1 int, 2 byte, 3 boolean, 4 rows, 5 int[][]), class or length -/
def ctab : List (Int × Nat × Nat) := [(0, 0, 0), (10, 0, 1), (11, 1, 10), (12, 1, 10), (13, 1, 10), (14, 5, 4), (15, 1, 6), (16, 1, 6), (17, 1, 6), (18, 1, 6), (19, 1, 4), (20, 1, 4), (21, 1, 4), (22, 1, 10), (30, 0, 1), (31, 1, 10), (32, 1, 10), (33, 1, 10), (34, 5, 4), (35, 1, 6), (36, 1, 6), (37, 1, 6), (38, 1, 6), (39, 1, 4), (40, 1, 4), (41, 1, 4), (42, 1, 10), (50, 0, 1), (51, 1, 10), (52, 1, 10), (53, 1, 10), (54, 5, 4), (55, 1, 6), (56, 1, 6), (57, 1, 6), (58, 1, 6), (59, 1, 4), (60, 1, 4), (61, 1, 4), (62, 1, 10), (70, 0, 2), (71, 2, 120), (72, 0, 3), (73, 1, 6), (74, 4, 4), (75, 1, 7), (76, 0, 4), (77, 1, 6), (78, 1, 720), (79, 1, 1001), (80, 1, 10), (81, 1, 10), (82, 1, 45), (90, 0, 5), (91, 1, 40), (92, 0, 5), (93, 1, 40), (94, 0, 5), (95, 1, 40), (96, 0, 5), (97, 1, 40), (100, 0, 6), (101, 1, 82), (102, 1, 82), (103, 1, 82), (104, 1, 7), (105, 1, 6), (106, 3, 1001), (107, 1, 10), (108, 1, 100), (109, 1, 120), (110, 1, 4), (111, 1, 4), (112, 1, 160), (113, 1, 40)]
/-- where refs lead -/
def cmrl : List (Int × Int × Int) := [(0, 0, 10), (0, 1, 30), (0, 3, 50), (0, 4, 70), (0, 5, 72), (0, 6, 74), (0, 7, 75), (0, 8, 76), (0, 9, 78), (0, 10, 79), (0, 11, 80), (0, 12, 81), (0, 13, 82), (10, 1, 11), (10, 2, 12), (10, 3, 13), (10, 7, 14), (10, 8, 19), (10, 10, 20), (10, 11, 21), (10, 13, 22), (14, 0, 15), (14, 1, 16), (14, 2, 17), (14, 3, 18), (30, 1, 31), (30, 2, 32), (30, 3, 33), (30, 7, 34), (30, 8, 39), (30, 10, 40), (30, 11, 41), (30, 13, 42), (34, 0, 35), (34, 1, 36), (34, 2, 37), (34, 3, 38), (50, 1, 51), (50, 2, 52), (50, 3, 53), (50, 7, 54), (50, 8, 59), (50, 10, 60), (50, 11, 61), (50, 13, 62), (54, 0, 55), (54, 1, 56), (54, 2, 57), (54, 3, 58), (70, 0, 71), (72, 0, 70), (72, 1, 50), (72, 2, 73), (74, 0, 90), (74, 1, 92), (74, 2, 94), (74, 3, 96), (76, 0, 77), (90, 2, 91), (92, 2, 93), (94, 2, 95), (96, 2, 97), (100, 0, 101), (100, 1, 102), (100, 2, 103), (100, 3, 104), (100, 5, 105), (100, 8, 106), (100, 9, 107), (100, 10, 108), (100, 11, 109), (100, 17, 110), (100, 18, 111), (100, 19, 112), (100, 20, 113)]
def cmr (k j : Int) : Int := match cmrl.find? (fun q => q.1 == k && q.2.1 == j) with | some q => q.2.2 | none => 0

/-- an entry of the world, as the kit has it -/
def cfield (t : cT) (M : cM) (k : Int) (j : Nat) (b : Bool) : Value := if b then .int (Int32.ofInt (M k j)) else .ref (t.1 (cmr k j))
def cent (t : cT) (M : cM) (k : Int) (sh : Nat × Nat) : va_E := match sh.1 with
  | 0 => .inr (sh.2, (cfk.getD sh.2 []).mapIdx (fun j b => cfield t M k j b))
  | 4 => .inl (t.2.2.2.2.2.1 4, (sh.2, .inr (.inr (.inr (.inr (fun j => some (t.1 (cmr k j))))))))
  | 5 => .inl (t.2.2.2.2.2.1 5, (sh.2, .inr (.inr (.inr (.inr (fun j => some (t.1 (cmr k j))))))))
  | n => .inl (t.2.2.2.2.2.1 n, (sh.2, .inl (fun j => Int32.ofInt (M k j))))
def cws (t : cT) (M : cM) : va_W := ctab.map (fun q => (t.1 q.1, cent t M q.1 q.2))
def ctys (t : cT) : List (ClassId × FieldType) := [(t.2.2.2.2.2.1 1, .int), (t.2.2.2.2.2.1 2, .byte), (t.2.2.2.2.2.1 3, .boolean), (t.2.2.2.2.2.1 4, .object "SlantSheets$Row"), (t.2.2.2.2.2.1 5, .array .int)]
theorem ctab_nd {i j : Nat} {a b : Int × Nat × Nat} (hi : ctab[i]? = some a) (hj : ctab[j]? = some b) (h : a.1 = b.1) : i = j := by
  refine va_nd_inj (ctab.map (fun q => q.1.toNat)) (by decide +kernel) i j a.1.toNat ?_ ?_
  · rw [List.getElem?_map, hi]; rfl
  · rw [List.getElem?_map, hj, h]; rfl
theorem cws_at {t : cT} {M : cM} {k : Int} {sh : Nat × Nat} (h : (k, sh) ∈ ctab) : ∃ q : Nat, ctab[q]? = some (k, sh) ∧ (cws t M)[q]? = some (t.1 k, cent t M k sh) := by
  obtain ⟨q, hq⟩ := List.getElem?_of_mem h
  refine ⟨q, hq, ?_⟩
  unfold cws
  rw [List.getElem?_map, hq]
  rfl
theorem cent_congr {t : cT} {M M' : cM} {k : Int} {sh : Nat × Nat} (h : ∀ j, M' k j = M k j) : cent t M' k sh = cent t M k sh := by
  have e : (fun j => M' k j) = (fun j => M k j) := funext h
  unfold cent cfield
  simp only [h]
theorem cws_set {t : cT} {M M' : cM} {k : Int} {sh : Nat × Nat} {q : Nat} {e : va_E} (hq : ctab[q]? = some (k, sh)) (he : e = cent t M' k sh) (ho : ∀ k' j, k' ≠ k → M' k' j = M k' j) : (cws t M).set q (t.1 k, e) = cws t M' := by
  subst he
  have hl : q < ctab.length := (List.getElem?_eq_some_iff.mp hq).1
  apply List.ext_getElem?
  intro i
  unfold cws
  by_cases hi : i = q
  · subst hi
    rw [List.getElem?_set_self (by rw [List.length_map]; exact hl), List.getElem?_map, hq]
    rfl
  · rw [List.getElem?_set_ne (Ne.symm hi), List.getElem?_map, List.getElem?_map]
    cases hc : ctab[i]? with
    | none => rfl
    | some x =>
      have hne : x.1 ≠ k := fun z => hi (ctab_nd hc hq z)
      show some (t.1 x.1, cent t M x.1 x.2) = some (t.1 x.1, cent t M' x.1 x.2)
      rw [cent_congr (fun j => ho x.1 j hne)]

def clen : List Nat := [5, 4, 5, 5, 4, 6, 6, 4, 5, 4, 6, 5, 4, 4]
def cbyt : List (List Int32) := [[115, 116, 97, 99, 107], [108, 97, 109, 112], [109, 105, 120, 101, 100], [115, 108, 97, 110, 116], [108, 111, 97, 100], [102, 105, 108, 116, 101, 114], [116, 117, 114, 110, 101, 114], [104, 97, 108, 102], [115, 109, 111, 107, 101], [104, 111, 114, 110], [115, 116, 114, 97, 105, 110], [115, 104, 101, 101, 116], [116, 117, 114, 110], [112, 97, 115, 115]]
def cidx : List Nat := [40, 49, 87, 89, 54, 106, 108, 110, 112, 114, 116, 118, 71, 77]
def ctxt : List String := ["stack", "lamp", "mixed", "slant", "load", "filter", "turner", "half", "smoke", "horn", "strain", "sheet", "turn", "pass"]
/-- what the machine's tables, statics and constants say, at a state -/
def Kx (D : va_G) (t : cT) (A : Nat → Prop) (s : State) : Prop :=
  va_K D ccl (ctys t) s ∧ (∀ q ∈ ctab, A (t.1 q.1)) ∧ (∀ q ∈ ctab, ∀ q' ∈ ctab, t.1 q.1 = t.1 q'.1 → q.1 = q'.1) ∧
  (va_Z "SlantSheets" "COS" "[I" (.ref (t.2.1 0)) A s s.heap ∧ va_Z "SlantSheets" "ABOVE" "[I" (.ref (t.2.1 1)) A s s.heap ∧ va_Z "java/lang/String" "COMPACT_STRINGS" "Z" (.int 1) A s s.heap ∧ va_Z "jdk/internal/util/Preconditions" "SIOOBE_FORMATTER" "Ljava/util/function/BiFunction;" t.2.2.2.2.1 A s s.heap) ∧
  (∀ i : Int, 0 ≤ i → i < 3 → va_T .int (t.2.1 i) (t.2.2.2.2.2.2 (1000 + i) (-1)).toNat (fun j => .int (Int32.ofInt (t.2.2.2.2.2.2 (1000 + i) j))) A s s.heap ∧ 0 ≤ t.2.2.2.2.2.2 (1000 + i) (-1)) ∧
  vk_S 14 clen cbyt t.2.2.1 t.2.2.2.1 A s s.heap ∧
  (∀ i : Nat, i < 14 → vk_R "SlantSheets$TextReader" (cidx.getD i 0) (ctxt.getD i "") (t.2.2.1 i) s) ∧
  (t.2.2.2.2.1 = .null ∨ ∃ a, t.2.2.2.2.1 = .ref a) ∧
  (∀ i : Nat, i < 14 → t.2.2.2.2.2.2 (2000 + i) (-1) = (clen.getD i 0 : Nat) ∧ ∀ j : Nat, j < clen.getD i 0 → Int32.ofInt (t.2.2.2.2.2.2 (2000 + i) j) = (cbyt.getD i []).getD j 0) ∧
  va_Nw (.fieldLinkNest "SlantSheets$Light" 20 "SlantSheets" "COS" "[I" "SlantSheets") s
/-- the heap holds the world, with these ints -/
def RW (D : va_G) (t : cT) (M : cM) (H : Heap) : Prop := va_P D ccl (cws t M) H ∧ ∀ c j, 1000 ≤ c → M c j = t.2.2.2.2.2.2 c j
theorem Kx.apart {D : va_G} {t : cT} {A : Nat → Prop} {s : State} (h : Kx D t A s) (M : cM) : va_D A (cws t M) := by
  obtain ⟨-, h1, h2, -⟩ := h
  have key : ∀ (k : Nat) (q : Nat × va_E), (cws t M)[k]? = some q → ∃ x, ctab[k]? = some x ∧ q.1 = t.1 x.1 := by
    intro k q hk
    unfold cws at hk
    rw [List.getElem?_map] at hk
    cases hc : ctab[k]? with
    | none => rw [hc] at hk; cases hk
    | some x => rw [hc] at hk; cases hk; exact ⟨x, rfl, rfl⟩
  refine ⟨fun i j p q hi hj hpq => ?_, fun k q hk => ?_⟩
  · obtain ⟨x, e1, e2⟩ := key i p hi
    obtain ⟨y, e3, e4⟩ := key j q hj
    exact ctab_nd e1 e3 (h2 x (List.mem_of_getElem? e1) y (List.mem_of_getElem? e3) (by rw [← e2, ← e4]; exact hpq))
  · obtain ⟨x, e1, e2⟩ := key k q hk
    rw [e2]
    exact h1 x (List.mem_of_getElem? e1)
theorem Kx.moved {D : va_G} {t : cT} {A : Nat → Prop} {s U : State} (hW : s.WarmedH U.vm) (hq : ∀ a : Nat, a < s.heap.size → ¬ A a → U.heap[a]? = s.heap[a]?) (h : Kx D t A s) : Kx D t A U := by
  obtain ⟨h1, h2, h3, ⟨h4, h5, h6, h7⟩, h8, h9, h10, h11, h12, h13⟩ := h
  have al := hW.alike
  refine ⟨va_K.moved al h1, h2, h3, ⟨(va_Z.moved al h4).kept hq, (va_Z.moved al h5).kept hq, (va_Z.moved al h6).kept hq, (va_Z.moved al h7).kept hq⟩, fun i g1 g2 => ⟨(va_T.moved al (h8 i g1 g2).1).kept hq, (h8 i g1 g2).2⟩, (vk_S.moved al h9).kept hq, fun i hi => vk_R.warm hW (h10 i hi), h11, h12, va_Nw.warmF hW h13⟩
theorem Kx.blind {D : va_G} {t : cT} {A : Nat → Prop} {U : State} (g : JFrame) (mk : MethodId) (a : Array Value) (h : Kx D t A U) : Kx D t A (U.calling g mk a) := by
  obtain ⟨h1, h2, h3, ⟨h4, h5, h6, h7⟩, h8, h9, h10, h11, h12, h13⟩ := h
  have al : U.vm.Alike (U.calling g mk a).vm := Vm.Alike.refl U.vm
  exact ⟨va_K.moved al h1, h2, h3, ⟨va_Z.moved al h4, va_Z.moved al h5, va_Z.moved al h6, va_Z.moved al h7⟩, fun i g1 g2 => ⟨va_T.moved al (h8 i g1 g2).1, (h8 i g1 g2).2⟩, vk_S.moved al h9, fun i hi => vk_R.same rfl (h10 i hi), h11, h12, va_Nw.same rfl rfl h13⟩
/-- a method: its name, code, locals, the type and kind of its answer (0 none, 1 int, 2 long, 3 ref, 4 boolean, 5 byte, 6 char), how many parameters -/
abbrev cMi : Type := MethodName × ByteArray × Nat × Option FieldType × Nat × Nat
/-- the locals that are known -/
def RL (t : cT) (ls : Array Slot) (n : Nat) (L : List cV) : Prop := ls.size = n ∧ lv_wf ls ∧ ∀ (i : Nat) (v : cV), L[i]? = some v → v.1 ≠ 9 → ls[i]? = some (.val (tr t v))
def Cx (μ : cMi) (d : Nat) (p : Program) (R : Room) (s : State) (m : MethodId) (args : Array Value) (c : Code) (t : cT) (A : Nat → Prop) (D : va_G) : Prop :=
  p.tables.exec = Jvm.exec ∧ c.code = μ.2.1 ∧ c.maxLocals = μ.2.2.1 ∧ s.vm.findClass μ.1.cls = some m.cls ∧ (∀ w ∈ bw, w.before args s = true) ∧ (d ≤ R.frames ∧ 64 * d ≤ R.locals) ∧ Kx D t A s
/-- a return's end, by the kind of the answer -/
def Rx (μ : cMi) (Q : cV → cM → Prop) (p : Program) (l : Launch) (e : Env) (R : Room) (s : State) (m : MethodId) (args : Array Value) (below : List Frame) (meth : Method) (c : Code) (cells slots : Nat) (Qf : State → Prop) (t : cT) (A : Nat → Prop) (D : va_G) : Prop :=
  (cells ≤ R.cells ∧ slots ≤ R.slots) ∧ ∀ (M : cM) (H : Heap) (locs : List Loc) (pc : Nat) (ls : Array Slot), wfM M → RW D t M H → va_S A s.heap H locs →
    (∀ x : Int, (μ.2.2.2.2.1 = 1 ∨ μ.2.2.2.2.1 = 4 ∨ μ.2.2.2.2.1 = 5 ∨ μ.2.2.2.2.1 = 6) → Q (vI (narK μ.2.2.2.2.1 x)) M → decode μ.2.1 pc = .ok (.ireturn, 1) → W p l e R s m args below meth c H locs cells slots Qf (F0 m pc ls [.int (Int32.ofInt x)])) ∧
    (∀ x : Int, μ.2.2.2.2.1 = 2 → lR x → Q (vL x) M → decode μ.2.1 pc = .ok (.lreturn, 1) → W p l e R s m args below meth c H locs cells slots Qf (F0 m pc ls [.long (Int64.ofInt x)])) ∧
    (∀ k : Nat, μ.2.2.2.2.1 = 3 → Q (vS (k : Nat)) M → decode μ.2.1 pc = .ok (.areturn, 1) → W p l e R s m args below meth c H locs cells slots Qf (F0 m pc ls [tr t (vS (k : Nat))])) ∧
    (μ.2.2.2.2.1 = 0 → Q vU M → decode μ.2.1 pc = .ok (.return_, 1) → W p l e R s m args below meth c H locs cells slots Qf (F0 m pc ls []))
/-- THE JUDGEMENT: method μ, at pc, with these locals, stack and ints, comes to a return with Q -/
def Wa (μ : cMi) (d : Nat) (Q : cV → cM → Prop) (pc : Nat) (L st : List cV) (M : cM) : Prop :=
  ∀ (p : Program) (l : Launch) (e : Env) (R : Room) (s : State) (m : MethodId) (args : Array Value) (below : List Frame) (meth : Method) (c : Code) (H : Heap) (locs : List Loc) (cells slots : Nat) (Qf : State → Prop) (t : cT) (A : Nat → Prop) (D : va_G) (ls : Array Slot),
    Cx μ d p R s m args c t A D → Rx μ Q p l e R s m args below meth c cells slots Qf t A D → RW D t M H → va_S A s.heap H locs → RL t ls μ.2.2.1 L → wfL L → wfL st → wfM M →
    W p l e R s m args below meth c H locs cells slots Qf (F0 m pc ls (st.map (tr t)))
theorem wfL.t {v : cV} {l : List cV} (h : wfL (v :: l)) : wfL l := fun x hx => h x (List.mem_cons_of_mem _ hx)
theorem wfL.h {v : cV} {l : List cV} (h : wfL (v :: l)) : vok v := h v List.mem_cons_self
theorem wfL.c {v : cV} {l : List cV} (hv : vok v) (h : wfL l) : wfL (v :: l) := fun x hx => by
  rcases List.mem_cons.mp hx with rfl | hx
  · exact hv
  · exact h x hx
theorem wfL.i {x : Int} {l : List cV} (hx : iR x) (h : wfL l) : wfL (vI x :: l) := wfL.c ⟨fun _ => hx, fun z => absurd z (by show ¬ (0 : Nat) = 1; decide)⟩ h
theorem wfL.l {x : Int} {l : List cV} (hx : lR x) (h : wfL l) : wfL (vL x :: l) := wfL.c ⟨fun z => absurd z (by show ¬ (1 : Nat) = 0; decide), fun _ => hx⟩ h
theorem wfL.o {n : Nat} {x : Int} {l : List cV} (hn : 2 ≤ n) (h : wfL l) : wfL ((n, x) :: l) := wfL.c ⟨fun (z : n = 0) => absurd z (by omega), fun (z : n = 1) => absurd z (by omega)⟩ h
theorem wfL.hi {x : Int} {l : List cV} (h : wfL (vI x :: l)) : iR x := h.h.1 rfl
theorem wfL.hl {x : Int} {l : List cV} (h : wfL (vL x :: l)) : lR x := h.h.2 rfl
theorem wfM.w {M : cM} {c j v : Int} (h : wfM M) (hv : iR v) : wfM (wr M c j v) := fun c' j' => by
  unfold wr
  split
  · exact hv
  · exact h c' j'
theorem wfL.at {L : List cV} {i : Nat} {v : cV} (h : wfL L) (hi : L[i]? = some v) : vok v := h v (List.mem_of_getElem? hi)
theorem wfL.set {L : List cV} {i : Nat} {v : cV} (h : wfL L) (hv : vok v) : wfL (L.set i v) := fun x hx => by
  rcases List.mem_or_eq_of_mem_set hx with q | q
  · exact h x q
  · rw [q]; exact hv
theorem vok_u : vok vU := ⟨fun (z : (9 : Nat) = 0) => absurd z (by decide), fun (z : (9 : Nat) = 1) => absurd z (by decide)⟩
