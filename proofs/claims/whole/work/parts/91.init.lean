/-! What the heap holds behind the constructors, in the abstract machine's words. -/
def cosL : List Int32 := [1000, 933, 750, 500, 250, 67, 0]
def aboL : List Int32 := [-1, 0, 0, 2, 0, 1, 2]
/-- the constant cells: COS, ABOVE, the script, the String constants -/
def zcm (L : Nat) (xs : Nat → Int32) : cM := fun c j =>
  if j = -1 then (if c = 1002 then (L : Int) else if c < 2000 then 7 else ((clen.getD (c - 2000).toNat 0 : Nat) : Int))
  else if c = 1000 then (cosL.getD j.toNat 0).toInt else if c = 1001 then (aboL.getD j.toNat 0).toInt else if c = 1002 then (xs j.toNat).toInt
  else ((cbyt.getD (c - 2000).toNat []).getD j.toNat 0).toInt
/-- the ints of the cells that the constructors make -/
def zin : cM := fun c j =>
  if c = 22 ∨ c = 42 ∨ c = 62 then -1
  else if c = 10 ∨ c = 30 ∨ c = 50 then (if j = 5 then 1000 else if j = 6 then -1 else if j = 12 then 1 else 0)
  else if c = 101 then (if j = 4 then 1 else if j = 2 then 1000 else if j = 3 then -1 else if 72 ≤ j then -1 else 0)
  else 0
def zM0 (L : Nat) (xs : Nat → Int32) : cM := fun c j => if 1000 ≤ c then zcm L xs c j else zin c j
def zpos (k : Int) : Nat := ctab.findIdx (fun q => q.1 == k)
def zt (B : Nat) (tt : Int → Nat) (a3 a4 : Nat → Nat) (v : Value) (kA : Nat → ClassId) (L : Nat) (xs : Nat → Int32) : cT := (fun k => B + zpos k, tt, a3, a4, v, kA, zcm L xs)
/-- the same cell, however its entry is written -/
def sam (e c : va_E) : Prop := ∀ (D : va_G) (a : Nat) (H : Heap), va_at D ccl (a, e) H → va_at D ccl (a, c) H
def samL : List va_E → List va_E → Prop
  | [], [] => True
  | e :: es, c :: cs => sam e c ∧ samL es cs
  | _, _ => False
theorem sam_rf {e c : va_E} (h : e = c) : sam e c := fun _ _ _ h' => h ▸ h'
theorem sam_i {c : ClassId} {n : Nat} {f g : Nat → Int32} (h : ∀ j, j < n → f j = g j) : sam (.inl (c, (n, .inl f))) (.inl (c, (n, .inl g))) := fun _ a H h' => by
  show H[a]? = some (vp_cell c (n, .inl g))
  rw [← cell_congr h]
  exact h'
theorem sam_q {c : ClassId} {n : Nat} {f g : Nat → Option Nat} (h : ∀ j, j < n → f j = g j) : sam (.inl (c, (n, .inr (.inr (.inr (.inr f)))))) (.inl (c, (n, .inr (.inr (.inr (.inr g)))))) := fun _ a H h' => by
  show H[a]? = some (vp_cell c (n, .inr (.inr (.inr (.inr g)))))
  rw [← cell_congrq h]
  exact h'
theorem samL_at : ∀ {es cs : List va_E}, samL es cs → ∀ (i : Nat) (c : va_E), cs[i]? = some c → ∃ e, es[i]? = some e ∧ sam e c
  | [], [], _, i, c, h => by cases h
  | [], _ :: _, h, _, _, _ => False.elim h
  | _ :: _, [], h, _, _, _ => False.elim h
  | e :: es, c :: cs, h, 0, x, hx => by
    cases hx
    exact ⟨e, rfl, h.1⟩
  | e :: es, c :: cs, h, i + 1, x, hx => samL_at h.2 i x hx
theorem zin_s {L : Nat} {xs : Nat → Int32} (k : Nat) : Int32.ofInt (if k = 4 then 1 else if k = 2 then 1000 else if k = 3 then -1 else if 72 ≤ k then -1 else 0) = Int32.ofInt (zM0 L xs 101 (k : Int)) := by
  refine congrArg Int32.ofInt ?_
  have e : zM0 L xs 101 (k : Int) = if (k : Int) = 4 then 1 else if (k : Int) = 2 then 1000 else if (k : Int) = 3 then -1 else if 72 ≤ (k : Int) then -1 else 0 := rfl
  rw [e]
  by_cases h4 : k = 4
  · rw [if_pos h4, if_pos (show (k : Int) = 4 by omega)]
  · rw [if_neg h4, if_neg (show ¬ (k : Int) = 4 by omega)]
    by_cases h2 : k = 2
    · rw [if_pos h2, if_pos (show (k : Int) = 2 by omega)]
    · rw [if_neg h2, if_neg (show ¬ (k : Int) = 2 by omega)]
      by_cases h3 : k = 3
      · rw [if_pos h3, if_pos (show (k : Int) = 3 by omega)]
      · rw [if_neg h3, if_neg (show ¬ (k : Int) = 3 by omega)]
        by_cases h7 : 72 ≤ k
        · rw [if_pos h7, if_pos (show 72 ≤ (k : Int) by omega)]
        · rw [if_neg h7, if_neg (show ¬ 72 ≤ (k : Int) by omega)]
theorem zm_in {L : Nat} {xs : Nat → Int32} {c j x : Int} (h : ¬ 1000 ≤ c) (h2 : zin c j = x) : zM0 L xs c j = x := by
  unfold zM0
  rw [if_neg h]
  exact h2
theorem zin_0 {c : Int} (h1 : ¬ (c = 22 ∨ c = 42 ∨ c = 62)) (h2 : ¬ (c = 10 ∨ c = 30 ∨ c = 50)) (h3 : ¬ c = 101) (j : Int) : zin c j = 0 := by
  unfold zin
  rw [if_neg h1, if_neg h2, if_neg h3]
theorem zin_1 {c : Int} (h1 : c = 22 ∨ c = 42 ∨ c = 62) (j : Int) : zin c j = -1 := by
  unfold zin
  rw [if_pos h1]
theorem lc {a a' : Value} {l l' : List Value} (h : a = a') (h2 : l = l') : a :: l = a' :: l' := by rw [h, h2]
section ZT
variable {B : Nat} {tt : Int → Nat} {a3 a4 : Nat → Nat} {v : Value} {kA : Nat → ClassId} {L : Nat} {xs : Nat → Int32}
theorem cf_r {k : Int} {j n : Nat} (h : zpos (cmr k (j : Nat)) = n) : cfield (zt B tt a3 a4 v kA L xs) (zM0 L xs) k j false = .ref (B + n) := by
  subst h
  rfl
theorem cf_i {k x : Int} {j : Nat} (h : zM0 L xs k (j : Nat) = x) : cfield (zt B tt a3 a4 v kA L xs) (zM0 L xs) k j true = .int (Int32.ofInt x) := by
  subst h
  rfl
theorem ca_i {k x : Int} {q n : Nat} (hq : q = 1 ∨ q = 2 ∨ q = 3) (hc : ¬ 1000 ≤ k) (h : ∀ j, zin k j = x) : cent (zt B tt a3 a4 v kA L xs) (zM0 L xs) k (q, n) = .inl (kA q, (n, .inl (fun _ => Int32.ofInt x))) := by
  have e : (fun j : Nat => Int32.ofInt (zM0 L xs k (j : Nat))) = fun _ => Int32.ofInt x := funext fun j => congrArg Int32.ofInt (zm_in hc (h _))
  rcases hq with rfl | rfl | rfl
  · show (Sum.inl (kA 1, (n, Sum.inl (fun j : Nat => Int32.ofInt (zM0 L xs k (j : Nat))))) : va_E) = _
    rw [e]
  · show (Sum.inl (kA 2, (n, Sum.inl (fun j : Nat => Int32.ofInt (zM0 L xs k (j : Nat))))) : va_E) = _
    rw [e]
  · show (Sum.inl (kA 3, (n, Sum.inl (fun j : Nat => Int32.ofInt (zM0 L xs k (j : Nat))))) : va_E) = _
    rw [e]
end ZT
theorem ctab_map {α : Type} (f : Int × Nat × Nat → α) : ctab.map f = [f (0, 0, 0), f (10, 0, 1), f (11, 1, 10), f (12, 1, 10), f (13, 1, 10), f (14, 5, 4), f (15, 1, 6), f (16, 1, 6), f (17, 1, 6), f (18, 1, 6), f (19, 1, 4), f (20, 1, 4), f (21, 1, 4), f (22, 1, 10), f (30, 0, 1), f (31, 1, 10), f (32, 1, 10), f (33, 1, 10), f (34, 5, 4), f (35, 1, 6), f (36, 1, 6), f (37, 1, 6), f (38, 1, 6), f (39, 1, 4), f (40, 1, 4), f (41, 1, 4), f (42, 1, 10), f (50, 0, 1), f (51, 1, 10), f (52, 1, 10), f (53, 1, 10), f (54, 5, 4), f (55, 1, 6), f (56, 1, 6), f (57, 1, 6), f (58, 1, 6), f (59, 1, 4), f (60, 1, 4), f (61, 1, 4), f (62, 1, 10), f (70, 0, 2), f (71, 2, 120), f (72, 0, 3), f (73, 1, 6), f (74, 4, 4), f (75, 1, 7), f (76, 0, 4), f (77, 1, 6), f (78, 1, 720), f (79, 1, 1001), f (80, 1, 10), f (81, 1, 10), f (82, 1, 45), f (90, 0, 5), f (91, 1, 40), f (92, 0, 5), f (93, 1, 40), f (94, 0, 5), f (95, 1, 40), f (96, 0, 5), f (97, 1, 40), f (100, 0, 6), f (101, 1, 82), f (102, 1, 82), f (103, 1, 82), f (104, 1, 7), f (105, 1, 6), f (106, 3, 1001), f (107, 1, 10), f (108, 1, 100), f (109, 1, 120), f (110, 1, 4), f (111, 1, 4), f (112, 1, 160), f (113, 1, 40)] := rfl
def zE (kA : Nat → ClassId) (b : Nat) : List va_E := [.inr (0, [.ref (b + 1), .ref (b + 14), .int (Int32.ofInt 0), .ref (b + 27), .ref (b + 40), .ref (b + 42), .ref (b + 44), .ref (b + 45), .ref (b + 46), .ref (b + 48), .ref (b + 49), .ref (b + 50), .ref (b + 51), .ref (b + 52)]),
  .inr (1, [.int (Int32.ofInt 0), .ref ((b + 1) + 1), .ref ((b + 1) + 2), .ref ((b + 1) + 3), .int (Int32.ofInt 0), .int (Int32.ofInt 1000), .int (Int32.ofInt (-1)), .ref ((b + 1) + 4), .ref ((b + 1) + 9), .int (Int32.ofInt 0), .ref ((b + 1) + 10), .ref ((b + 1) + 11), .int (Int32.ofInt 1), .ref ((b + 1) + 12)]),
  .inl (kA 1, (10, .inl (fun _ => Int32.ofInt 0))),
  .inl (kA 1, (10, .inl (fun _ => Int32.ofInt 0))),
  .inl (kA 1, (10, .inl (fun _ => Int32.ofInt 0))),
  .inl (kA 5, (4, .inr (.inr (.inr (.inr (fun j => some ((b + 1) + 4 + 1 + j))))))),
  .inl (kA 1, (6, .inl (fun _ => Int32.ofInt 0))),
  .inl (kA 1, (6, .inl (fun _ => Int32.ofInt 0))),
  .inl (kA 1, (6, .inl (fun _ => Int32.ofInt 0))),
  .inl (kA 1, (6, .inl (fun _ => Int32.ofInt 0))),
  .inl (kA 1, (4, .inl (fun _ => Int32.ofInt 0))),
  .inl (kA 1, (4, .inl (fun _ => Int32.ofInt 0))),
  .inl (kA 1, (4, .inl (fun _ => Int32.ofInt 0))),
  .inl (kA 1, (10, .inl (fun _ => Int32.ofInt (-1)))),
  .inr (1, [.int (Int32.ofInt 0), .ref ((b + 14) + 1), .ref ((b + 14) + 2), .ref ((b + 14) + 3), .int (Int32.ofInt 0), .int (Int32.ofInt 1000), .int (Int32.ofInt (-1)), .ref ((b + 14) + 4), .ref ((b + 14) + 9), .int (Int32.ofInt 0), .ref ((b + 14) + 10), .ref ((b + 14) + 11), .int (Int32.ofInt 1), .ref ((b + 14) + 12)]),
  .inl (kA 1, (10, .inl (fun _ => Int32.ofInt 0))),
  .inl (kA 1, (10, .inl (fun _ => Int32.ofInt 0))),
  .inl (kA 1, (10, .inl (fun _ => Int32.ofInt 0))),
  .inl (kA 5, (4, .inr (.inr (.inr (.inr (fun j => some ((b + 14) + 4 + 1 + j))))))),
  .inl (kA 1, (6, .inl (fun _ => Int32.ofInt 0))),
  .inl (kA 1, (6, .inl (fun _ => Int32.ofInt 0))),
  .inl (kA 1, (6, .inl (fun _ => Int32.ofInt 0))),
  .inl (kA 1, (6, .inl (fun _ => Int32.ofInt 0))),
  .inl (kA 1, (4, .inl (fun _ => Int32.ofInt 0))),
  .inl (kA 1, (4, .inl (fun _ => Int32.ofInt 0))),
  .inl (kA 1, (4, .inl (fun _ => Int32.ofInt 0))),
  .inl (kA 1, (10, .inl (fun _ => Int32.ofInt (-1)))),
  .inr (1, [.int (Int32.ofInt 0), .ref ((b + 27) + 1), .ref ((b + 27) + 2), .ref ((b + 27) + 3), .int (Int32.ofInt 0), .int (Int32.ofInt 1000), .int (Int32.ofInt (-1)), .ref ((b + 27) + 4), .ref ((b + 27) + 9), .int (Int32.ofInt 0), .ref ((b + 27) + 10), .ref ((b + 27) + 11), .int (Int32.ofInt 1), .ref ((b + 27) + 12)]),
  .inl (kA 1, (10, .inl (fun _ => Int32.ofInt 0))),
  .inl (kA 1, (10, .inl (fun _ => Int32.ofInt 0))),
  .inl (kA 1, (10, .inl (fun _ => Int32.ofInt 0))),
  .inl (kA 5, (4, .inr (.inr (.inr (.inr (fun j => some ((b + 27) + 4 + 1 + j))))))),
  .inl (kA 1, (6, .inl (fun _ => Int32.ofInt 0))),
  .inl (kA 1, (6, .inl (fun _ => Int32.ofInt 0))),
  .inl (kA 1, (6, .inl (fun _ => Int32.ofInt 0))),
  .inl (kA 1, (6, .inl (fun _ => Int32.ofInt 0))),
  .inl (kA 1, (4, .inl (fun _ => Int32.ofInt 0))),
  .inl (kA 1, (4, .inl (fun _ => Int32.ofInt 0))),
  .inl (kA 1, (4, .inl (fun _ => Int32.ofInt 0))),
  .inl (kA 1, (10, .inl (fun _ => Int32.ofInt (-1)))),
  .inr (2, [.ref ((b + 40) + 1), .int (Int32.ofInt 0)]),
  .inl (kA 2, (120, .inl (fun _ => Int32.ofInt 0))),
  .inr (3, [.ref (b + 40), .ref (b + 27), .ref ((b + 42) + 1), .int (Int32.ofInt 0), .int (Int32.ofInt 0), .int (Int32.ofInt 0)]),
  .inl (kA 1, (6, .inl (fun _ => Int32.ofInt 0))),
  .inl (kA 4, (4, .inr (.inr (.inr (.inr (fun k => if k = (Int32.ofInt 3).toNatClampNeg then some (b + 59) else (fun k => if k = (Int32.ofInt 2).toNatClampNeg then some (b + 57) else (fun k => if k = (Int32.ofInt 1).toNatClampNeg then some (b + 55) else (fun k => if k = (Int32.ofInt 0).toNatClampNeg then some (b + 53) else (fun _ => none) k) k) k) k)))))),
  .inl (kA 1, (7, .inl (fun _ => Int32.ofInt 0))),
  .inr (4, [.ref ((b + 46) + 1), .int (Int32.ofInt 0)]),
  .inl (kA 1, (6, .inl (fun _ => Int32.ofInt 0))),
  .inl (kA 1, (720, .inl (fun _ => Int32.ofInt 0))),
  .inl (kA 1, (1001, .inl (fun _ => Int32.ofInt 0))),
  .inl (kA 1, (10, .inl (fun _ => Int32.ofInt 0))),
  .inl (kA 1, (10, .inl (fun _ => Int32.ofInt 0))),
  .inl (kA 1, (45, .inl (fun _ => Int32.ofInt 0))),
  .inr (5, [.int (Int32.ofInt 0), .int (Int32.ofInt 0), .ref ((b + 53) + 1)]),
  .inl (kA 1, (40, .inl (fun _ => Int32.ofInt 0))),
  .inr (5, [.int (Int32.ofInt 0), .int (Int32.ofInt 0), .ref ((b + 55) + 1)]),
  .inl (kA 1, (40, .inl (fun _ => Int32.ofInt 0))),
  .inr (5, [.int (Int32.ofInt 0), .int (Int32.ofInt 0), .ref ((b + 57) + 1)]),
  .inl (kA 1, (40, .inl (fun _ => Int32.ofInt 0))),
  .inr (5, [.int (Int32.ofInt 0), .int (Int32.ofInt 0), .ref ((b + 59) + 1)]),
  .inl (kA 1, (40, .inl (fun _ => Int32.ofInt 0))),
  .inr (6, [.ref ((b + 61) + 1), .ref ((b + 61) + 2), .ref ((b + 61) + 3), .ref ((b + 61) + 4), .int (Int32.ofInt 0), .ref ((b + 61) + 5), .int (Int32.ofInt 0), .int (Int32.ofInt 0), .ref ((b + 61) + 6), .ref ((b + 61) + 7), .ref ((b + 61) + 8), .ref ((b + 61) + 9), .int (Int32.ofInt 0), .int (Int32.ofInt 0), .int (Int32.ofInt 0), .int (Int32.ofInt 0), .int (Int32.ofInt 0), .ref ((b + 61) + 10), .ref ((b + 61) + 11), .ref ((b + 61) + 12), .ref ((b + 61) + 13)]),
  .inl (kA 1, (82, .inl (fun k => Int32.ofInt (if k = 4 then 1 else if k = 2 then 1000 else if k = 3 then -1 else if 72 ≤ k then -1 else 0)))),
  .inl (kA 1, (82, .inl (fun _ => Int32.ofInt 0))),
  .inl (kA 1, (82, .inl (fun _ => Int32.ofInt 0))),
  .inl (kA 1, (7, .inl (fun _ => Int32.ofInt 0))),
  .inl (kA 1, (6, .inl (fun _ => Int32.ofInt 0))),
  .inl (kA 3, (1001, .inl (fun _ => Int32.ofInt 0))),
  .inl (kA 1, (10, .inl (fun _ => Int32.ofInt 0))),
  .inl (kA 1, (100, .inl (fun _ => Int32.ofInt 0))),
  .inl (kA 1, (120, .inl (fun _ => Int32.ofInt 0))),
  .inl (kA 1, (4, .inl (fun _ => Int32.ofInt 0))),
  .inl (kA 1, (4, .inl (fun _ => Int32.ofInt 0))),
  .inl (kA 1, (160, .inl (fun _ => Int32.ofInt 0))),
  .inl (kA 1, (40, .inl (fun _ => Int32.ofInt 0)))]
set_option maxHeartbeats 4000000 in
set_option maxRecDepth 100000 in
theorem zE_eq (kA : Nat → ClassId) (b : Nat) : zS kA b ++ zM kA (b + 61) = zE kA b := by
  simp only [zS, zG, zP, zQ, zA, zW, zM, zE, List.cons_append, List.nil_append]
theorem mi_0 {α : Type} (f : Nat → Bool → α) : (cfk.getD 0 []).mapIdx f = [f 0 false, f 1 false, f 2 true, f 3 false, f 4 false, f 5 false, f 6 false, f 7 false, f 8 false, f 9 false, f 10 false, f 11 false, f 12 false, f 13 false] := by
  rw [show cfk.getD 0 [] = [false, false, true, false, false, false, false, false, false, false, false, false, false, false] from rfl]
  simp only [List.mapIdx_cons, List.mapIdx_nil, Nat.zero_add, Nat.reduceAdd]
theorem mi_1 {α : Type} (f : Nat → Bool → α) : (cfk.getD 1 []).mapIdx f = [f 0 true, f 1 false, f 2 false, f 3 false, f 4 true, f 5 true, f 6 true, f 7 false, f 8 false, f 9 true, f 10 false, f 11 false, f 12 true, f 13 false] := by
  rw [show cfk.getD 1 [] = [true, false, false, false, true, true, true, false, false, true, false, false, true, false] from rfl]
  simp only [List.mapIdx_cons, List.mapIdx_nil, Nat.zero_add, Nat.reduceAdd]
theorem mi_2 {α : Type} (f : Nat → Bool → α) : (cfk.getD 2 []).mapIdx f = [f 0 false, f 1 true] := by
  rw [show cfk.getD 2 [] = [false, true] from rfl]
  simp only [List.mapIdx_cons, List.mapIdx_nil, Nat.zero_add, Nat.reduceAdd]
theorem mi_3 {α : Type} (f : Nat → Bool → α) : (cfk.getD 3 []).mapIdx f = [f 0 false, f 1 false, f 2 false, f 3 true, f 4 true, f 5 true] := by
  rw [show cfk.getD 3 [] = [false, false, false, true, true, true] from rfl]
  simp only [List.mapIdx_cons, List.mapIdx_nil, Nat.zero_add, Nat.reduceAdd]
theorem mi_4 {α : Type} (f : Nat → Bool → α) : (cfk.getD 4 []).mapIdx f = [f 0 false, f 1 true] := by
  rw [show cfk.getD 4 [] = [false, true] from rfl]
  simp only [List.mapIdx_cons, List.mapIdx_nil, Nat.zero_add, Nat.reduceAdd]
theorem mi_5 {α : Type} (f : Nat → Bool → α) : (cfk.getD 5 []).mapIdx f = [f 0 true, f 1 true, f 2 false] := by
  rw [show cfk.getD 5 [] = [true, true, false] from rfl]
  simp only [List.mapIdx_cons, List.mapIdx_nil, Nat.zero_add, Nat.reduceAdd]
theorem mi_6 {α : Type} (f : Nat → Bool → α) : (cfk.getD 6 []).mapIdx f = [f 0 false, f 1 false, f 2 false, f 3 false, f 4 true, f 5 false, f 6 true, f 7 true, f 8 false, f 9 false, f 10 false, f 11 false, f 12 true, f 13 true, f 14 true, f 15 true, f 16 true, f 17 false, f 18 false, f 19 false, f 20 false] := by
  rw [show cfk.getD 6 [] = [false, false, false, false, true, false, true, true, false, false, false, false, true, true, true, true, true, false, false, false, false] from rfl]
  simp only [List.mapIdx_cons, List.mapIdx_nil, Nat.zero_add, Nat.reduceAdd]
theorem zr_0_0 : zpos (cmr 0 ((0 : Nat) : Int)) = 1 := by decide +kernel
theorem zr_0_1 : zpos (cmr 0 ((1 : Nat) : Int)) = 14 := by decide +kernel
theorem zr_0_3 : zpos (cmr 0 ((3 : Nat) : Int)) = 27 := by decide +kernel
theorem zr_0_4 : zpos (cmr 0 ((4 : Nat) : Int)) = 40 := by decide +kernel
theorem zr_0_5 : zpos (cmr 0 ((5 : Nat) : Int)) = 42 := by decide +kernel
theorem zr_0_6 : zpos (cmr 0 ((6 : Nat) : Int)) = 44 := by decide +kernel
theorem zr_0_7 : zpos (cmr 0 ((7 : Nat) : Int)) = 45 := by decide +kernel
theorem zr_0_8 : zpos (cmr 0 ((8 : Nat) : Int)) = 46 := by decide +kernel
theorem zr_0_9 : zpos (cmr 0 ((9 : Nat) : Int)) = 48 := by decide +kernel
theorem zr_0_10 : zpos (cmr 0 ((10 : Nat) : Int)) = 49 := by decide +kernel
theorem zr_0_11 : zpos (cmr 0 ((11 : Nat) : Int)) = 50 := by decide +kernel
theorem zr_0_12 : zpos (cmr 0 ((12 : Nat) : Int)) = 51 := by decide +kernel
theorem zr_0_13 : zpos (cmr 0 ((13 : Nat) : Int)) = 52 := by decide +kernel
theorem ce_0 {b : Nat} {tt : Int → Nat} {a3 a4 : Nat → Nat} {v : Value} {kA : Nat → ClassId} {L : Nat} {xs : Nat → Int32} : cent (zt b tt a3 a4 v kA L xs) (zM0 L xs) 0 (0, 0) = .inr (0, [.ref (b + 1), .ref (b + 14), .int (Int32.ofInt 0), .ref (b + 27), .ref (b + 40), .ref (b + 42), .ref (b + 44), .ref (b + 45), .ref (b + 46), .ref (b + 48), .ref (b + 49), .ref (b + 50), .ref (b + 51), .ref (b + 52)]) := by
  show (Sum.inr (0, (cfk.getD 0 []).mapIdx (fun j b_ => cfield (zt b tt a3 a4 v kA L xs) (zM0 L xs) 0 j b_)) : va_E) = _
  rw [mi_0]
  exact congrArg (fun l => Sum.inr (0, l)) (lc (cf_r zr_0_0) (lc (cf_r zr_0_1) (lc (cf_i (x := 0) (zm_in (by decide) (by decide +kernel))) (lc (cf_r zr_0_3) (lc (cf_r zr_0_4) (lc (cf_r zr_0_5) (lc (cf_r zr_0_6) (lc (cf_r zr_0_7) (lc (cf_r zr_0_8) (lc (cf_r zr_0_9) (lc (cf_r zr_0_10) (lc (cf_r zr_0_11) (lc (cf_r zr_0_12) (lc (cf_r zr_0_13) rfl))))))))))))))
theorem zr_10_1 : zpos (cmr 10 ((1 : Nat) : Int)) = 2 := by decide +kernel
theorem zr_10_2 : zpos (cmr 10 ((2 : Nat) : Int)) = 3 := by decide +kernel
theorem zr_10_3 : zpos (cmr 10 ((3 : Nat) : Int)) = 4 := by decide +kernel
theorem zr_10_7 : zpos (cmr 10 ((7 : Nat) : Int)) = 5 := by decide +kernel
theorem zr_10_8 : zpos (cmr 10 ((8 : Nat) : Int)) = 10 := by decide +kernel
theorem zr_10_10 : zpos (cmr 10 ((10 : Nat) : Int)) = 11 := by decide +kernel
theorem zr_10_11 : zpos (cmr 10 ((11 : Nat) : Int)) = 12 := by decide +kernel
theorem zr_10_13 : zpos (cmr 10 ((13 : Nat) : Int)) = 13 := by decide +kernel
theorem ce_10 {b : Nat} {tt : Int → Nat} {a3 a4 : Nat → Nat} {v : Value} {kA : Nat → ClassId} {L : Nat} {xs : Nat → Int32} : cent (zt b tt a3 a4 v kA L xs) (zM0 L xs) 10 (0, 1) = .inr (1, [.int (Int32.ofInt 0), .ref ((b + 1) + 1), .ref ((b + 1) + 2), .ref ((b + 1) + 3), .int (Int32.ofInt 0), .int (Int32.ofInt 1000), .int (Int32.ofInt (-1)), .ref ((b + 1) + 4), .ref ((b + 1) + 9), .int (Int32.ofInt 0), .ref ((b + 1) + 10), .ref ((b + 1) + 11), .int (Int32.ofInt 1), .ref ((b + 1) + 12)]) := by
  show (Sum.inr (1, (cfk.getD 1 []).mapIdx (fun j b_ => cfield (zt b tt a3 a4 v kA L xs) (zM0 L xs) 10 j b_)) : va_E) = _
  rw [mi_1]
  exact congrArg (fun l => Sum.inr (1, l)) (lc (cf_i (x := 0) (zm_in (by decide) (by decide +kernel))) (lc (cf_r zr_10_1) (lc (cf_r zr_10_2) (lc (cf_r zr_10_3) (lc (cf_i (x := 0) (zm_in (by decide) (by decide +kernel))) (lc (cf_i (x := 1000) (zm_in (by decide) (by decide +kernel))) (lc (cf_i (x := (-1)) (zm_in (by decide) (by decide +kernel))) (lc (cf_r zr_10_7) (lc (cf_r zr_10_8) (lc (cf_i (x := 0) (zm_in (by decide) (by decide +kernel))) (lc (cf_r zr_10_10) (lc (cf_r zr_10_11) (lc (cf_i (x := 1) (zm_in (by decide) (by decide +kernel))) (lc (cf_r zr_10_13) rfl))))))))))))))
theorem ce_11 {b : Nat} {tt : Int → Nat} {a3 a4 : Nat → Nat} {v : Value} {kA : Nat → ClassId} {L : Nat} {xs : Nat → Int32} : cent (zt b tt a3 a4 v kA L xs) (zM0 L xs) 11 (1, 10) = .inl (kA 1, (10, .inl (fun _ => Int32.ofInt 0))) := ca_i (by decide) (by decide) (zin_0 (by decide) (by decide) (by decide))
theorem ce_12 {b : Nat} {tt : Int → Nat} {a3 a4 : Nat → Nat} {v : Value} {kA : Nat → ClassId} {L : Nat} {xs : Nat → Int32} : cent (zt b tt a3 a4 v kA L xs) (zM0 L xs) 12 (1, 10) = .inl (kA 1, (10, .inl (fun _ => Int32.ofInt 0))) := ca_i (by decide) (by decide) (zin_0 (by decide) (by decide) (by decide))
theorem ce_13 {b : Nat} {tt : Int → Nat} {a3 a4 : Nat → Nat} {v : Value} {kA : Nat → ClassId} {L : Nat} {xs : Nat → Int32} : cent (zt b tt a3 a4 v kA L xs) (zM0 L xs) 13 (1, 10) = .inl (kA 1, (10, .inl (fun _ => Int32.ofInt 0))) := ca_i (by decide) (by decide) (zin_0 (by decide) (by decide) (by decide))
theorem zr_14_0 : zpos (cmr 14 ((0 : Nat) : Int)) = 6 := by decide +kernel
theorem zr_14_1 : zpos (cmr 14 ((1 : Nat) : Int)) = 7 := by decide +kernel
theorem zr_14_2 : zpos (cmr 14 ((2 : Nat) : Int)) = 8 := by decide +kernel
theorem zr_14_3 : zpos (cmr 14 ((3 : Nat) : Int)) = 9 := by decide +kernel
theorem ce_14 {b : Nat} : ∀ j : Nat, j < 4 → some (b + zpos (cmr 14 (j : Nat))) = some (b + 6 + j) := fun j hj => by
  rcases (show j = 0 ∨ j = 1 ∨ j = 2 ∨ j = 3 by omega) with rfl | rfl | rfl | rfl
  · rw [zr_14_0]
  · rw [zr_14_1]
  · rw [zr_14_2]
  · rw [zr_14_3]
theorem ce_15 {b : Nat} {tt : Int → Nat} {a3 a4 : Nat → Nat} {v : Value} {kA : Nat → ClassId} {L : Nat} {xs : Nat → Int32} : cent (zt b tt a3 a4 v kA L xs) (zM0 L xs) 15 (1, 6) = .inl (kA 1, (6, .inl (fun _ => Int32.ofInt 0))) := ca_i (by decide) (by decide) (zin_0 (by decide) (by decide) (by decide))
theorem ce_16 {b : Nat} {tt : Int → Nat} {a3 a4 : Nat → Nat} {v : Value} {kA : Nat → ClassId} {L : Nat} {xs : Nat → Int32} : cent (zt b tt a3 a4 v kA L xs) (zM0 L xs) 16 (1, 6) = .inl (kA 1, (6, .inl (fun _ => Int32.ofInt 0))) := ca_i (by decide) (by decide) (zin_0 (by decide) (by decide) (by decide))
theorem ce_17 {b : Nat} {tt : Int → Nat} {a3 a4 : Nat → Nat} {v : Value} {kA : Nat → ClassId} {L : Nat} {xs : Nat → Int32} : cent (zt b tt a3 a4 v kA L xs) (zM0 L xs) 17 (1, 6) = .inl (kA 1, (6, .inl (fun _ => Int32.ofInt 0))) := ca_i (by decide) (by decide) (zin_0 (by decide) (by decide) (by decide))
theorem ce_18 {b : Nat} {tt : Int → Nat} {a3 a4 : Nat → Nat} {v : Value} {kA : Nat → ClassId} {L : Nat} {xs : Nat → Int32} : cent (zt b tt a3 a4 v kA L xs) (zM0 L xs) 18 (1, 6) = .inl (kA 1, (6, .inl (fun _ => Int32.ofInt 0))) := ca_i (by decide) (by decide) (zin_0 (by decide) (by decide) (by decide))
theorem ce_19 {b : Nat} {tt : Int → Nat} {a3 a4 : Nat → Nat} {v : Value} {kA : Nat → ClassId} {L : Nat} {xs : Nat → Int32} : cent (zt b tt a3 a4 v kA L xs) (zM0 L xs) 19 (1, 4) = .inl (kA 1, (4, .inl (fun _ => Int32.ofInt 0))) := ca_i (by decide) (by decide) (zin_0 (by decide) (by decide) (by decide))
theorem ce_20 {b : Nat} {tt : Int → Nat} {a3 a4 : Nat → Nat} {v : Value} {kA : Nat → ClassId} {L : Nat} {xs : Nat → Int32} : cent (zt b tt a3 a4 v kA L xs) (zM0 L xs) 20 (1, 4) = .inl (kA 1, (4, .inl (fun _ => Int32.ofInt 0))) := ca_i (by decide) (by decide) (zin_0 (by decide) (by decide) (by decide))
theorem ce_21 {b : Nat} {tt : Int → Nat} {a3 a4 : Nat → Nat} {v : Value} {kA : Nat → ClassId} {L : Nat} {xs : Nat → Int32} : cent (zt b tt a3 a4 v kA L xs) (zM0 L xs) 21 (1, 4) = .inl (kA 1, (4, .inl (fun _ => Int32.ofInt 0))) := ca_i (by decide) (by decide) (zin_0 (by decide) (by decide) (by decide))
theorem ce_22 {b : Nat} {tt : Int → Nat} {a3 a4 : Nat → Nat} {v : Value} {kA : Nat → ClassId} {L : Nat} {xs : Nat → Int32} : cent (zt b tt a3 a4 v kA L xs) (zM0 L xs) 22 (1, 10) = .inl (kA 1, (10, .inl (fun _ => Int32.ofInt (-1)))) := ca_i (by decide) (by decide) (zin_1 (by decide))
theorem zr_30_1 : zpos (cmr 30 ((1 : Nat) : Int)) = 15 := by decide +kernel
theorem zr_30_2 : zpos (cmr 30 ((2 : Nat) : Int)) = 16 := by decide +kernel
theorem zr_30_3 : zpos (cmr 30 ((3 : Nat) : Int)) = 17 := by decide +kernel
theorem zr_30_7 : zpos (cmr 30 ((7 : Nat) : Int)) = 18 := by decide +kernel
theorem zr_30_8 : zpos (cmr 30 ((8 : Nat) : Int)) = 23 := by decide +kernel
theorem zr_30_10 : zpos (cmr 30 ((10 : Nat) : Int)) = 24 := by decide +kernel
theorem zr_30_11 : zpos (cmr 30 ((11 : Nat) : Int)) = 25 := by decide +kernel
theorem zr_30_13 : zpos (cmr 30 ((13 : Nat) : Int)) = 26 := by decide +kernel
theorem ce_30 {b : Nat} {tt : Int → Nat} {a3 a4 : Nat → Nat} {v : Value} {kA : Nat → ClassId} {L : Nat} {xs : Nat → Int32} : cent (zt b tt a3 a4 v kA L xs) (zM0 L xs) 30 (0, 1) = .inr (1, [.int (Int32.ofInt 0), .ref ((b + 14) + 1), .ref ((b + 14) + 2), .ref ((b + 14) + 3), .int (Int32.ofInt 0), .int (Int32.ofInt 1000), .int (Int32.ofInt (-1)), .ref ((b + 14) + 4), .ref ((b + 14) + 9), .int (Int32.ofInt 0), .ref ((b + 14) + 10), .ref ((b + 14) + 11), .int (Int32.ofInt 1), .ref ((b + 14) + 12)]) := by
  show (Sum.inr (1, (cfk.getD 1 []).mapIdx (fun j b_ => cfield (zt b tt a3 a4 v kA L xs) (zM0 L xs) 30 j b_)) : va_E) = _
  rw [mi_1]
  exact congrArg (fun l => Sum.inr (1, l)) (lc (cf_i (x := 0) (zm_in (by decide) (by decide +kernel))) (lc (cf_r zr_30_1) (lc (cf_r zr_30_2) (lc (cf_r zr_30_3) (lc (cf_i (x := 0) (zm_in (by decide) (by decide +kernel))) (lc (cf_i (x := 1000) (zm_in (by decide) (by decide +kernel))) (lc (cf_i (x := (-1)) (zm_in (by decide) (by decide +kernel))) (lc (cf_r zr_30_7) (lc (cf_r zr_30_8) (lc (cf_i (x := 0) (zm_in (by decide) (by decide +kernel))) (lc (cf_r zr_30_10) (lc (cf_r zr_30_11) (lc (cf_i (x := 1) (zm_in (by decide) (by decide +kernel))) (lc (cf_r zr_30_13) rfl))))))))))))))
theorem ce_31 {b : Nat} {tt : Int → Nat} {a3 a4 : Nat → Nat} {v : Value} {kA : Nat → ClassId} {L : Nat} {xs : Nat → Int32} : cent (zt b tt a3 a4 v kA L xs) (zM0 L xs) 31 (1, 10) = .inl (kA 1, (10, .inl (fun _ => Int32.ofInt 0))) := ca_i (by decide) (by decide) (zin_0 (by decide) (by decide) (by decide))
theorem ce_32 {b : Nat} {tt : Int → Nat} {a3 a4 : Nat → Nat} {v : Value} {kA : Nat → ClassId} {L : Nat} {xs : Nat → Int32} : cent (zt b tt a3 a4 v kA L xs) (zM0 L xs) 32 (1, 10) = .inl (kA 1, (10, .inl (fun _ => Int32.ofInt 0))) := ca_i (by decide) (by decide) (zin_0 (by decide) (by decide) (by decide))
theorem ce_33 {b : Nat} {tt : Int → Nat} {a3 a4 : Nat → Nat} {v : Value} {kA : Nat → ClassId} {L : Nat} {xs : Nat → Int32} : cent (zt b tt a3 a4 v kA L xs) (zM0 L xs) 33 (1, 10) = .inl (kA 1, (10, .inl (fun _ => Int32.ofInt 0))) := ca_i (by decide) (by decide) (zin_0 (by decide) (by decide) (by decide))
theorem zr_34_0 : zpos (cmr 34 ((0 : Nat) : Int)) = 19 := by decide +kernel
theorem zr_34_1 : zpos (cmr 34 ((1 : Nat) : Int)) = 20 := by decide +kernel
theorem zr_34_2 : zpos (cmr 34 ((2 : Nat) : Int)) = 21 := by decide +kernel
theorem zr_34_3 : zpos (cmr 34 ((3 : Nat) : Int)) = 22 := by decide +kernel
theorem ce_34 {b : Nat} : ∀ j : Nat, j < 4 → some (b + zpos (cmr 34 (j : Nat))) = some (b + 19 + j) := fun j hj => by
  rcases (show j = 0 ∨ j = 1 ∨ j = 2 ∨ j = 3 by omega) with rfl | rfl | rfl | rfl
  · rw [zr_34_0]
  · rw [zr_34_1]
  · rw [zr_34_2]
  · rw [zr_34_3]
theorem ce_35 {b : Nat} {tt : Int → Nat} {a3 a4 : Nat → Nat} {v : Value} {kA : Nat → ClassId} {L : Nat} {xs : Nat → Int32} : cent (zt b tt a3 a4 v kA L xs) (zM0 L xs) 35 (1, 6) = .inl (kA 1, (6, .inl (fun _ => Int32.ofInt 0))) := ca_i (by decide) (by decide) (zin_0 (by decide) (by decide) (by decide))
theorem ce_36 {b : Nat} {tt : Int → Nat} {a3 a4 : Nat → Nat} {v : Value} {kA : Nat → ClassId} {L : Nat} {xs : Nat → Int32} : cent (zt b tt a3 a4 v kA L xs) (zM0 L xs) 36 (1, 6) = .inl (kA 1, (6, .inl (fun _ => Int32.ofInt 0))) := ca_i (by decide) (by decide) (zin_0 (by decide) (by decide) (by decide))
theorem ce_37 {b : Nat} {tt : Int → Nat} {a3 a4 : Nat → Nat} {v : Value} {kA : Nat → ClassId} {L : Nat} {xs : Nat → Int32} : cent (zt b tt a3 a4 v kA L xs) (zM0 L xs) 37 (1, 6) = .inl (kA 1, (6, .inl (fun _ => Int32.ofInt 0))) := ca_i (by decide) (by decide) (zin_0 (by decide) (by decide) (by decide))
theorem ce_38 {b : Nat} {tt : Int → Nat} {a3 a4 : Nat → Nat} {v : Value} {kA : Nat → ClassId} {L : Nat} {xs : Nat → Int32} : cent (zt b tt a3 a4 v kA L xs) (zM0 L xs) 38 (1, 6) = .inl (kA 1, (6, .inl (fun _ => Int32.ofInt 0))) := ca_i (by decide) (by decide) (zin_0 (by decide) (by decide) (by decide))
theorem ce_39 {b : Nat} {tt : Int → Nat} {a3 a4 : Nat → Nat} {v : Value} {kA : Nat → ClassId} {L : Nat} {xs : Nat → Int32} : cent (zt b tt a3 a4 v kA L xs) (zM0 L xs) 39 (1, 4) = .inl (kA 1, (4, .inl (fun _ => Int32.ofInt 0))) := ca_i (by decide) (by decide) (zin_0 (by decide) (by decide) (by decide))
theorem ce_40 {b : Nat} {tt : Int → Nat} {a3 a4 : Nat → Nat} {v : Value} {kA : Nat → ClassId} {L : Nat} {xs : Nat → Int32} : cent (zt b tt a3 a4 v kA L xs) (zM0 L xs) 40 (1, 4) = .inl (kA 1, (4, .inl (fun _ => Int32.ofInt 0))) := ca_i (by decide) (by decide) (zin_0 (by decide) (by decide) (by decide))
theorem ce_41 {b : Nat} {tt : Int → Nat} {a3 a4 : Nat → Nat} {v : Value} {kA : Nat → ClassId} {L : Nat} {xs : Nat → Int32} : cent (zt b tt a3 a4 v kA L xs) (zM0 L xs) 41 (1, 4) = .inl (kA 1, (4, .inl (fun _ => Int32.ofInt 0))) := ca_i (by decide) (by decide) (zin_0 (by decide) (by decide) (by decide))
theorem ce_42 {b : Nat} {tt : Int → Nat} {a3 a4 : Nat → Nat} {v : Value} {kA : Nat → ClassId} {L : Nat} {xs : Nat → Int32} : cent (zt b tt a3 a4 v kA L xs) (zM0 L xs) 42 (1, 10) = .inl (kA 1, (10, .inl (fun _ => Int32.ofInt (-1)))) := ca_i (by decide) (by decide) (zin_1 (by decide))
theorem zr_50_1 : zpos (cmr 50 ((1 : Nat) : Int)) = 28 := by decide +kernel
theorem zr_50_2 : zpos (cmr 50 ((2 : Nat) : Int)) = 29 := by decide +kernel
theorem zr_50_3 : zpos (cmr 50 ((3 : Nat) : Int)) = 30 := by decide +kernel
theorem zr_50_7 : zpos (cmr 50 ((7 : Nat) : Int)) = 31 := by decide +kernel
theorem zr_50_8 : zpos (cmr 50 ((8 : Nat) : Int)) = 36 := by decide +kernel
theorem zr_50_10 : zpos (cmr 50 ((10 : Nat) : Int)) = 37 := by decide +kernel
theorem zr_50_11 : zpos (cmr 50 ((11 : Nat) : Int)) = 38 := by decide +kernel
theorem zr_50_13 : zpos (cmr 50 ((13 : Nat) : Int)) = 39 := by decide +kernel
theorem ce_50 {b : Nat} {tt : Int → Nat} {a3 a4 : Nat → Nat} {v : Value} {kA : Nat → ClassId} {L : Nat} {xs : Nat → Int32} : cent (zt b tt a3 a4 v kA L xs) (zM0 L xs) 50 (0, 1) = .inr (1, [.int (Int32.ofInt 0), .ref ((b + 27) + 1), .ref ((b + 27) + 2), .ref ((b + 27) + 3), .int (Int32.ofInt 0), .int (Int32.ofInt 1000), .int (Int32.ofInt (-1)), .ref ((b + 27) + 4), .ref ((b + 27) + 9), .int (Int32.ofInt 0), .ref ((b + 27) + 10), .ref ((b + 27) + 11), .int (Int32.ofInt 1), .ref ((b + 27) + 12)]) := by
  show (Sum.inr (1, (cfk.getD 1 []).mapIdx (fun j b_ => cfield (zt b tt a3 a4 v kA L xs) (zM0 L xs) 50 j b_)) : va_E) = _
  rw [mi_1]
  exact congrArg (fun l => Sum.inr (1, l)) (lc (cf_i (x := 0) (zm_in (by decide) (by decide +kernel))) (lc (cf_r zr_50_1) (lc (cf_r zr_50_2) (lc (cf_r zr_50_3) (lc (cf_i (x := 0) (zm_in (by decide) (by decide +kernel))) (lc (cf_i (x := 1000) (zm_in (by decide) (by decide +kernel))) (lc (cf_i (x := (-1)) (zm_in (by decide) (by decide +kernel))) (lc (cf_r zr_50_7) (lc (cf_r zr_50_8) (lc (cf_i (x := 0) (zm_in (by decide) (by decide +kernel))) (lc (cf_r zr_50_10) (lc (cf_r zr_50_11) (lc (cf_i (x := 1) (zm_in (by decide) (by decide +kernel))) (lc (cf_r zr_50_13) rfl))))))))))))))
theorem ce_51 {b : Nat} {tt : Int → Nat} {a3 a4 : Nat → Nat} {v : Value} {kA : Nat → ClassId} {L : Nat} {xs : Nat → Int32} : cent (zt b tt a3 a4 v kA L xs) (zM0 L xs) 51 (1, 10) = .inl (kA 1, (10, .inl (fun _ => Int32.ofInt 0))) := ca_i (by decide) (by decide) (zin_0 (by decide) (by decide) (by decide))
theorem ce_52 {b : Nat} {tt : Int → Nat} {a3 a4 : Nat → Nat} {v : Value} {kA : Nat → ClassId} {L : Nat} {xs : Nat → Int32} : cent (zt b tt a3 a4 v kA L xs) (zM0 L xs) 52 (1, 10) = .inl (kA 1, (10, .inl (fun _ => Int32.ofInt 0))) := ca_i (by decide) (by decide) (zin_0 (by decide) (by decide) (by decide))
theorem ce_53 {b : Nat} {tt : Int → Nat} {a3 a4 : Nat → Nat} {v : Value} {kA : Nat → ClassId} {L : Nat} {xs : Nat → Int32} : cent (zt b tt a3 a4 v kA L xs) (zM0 L xs) 53 (1, 10) = .inl (kA 1, (10, .inl (fun _ => Int32.ofInt 0))) := ca_i (by decide) (by decide) (zin_0 (by decide) (by decide) (by decide))
theorem zr_54_0 : zpos (cmr 54 ((0 : Nat) : Int)) = 32 := by decide +kernel
theorem zr_54_1 : zpos (cmr 54 ((1 : Nat) : Int)) = 33 := by decide +kernel
theorem zr_54_2 : zpos (cmr 54 ((2 : Nat) : Int)) = 34 := by decide +kernel
theorem zr_54_3 : zpos (cmr 54 ((3 : Nat) : Int)) = 35 := by decide +kernel
theorem ce_54 {b : Nat} : ∀ j : Nat, j < 4 → some (b + zpos (cmr 54 (j : Nat))) = some (b + 32 + j) := fun j hj => by
  rcases (show j = 0 ∨ j = 1 ∨ j = 2 ∨ j = 3 by omega) with rfl | rfl | rfl | rfl
  · rw [zr_54_0]
  · rw [zr_54_1]
  · rw [zr_54_2]
  · rw [zr_54_3]
theorem ce_55 {b : Nat} {tt : Int → Nat} {a3 a4 : Nat → Nat} {v : Value} {kA : Nat → ClassId} {L : Nat} {xs : Nat → Int32} : cent (zt b tt a3 a4 v kA L xs) (zM0 L xs) 55 (1, 6) = .inl (kA 1, (6, .inl (fun _ => Int32.ofInt 0))) := ca_i (by decide) (by decide) (zin_0 (by decide) (by decide) (by decide))
theorem ce_56 {b : Nat} {tt : Int → Nat} {a3 a4 : Nat → Nat} {v : Value} {kA : Nat → ClassId} {L : Nat} {xs : Nat → Int32} : cent (zt b tt a3 a4 v kA L xs) (zM0 L xs) 56 (1, 6) = .inl (kA 1, (6, .inl (fun _ => Int32.ofInt 0))) := ca_i (by decide) (by decide) (zin_0 (by decide) (by decide) (by decide))
theorem ce_57 {b : Nat} {tt : Int → Nat} {a3 a4 : Nat → Nat} {v : Value} {kA : Nat → ClassId} {L : Nat} {xs : Nat → Int32} : cent (zt b tt a3 a4 v kA L xs) (zM0 L xs) 57 (1, 6) = .inl (kA 1, (6, .inl (fun _ => Int32.ofInt 0))) := ca_i (by decide) (by decide) (zin_0 (by decide) (by decide) (by decide))
theorem ce_58 {b : Nat} {tt : Int → Nat} {a3 a4 : Nat → Nat} {v : Value} {kA : Nat → ClassId} {L : Nat} {xs : Nat → Int32} : cent (zt b tt a3 a4 v kA L xs) (zM0 L xs) 58 (1, 6) = .inl (kA 1, (6, .inl (fun _ => Int32.ofInt 0))) := ca_i (by decide) (by decide) (zin_0 (by decide) (by decide) (by decide))
theorem ce_59 {b : Nat} {tt : Int → Nat} {a3 a4 : Nat → Nat} {v : Value} {kA : Nat → ClassId} {L : Nat} {xs : Nat → Int32} : cent (zt b tt a3 a4 v kA L xs) (zM0 L xs) 59 (1, 4) = .inl (kA 1, (4, .inl (fun _ => Int32.ofInt 0))) := ca_i (by decide) (by decide) (zin_0 (by decide) (by decide) (by decide))
theorem ce_60 {b : Nat} {tt : Int → Nat} {a3 a4 : Nat → Nat} {v : Value} {kA : Nat → ClassId} {L : Nat} {xs : Nat → Int32} : cent (zt b tt a3 a4 v kA L xs) (zM0 L xs) 60 (1, 4) = .inl (kA 1, (4, .inl (fun _ => Int32.ofInt 0))) := ca_i (by decide) (by decide) (zin_0 (by decide) (by decide) (by decide))
theorem ce_61 {b : Nat} {tt : Int → Nat} {a3 a4 : Nat → Nat} {v : Value} {kA : Nat → ClassId} {L : Nat} {xs : Nat → Int32} : cent (zt b tt a3 a4 v kA L xs) (zM0 L xs) 61 (1, 4) = .inl (kA 1, (4, .inl (fun _ => Int32.ofInt 0))) := ca_i (by decide) (by decide) (zin_0 (by decide) (by decide) (by decide))
theorem ce_62 {b : Nat} {tt : Int → Nat} {a3 a4 : Nat → Nat} {v : Value} {kA : Nat → ClassId} {L : Nat} {xs : Nat → Int32} : cent (zt b tt a3 a4 v kA L xs) (zM0 L xs) 62 (1, 10) = .inl (kA 1, (10, .inl (fun _ => Int32.ofInt (-1)))) := ca_i (by decide) (by decide) (zin_1 (by decide))
theorem zr_70_0 : zpos (cmr 70 ((0 : Nat) : Int)) = 41 := by decide +kernel
theorem ce_70 {b : Nat} {tt : Int → Nat} {a3 a4 : Nat → Nat} {v : Value} {kA : Nat → ClassId} {L : Nat} {xs : Nat → Int32} : cent (zt b tt a3 a4 v kA L xs) (zM0 L xs) 70 (0, 2) = .inr (2, [.ref ((b + 40) + 1), .int (Int32.ofInt 0)]) := by
  show (Sum.inr (2, (cfk.getD 2 []).mapIdx (fun j b_ => cfield (zt b tt a3 a4 v kA L xs) (zM0 L xs) 70 j b_)) : va_E) = _
  rw [mi_2]
  exact congrArg (fun l => Sum.inr (2, l)) (lc (cf_r zr_70_0) (lc (cf_i (x := 0) (zm_in (by decide) (by decide +kernel))) rfl))
theorem ce_71 {b : Nat} {tt : Int → Nat} {a3 a4 : Nat → Nat} {v : Value} {kA : Nat → ClassId} {L : Nat} {xs : Nat → Int32} : cent (zt b tt a3 a4 v kA L xs) (zM0 L xs) 71 (2, 120) = .inl (kA 2, (120, .inl (fun _ => Int32.ofInt 0))) := ca_i (by decide) (by decide) (zin_0 (by decide) (by decide) (by decide))
theorem zr_72_0 : zpos (cmr 72 ((0 : Nat) : Int)) = 40 := by decide +kernel
theorem zr_72_1 : zpos (cmr 72 ((1 : Nat) : Int)) = 27 := by decide +kernel
theorem zr_72_2 : zpos (cmr 72 ((2 : Nat) : Int)) = 43 := by decide +kernel
theorem ce_72 {b : Nat} {tt : Int → Nat} {a3 a4 : Nat → Nat} {v : Value} {kA : Nat → ClassId} {L : Nat} {xs : Nat → Int32} : cent (zt b tt a3 a4 v kA L xs) (zM0 L xs) 72 (0, 3) = .inr (3, [.ref (b + 40), .ref (b + 27), .ref ((b + 42) + 1), .int (Int32.ofInt 0), .int (Int32.ofInt 0), .int (Int32.ofInt 0)]) := by
  show (Sum.inr (3, (cfk.getD 3 []).mapIdx (fun j b_ => cfield (zt b tt a3 a4 v kA L xs) (zM0 L xs) 72 j b_)) : va_E) = _
  rw [mi_3]
  exact congrArg (fun l => Sum.inr (3, l)) (lc (cf_r zr_72_0) (lc (cf_r zr_72_1) (lc (cf_r zr_72_2) (lc (cf_i (x := 0) (zm_in (by decide) (by decide +kernel))) (lc (cf_i (x := 0) (zm_in (by decide) (by decide +kernel))) (lc (cf_i (x := 0) (zm_in (by decide) (by decide +kernel))) rfl))))))
theorem ce_73 {b : Nat} {tt : Int → Nat} {a3 a4 : Nat → Nat} {v : Value} {kA : Nat → ClassId} {L : Nat} {xs : Nat → Int32} : cent (zt b tt a3 a4 v kA L xs) (zM0 L xs) 73 (1, 6) = .inl (kA 1, (6, .inl (fun _ => Int32.ofInt 0))) := ca_i (by decide) (by decide) (zin_0 (by decide) (by decide) (by decide))
theorem zr_74_0 : zpos (cmr 74 ((0 : Nat) : Int)) = 53 := by decide +kernel
theorem zr_74_1 : zpos (cmr 74 ((1 : Nat) : Int)) = 55 := by decide +kernel
theorem zr_74_2 : zpos (cmr 74 ((2 : Nat) : Int)) = 57 := by decide +kernel
theorem zr_74_3 : zpos (cmr 74 ((3 : Nat) : Int)) = 59 := by decide +kernel
theorem ce_74 {b : Nat} : ∀ j : Nat, j < 4 → some (b + zpos (cmr 74 (j : Nat))) = some (b + 53 + 2 * j) := fun j hj => by
  rcases (show j = 0 ∨ j = 1 ∨ j = 2 ∨ j = 3 by omega) with rfl | rfl | rfl | rfl
  · rw [zr_74_0]
  · rw [zr_74_1]
  · rw [zr_74_2]
  · rw [zr_74_3]
theorem ce_75 {b : Nat} {tt : Int → Nat} {a3 a4 : Nat → Nat} {v : Value} {kA : Nat → ClassId} {L : Nat} {xs : Nat → Int32} : cent (zt b tt a3 a4 v kA L xs) (zM0 L xs) 75 (1, 7) = .inl (kA 1, (7, .inl (fun _ => Int32.ofInt 0))) := ca_i (by decide) (by decide) (zin_0 (by decide) (by decide) (by decide))
theorem zr_76_0 : zpos (cmr 76 ((0 : Nat) : Int)) = 47 := by decide +kernel
theorem ce_76 {b : Nat} {tt : Int → Nat} {a3 a4 : Nat → Nat} {v : Value} {kA : Nat → ClassId} {L : Nat} {xs : Nat → Int32} : cent (zt b tt a3 a4 v kA L xs) (zM0 L xs) 76 (0, 4) = .inr (4, [.ref ((b + 46) + 1), .int (Int32.ofInt 0)]) := by
  show (Sum.inr (4, (cfk.getD 4 []).mapIdx (fun j b_ => cfield (zt b tt a3 a4 v kA L xs) (zM0 L xs) 76 j b_)) : va_E) = _
  rw [mi_4]
  exact congrArg (fun l => Sum.inr (4, l)) (lc (cf_r zr_76_0) (lc (cf_i (x := 0) (zm_in (by decide) (by decide +kernel))) rfl))
theorem ce_77 {b : Nat} {tt : Int → Nat} {a3 a4 : Nat → Nat} {v : Value} {kA : Nat → ClassId} {L : Nat} {xs : Nat → Int32} : cent (zt b tt a3 a4 v kA L xs) (zM0 L xs) 77 (1, 6) = .inl (kA 1, (6, .inl (fun _ => Int32.ofInt 0))) := ca_i (by decide) (by decide) (zin_0 (by decide) (by decide) (by decide))
theorem ce_78 {b : Nat} {tt : Int → Nat} {a3 a4 : Nat → Nat} {v : Value} {kA : Nat → ClassId} {L : Nat} {xs : Nat → Int32} : cent (zt b tt a3 a4 v kA L xs) (zM0 L xs) 78 (1, 720) = .inl (kA 1, (720, .inl (fun _ => Int32.ofInt 0))) := ca_i (by decide) (by decide) (zin_0 (by decide) (by decide) (by decide))
theorem ce_79 {b : Nat} {tt : Int → Nat} {a3 a4 : Nat → Nat} {v : Value} {kA : Nat → ClassId} {L : Nat} {xs : Nat → Int32} : cent (zt b tt a3 a4 v kA L xs) (zM0 L xs) 79 (1, 1001) = .inl (kA 1, (1001, .inl (fun _ => Int32.ofInt 0))) := ca_i (by decide) (by decide) (zin_0 (by decide) (by decide) (by decide))
theorem ce_80 {b : Nat} {tt : Int → Nat} {a3 a4 : Nat → Nat} {v : Value} {kA : Nat → ClassId} {L : Nat} {xs : Nat → Int32} : cent (zt b tt a3 a4 v kA L xs) (zM0 L xs) 80 (1, 10) = .inl (kA 1, (10, .inl (fun _ => Int32.ofInt 0))) := ca_i (by decide) (by decide) (zin_0 (by decide) (by decide) (by decide))
theorem ce_81 {b : Nat} {tt : Int → Nat} {a3 a4 : Nat → Nat} {v : Value} {kA : Nat → ClassId} {L : Nat} {xs : Nat → Int32} : cent (zt b tt a3 a4 v kA L xs) (zM0 L xs) 81 (1, 10) = .inl (kA 1, (10, .inl (fun _ => Int32.ofInt 0))) := ca_i (by decide) (by decide) (zin_0 (by decide) (by decide) (by decide))
theorem ce_82 {b : Nat} {tt : Int → Nat} {a3 a4 : Nat → Nat} {v : Value} {kA : Nat → ClassId} {L : Nat} {xs : Nat → Int32} : cent (zt b tt a3 a4 v kA L xs) (zM0 L xs) 82 (1, 45) = .inl (kA 1, (45, .inl (fun _ => Int32.ofInt 0))) := ca_i (by decide) (by decide) (zin_0 (by decide) (by decide) (by decide))
theorem zr_90_2 : zpos (cmr 90 ((2 : Nat) : Int)) = 54 := by decide +kernel
theorem ce_90 {b : Nat} {tt : Int → Nat} {a3 a4 : Nat → Nat} {v : Value} {kA : Nat → ClassId} {L : Nat} {xs : Nat → Int32} : cent (zt b tt a3 a4 v kA L xs) (zM0 L xs) 90 (0, 5) = .inr (5, [.int (Int32.ofInt 0), .int (Int32.ofInt 0), .ref ((b + 53) + 1)]) := by
  show (Sum.inr (5, (cfk.getD 5 []).mapIdx (fun j b_ => cfield (zt b tt a3 a4 v kA L xs) (zM0 L xs) 90 j b_)) : va_E) = _
  rw [mi_5]
  exact congrArg (fun l => Sum.inr (5, l)) (lc (cf_i (x := 0) (zm_in (by decide) (by decide +kernel))) (lc (cf_i (x := 0) (zm_in (by decide) (by decide +kernel))) (lc (cf_r zr_90_2) rfl)))
theorem ce_91 {b : Nat} {tt : Int → Nat} {a3 a4 : Nat → Nat} {v : Value} {kA : Nat → ClassId} {L : Nat} {xs : Nat → Int32} : cent (zt b tt a3 a4 v kA L xs) (zM0 L xs) 91 (1, 40) = .inl (kA 1, (40, .inl (fun _ => Int32.ofInt 0))) := ca_i (by decide) (by decide) (zin_0 (by decide) (by decide) (by decide))
theorem zr_92_2 : zpos (cmr 92 ((2 : Nat) : Int)) = 56 := by decide +kernel
theorem ce_92 {b : Nat} {tt : Int → Nat} {a3 a4 : Nat → Nat} {v : Value} {kA : Nat → ClassId} {L : Nat} {xs : Nat → Int32} : cent (zt b tt a3 a4 v kA L xs) (zM0 L xs) 92 (0, 5) = .inr (5, [.int (Int32.ofInt 0), .int (Int32.ofInt 0), .ref ((b + 55) + 1)]) := by
  show (Sum.inr (5, (cfk.getD 5 []).mapIdx (fun j b_ => cfield (zt b tt a3 a4 v kA L xs) (zM0 L xs) 92 j b_)) : va_E) = _
  rw [mi_5]
  exact congrArg (fun l => Sum.inr (5, l)) (lc (cf_i (x := 0) (zm_in (by decide) (by decide +kernel))) (lc (cf_i (x := 0) (zm_in (by decide) (by decide +kernel))) (lc (cf_r zr_92_2) rfl)))
theorem ce_93 {b : Nat} {tt : Int → Nat} {a3 a4 : Nat → Nat} {v : Value} {kA : Nat → ClassId} {L : Nat} {xs : Nat → Int32} : cent (zt b tt a3 a4 v kA L xs) (zM0 L xs) 93 (1, 40) = .inl (kA 1, (40, .inl (fun _ => Int32.ofInt 0))) := ca_i (by decide) (by decide) (zin_0 (by decide) (by decide) (by decide))
theorem zr_94_2 : zpos (cmr 94 ((2 : Nat) : Int)) = 58 := by decide +kernel
theorem ce_94 {b : Nat} {tt : Int → Nat} {a3 a4 : Nat → Nat} {v : Value} {kA : Nat → ClassId} {L : Nat} {xs : Nat → Int32} : cent (zt b tt a3 a4 v kA L xs) (zM0 L xs) 94 (0, 5) = .inr (5, [.int (Int32.ofInt 0), .int (Int32.ofInt 0), .ref ((b + 57) + 1)]) := by
  show (Sum.inr (5, (cfk.getD 5 []).mapIdx (fun j b_ => cfield (zt b tt a3 a4 v kA L xs) (zM0 L xs) 94 j b_)) : va_E) = _
  rw [mi_5]
  exact congrArg (fun l => Sum.inr (5, l)) (lc (cf_i (x := 0) (zm_in (by decide) (by decide +kernel))) (lc (cf_i (x := 0) (zm_in (by decide) (by decide +kernel))) (lc (cf_r zr_94_2) rfl)))
theorem ce_95 {b : Nat} {tt : Int → Nat} {a3 a4 : Nat → Nat} {v : Value} {kA : Nat → ClassId} {L : Nat} {xs : Nat → Int32} : cent (zt b tt a3 a4 v kA L xs) (zM0 L xs) 95 (1, 40) = .inl (kA 1, (40, .inl (fun _ => Int32.ofInt 0))) := ca_i (by decide) (by decide) (zin_0 (by decide) (by decide) (by decide))
theorem zr_96_2 : zpos (cmr 96 ((2 : Nat) : Int)) = 60 := by decide +kernel
theorem ce_96 {b : Nat} {tt : Int → Nat} {a3 a4 : Nat → Nat} {v : Value} {kA : Nat → ClassId} {L : Nat} {xs : Nat → Int32} : cent (zt b tt a3 a4 v kA L xs) (zM0 L xs) 96 (0, 5) = .inr (5, [.int (Int32.ofInt 0), .int (Int32.ofInt 0), .ref ((b + 59) + 1)]) := by
  show (Sum.inr (5, (cfk.getD 5 []).mapIdx (fun j b_ => cfield (zt b tt a3 a4 v kA L xs) (zM0 L xs) 96 j b_)) : va_E) = _
  rw [mi_5]
  exact congrArg (fun l => Sum.inr (5, l)) (lc (cf_i (x := 0) (zm_in (by decide) (by decide +kernel))) (lc (cf_i (x := 0) (zm_in (by decide) (by decide +kernel))) (lc (cf_r zr_96_2) rfl)))
theorem ce_97 {b : Nat} {tt : Int → Nat} {a3 a4 : Nat → Nat} {v : Value} {kA : Nat → ClassId} {L : Nat} {xs : Nat → Int32} : cent (zt b tt a3 a4 v kA L xs) (zM0 L xs) 97 (1, 40) = .inl (kA 1, (40, .inl (fun _ => Int32.ofInt 0))) := ca_i (by decide) (by decide) (zin_0 (by decide) (by decide) (by decide))
theorem zr_100_0 : zpos (cmr 100 ((0 : Nat) : Int)) = 62 := by decide +kernel
theorem zr_100_1 : zpos (cmr 100 ((1 : Nat) : Int)) = 63 := by decide +kernel
theorem zr_100_2 : zpos (cmr 100 ((2 : Nat) : Int)) = 64 := by decide +kernel
theorem zr_100_3 : zpos (cmr 100 ((3 : Nat) : Int)) = 65 := by decide +kernel
theorem zr_100_5 : zpos (cmr 100 ((5 : Nat) : Int)) = 66 := by decide +kernel
theorem zr_100_8 : zpos (cmr 100 ((8 : Nat) : Int)) = 67 := by decide +kernel
theorem zr_100_9 : zpos (cmr 100 ((9 : Nat) : Int)) = 68 := by decide +kernel
theorem zr_100_10 : zpos (cmr 100 ((10 : Nat) : Int)) = 69 := by decide +kernel
theorem zr_100_11 : zpos (cmr 100 ((11 : Nat) : Int)) = 70 := by decide +kernel
theorem zr_100_17 : zpos (cmr 100 ((17 : Nat) : Int)) = 71 := by decide +kernel
theorem zr_100_18 : zpos (cmr 100 ((18 : Nat) : Int)) = 72 := by decide +kernel
theorem zr_100_19 : zpos (cmr 100 ((19 : Nat) : Int)) = 73 := by decide +kernel
theorem zr_100_20 : zpos (cmr 100 ((20 : Nat) : Int)) = 74 := by decide +kernel
theorem ce_100 {b : Nat} {tt : Int → Nat} {a3 a4 : Nat → Nat} {v : Value} {kA : Nat → ClassId} {L : Nat} {xs : Nat → Int32} : cent (zt b tt a3 a4 v kA L xs) (zM0 L xs) 100 (0, 6) = .inr (6, [.ref ((b + 61) + 1), .ref ((b + 61) + 2), .ref ((b + 61) + 3), .ref ((b + 61) + 4), .int (Int32.ofInt 0), .ref ((b + 61) + 5), .int (Int32.ofInt 0), .int (Int32.ofInt 0), .ref ((b + 61) + 6), .ref ((b + 61) + 7), .ref ((b + 61) + 8), .ref ((b + 61) + 9), .int (Int32.ofInt 0), .int (Int32.ofInt 0), .int (Int32.ofInt 0), .int (Int32.ofInt 0), .int (Int32.ofInt 0), .ref ((b + 61) + 10), .ref ((b + 61) + 11), .ref ((b + 61) + 12), .ref ((b + 61) + 13)]) := by
  show (Sum.inr (6, (cfk.getD 6 []).mapIdx (fun j b_ => cfield (zt b tt a3 a4 v kA L xs) (zM0 L xs) 100 j b_)) : va_E) = _
  rw [mi_6]
  exact congrArg (fun l => Sum.inr (6, l)) (lc (cf_r zr_100_0) (lc (cf_r zr_100_1) (lc (cf_r zr_100_2) (lc (cf_r zr_100_3) (lc (cf_i (x := 0) (zm_in (by decide) (by decide +kernel))) (lc (cf_r zr_100_5) (lc (cf_i (x := 0) (zm_in (by decide) (by decide +kernel))) (lc (cf_i (x := 0) (zm_in (by decide) (by decide +kernel))) (lc (cf_r zr_100_8) (lc (cf_r zr_100_9) (lc (cf_r zr_100_10) (lc (cf_r zr_100_11) (lc (cf_i (x := 0) (zm_in (by decide) (by decide +kernel))) (lc (cf_i (x := 0) (zm_in (by decide) (by decide +kernel))) (lc (cf_i (x := 0) (zm_in (by decide) (by decide +kernel))) (lc (cf_i (x := 0) (zm_in (by decide) (by decide +kernel))) (lc (cf_i (x := 0) (zm_in (by decide) (by decide +kernel))) (lc (cf_r zr_100_17) (lc (cf_r zr_100_18) (lc (cf_r zr_100_19) (lc (cf_r zr_100_20) rfl)))))))))))))))))))))
theorem ce_102 {b : Nat} {tt : Int → Nat} {a3 a4 : Nat → Nat} {v : Value} {kA : Nat → ClassId} {L : Nat} {xs : Nat → Int32} : cent (zt b tt a3 a4 v kA L xs) (zM0 L xs) 102 (1, 82) = .inl (kA 1, (82, .inl (fun _ => Int32.ofInt 0))) := ca_i (by decide) (by decide) (zin_0 (by decide) (by decide) (by decide))
theorem ce_103 {b : Nat} {tt : Int → Nat} {a3 a4 : Nat → Nat} {v : Value} {kA : Nat → ClassId} {L : Nat} {xs : Nat → Int32} : cent (zt b tt a3 a4 v kA L xs) (zM0 L xs) 103 (1, 82) = .inl (kA 1, (82, .inl (fun _ => Int32.ofInt 0))) := ca_i (by decide) (by decide) (zin_0 (by decide) (by decide) (by decide))
theorem ce_104 {b : Nat} {tt : Int → Nat} {a3 a4 : Nat → Nat} {v : Value} {kA : Nat → ClassId} {L : Nat} {xs : Nat → Int32} : cent (zt b tt a3 a4 v kA L xs) (zM0 L xs) 104 (1, 7) = .inl (kA 1, (7, .inl (fun _ => Int32.ofInt 0))) := ca_i (by decide) (by decide) (zin_0 (by decide) (by decide) (by decide))
theorem ce_105 {b : Nat} {tt : Int → Nat} {a3 a4 : Nat → Nat} {v : Value} {kA : Nat → ClassId} {L : Nat} {xs : Nat → Int32} : cent (zt b tt a3 a4 v kA L xs) (zM0 L xs) 105 (1, 6) = .inl (kA 1, (6, .inl (fun _ => Int32.ofInt 0))) := ca_i (by decide) (by decide) (zin_0 (by decide) (by decide) (by decide))
theorem ce_106 {b : Nat} {tt : Int → Nat} {a3 a4 : Nat → Nat} {v : Value} {kA : Nat → ClassId} {L : Nat} {xs : Nat → Int32} : cent (zt b tt a3 a4 v kA L xs) (zM0 L xs) 106 (3, 1001) = .inl (kA 3, (1001, .inl (fun _ => Int32.ofInt 0))) := ca_i (by decide) (by decide) (zin_0 (by decide) (by decide) (by decide))
theorem ce_107 {b : Nat} {tt : Int → Nat} {a3 a4 : Nat → Nat} {v : Value} {kA : Nat → ClassId} {L : Nat} {xs : Nat → Int32} : cent (zt b tt a3 a4 v kA L xs) (zM0 L xs) 107 (1, 10) = .inl (kA 1, (10, .inl (fun _ => Int32.ofInt 0))) := ca_i (by decide) (by decide) (zin_0 (by decide) (by decide) (by decide))
theorem ce_108 {b : Nat} {tt : Int → Nat} {a3 a4 : Nat → Nat} {v : Value} {kA : Nat → ClassId} {L : Nat} {xs : Nat → Int32} : cent (zt b tt a3 a4 v kA L xs) (zM0 L xs) 108 (1, 100) = .inl (kA 1, (100, .inl (fun _ => Int32.ofInt 0))) := ca_i (by decide) (by decide) (zin_0 (by decide) (by decide) (by decide))
theorem ce_109 {b : Nat} {tt : Int → Nat} {a3 a4 : Nat → Nat} {v : Value} {kA : Nat → ClassId} {L : Nat} {xs : Nat → Int32} : cent (zt b tt a3 a4 v kA L xs) (zM0 L xs) 109 (1, 120) = .inl (kA 1, (120, .inl (fun _ => Int32.ofInt 0))) := ca_i (by decide) (by decide) (zin_0 (by decide) (by decide) (by decide))
theorem ce_110 {b : Nat} {tt : Int → Nat} {a3 a4 : Nat → Nat} {v : Value} {kA : Nat → ClassId} {L : Nat} {xs : Nat → Int32} : cent (zt b tt a3 a4 v kA L xs) (zM0 L xs) 110 (1, 4) = .inl (kA 1, (4, .inl (fun _ => Int32.ofInt 0))) := ca_i (by decide) (by decide) (zin_0 (by decide) (by decide) (by decide))
theorem ce_111 {b : Nat} {tt : Int → Nat} {a3 a4 : Nat → Nat} {v : Value} {kA : Nat → ClassId} {L : Nat} {xs : Nat → Int32} : cent (zt b tt a3 a4 v kA L xs) (zM0 L xs) 111 (1, 4) = .inl (kA 1, (4, .inl (fun _ => Int32.ofInt 0))) := ca_i (by decide) (by decide) (zin_0 (by decide) (by decide) (by decide))
theorem ce_112 {b : Nat} {tt : Int → Nat} {a3 a4 : Nat → Nat} {v : Value} {kA : Nat → ClassId} {L : Nat} {xs : Nat → Int32} : cent (zt b tt a3 a4 v kA L xs) (zM0 L xs) 112 (1, 160) = .inl (kA 1, (160, .inl (fun _ => Int32.ofInt 0))) := ca_i (by decide) (by decide) (zin_0 (by decide) (by decide) (by decide))
theorem ce_113 {b : Nat} {tt : Int → Nat} {a3 a4 : Nat → Nat} {v : Value} {kA : Nat → ClassId} {L : Nat} {xs : Nat → Int32} : cent (zt b tt a3 a4 v kA L xs) (zM0 L xs) 113 (1, 40) = .inl (kA 1, (40, .inl (fun _ => Int32.ofInt 0))) := ca_i (by decide) (by decide) (zin_0 (by decide) (by decide) (by decide))
set_option maxHeartbeats 8000000 in
set_option maxRecDepth 100000 in
theorem zE_sam (b : Nat) (tt : Int → Nat) (a3 a4 : Nat → Nat) (v : Value) (kA : Nat → ClassId) (L : Nat) (xs : Nat → Int32) : samL (zE kA b) (ctab.map (fun q => cent (zt b tt a3 a4 v kA L xs) (zM0 L xs) q.1 q.2)) := by
  rw [ctab_map]
  unfold zE
  refine ⟨sam_rf ce_0.symm, ?_⟩
  refine ⟨sam_rf ce_10.symm, ?_⟩
  refine ⟨sam_rf ce_11.symm, ?_⟩
  refine ⟨sam_rf ce_12.symm, ?_⟩
  refine ⟨sam_rf ce_13.symm, ?_⟩
  refine ⟨sam_q (fun j hj => (ce_14 j hj).symm), ?_⟩
  refine ⟨sam_rf ce_15.symm, ?_⟩
  refine ⟨sam_rf ce_16.symm, ?_⟩
  refine ⟨sam_rf ce_17.symm, ?_⟩
  refine ⟨sam_rf ce_18.symm, ?_⟩
  refine ⟨sam_rf ce_19.symm, ?_⟩
  refine ⟨sam_rf ce_20.symm, ?_⟩
  refine ⟨sam_rf ce_21.symm, ?_⟩
  refine ⟨sam_rf ce_22.symm, ?_⟩
  refine ⟨sam_rf ce_30.symm, ?_⟩
  refine ⟨sam_rf ce_31.symm, ?_⟩
  refine ⟨sam_rf ce_32.symm, ?_⟩
  refine ⟨sam_rf ce_33.symm, ?_⟩
  refine ⟨sam_q (fun j hj => (ce_34 j hj).symm), ?_⟩
  refine ⟨sam_rf ce_35.symm, ?_⟩
  refine ⟨sam_rf ce_36.symm, ?_⟩
  refine ⟨sam_rf ce_37.symm, ?_⟩
  refine ⟨sam_rf ce_38.symm, ?_⟩
  refine ⟨sam_rf ce_39.symm, ?_⟩
  refine ⟨sam_rf ce_40.symm, ?_⟩
  refine ⟨sam_rf ce_41.symm, ?_⟩
  refine ⟨sam_rf ce_42.symm, ?_⟩
  refine ⟨sam_rf ce_50.symm, ?_⟩
  refine ⟨sam_rf ce_51.symm, ?_⟩
  refine ⟨sam_rf ce_52.symm, ?_⟩
  refine ⟨sam_rf ce_53.symm, ?_⟩
  refine ⟨sam_q (fun j hj => (ce_54 j hj).symm), ?_⟩
  refine ⟨sam_rf ce_55.symm, ?_⟩
  refine ⟨sam_rf ce_56.symm, ?_⟩
  refine ⟨sam_rf ce_57.symm, ?_⟩
  refine ⟨sam_rf ce_58.symm, ?_⟩
  refine ⟨sam_rf ce_59.symm, ?_⟩
  refine ⟨sam_rf ce_60.symm, ?_⟩
  refine ⟨sam_rf ce_61.symm, ?_⟩
  refine ⟨sam_rf ce_62.symm, ?_⟩
  refine ⟨sam_rf ce_70.symm, ?_⟩
  refine ⟨sam_rf ce_71.symm, ?_⟩
  refine ⟨sam_rf ce_72.symm, ?_⟩
  refine ⟨sam_rf ce_73.symm, ?_⟩
  refine ⟨sam_q (fun j hj => by refine Eq.trans ?_ (ce_74 (b := b) j hj).symm; rcases (show j = 0 ∨ j = 1 ∨ j = 2 ∨ j = 3 by omega) with rfl | rfl | rfl | rfl <;> rfl), ?_⟩
  refine ⟨sam_rf ce_75.symm, ?_⟩
  refine ⟨sam_rf ce_76.symm, ?_⟩
  refine ⟨sam_rf ce_77.symm, ?_⟩
  refine ⟨sam_rf ce_78.symm, ?_⟩
  refine ⟨sam_rf ce_79.symm, ?_⟩
  refine ⟨sam_rf ce_80.symm, ?_⟩
  refine ⟨sam_rf ce_81.symm, ?_⟩
  refine ⟨sam_rf ce_82.symm, ?_⟩
  refine ⟨sam_rf ce_90.symm, ?_⟩
  refine ⟨sam_rf ce_91.symm, ?_⟩
  refine ⟨sam_rf ce_92.symm, ?_⟩
  refine ⟨sam_rf ce_93.symm, ?_⟩
  refine ⟨sam_rf ce_94.symm, ?_⟩
  refine ⟨sam_rf ce_95.symm, ?_⟩
  refine ⟨sam_rf ce_96.symm, ?_⟩
  refine ⟨sam_rf ce_97.symm, ?_⟩
  refine ⟨sam_rf ce_100.symm, ?_⟩
  refine ⟨sam_i (fun k _ => zin_s k), ?_⟩
  refine ⟨sam_rf ce_102.symm, ?_⟩
  refine ⟨sam_rf ce_103.symm, ?_⟩
  refine ⟨sam_rf ce_104.symm, ?_⟩
  refine ⟨sam_rf ce_105.symm, ?_⟩
  refine ⟨sam_rf ce_106.symm, ?_⟩
  refine ⟨sam_rf ce_107.symm, ?_⟩
  refine ⟨sam_rf ce_108.symm, ?_⟩
  refine ⟨sam_rf ce_109.symm, ?_⟩
  refine ⟨sam_rf ce_110.symm, ?_⟩
  refine ⟨sam_rf ce_111.symm, ?_⟩
  refine ⟨sam_rf ce_112.symm, ?_⟩
  refine ⟨sam_rf ce_113.symm, ?_⟩
  exact trivial
