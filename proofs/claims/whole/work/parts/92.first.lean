/-! The first state of the world: its cells, its ranges, and that class and model tell the same there. -/
theorem zpos_l : ctab.map (fun q => zpos q.1) = List.range 75 := by decide +kernel
theorem zpos_at {k : Nat} {x : Int × Nat × Nat} (h : ctab[k]? = some x) : zpos x.1 = k := by
  have h1 : (ctab.map (fun q => zpos q.1))[k]? = some (zpos x.1) := by rw [List.getElem?_map, h]; rfl
  rw [zpos_l] at h1
  have hk : k < 75 := by
    have := (List.getElem?_eq_some_iff.mp h1).1
    rwa [List.length_range] at this
  rw [List.getElem?_range hk] at h1
  exact (Option.some.inj h1).symm
theorem RW_first {D : va_G} {B : Nat} {tt : Int → Nat} {a3 a4 : Nat → Nat} {v : Value} {kA : Nat → ClassId} {L : Nat} {xs : Nat → Int32} {H : Heap} (h : HN D B (zS kA B ++ zM kA (B + 61)) H) : RW D (zt B tt a3 a4 v kA L xs) (zM0 L xs) H := by
  rw [zE_eq] at h
  refine ⟨fun k q hk => ?_, fun c j hc => ?_⟩
  · unfold cws at hk
    rw [List.getElem?_map] at hk
    cases hx : ctab[k]? with
    | none => rw [hx] at hk; cases hk
    | some x =>
      rw [hx] at hk
      cases hk
      obtain ⟨e, he, hs⟩ := samL_at (zE_sam B tt a3 a4 v kA L xs) k (cent (zt B tt a3 a4 v kA L xs) (zM0 L xs) x.1 x.2) (by rw [List.getElem?_map, hx]; rfl)
      have h1 := hs D _ H (h.2 k e he)
      have h2 : (zt B tt a3 a4 v kA L xs).1 x.1 = B + k := by
        show B + zpos x.1 = B + k
        rw [zpos_at hx]
      show va_at D ccl ((zt B tt a3 a4 v kA L xs).1 x.1, _) H
      rw [h2]
      exact h1
  · unfold zM0
    rw [if_pos hc]
    rfl
theorem clen_b (n : Nat) : clen.getD n 0 ≤ 6 := by
  by_cases h : n < 14
  · have : ∀ n, n < 14 → clen.getD n 0 ≤ 6 := by decide +kernel
    exact this n h
  · have e : clen.getD n 0 = 0 := by
      rw [List.getD_eq_getElem?_getD, List.getElem?_eq_none (by show 14 ≤ n; omega)]
      rfl
    omega
theorem zin_R (c j : Int) : iR (zin c j) := by
  unfold zin iR
  repeat' split
  all_goals omega
theorem zM0_R {L : Nat} {xs : Nat → Int32} (hL : L < 100000) : wfM (zM0 L xs) := fun c j => by
  unfold zM0
  split
  · unfold zcm
    split
    · split
      · unfold iR; omega
      · split
        · unfold iR; omega
        · have := clen_b (c - 2000).toNat
          unfold iR; omega
    · split
      · exact iR_of _
      · split
        · exact iR_of _
        · split
          · exact iR_of _
          · exact iR_of _
  · exact zin_R c j
theorem zcm_x {L : Nat} {xs : Nat → Int32} {c : Int} (hc : c = 1000 ∨ c = 1001) (j : Int) (h : ¬ j = -1) : zcm L xs c j = if c = 1000 then (cosL.getD j.toNat 0).toInt else (aboL.getD j.toNat 0).toInt := by
  unfold zcm
  rw [if_neg h]
  rcases hc with rfl | rfl
  · rw [if_pos rfl, if_pos rfl]
  · rw [if_neg (by decide), if_pos rfl, if_neg (by decide)]
theorem zcm_s {L : Nat} {xs : Nat → Int32} {i : Nat} (hi : i < 14) (j : Int) (h : ¬ j = -1) : zcm L xs (2000 + (i : Nat)) j = ((cbyt.getD i []).getD j.toNat 0).toInt := by
  unfold zcm
  rw [if_neg h, if_neg (by omega), if_neg (by omega), if_neg (by omega), show ((2000 : Int) + (i : Nat) - 2000).toNat = i by omega]
theorem zcm_l {L : Nat} {xs : Nat → Int32} (i : Nat) : zcm L xs (2000 + (i : Nat)) (-1) = (clen.getD i 0 : Nat) := by
  unfold zcm
  rw [if_pos rfl, if_neg (by omega), if_neg (by omega), show ((2000 : Int) + (i : Nat) - 2000).toNat = i by omega]
theorem zM0_c {L : Nat} {xs : Nat → Int32} {c j : Int} (h : 1000 ≤ c) : zM0 L xs c j = zcm L xs c j := by
  unfold zM0
  rw [if_pos h]
theorem zM0_i {L : Nat} {xs : Nat → Int32} {c j : Int} (h : ¬ 1000 ≤ c) : zM0 L xs c j = zin c j := by
  unfold zM0
  rw [if_neg h]
theorem TB_first {L : Nat} {xs : Nat → Int32} (hL : L < 100000) : TB (zM0 L xs) := by
  refine ⟨⟨?_, fun d h0 h6 => ?_⟩, ⟨rfl, rfl, rfl, rfl, rfl, rfl, rfl, rfl⟩, fun j => zM0_R hL 1002 j, fun i hi => ⟨?_, fun j hj => ?_⟩⟩
  · rfl
  · rw [zM0_c (by decide), zcm_x (Or.inl rfl) d (by omega), if_pos rfl]
    rcases (show d = 0 ∨ d = 1 ∨ d = 2 ∨ d = 3 ∨ d = 4 ∨ d = 5 ∨ d = 6 by omega) with rfl | rfl | rfl | rfl | rfl | rfl | rfl <;> decide +kernel
  · rw [zM0_c (by omega), zcm_l]
  · rw [zM0_c (by omega), zcm_s hi _ (by omega), Int.toNat_natCast]
theorem SC_first {L : Nat} {xs : Nat → Int32} : SC 10 101 (zM0 L xs) := by
  have e : ∀ c j, ¬ 1000 ≤ c → zM0 L xs c j = zin c j := fun c j h => zM0_i h
  have hs : ∀ j, zM0 L xs 101 j = if j = 4 then 1 else if j = 2 then 1000 else if j = 3 then -1 else if 72 ≤ j then -1 else 0 := fun j => by
    rw [e 101 j (by decide)]
    rfl
  have h10 : ∀ j, zM0 L xs 10 j = if j = 5 then 1000 else if j = 6 then -1 else if j = 12 then 1 else 0 := fun j => by
    rw [e 10 j (by decide)]
    rfl
  have hz : ∀ k j, 0 ≤ k → k < 12 → k ≠ 0 → zM0 L xs (10 + k) j = 0 := fun k j h0 h1 h2 => by
    rw [e _ j (by omega)]
    exact zin_0 (by omega) (by omega) (by omega) j
  refine ⟨?_, ?_, ?_, ?_, ?_, ?_, ?_, ?_, ?_, ?_, ?_⟩
  · rw [h10, hs]; decide
  · rw [h10, hs]; decide
  · rw [h10, hs]; decide
  · rw [h10, hs]; decide
  · rw [h10, hs]; decide
  · rw [h10, hs]; decide
  · intro k h0 h1
    rw [hs] at h1
    have h2 : k < 0 := h1
    omega
  · intro k h0 h1
    rw [hs] at h1
    have h2 : k < 0 := h1
    omega
  · intro k h0 h1
    have h3 : zM0 L xs 101 (44 + 7 * k) = 0 := by
      rw [hs, if_neg (by omega), if_neg (by omega), if_neg (by omega), if_neg (by omega)]
    rw [hz 9 k (by omega) (by omega) (by omega), h3]
    omega
  · intro k i h0 h1 h2 h3
    have h4 : zM0 L xs 101 (44 + 7 * k) = 0 := by
      rw [hs, if_neg (by omega), if_neg (by omega), if_neg (by omega), if_neg (by omega)]
    omega
  · intro k h0 h1
    have h3 : zM0 L xs 101 (72 + k) = -1 := by
      rw [hs, if_neg (by omega), if_neg (by omega), if_neg (by omega), if_pos (by omega)]
    have h4 : zM0 L xs (10 + 12) k = -1 := by
      rw [e _ k (by decide)]
      exact zin_1 (by decide) k
    have h5 : zM0 L xs 101 0 = 0 := by rw [hs]; decide
    rw [h3, h4, h5]
    omega
theorem RR_first {L : Nat} {xs : Nat → Int32} (hL : L < 100000) : RR (zM0 L xs) := by
  have z : ∀ c j, ¬ 1000 ≤ c → ¬ (c = 22 ∨ c = 42 ∨ c = 62) → ¬ (c = 10 ∨ c = 30 ∨ c = 50) → ¬ c = 101 → zM0 L xs c j = 0 := fun c j h h1 h2 h3 => by
    rw [zM0_i h]
    exact zin_0 h1 h2 h3 j
  refine ⟨SC_first, ⟨?_, ?_⟩, fun h => ?_, ⟨⟨?_, ?_, ?_⟩, fun k h0 h1 => ?_⟩, fun s h0 h1 => ?_, fun k h0 h1 => ?_, TB_first hL⟩
  · rw [z 0 2 (by decide) (by decide) (by decide) (by decide), z 100 4 (by decide) (by decide) (by decide) (by decide)]
  · exact Or.inl (z 0 2 (by decide) (by decide) (by decide) (by decide))
  · rw [z 0 2 (by decide) (by decide) (by decide) (by decide)] at h
    omega
  · rw [z 70 1 (by decide) (by decide) (by decide) (by decide), z 100 12 (by decide) (by decide) (by decide) (by decide)]
  · rw [z 100 12 (by decide) (by decide) (by decide) (by decide)]
    omega
  · rw [z 100 12 (by decide) (by decide) (by decide) (by decide)]
    omega
  · rw [z 100 12 (by decide) (by decide) (by decide) (by decide)] at h1
    omega
  · have e1 : zM0 L xs (90 + 2 * s) 0 = 0 := z _ _ (by omega) (by omega) (by omega) (by omega)
    have e2 : zM0 L xs (90 + 2 * s) 1 = 0 := z _ _ (by omega) (by omega) (by omega) (by omega)
    have e3 : zM0 L xs 110 s = 0 := z _ _ (by decide) (by decide) (by decide) (by decide)
    have e4 : zM0 L xs 111 s = 0 := z _ _ (by decide) (by decide) (by decide) (by decide)
    rw [e1, e2, e3, e4]
    refine ⟨⟨rfl, Or.inl rfl⟩, ⟨rfl, by omega, by omega⟩, fun i g0 g1 => ?_⟩
    omega
  · have e1 : zM0 L xs 75 k = 0 := z _ _ (by decide) (by decide) (by decide) (by decide)
    have e2 : zM0 L xs 104 k = 0 := z _ _ (by decide) (by decide) (by decide) (by decide)
    rw [e1, e2]
    exact ⟨rfl, iR_0⟩
