/-! Calls that read or change a place or two, related. -/
theorem RR.hn {M : cM} (h : RR M) : 0 ≤ M 101 0 ∧ M 101 0 ≤ 10 := h.n10.2
theorem RR.lk5 {M : cM} (h : RR M) : M 19 = M 19 := rfl
theorem Z_load {P : Int → Int → cM → Prop} {M : cM} {a : Int} (hR : RR M) (H : ∀ r M', RR M' → P r r M') : F_xs_load (fun x M1 => F_xm_load (fun y M2 => P x y M2) a M1) a M := by
  unfold F_xs_load 
  simp only [E_xs_isStack, E_xs_isSheet, E_xs_isShare, E_xs_within, ite01]
  by_cases h1 : 0 ≤ a ∧ a < 12
  rotate_left
  · rw [if_neg h1]
    refine Z_err 0 (by decide) (by decide) hR (fun M1 e1 hR1 => ?_)
    have e101 := fun j => e1 101 j (by decide)
    unfold F_xm_load 
    simp only [E_xm_isStack, E_xm_isSlant, E_xm_isShare, E_xm_in, E_xm_isOne, ite01, e101]
    rw [if_neg (by omega), E_xm_fin 0 (by decide) (by decide)]
    exact H _ _ hR1
  rw [if_pos h1]

  unfold F_xm_load 
  simp only [E_xm_isStack, E_xm_isSlant, E_xm_isShare, E_xm_in, E_xm_isOne, ite01]
  rw [if_pos (by omega)]
  simp (disch := omega) only [wr_ne, wr_nj, wr_eq, w32_e]
  rw [hR.ld.1]
  exact H _ _ (hR.sc (U_load (by decide) hR.1 (by omega)) (fun c j _ _ _ => by simp (disch := omega) only [wr_ne]))

theorem Z_clear {P : Int → Int → cM → Prop} {M : cM} (hR : RR M) (H : ∀ r M', RR M' → P r r M') : F_xs_clear (fun x M1 => F_xm_clear (fun y M2 => P x y M2) M1) M := by
  unfold F_xs_clear F_xm_clear
  simp (disch := omega) only [wr_ne, wr_nj, wr_eq, w32_e]
  rw [show M 10 9 = M 101 5 from hR.1.2.2.2.2.2.1.1]
  exact H _ _ (hR.sc (U_clear (by decide) hR.1 rfl) (fun c j _ _ _ => by simp (disch := omega) only [wr_ne]))
theorem Z_seed {P : Int → Int → cM → Prop} {M : cM} {a : Int} (hR : RR M) (H : ∀ r M', RR M' → P r r M') : F_xs_seed (fun x M1 => F_xm_seed (fun y M2 => P x y M2) a M1) a M := by
  unfold F_xs_seed F_xm_seed
  simp (disch := omega) only [wr_ne, wr_nj, wr_eq, w32_e]
  rw [show M 10 12 = M 101 4 from hR.1.2.2.2.2.1]
  exact H _ _ (hR.sc (U_seed (by decide) hR.1) (fun c j _ _ _ => by simp (disch := omega) only [wr_ne]))
theorem Z_lamp {P : Int → Int → cM → Prop} {M : cM} {a b : Int} (hR : RR M) (H : ∀ r M', RR M' → P r r M') : F_xs_lamp (fun x M1 => F_xm_lamp (fun y M2 => P x y M2) a b M1) a b M := by
  have hs := hR.1.2.2.1
  have hl := hR.1.2.2.2.1
  have hE : ¬ ((a = 0 ∧ 0 ≤ b ∧ b < 1001) ∨ (a = 1 ∧ -1 ≤ b ∧ b < 12)) → F_xs_lamp_66 (fun x M1 => F_xm_lamp (fun y M2 => P x y M2) a b M1) M := by
    intro hne
    unfold F_xs_lamp_66
    refine Z_err 0 (by decide) (by decide) hR (fun M1 e1 hR1 => ?_)
    unfold F_xm_lamp F_xm_lamp_29 F_xm_lamp_35
    simp only [E_xm_in, ite01]
    have hX := H (-1000001) _ hR1
    by_cases h0 : 0 ≤ a ∧ a ≤ 1
    · rw [if_pos h0]
      by_cases h1 : a = 0
      · subst h1
        rw [if_pos rfl, w32_e (by omega) (by omega), if_neg (by omega), E_xm_fin 0 (by decide) (by decide)]
        exact hX
      · rw [if_neg h1, w32_e (by omega) (by omega), if_neg (by omega), E_xm_fin 0 (by decide) (by decide)]
        exact hX
    · rw [if_neg h0, E_xm_fin 0 (by decide) (by decide)]
      exact hX
  unfold F_xs_lamp F_xs_lamp_29
  simp only [E_xs_isShare, E_xs_within, ite01]
  by_cases h0 : a = 0
  · rw [if_pos h0]
    by_cases h1 : 0 ≤ b ∧ b < 1001
    · rw [if_pos h1]
      subst h0
      unfold F_xm_lamp F_xm_lamp_29
      simp only [E_xm_in, ite01]
      rw [if_pos (by omega), if_pos trivial, w32_e (x := 0 - 0) (by omega) (by omega), if_pos (by omega), w32_e (x := 2 + 0) (by omega) (by omega)]
      refine ⟨by omega, by omega, ?_⟩
      rw [show (2 : Int) + 0 = 2 from rfl]
      simp (disch := omega) only [wr_ne, wr_nj, wr_eq, w32_e]
      rw [show M 10 5 = M 101 2 from hs.1]
      exact H _ _ (hR.sc (U_share (by decide) hR.1 (by omega)) (fun c j _ _ _ => by simp (disch := omega) only [wr_ne]))
    · rw [if_neg h1, if_neg (by omega)]
      exact hE (by omega)
  · rw [if_neg h0]
    by_cases h1 : a = 1
    · rw [if_pos h1]
      have ok : -1 ≤ b ∧ b < 12 → F_xs_lamp_48 (fun x M1 => F_xm_lamp (fun y M2 => P x y M2) a b M1) b M := by
        intro hb
        subst h1
        unfold F_xs_lamp_48 F_xm_lamp F_xm_lamp_29
        simp only [E_xm_in, ite01]
        rw [if_pos (by omega), if_neg h0, w32_e (x := 0 - 1) (by omega) (by omega), if_pos (by omega), w32_e (x := 2 + 1) (by omega) (by omega)]
        refine ⟨by omega, by omega, ?_⟩
        rw [show (2 : Int) + 1 = 3 from rfl]
        simp (disch := omega) only [wr_ne, wr_nj, wr_eq, w32_e]
        rw [show M 10 6 = M 101 3 from hl.1]
        exact H _ _ (hR.sc (U_slant (by decide) hR.1 (by omega)) (fun c j _ _ _ => by simp (disch := omega) only [wr_ne]))
      by_cases h2 : b = -1
      · rw [if_pos h2]; exact ok (by omega)
      · rw [if_neg h2]
        by_cases h3 : 0 ≤ b ∧ b < 12
        · rw [if_pos h3]; exact ok (by omega)
        · rw [if_neg h3]; exact hE (by omega)
    · rw [if_neg h1]
      exact hE (by omega)
theorem Z_sheetOf {P : Int → Int → cM → Prop} {M : cM} {a b : Int} (hR : RR M) (H : ∀ r M', RR M' → P r r M') : F_xs_sheetOf (fun x M1 => F_xm_sheetOf (fun y M2 => P x y M2) a b M1) a b M := by
  unfold F_xs_sheetOf F_xs_sheetOf_16
  have hn := hR.hn
  have hz := hR.n10.1
  simp only [E_xs_isStack, E_xs_isSheet, E_xs_isShare, E_xs_within, ite01]
  by_cases h1 : 0 ≤ a ∧ a < M 10 0
  rotate_left
  · rw [if_neg h1]
    refine Z_err 0 (by decide) (by decide) hR (fun M1 e1 hR1 => ?_)
    have e101 := fun j => e1 101 j (by decide)
    unfold F_xm_sheetOf F_xm_sheetOf_36
    simp only [E_xm_isStack, E_xm_isSlant, E_xm_isShare, E_xm_in, E_xm_isOne, E_xm_isSheet (e101 0) hn, ite01, e101]
    rw [if_neg (by omega), E_xm_fin 0 (by decide) (by decide)]
    exact H _ _ hR1
  rw [if_pos h1]
  by_cases h2 : 0 ≤ b ∧ b < 3
  rotate_left
  · rw [if_neg h2]
    refine Z_err 0 (by decide) (by decide) hR (fun M1 e1 hR1 => ?_)
    have e101 := fun j => e1 101 j (by decide)
    unfold F_xm_sheetOf F_xm_sheetOf_36
    simp only [E_xm_isStack, E_xm_isSlant, E_xm_isShare, E_xm_in, E_xm_isOne, E_xm_isSheet (e101 0) hn, ite01, e101]
    rw [if_pos (by omega), if_neg (by omega), E_xm_fin 0 (by decide) (by decide)]
    exact H _ _ hR1
  rw [if_pos h2]

  have g := hR.sheet (k := a) (by omega)
  have fin : ∀ v, v = M 101 (14 + 3 * a + b) → F_xm_sheetOf (fun y M2 => P v y M2) a b M := by
    intro v hv
    unfold F_xm_sheetOf
    simp only [E_xm_isStack, E_xm_isSlant, E_xm_isShare, E_xm_in, E_xm_isOne, E_xm_isSheet rfl hn, ite01]
    rw [if_pos (by omega), if_pos (by omega)]
    simp (disch := omega) only [wr_ne, wr_nj, wr_eq, w32_e]
    refine ⟨by omega, ?_⟩
    rw [hv]
    exact H _ _ hR
  unfold F_xg_property
  by_cases b0 : b = 0
  · rw [if_pos b0]
    exact ⟨by omega, fin _ (by rw [b0, Int.add_zero]; exact g.1)⟩
  rw [if_neg b0]
  by_cases b1 : b = 1
  · rw [if_pos b1]
    exact ⟨by omega, fin _ (by rw [b1, show 14 + 3 * a + 1 = 15 + 3 * a by omega]; exact g.2.1)⟩
  rw [if_neg b1]
  exact ⟨by omega, fin _ (by rw [show b = 2 by omega, show 14 + 3 * a + 2 = 16 + 3 * a by omega]; exact g.2.2.1)⟩

theorem E_xs_isProperty {Q : Int → cM → Prop} {w v : Int} {M : cM} : F_xs_isProperty Q w v M = Q (if 0 ≤ v ∧ v < (if w = 0 then 7 else if w = 1 then 12 else 1001) then 1 else 0) M := by
  unfold F_xs_isProperty
  simp only [E_xs_within, E_xs_isShare, nar_ite]
  by_cases h0 : w = 0
  · rw [if_pos h0, if_pos h0]
  · rw [if_neg h0, if_neg h0]
    by_cases h1 : w = 1
    · rw [if_pos h1, if_pos h1]
    · rw [if_neg h1, if_neg h1]
theorem E_xm_isPart {Q : Int → cM → Prop} {w v : Int} {M : cM} (hw : 0 ≤ w ∧ w < 3) : F_xm_isPart Q w v M = Q (if 0 ≤ v ∧ v < (if w = 0 then 7 else if w = 1 then 12 else 1001) then 1 else 0) M := by
  unfold F_xm_isPart F_xm_isPart_44
  simp only [E_xm_in, E_xm_isSlant, E_xm_isShare, nar_ite, ite01, narK40, narK41]
  by_cases h0 : w = 0
  · rw [if_pos h0, if_pos h0, if_iff (d := 0 ≤ v ∧ v < 7) (by omega)]
  · rw [if_neg h0, if_neg h0]
    by_cases h1 : w = 1
    · rw [if_pos h1, if_pos h1]
    · rw [if_neg h1, if_neg h1, if_pos (by omega)]
      split <;> rfl
theorem Z_change {P : Int → Int → cM → Prop} {M : cM} {a b v : Int} (hR : RR M) (H : ∀ r M', RR M' → P r r M') : F_xs_change (fun x M1 => F_xm_change (fun y M2 => P x y M2) a b v M1) a b v M := by
  have hn := hR.hn
  have hz := hR.n10.1
  unfold F_xs_change F_xs_change_24
  simp only [E_xs_isSheet, E_xs_within, E_xs_isProperty, ite01]
  by_cases h1 : 0 ≤ a ∧ a < M 10 0
  rotate_left
  · rw [if_neg h1]
    refine Z_err 0 (by decide) (by decide) hR (fun M1 e1 hR1 => ?_)
    have e101 := fun j => e1 101 j (by decide)
    unfold F_xm_change F_xm_change_28
    simp only [E_xm_isStack, E_xm_isSlant, E_xm_isShare, E_xm_in, E_xm_isOne, E_xm_isSheet (e101 0) hn, ite01, e101]
    rw [if_neg (by omega), E_xm_fin 0 (by decide) (by decide)]
    exact H _ _ hR1
  rw [if_pos h1]
  by_cases h2 : 0 ≤ b ∧ b < 3
  rotate_left
  · rw [if_neg h2]
    refine Z_err 0 (by decide) (by decide) hR (fun M1 e1 hR1 => ?_)
    have e101 := fun j => e1 101 j (by decide)
    unfold F_xm_change F_xm_change_28
    simp only [E_xm_isStack, E_xm_isSlant, E_xm_isShare, E_xm_in, E_xm_isOne, E_xm_isSheet (e101 0) hn, ite01, e101]
    rw [if_pos (by omega), if_neg (by omega), E_xm_fin 0 (by decide) (by decide)]
    exact H _ _ hR1
  rw [if_pos h2]
  by_cases h3 : 0 ≤ v ∧ v < (if b = 0 then 7 else if b = 1 then 12 else 1001)
  rotate_left
  · rw [if_neg h3]
    refine Z_err 0 (by decide) (by decide) hR (fun M1 e1 hR1 => ?_)
    have e101 := fun j => e1 101 j (by decide)
    unfold F_xm_change F_xm_change_28
    simp only [E_xm_isStack, E_xm_isSlant, E_xm_isShare, E_xm_in, E_xm_isOne, E_xm_isSheet (e101 0) hn, E_xm_isPart h2, ite01, e101]
    rw [if_pos (by omega), if_pos (by omega), if_neg h3, E_xm_fin 0 (by decide) (by decide)]
    exact H _ _ hR1
  rw [if_pos h3]
  have g := hR.sheet (k := a) (by omega)
  have fin : ∀ (o : Int) (M1 : cM), (∀ c j, c ≠ 11 → c ≠ 12 → c ≠ 13 → M1 c j = M c j) → o = M 101 (14 + 3 * a + b) → RR (wr M1 101 (14 + 3 * a + b) v) → F_xm_change (fun y M2 => P o y M2) a b v M1 := by
    intro o M1 e1 ho hRR
    have e101 := fun j => e1 101 j (by decide) (by decide) (by decide)
    unfold F_xm_change
    simp only [E_xm_isStack, E_xm_isSlant, E_xm_isShare, E_xm_in, E_xm_isOne, E_xm_isSheet (e101 0) hn, E_xm_isPart h2, ite01, e101]
    rw [if_pos (by omega), if_pos (by omega), if_pos h3]
    simp (disch := omega) only [w32_e]
    refine ⟨by omega, by omega, ?_⟩
    rw [← ho]
    exact H _ _ hRR
  unfold F_xg_property F_xg_setProperty
  by_cases b0 : b = 0
  · simp only [b0, if_true] at h3 ⊢
    rw [b0, Int.add_zero] at fin
    exact ⟨by omega, by omega, fin _ _ (fun c j x1 x2 x3 => wr_ne x1) g.1 (hR.sc (U_kind (by decide) hR.1 (by omega) (by omega)) (fun c j _ _ _ => by simp (disch := omega) only [wr_ne]))⟩
  simp only [if_neg b0] at h3 ⊢
  by_cases b1 : b = 1
  · simp only [b1, if_true] at h3 ⊢
    rw [b1, show 14 + 3 * a + 1 = 15 + 3 * a by omega] at fin
    exact ⟨by omega, by omega, fin _ _ (fun c j x1 x2 x3 => wr_ne x2) g.2.1 (hR.sc (U_turn (by decide) hR.1 (by omega) (by omega)) (fun c j _ _ _ => by simp (disch := omega) only [wr_ne]))⟩
  simp only [if_neg b1] at h3 ⊢
  have b2 : b = 2 := by omega
  rw [b2, show 14 + 3 * a + 2 = 16 + 3 * a by omega] at fin
  rw [b2]
  exact ⟨by omega, by omega, fin _ _ (fun c j x1 x2 x3 => wr_ne x3) g.2.2.1 (hR.sc (U_pass (by decide) hR.1 (by omega) (by omega)) (fun c j _ _ _ => by simp (disch := omega) only [wr_ne]))⟩
