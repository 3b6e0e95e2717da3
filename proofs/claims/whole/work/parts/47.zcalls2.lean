/-! More calls that change a place or two, related. -/
theorem Z_sheet {P : Int → Int → cM → Prop} {M : cM} {a b v : Int} (hR : RR M) (H : ∀ r M', RR M' → P r r M') : F_xs_sheet (fun x M1 => F_xm_sheet (fun y M2 => P x y M2) a b v M1) a b v M := by
  unfold F_xs_sheet F_xs_sheet_25
  have hn := hR.hn
  have hz := hR.n10.1
  simp only [E_xs_isStack, E_xs_isSheet, E_xs_isShare, E_xs_within, ite01]
  by_cases h1 : 0 ≤ a ∧ a < 7
  rotate_left
  · rw [if_neg h1]
    refine Z_err 0 (by decide) (by decide) hR (fun M1 e1 hR1 => ?_)
    have e101 := fun j => e1 101 j (by decide)
    unfold F_xm_sheet F_xm_sheet_24
    simp only [E_xm_isStack, E_xm_isSlant, E_xm_isShare, E_xm_in, E_xm_isOne, E_xm_isSheet (e101 0) hn, ite01, e101, E_xm_isPart (w := 0) (by decide), E_xm_isPart (w := 1) (by decide), E_xm_isPart (w := 2) (by decide), if_true, show ¬ ((1 : Int) = 0) by decide, show ¬ ((2 : Int) = 0) by decide, show ¬ ((2 : Int) = 1) by decide, if_false]
    rw [if_neg (by omega), E_xm_fin 0 (by decide) (by decide)]
    exact H _ _ hR1
  rw [if_pos h1]
  by_cases h2 : 0 ≤ b ∧ b < 12
  rotate_left
  · rw [if_neg h2]
    refine Z_err 0 (by decide) (by decide) hR (fun M1 e1 hR1 => ?_)
    have e101 := fun j => e1 101 j (by decide)
    unfold F_xm_sheet F_xm_sheet_24
    simp only [E_xm_isStack, E_xm_isSlant, E_xm_isShare, E_xm_in, E_xm_isOne, E_xm_isSheet (e101 0) hn, ite01, e101, E_xm_isPart (w := 0) (by decide), E_xm_isPart (w := 1) (by decide), E_xm_isPart (w := 2) (by decide), if_true, show ¬ ((1 : Int) = 0) by decide, show ¬ ((2 : Int) = 0) by decide, show ¬ ((2 : Int) = 1) by decide, if_false]
    rw [if_pos (by omega), if_neg (by omega), E_xm_fin 0 (by decide) (by decide)]
    exact H _ _ hR1
  rw [if_pos h2]
  by_cases h3 : 0 ≤ v ∧ v < 1001
  rotate_left
  · rw [if_neg h3]
    refine Z_err 0 (by decide) (by decide) hR (fun M1 e1 hR1 => ?_)
    have e101 := fun j => e1 101 j (by decide)
    unfold F_xm_sheet F_xm_sheet_24
    simp only [E_xm_isStack, E_xm_isSlant, E_xm_isShare, E_xm_in, E_xm_isOne, E_xm_isSheet (e101 0) hn, ite01, e101, E_xm_isPart (w := 0) (by decide), E_xm_isPart (w := 1) (by decide), E_xm_isPart (w := 2) (by decide), if_true, show ¬ ((1 : Int) = 0) by decide, show ¬ ((2 : Int) = 0) by decide, show ¬ ((2 : Int) = 1) by decide, if_false]
    rw [if_pos (by omega), if_pos (by omega), if_neg (by omega), E_xm_fin 0 (by decide) (by decide)]
    exact H _ _ hR1
  rw [if_pos h3]
  by_cases h4 : M 10 0 < 10
  rotate_left
  · rw [if_neg h4]
    refine Z_err 1 (by decide) (by decide) hR (fun M1 e1 hR1 => ?_)
    have e101 := fun j => e1 101 j (by decide)
    unfold F_xm_sheet F_xm_sheet_24
    simp only [E_xm_isStack, E_xm_isSlant, E_xm_isShare, E_xm_in, E_xm_isOne, E_xm_isSheet (e101 0) hn, ite01, e101, E_xm_isPart (w := 0) (by decide), E_xm_isPart (w := 1) (by decide), E_xm_isPart (w := 2) (by decide), if_true, show ¬ ((1 : Int) = 0) by decide, show ¬ ((2 : Int) = 0) by decide, show ¬ ((2 : Int) = 1) by decide, if_false]
    rw [if_pos (by omega), if_pos (by omega), if_pos (by omega), if_pos (by omega), E_xm_fin 1 (by decide) (by decide)]
    exact H _ _ hR1
  rw [if_pos h4]

  unfold F_xg_addSheet
  simp (disch := omega) only [wr_ne, wr_nj, wr_eq, w32_e]
  refine ⟨by omega, by omega, by omega, ?_⟩
  rw [hz] at h4 ⊢
  unfold F_xm_sheet F_xm_newSheet
  simp only [E_xm_isStack, E_xm_isSlant, E_xm_isShare, E_xm_in, E_xm_isOne, E_xm_isSheet rfl hn, E_xm_isPart (w := 0) (by decide), E_xm_isPart (w := 1) (by decide), E_xm_isPart (w := 2) (by decide), if_true, show ¬ ((1 : Int) = 0) by decide, show ¬ ((2 : Int) = 0) by decide, show ¬ ((2 : Int) = 1) by decide, if_false, ite01]
  rw [if_pos (by omega), if_pos (by omega), if_pos (by omega)]
  have hh : M 101 0 < 10 := h4
  simp (disch := omega) only [wr_ne, wr_nj, wr_eq, w32_e]
  rw [if_neg (by omega)]
  refine ⟨by omega, by omega, by omega, ?_⟩
  rw [show 14 + 3 * M 101 0 + 1 = 15 + 3 * M 101 0 by omega, show 14 + 3 * M 101 0 + 2 = 16 + 3 * M 101 0 by omega]
  exact H _ _ (hR.sc (U_sheet (by decide) hR.1 rfl hh (by omega) (by omega) (by omega)) (fun c j _ _ _ => by simp (disch := omega) only [wr_ne]))

theorem E_xg_hasRoom {Q : Int → cM → Prop} {b k : Int} {M : cM} (h : 0 ≤ k ∧ k < 4) : F_xg_hasRoom Q b k M = Q (if M (b + 9) k < 6 then 1 else 0) M := by
  unfold F_xg_hasRoom
  rw [narK40, narK41]
  by_cases h1 : 6 ≤ M (b + 9) k
  · rw [if_pos h1, if_neg (by omega)]; simp only [h, and_self, true_and]
  · rw [if_neg h1, if_pos (by omega)]; simp only [h, and_self, true_and]
/-- a sheet laid: the class -/
theorem Y_put {Q : cM → Prop} {b k v n : Int} {M : cM} (hb : 0 ≤ b ∧ b ≤ 50) (h : 0 ≤ k ∧ k < 4) (hn : M (b + 9) k = n) (h6 : 0 ≤ n ∧ n < 6) (H : Q (wr (wr M (b + 5 + k) n v) (b + 9) k (n + 1))) : F_xg_put Q b k v M := by
  unfold F_xg_put
  rw [hn]
  rw [wr_ne (by omega), hn, w32_e (by omega) (by omega)]
  exact ⟨h, h, h6, h, h, H⟩
/-- a sheet laid: the model -/
theorem Y_lays {Q : cM → Prop} {k v n : Int} {M : cM} (h : 0 ≤ k ∧ k < 4) (hn : M 101 (44 + 7 * k) = n) (h6 : 0 ≤ n ∧ n < 6) (H : Q (wr (wr M 101 (45 + 7 * k + n) v) 101 (44 + 7 * k) (n + 1))) : F_xm_lays Q k v M := by
  unfold F_xm_lays
  simp (disch := omega) only [w32_e]
  rw [hn]
  rw [wr_nj (by omega), hn, w32_e (by omega) (by omega), show 44 + 7 * k + 1 + n = 45 + 7 * k + n by omega]
  exact ⟨by omega, by omega, by omega, by omega, H⟩
theorem Z_lay {P : Int → Int → cM → Prop} {M : cM} {a v : Int} (hR : RR M) (H : ∀ r M', RR M' → P r r M') : F_xs_lay (fun x M1 => F_xm_lay (fun y M2 => P x y M2) a v M1) a v M := by
  unfold F_xs_lay F_xs_lay_15
  have hn := hR.hn
  have hz := hR.n10.1
  simp only [E_xs_isStack, E_xs_isSheet, E_xs_isShare, E_xs_within, ite01]
  by_cases h1 : 0 ≤ a ∧ a < 4
  rotate_left
  · rw [if_neg h1]
    refine Z_err 0 (by decide) (by decide) hR (fun M1 e1 hR1 => ?_)
    have e101 := fun j => e1 101 j (by decide)
    unfold F_xm_lay F_xm_lay_15
    simp only [E_xm_isStack, E_xm_isSlant, E_xm_isShare, E_xm_in, E_xm_isOne, E_xm_isSheet (e101 0) hn, ite01, e101]
    rw [if_neg (by omega), E_xm_fin 0 (by decide) (by decide)]
    exact H _ _ hR1
  rw [if_pos h1]
  by_cases h2 : 0 ≤ v ∧ v < M 10 0
  rotate_left
  · rw [if_neg h2]
    refine Z_err 0 (by decide) (by decide) hR (fun M1 e1 hR1 => ?_)
    have e101 := fun j => e1 101 j (by decide)
    unfold F_xm_lay F_xm_lay_15
    simp only [E_xm_isStack, E_xm_isSlant, E_xm_isShare, E_xm_in, E_xm_isOne, E_xm_isSheet (e101 0) hn, ite01, e101]
    rw [if_pos (by omega), if_neg (by omega), E_xm_fin 0 (by decide) (by decide)]
    exact H _ _ hR1
  rw [if_pos h2]

  have g := hR.h19 h1
  rw [E_xg_hasRoom h1, ite01, show (10 : Int) + 9 = 19 from rfl]
  by_cases h3 : M 19 a < 6
  rotate_left
  · rw [if_neg h3]
    refine Z_err 1 (by decide) (by decide) hR (fun M1 e1 hR1 => ?_)
    have e101 := fun j => e1 101 j (by decide)
    unfold F_xm_lay
    simp only [E_xm_isStack, E_xm_isSlant, E_xm_isShare, E_xm_in, E_xm_isOne, E_xm_isSheet (e101 0) hn, E_xm_manyIn h1, ite01, e101]
    rw [if_pos (by omega), if_pos (by omega), if_pos (by omega), E_xm_fin 1 (by decide) (by decide)]
    exact H _ _ hR1
  rw [if_pos h3]
  refine Y_put (by decide) h1 g.1 (by omega) ⟨h1, ?_⟩
  rw [show (10 : Int) + 9 = 19 from rfl, wr_eq]
  unfold F_xm_lay
  simp only [E_xm_isStack, ite01]
  rw [if_pos h1, E_xm_isSheet (n := M 101 0) (by simp (disch := omega) only [wr_ne]) hn, ite01, if_pos (by omega)]
  simp only [E_xm_manyIn h1]
  simp (disch := omega) only [wr_ne]
  rw [if_neg (by omega)]
  refine Y_lays (n := M 101 (44 + 7 * a)) h1 (by simp (disch := omega) only [wr_ne]) (by omega) ?_
  rw [wr_eq]
  exact H _ _ (hR.sc (U_lay (by decide) hR.1 h1 rfl (by omega) (by omega)) (fun c j _ _ _ => by simp (disch := omega) only [wr_ne]))

theorem Z_off {P : Int → Int → cM → Prop} {M : cM} {a : Int} (hR : RR M) (H : ∀ r M', RR M' → P r r M') : F_xs_off (fun x M1 => F_xm_off (fun y M2 => P x y M2) a M1) a M := by
  unfold F_xs_off 
  have hn := hR.hn
  have hz := hR.n10.1
  simp only [E_xs_isStack, E_xs_isSheet, E_xs_isShare, E_xs_within, ite01]
  by_cases h1 : 0 ≤ a ∧ a < 4
  rotate_left
  · rw [if_neg h1]
    refine Z_err 0 (by decide) (by decide) hR (fun M1 e1 hR1 => ?_)
    have e101 := fun j => e1 101 j (by decide)
    unfold F_xm_off 
    simp only [E_xm_isStack, E_xm_isSlant, E_xm_isShare, E_xm_in, E_xm_isOne, E_xm_isSheet (e101 0) hn, ite01, e101]
    rw [if_neg (by omega), E_xm_fin 0 (by decide) (by decide)]
    exact H _ _ hR1
  rw [if_pos h1]

  have g := hR.h19 h1
  refine ⟨h1, ?_⟩
  by_cases h3 : M 19 a = 0
  · rw [if_pos h3]
    refine Z_err 3 (by decide) (by decide) hR (fun M1 e1 hR1 => ?_)
    have e101 := fun j => e1 101 j (by decide)
    unfold F_xm_off
    simp only [E_xm_isStack, E_xm_isSlant, E_xm_isShare, E_xm_in, E_xm_isOne, E_xm_isSheet (e101 0) hn, E_xm_manyIn h1, ite01, e101]
    rw [if_pos (by omega), if_pos (by omega), E_xm_fin 3 (by decide) (by decide)]
    exact H _ _ hR1
  rw [if_neg h3]
  have r := hR.row (i := M 101 (44 + 7 * a) - 1) h1 (by omega)
  rw [wr_eq, g.1, w32_e (by omega) (by omega), wr_ne (by omega), r.1]
  refine ⟨h1, h1, h1, h1, by omega, ?_⟩
  unfold F_xm_off
  simp only [E_xm_isStack, E_xm_isSlant, E_xm_isShare, E_xm_in, E_xm_isOne, E_xm_isSheet rfl hn, E_xm_manyIn h1, ite01]
  simp (disch := omega) only [wr_ne, wr_nj, wr_eq, w32_e]
  rw [if_pos (by omega), if_neg (by omega), E_xm_sheetIn h1 (by omega)]
  simp (disch := omega) only [wr_ne, wr_nj, wr_eq, w32_e]
  refine ⟨by omega, by omega, ?_⟩
  exact H _ _ (hR.sc (U_off (by decide) hR.1 h1 rfl (by omega)) (fun c j _ _ _ => by simp (disch := omega) only [wr_ne]))

theorem Z_at {P : Int → Int → cM → Prop} {M : cM} {a i : Int} (hR : RR M) (H : ∀ r M', RR M' → P r r M') : F_xs_at (fun x M1 => F_xm_at (fun y M2 => P x y M2) a i M1) a i M := by
  unfold F_xs_at F_xs_at_16
  have hn := hR.hn
  have hz := hR.n10.1
  simp only [E_xs_isStack, E_xs_isSheet, E_xs_isShare, E_xs_within, ite01]
  by_cases h1 : 0 ≤ a ∧ a < 4
  rotate_left
  · rw [if_neg h1]
    refine Z_err 0 (by decide) (by decide) hR (fun M1 e1 hR1 => ?_)
    have e101 := fun j => e1 101 j (by decide)
    unfold F_xm_at F_xm_at_19
    simp only [E_xm_isStack, E_xm_isSlant, E_xm_isShare, E_xm_in, E_xm_isOne, E_xm_isSheet (e101 0) hn, ite01, e101]
    rw [if_neg (by omega), E_xm_fin 0 (by decide) (by decide)]
    exact H _ _ hR1
  rw [if_pos h1]
  by_cases h2 : 0 ≤ i ∧ i < 6
  rotate_left
  · rw [if_neg h2]
    refine Z_err 0 (by decide) (by decide) hR (fun M1 e1 hR1 => ?_)
    have e101 := fun j => e1 101 j (by decide)
    unfold F_xm_at F_xm_at_19
    simp only [E_xm_isStack, E_xm_isSlant, E_xm_isShare, E_xm_in, E_xm_isOne, E_xm_isSheet (e101 0) hn, ite01, e101]
    rw [if_pos (by omega), if_neg (by omega), E_xm_fin 0 (by decide) (by decide)]
    exact H _ _ hR1
  rw [if_pos h2]

  have g := hR.h19 h1
  refine ⟨h1, ?_⟩
  by_cases h3 : i < M 19 a
  rotate_left
  · rw [if_neg h3]
    refine Z_err 3 (by decide) (by decide) hR (fun M1 e1 hR1 => ?_)
    have e101 := fun j => e1 101 j (by decide)
    unfold F_xm_at
    simp only [E_xm_isStack, E_xm_isSlant, E_xm_isShare, E_xm_in, E_xm_isOne, E_xm_isSheet (e101 0) hn, E_xm_manyIn h1, ite01, e101]
    rw [if_pos (by omega), if_pos (by omega), if_pos (by omega), E_xm_fin 3 (by decide) (by decide)]
    exact H _ _ hR1
  rw [if_pos h3]
  have r := hR.row (i := i) h1 (by omega)
  rw [r.1]
  refine ⟨h1, h2, ?_⟩
  unfold F_xm_at
  simp only [E_xm_isStack, E_xm_isSlant, E_xm_isShare, E_xm_in, E_xm_isOne, E_xm_isSheet rfl hn, E_xm_manyIn h1, E_xm_sheetIn h1 h2, ite01]
  rw [if_pos (by omega), if_pos (by omega), if_neg (by omega)]
  exact H _ _ hR

theorem Z_look {P : Int → Int → cM → Prop} {M : cM} {t v : Int} (hR : RR M) (H : ∀ r M', RR M' → P r r M') : F_xs_look (fun x M1 => F_xm_look (fun y M2 => P x y M2) t v M1) t v M := by
  unfold F_xs_look F_xs_look_16
  have hn := hR.hn
  have hz := hR.n10.1
  have h5 : M 10 9 = M 101 5 ∧ 0 ≤ M 101 5 ∧ M 101 5 ≤ 4 := hR.1.2.2.2.2.2.1
  simp only [E_xs_isStack, E_xs_isSheet, E_xs_isShare, E_xs_within, ite01]
  by_cases h1 : 0 ≤ t ∧ t < 12
  rotate_left
  · rw [if_neg h1]
    refine Z_err 0 (by decide) (by decide) hR (fun M1 e1 hR1 => ?_)
    have e101 := fun j => e1 101 j (by decide)
    unfold F_xm_look F_xm_look_14
    simp only [E_xm_isStack, E_xm_isSlant, E_xm_isShare, E_xm_in, E_xm_isOne, E_xm_isSheet (e101 0) hn, ite01, e101]
    rw [if_neg (by omega), E_xm_fin 0 (by decide) (by decide)]
    exact H _ _ hR1
  rw [if_pos h1]
  by_cases h2 : 0 ≤ v ∧ v < 1001
  rotate_left
  · rw [if_neg h2]
    refine Z_err 0 (by decide) (by decide) hR (fun M1 e1 hR1 => ?_)
    have e101 := fun j => e1 101 j (by decide)
    unfold F_xm_look F_xm_look_14
    simp only [E_xm_isStack, E_xm_isSlant, E_xm_isShare, E_xm_in, E_xm_isOne, E_xm_isSheet (e101 0) hn, ite01, e101]
    rw [if_pos (by omega), if_neg (by omega), E_xm_fin 0 (by decide) (by decide)]
    exact H _ _ hR1
  rw [if_pos h2]
  by_cases h3 : M 10 9 < 4
  rotate_left
  · rw [if_neg h3]
    refine Z_err 1 (by decide) (by decide) hR (fun M1 e1 hR1 => ?_)
    have e101 := fun j => e1 101 j (by decide)
    unfold F_xm_look F_xm_look_14
    simp only [E_xm_isStack, E_xm_isSlant, E_xm_isShare, E_xm_in, E_xm_isOne, E_xm_isSheet (e101 0) hn, ite01, e101]
    rw [if_pos (by omega), if_pos (by omega), if_pos (by omega), E_xm_fin 1 (by decide) (by decide)]
    exact H _ _ hR1
  rw [if_pos h3]

  unfold F_xg_addLook
  simp (disch := omega) only [wr_ne, wr_nj, wr_eq, w32_e]
  refine ⟨by omega, by omega, ?_⟩
  rw [h5.1] at h3 ⊢
  unfold F_xm_look
  simp only [E_xm_isStack, E_xm_isSlant, E_xm_isShare, E_xm_in, E_xm_isOne, E_xm_isSheet rfl hn, ite01]
  rw [if_pos (by omega), if_pos (by omega)]
  simp (disch := omega) only [wr_ne, wr_nj, wr_eq, w32_e]
  rw [if_neg (by omega)]
  refine ⟨by omega, by omega, ?_⟩
  rw [show 6 + 2 * M 101 5 + 1 = 7 + 2 * M 101 5 by omega]
  exact H _ _ (hR.sc (U_look (by decide) hR.1 rfl h3 (by omega) (by omega)) (fun c j _ _ _ => by simp (disch := omega) only [wr_ne]))

theorem Z_hold {P : Int → Int → cM → Prop} {M : cM} {p v : Int} (hR : RR M) (H : ∀ r M', RR M' → P r r M') : F_xs_hold (fun x M1 => F_xm_hold (fun y M2 => P x y M2) p v M1) p v M := by
  have hn := hR.hn
  have hz := hR.n10.1
  have hE : ¬ ((0 ≤ p ∧ p < 10) ∧ (v = -1 ∨ (0 ≤ v ∧ v < M 101 0))) → F_xs_hold_22 (fun x M1 => F_xm_hold (fun y M2 => P x y M2) p v M1) M := by
    intro hne
    unfold F_xs_hold_22
    refine Z_err 0 (by decide) (by decide) hR (fun M1 e1 hR1 => ?_)
    have e101 := fun j => e1 101 j (by decide)
    unfold F_xm_hold F_xm_hold_25
    simp only [E_xm_isStack, E_xm_isSlant, E_xm_isShare, E_xm_in, E_xm_isOne, E_xm_isSheet (e101 0) hn, ite01, e101]
    have hX := H (-1000001) _ hR1
    by_cases h0 : 0 ≤ p ∧ p ≤ 9
    · rw [if_pos h0, if_neg (by omega), if_neg (by omega), E_xm_fin 0 (by decide) (by decide)]
      exact hX
    · rw [if_neg h0, E_xm_fin 0 (by decide) (by decide)]
      exact hX
  have ok : (0 ≤ p ∧ p < 10) → (v = -1 ∨ (0 ≤ v ∧ v < M 101 0)) → F_xs_hold_29 (fun x M1 => F_xm_hold (fun y M2 => P x y M2) p v M1) p v M := by
    intro hp hv
    unfold F_xs_hold_29
    refine ⟨hp, ?_⟩
    have key : F_xm_hold_32 (fun y M2 => P 1 y M2) p v (wr M 22 p v) := by
      unfold F_xm_hold_32
      simp (disch := omega) only [w32_e]
      exact ⟨by omega, H _ _ (hR.sc (U_hold (by decide) hR.1 hp (by omega)) (fun c j _ _ _ => by simp (disch := omega) only [wr_ne]))⟩
    unfold F_xm_hold
    simp only [E_xm_in, ite01]
    rw [if_pos (by omega)]
    by_cases hm : v = -1
    · rw [if_pos hm]; exact key
    · rw [if_neg hm, E_xm_isSheet (n := M 101 0) (by simp (disch := omega) only [wr_ne]) hn, ite01, if_pos (by omega)]; exact key
  unfold F_xs_hold
  simp only [E_xs_within, E_xs_isSheet, ite01]
  by_cases h0 : 0 ≤ p ∧ p < 10
  · rw [if_pos h0]
    by_cases h1 : v = -1
    · rw [if_pos h1]; exact ok h0 (by omega)
    · rw [if_neg h1]
      by_cases h2 : 0 ≤ v ∧ v < M 10 0
      · rw [if_pos h2]; exact ok h0 (by omega)
      · rw [if_neg h2]; exact hE (by omega)
  · rw [if_neg h0]; exact hE (by omega)
