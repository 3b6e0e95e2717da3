/-! drawn, from: sheets laid one by one. -/
theorem mod_b {x s : Int} (hs : 0 < s) : 0 ≤ x % s ∧ x % s < s := ⟨Int.emod_nonneg _ (by omega), Int.emod_lt_of_pos _ hs⟩
/-- a sheet laid in both memories -/
theorem mx_lay {A B : cM} {st v n : Int} (hS : SC 10 101 (mx A B)) (hs : 0 ≤ st ∧ st < 4) (hn : B 101 (44 + 7 * st) = n) (h6 : n < 6) (hv : 0 ≤ v ∧ v < B 101 0) : SC 10 101 (mx (wr (wr A (10 + 5 + st) n v) (10 + 9) st (n + 1)) (wr (wr B 101 (45 + 7 * st + n) v) 101 (44 + 7 * st) (n + 1))) := by
  have := U_lay (st := st) (v := v) (n := n) (by decide) hS hs (by rw [mx_ge (by decide)]; exact hn) h6 (by rw [mx_ge (by decide)]; exact hv)
  rw [mx_wl (by omega), mx_wl (by decide), mx_wr (by decide), mx_wr (by decide)] at this
  exact this
theorem fr_lay {A B : cM} {st v n : Int} (hs : 0 ≤ st ∧ st < 4) : fr A (wr (wr A (10 + 5 + st) n v) (10 + 9) st (n + 1)) B (wr (wr B 101 (45 + 7 * st + n) v) 101 (44 + 7 * st) (n + 1)) := ((((fr.rf A B).wl (by omega)).wl (by decide)).wr).wr
/-- a run of the class, and one of the model -/
theorem X_put {Q : cM → Prop} {A X : cM} {st v n : Int} (hs : 0 ≤ st ∧ st < 4) (hn : A 19 st = n) (h6 : 0 ≤ n ∧ n < 6) (H : Q (mx (wr (wr A (10 + 5 + st) n v) (10 + 9) st (n + 1)) X)) : F_xg_put Q 10 st v (mx A X) := by
  refine Y_put (by decide) hs (by rw [mx_lt (by decide)]; exact hn) h6 ?_
  rw [mx_wl (by omega), mx_wl (by decide)]
  exact H
theorem X_lays {Q : cM → Prop} {B X : cM} {st v n : Int} (hs : 0 ≤ st ∧ st < 4) (hn : B 101 (44 + 7 * st) = n) (h6 : 0 ≤ n ∧ n < 6) (H : Q (mx X (wr (wr B 101 (45 + 7 * st + n) v) 101 (44 + 7 * st) (n + 1)))) : F_xm_lays Q st v (mx X B) := by
  refine Y_lays hs (by rw [mx_ge (by decide)]; exact hn) h6 ?_
  rw [mx_wr (by decide), mx_wr (by decide)]
  exact H
theorem mx_h19 {A B : cM} (hS : SC 10 101 (mx A B)) {st : Int} (hs : 0 ≤ st ∧ st < 4) : A 19 st = B 101 (44 + 7 * st) ∧ 0 ≤ B 101 (44 + 7 * st) ∧ B 101 (44 + 7 * st) ≤ 6 := by
  have g := hS.2.2.2.2.2.2.2.2.1 st hs.1 hs.2
  rw [mx_lt (by decide), mx_ge (by decide)] at g
  exact g
theorem mx_n {A B : cM} (hS : SC 10 101 (mx A B)) : A 10 0 = B 101 0 ∧ 0 ≤ B 101 0 ∧ B 101 0 ≤ 10 := hS.1
theorem X_manyIn {Q : Int → cM → Prop} {B X : cM} {st : Int} (hs : 0 ≤ st ∧ st < 4) : F_xm_manyIn Q st (mx X B) = Q (B 101 (44 + 7 * st)) (mx X B) := by rw [E_xm_manyIn hs, mx_ge (by decide)]
theorem X_hasRoom {Q : Int → cM → Prop} {A X : cM} {st : Int} (hs : 0 ≤ st ∧ st < 4) : F_xg_hasRoom Q 10 st (mx A X) = Q (if A 19 st < 6 then 1 else 0) (mx A X) := by rw [E_xg_hasRoom hs, mx_lt (by decide)]; rfl
theorem S_drawn {st nn : Int} (hs : 0 ≤ st ∧ st < 4) (hnn : 1 ≤ nn ∧ nn ≤ 6) : ∀ (m n : Nat) (A B : cM), SC 10 101 (mx A B) → 0 < B 101 0 → (n : Int) + m = nn → ∃ (A' B' : cM) (r : Int), SC 10 101 (mx A' B') ∧ fr A A' B B' ∧ (∀ (X : cM) (Q : Int → cM → Prop), Q r (mx A' X) → F_xs_drawn_45 Q (m + 1) st nn n (mx A X)) ∧ (∀ (X : cM) (Q : Int → cM → Prop), Q r (mx X B') → F_xm_drawn_44 Q (m + 1) st nn n (mx X B)) := by
  intro m
  induction m with
  | zero =>
    intro n A B hS hp hn
    have g := mx_h19 hS hs
    refine ⟨A, B, B 101 (44 + 7 * st), hS, fr.rf A B, fun X Q H => ?_, fun X Q H => ?_⟩
    rotate_left
    · unfold F_xm_drawn_44 F_xm_drawn_81
      rw [if_pos (by omega), X_manyIn hs]; exact H
    · unfold F_xs_drawn_45 F_xs_drawn_90
      rw [if_pos (by omega), mx_lt (by decide), g.1]; exact ⟨hs, H⟩
  | succ m ih =>
    intro n A B hS hp hn
    have g := mx_h19 hS hs
    have hn9 : n < 1000 := by omega
    by_cases h6 : B 101 (44 + 7 * st) < 6
    rotate_left
    · refine ⟨A, B, B 101 (44 + 7 * st), hS, fr.rf A B, fun X Q H => ?_, fun X Q H => ?_⟩
      rotate_left
      · unfold F_xm_drawn_44 F_xm_drawn_81
        rw [if_neg (by omega), X_manyIn hs, if_pos (by omega), X_manyIn hs]; exact H
      · unfold F_xs_drawn_45 F_xs_drawn_90
        rw [if_neg (by omega), X_hasRoom hs, ite01, if_neg (by omega), mx_lt (by decide), g.1]; exact ⟨hs, H⟩
    have hz : A 10 12 = B 101 4 := hS.2.2.2.2.1
    have h0 := mx_n hS
    have zb := zushr8 (zn (B 101 4))
    have vb := mod_b (x := zushr (zn (B 101 4)) 8) hp
    generalize hv : zushr (zn (B 101 4)) 8 % B 101 0 = v at vb
    have hS0 : SC 10 101 (mx (wr A 10 12 (zn (B 101 4))) (wr B 101 4 (zn (B 101 4)))) := by
      have := U_seed (v := zn (B 101 4)) (by decide) hS
      rw [mx_wl (by decide), mx_wr (by decide)] at this
      exact this
    have e44 : wr B 101 4 (zn (B 101 4)) 101 (44 + 7 * st) = B 101 (44 + 7 * st) := wr_nj (by omega)
    have e0 : wr B 101 4 (zn (B 101 4)) 101 0 = B 101 0 := wr_nj (by decide)
    have hS1 := mx_lay (st := st) (v := v) (n := B 101 (44 + 7 * st)) hS0 hs e44 h6 (by rw [e0]; exact vb)
    obtain ⟨A', B', r, q1, q2, q3, q4⟩ := ih (n + 1) _ _ hS1 (by rw [wr_nj (by omega), wr_nj (by omega), e0]; exact hp) (by omega)
    have f0 : fr A (wr A 10 12 (zn (B 101 4))) B (wr B 101 4 (zn (B 101 4))) := ((fr.rf A B).wl (by decide)).wr
    refine ⟨A', B', r, q1, (f0.tr (fr_lay hs)).tr q2, fun X Q H => ?_, fun X Q H => ?_⟩
    · have := q3 X Q H
      unfold F_xs_drawn_45
      rw [if_neg (by omega), X_hasRoom hs, ite01, if_pos (by omega), E_xg_draw, mx_lt (by decide), hz, mx_wl (by decide), mx_lt (by decide), wr_nj (by decide), h0.1]
      refine ⟨by omega, ?_⟩
      rw [tmn zb.1, hv, wE hn9]
      exact X_put hs (n := B 101 (44 + 7 * st)) (by rw [wr_ne (by decide)]; exact g.1) (by omega) this
    · have := q4 X Q H
      unfold F_xm_drawn_44
      rw [if_neg (by omega), X_manyIn hs, if_neg (by omega), E_xm_next, mx_ge (by decide), mx_wr (by decide), mx_ge (by decide), e0]
      refine ⟨by omega, ?_⟩
      rw [tmn zb.1, hv, wE hn9]
      exact X_lays hs e44 (by omega) this
theorem Z_drawn {P : Int → Int → cM → Prop} {M : cM} {a n : Int} (hR : RR M) (H : ∀ r M', RR M' → P r r M') : F_xs_drawn (fun x M1 => F_xm_drawn (fun y M2 => P x y M2) a n M1) a n M := by
  have hz := hR.n10
  have hE : ¬ ((0 ≤ a ∧ a < 4) ∧ 1 ≤ n ∧ n ≤ 6) → F_xs_drawn_18 (fun x M1 => F_xm_drawn (fun y M2 => P x y M2) a n M1) M := by
    intro hne
    unfold F_xs_drawn_18
    refine Z_err 0 (by decide) (by decide) hR (fun M1 e1 hR1 => ?_)
    have hX := H (-1000001) _ hR1
    unfold F_xm_drawn F_xm_drawn_19
    simp only [E_xm_isStack, E_xm_in, ite01]
    by_cases ha : 0 ≤ a ∧ a < 4
    · rw [if_pos ha, if_neg (by omega), E_xm_fin 0 (by decide) (by decide)]; exact hX
    · rw [if_neg ha, E_xm_fin 0 (by decide) (by decide)]; exact hX
  unfold F_xs_drawn
  simp only [E_xs_isStack, ite01]
  by_cases ha : 0 ≤ a ∧ a < 4
  rotate_left
  · rw [if_neg ha]; exact hE (by omega)
  rw [if_pos ha]
  by_cases h1 : n < 1
  · rw [if_pos h1]; exact hE (by omega)
  rw [if_neg h1]
  by_cases h2 : n ≤ 6
  rotate_left
  · rw [if_neg h2]; exact hE (by omega)
  rw [if_pos h2]
  by_cases h3 : M 10 0 = 0
  · rw [if_pos h3]
    refine Z_err 4 (by decide) (by decide) hR (fun M1 e1 hR1 => ?_)
    have e101 := e1 101 0 (by decide)
    unfold F_xm_drawn
    simp only [E_xm_isStack, E_xm_in, ite01, e101]
    rw [if_pos ha, if_pos (by omega), if_pos (by omega), E_xm_fin 4 (by decide) (by decide)]
    exact H _ _ hR1
  rw [if_neg h3]
  obtain ⟨A', B', r, q1, q2, q3, q4⟩ := S_drawn (nn := n) ha (by omega) n.toNat 0 M M (by rw [mx_self]; exact hR.1) (by omega) (by omega)
  have c1 := q3 M (fun x M1 => F_xm_drawn (fun y M2 => P x y M2) a n M1)
  rw [mx_self] at c1
  refine ⟨_, c1 ?_⟩
  have e0 : mx A' M 101 0 = M 101 0 := mx_ge (by decide)
  unfold F_xm_drawn
  simp only [E_xm_isStack, E_xm_in, ite01, e0]
  rw [if_pos ha, if_pos (by omega), if_neg (by omega)]
  exact ⟨_, q4 A' _ (H _ _ (hR.fr q2 q1))⟩
