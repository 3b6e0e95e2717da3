/-! Two memories in one: the class's cells below 100, the model's from there. Draws, count, as. -/
def mx (A B : cM) : cM := fun c j => if c < 100 then A c j else B c j
theorem mx_lt {A B : cM} {c j : Int} (h : c < 100) : mx A B c j = A c j := by unfold mx; rw [if_pos h]
theorem mx_ge {A B : cM} {c j : Int} (h : 100 ≤ c) : mx A B c j = B c j := by unfold mx; rw [if_neg (by omega)]
theorem mx_self (M : cM) : mx M M = M := by funext c j; unfold mx; split <;> rfl
theorem mx_wl {A B : cM} {c j v : Int} (h : c < 100) : wr (mx A B) c j v = mx (wr A c j v) B := by
  funext c' j'
  unfold mx
  rw [wr_at, wr_at]
  by_cases h1 : c' < 100
  · rw [if_pos h1, if_pos h1]
  · rw [if_neg h1, if_neg h1, if_neg (by omega)]
theorem mx_wr {A B : cM} {c j v : Int} (h : 100 ≤ c) : wr (mx A B) c j v = mx A (wr B c j v) := by
  funext c' j'
  unfold mx
  rw [wr_at, wr_at]
  by_cases h1 : c' < 100
  · rw [if_pos h1, if_pos h1, if_neg (by omega)]
  · rw [if_neg h1, if_neg h1]
theorem zushr8 (z : Int) : 0 ≤ zushr z 8 ∧ zushr z 8 < 16777216 := by
  have e : zushr z 8 = (((Int32.ofInt z).toUInt32 >>> ((Int32.ofInt 8).toUInt32 &&& Int32.toUInt32 31)).toInt32).toBitVec.toInt := rfl
  have e2 : (((Int32.ofInt z).toUInt32 >>> ((Int32.ofInt 8).toUInt32 &&& Int32.toUInt32 31)).toInt32).toBitVec.toNat = ((Int32.ofInt z).toUInt32 >>> ((Int32.ofInt 8).toUInt32 &&& Int32.toUInt32 31)).toNat := rfl
  have e3 : ((Int32.ofInt z).toUInt32 >>> ((Int32.ofInt 8).toUInt32 &&& Int32.toUInt32 31)).toNat < 16777216 := by
    rw [UInt32.toNat_shiftRight, show ((Int32.ofInt 8).toUInt32 &&& Int32.toUInt32 31).toNat % 32 = 8 by decide, Nat.shiftRight_eq_div_pow, show 2 ^ 8 = 256 from rfl]
    have := (Int32.ofInt z).toUInt32.toNat_lt
    omega
  rw [e, BitVec.toInt_eq_toNat_of_lt (by rw [e2]; omega), e2]
  omega
def zn (z : Int) : Int := w32 (w32 (z * 1103515245) + 12345)
theorem E_xg_draw {Q : Int → cM → Prop} {b : Int} {M : cM} : F_xg_draw Q b M = Q (zushr (zn (M b 12)) 8) (wr M b 12 (zn (M b 12))) := by
  unfold F_xg_draw
  rw [wr_eq]
  rfl
theorem E_xm_next {Q : Int → cM → Prop} {M : cM} : F_xm_next Q M = Q (zushr (zn (M 101 4)) 8) (wr M 101 4 (zn (M 101 4))) := by
  unfold F_xm_next
  rw [wr_eq]
  rfl
/-- what the runs of both sides leave alone -/
def fr (A A' B B' : cM) : Prop := (∀ c j, ¬ (10 ≤ c ∧ c ≤ 22) → A' c j = A c j) ∧ ∀ c j, c ≠ 101 → B' c j = B c j
theorem fr.rf (A B : cM) : fr A A B B := ⟨fun _ _ _ => rfl, fun _ _ _ => rfl⟩
theorem fr.tr {A A1 A2 B B1 B2 : cM} (h : fr A A1 B B1) (h' : fr A1 A2 B1 B2) : fr A A2 B B2 := ⟨fun c j hc => (h'.1 c j hc).trans (h.1 c j hc), fun c j hc => (h'.2 c j hc).trans (h.2 c j hc)⟩
theorem fr.wl {A A' B B' : cM} {c j v : Int} (h : fr A A' B B') (hc : 10 ≤ c ∧ c ≤ 22) : fr A (wr A' c j v) B B' := ⟨fun c' j' hc' => by rw [wr_ne (by omega)]; exact h.1 c' j' hc', h.2⟩
theorem fr.wr {A A' B B' : cM} {j v : Int} (h : fr A A' B B') : fr A A' B (wr B' 101 j v) := ⟨h.1, fun c' j' hc' => by rw [wr_ne hc']; exact h.2 c' j' hc'⟩
theorem RR.fr {M A' B' : cM} (h : RR M) (hf : fr M A' M B') (hs : SC 10 101 (mx A' B')) : RR (mx A' B') := h.sc hs (fun c j _ h1 h2 => by
  by_cases hc : c < 100
  · rw [mx_lt hc]; exact hf.1 c j h1
  · rw [mx_ge (by omega)]; exact hf.2 c j h2)
theorem wE {n : Nat} (h : n < 1000) : w32 ((n : Int) + 1) = ((n + 1 : Nat) : Int) := by rw [w32_e (by omega) (by omega)]; rfl
theorem w14 {n : Nat} (h : n < 1000) : w32 (14 + w32 (3 * (n : Int))) = 14 + 3 * (n : Int) := by rw [w32_e (x := 3 * (n : Int)) (by omega) (by omega), w32_e (by omega) (by omega)]
theorem ev0 {z t : Int} (zb : 0 ≤ z ∧ z < 16777216) (ht : 0 ≤ t ∧ t ≤ 11) : Int.tmod (w32 (t + Int.tmod z 3)) 12 = (t + z % 3) % 12 := by
  rw [tmn zb.1, w32_e (by omega) (by omega), tmn (by omega)]
theorem S_years {nn : Int} (hnn : 1 ≤ nn ∧ nn ≤ 100) : ∀ (m n h : Nat) (A B : cM), SC 10 101 (mx A B) → (n : Int) + m = B 101 0 → h ≤ n → ∃ (A' B' : cM) (r : Int), SC 10 101 (mx A' B') ∧ fr A A' B B' ∧ (∀ (X : cM) (Q : Int → cM → Prop), Q r (mx A' X) → F_xs_years_22 Q (m + 1) nn h n (mx A X)) ∧ (∀ (X : cM) (Q : Int → cM → Prop), Q r (mx X B') → F_xm_years_23 Q (m + 1) nn h n (mx X B)) := by
  intro m
  induction m with
  | zero =>
    intro n h A B hS hn hh
    have h0 : A 10 0 = B 101 0 ∧ 0 ≤ B 101 0 ∧ B 101 0 ≤ 10 := hS.1
    refine ⟨A, B, h, hS, fr.rf A B, fun X Q H => ?_, fun X Q H => ?_⟩
    · unfold F_xs_years_22
      rw [mx_lt (by decide), if_pos (by omega)]; exact H
    · unfold F_xm_years_23
      rw [mx_ge (by decide), if_pos (by omega)]; exact H
  | succ m ih =>
    intro n h A B hS hn hh
    have h0 : A 10 0 = B 101 0 ∧ 0 ≤ B 101 0 ∧ B 101 0 ≤ 10 := hS.1
    have g := hS.2.2.2.2.2.2.2.1 n (by omega) (by show (n : Int) < mx A B 101 0; rw [mx_ge (by decide)]; omega)
    have hz : A 10 12 = B 101 4 := hS.2.2.2.2.1
    have hp : 0 ≤ (n : Int) ∧ (n : Int) < B 101 0 := by omega
    simp (disch := omega) only [mx_lt, mx_ge] at g
    obtain ⟨g1, g2, g3, g4, g5, g6⟩ := g
    rw [show (10 : Int) + 1 = 11 from rfl] at g1
    rw [show (10 : Int) + 2 = 12 from rfl] at g2
    rw [show (10 : Int) + 3 = 13 from rfl] at g3
    have hn9 : n < 1000 := by omega
    have hh9 : h < 1000 := by omega
    by_cases k5 : B 101 (14 + 3 * (n : Int)) = 5
    · -- a horn
      obtain ⟨v, hv1, hv2, hvb⟩ : ∃ v : Int, (nn ≤ B 101 (16 + 3 * (n : Int)) → v = B 101 (16 + 3 * (n : Int)) - nn) ∧ (¬ nn ≤ B 101 (16 + 3 * (n : Int)) → v = 0) ∧ 0 ≤ v ∧ v ≤ 1000 := by
        by_cases hc : nn ≤ B 101 (16 + 3 * (n : Int))
        · exact ⟨_, fun _ => rfl, fun q => absurd hc q, by omega, by omega⟩
        · exact ⟨0, fun q => absurd q hc, fun _ => rfl, by omega, by omega⟩
      have hS1 : SC 10 101 (mx (wr A 13 n v) (wr B 101 (16 + 3 * (n : Int)) v)) := by
        have := U_pass (p := n) (v := v) (by decide) hS (by rw [mx_ge (by decide)]; exact hp) hvb
        rw [show (10 : Int) + 3 = 13 from rfl, mx_wl (by decide), mx_wr (by decide)] at this
        exact this
      obtain ⟨A', B', r, q1, q2, q3, q4⟩ := ih (n + 1) (h + 1) _ _ hS1 (by rw [wr_nj (by omega)]; omega) (by omega)
      refine ⟨A', B', r, q1, ((fr.rf A B).wl (by decide)).wr.tr q2, fun X Q H => ?_, fun X Q H => ?_⟩
      · have := q3 X Q H
        unfold F_xs_years_22 F_xs_years_121
        rw [mx_lt (by decide), if_neg (by omega), mx_lt (by decide), g1, if_pos k5, mx_lt (by decide), g3, w32_e (x := _ - nn) (by omega) (by omega), wE hn9, wE hh9]
        refine ⟨by omega, by omega, ?_⟩
        unfold F_xj_Math_max
        have e : ∀ w, w = v → ((0 : Int) ≤ n ∧ (n : Int) < 10) ∧ F_xs_years_22 Q (m + 1) nn ((h + 1 : Nat) : Int) ((n + 1 : Nat) : Int) (wr (mx A X) 13 n w) := by
          rintro w rfl
          rw [mx_wl (by decide)]
          exact ⟨by omega, this⟩
        by_cases hc : 0 < B 101 (16 + 3 * (n : Int)) - nn
        · rw [if_pos hc]; exact e _ (hv1 (by omega)).symm
        · rw [if_neg hc]
          refine e _ ?_
          by_cases hd : nn ≤ B 101 (16 + 3 * (n : Int))
          · rw [hv1 hd]; omega
          · rw [hv2 hd]
      · have := q4 X Q H
        unfold F_xm_years_23
        rw [mx_ge (by decide), if_neg (by omega), w14 hn9]
        refine ⟨by omega, ?_⟩
        rw [mx_ge (by decide), if_pos k5, w32_e (x := 14 + 3 * (n : Int) + 2) (by omega) (by omega), show 14 + 3 * (n : Int) + 2 = 16 + 3 * (n : Int) by omega, mx_ge (by decide), wE hh9]
        refine ⟨by omega, ?_⟩
        have e : ∀ w, w = v → F_xm_years_91 Q (F_xm_years_23 Q (m + 1)) nn ((h + 1 : Nat) : Int) n (14 + 3 * (n : Int)) w (16 + 3 * (n : Int)) (mx X B) := by
          rintro w rfl
          unfold F_xm_years_91 F_xm_years_92 F_xm_years_132
          refine ⟨by omega, by omega, ?_⟩
          rw [mx_wr (by decide), mx_ge (by decide), wr_nj (by omega), if_neg (by omega), wE hn9]
          exact this
        by_cases hc : nn ≤ B 101 (16 + 3 * (n : Int))
        · rw [if_pos hc, w32_e (by omega) (by omega)]; exact ⟨by omega, e _ (hv1 hc).symm⟩
        · rw [if_neg hc]; exact e _ (hv2 hc).symm
    · by_cases k6 : B 101 (14 + 3 * (n : Int)) = 6
      · have zb := zushr8 (zn (B 101 4))
        obtain ⟨v, hv, hvb⟩ : ∃ v : Int, v = (B 101 (15 + 3 * (n : Int)) + zushr (zn (B 101 4)) 8 % 3) % 12 ∧ 0 ≤ v ∧ v ≤ 11 := ⟨_, rfl, by omega, by omega⟩
        have ev : Int.tmod (w32 (B 101 (15 + 3 * (n : Int)) + Int.tmod (zushr (zn (B 101 4)) 8) 3)) 12 = v := by
          rw [hv]; exact ev0 zb g5
        have hS1 : SC 10 101 (mx (wr (wr A 10 12 (zn (B 101 4))) 12 n v) (wr (wr B 101 4 (zn (B 101 4))) 101 (15 + 3 * (n : Int)) v)) := by
          have h1 := U_seed (v := zn (B 101 4)) (by decide) hS
          have := U_turn (p := n) (v := v) (by decide) h1 (by rw [wr_nj (by omega), wr_ne (by decide), mx_ge (by decide)]; exact hp) hvb
          rw [show (10 : Int) + 2 = 12 from rfl, mx_wl (by decide), mx_wr (by decide), mx_wl (by decide), mx_wr (by decide)] at this
          exact this
        obtain ⟨A', B', r, q1, q2, q3, q4⟩ := ih (n + 1) h _ _ hS1 (by rw [wr_nj (by omega), wr_nj (by omega)]; omega) (by omega)
        refine ⟨A', B', r, q1, (((fr.rf A B).wl (by decide)).wl (by decide)).wr.wr.tr q2, fun X Q H => ?_, fun X Q H => ?_⟩
        · have := q3 X Q H
          unfold F_xs_years_22 F_xs_years_121
          rw [mx_lt (by decide), if_neg (by omega), mx_lt (by decide), g1, if_neg k5, if_pos k6, mx_lt (by decide), E_xg_draw, mx_lt (by decide), hz, g2, ev, wE hn9, mx_wl (by decide), mx_wl (by decide)]
          exact ⟨by omega, by omega, by omega, by omega, this⟩
        · have := q4 X Q H
          unfold F_xm_years_23 F_xm_years_92 F_xm_years_132
          rw [mx_ge (by decide), if_neg (by omega), w14 hn9]
          refine ⟨by omega, ?_⟩
          rw [mx_ge (by decide), if_neg k5]
          refine ⟨by omega, ?_⟩
          rw [if_pos k6, w32_e (x := 14 + 3 * (n : Int) + 1) (by omega) (by omega), show 14 + 3 * (n : Int) + 1 = 15 + 3 * (n : Int) by omega, mx_ge (by decide), E_xm_next, mx_ge (by decide), ev, wE hn9, mx_wr (by decide), mx_wr (by decide)]
          exact ⟨by omega, by omega, this⟩
      · obtain ⟨A', B', r, q1, q2, q3, q4⟩ := ih (n + 1) h A B hS (by omega) (by omega)
        refine ⟨A', B', r, q1, q2, fun X Q H => ?_, fun X Q H => ?_⟩
        · have := q3 X Q H
          unfold F_xs_years_22 F_xs_years_121
          rw [mx_lt (by decide), if_neg (by omega), mx_lt (by decide), g1, if_neg k5, if_neg k6, wE hn9]
          exact ⟨by omega, by omega, this⟩
        · have := q4 X Q H
          unfold F_xm_years_23 F_xm_years_92 F_xm_years_132
          rw [mx_ge (by decide), if_neg (by omega), w14 hn9]
          refine ⟨by omega, ?_⟩
          rw [mx_ge (by decide), if_neg k5]
          refine ⟨by omega, ?_⟩
          rw [if_neg k6, wE hn9]
          exact this
theorem Z_years {P : Int → Int → cM → Prop} {M : cM} {a : Int} (hR : RR M) (H : ∀ r M', RR M' → P r r M') : F_xs_years (fun x M1 => F_xm_years (fun y M2 => P x y M2) a M1) a M := by
  have hE : ¬ (1 ≤ a ∧ a ≤ 100) → F_xs_years_11 (fun x M1 => F_xm_years (fun y M2 => P x y M2) a M1) M := by
    intro hne
    unfold F_xs_years_11
    refine Z_err 0 (by decide) (by decide) hR (fun M1 e1 hR1 => ?_)
    unfold F_xm_years
    simp only [E_xm_in, ite01]
    rw [if_neg hne, E_xm_fin 0 (by decide) (by decide)]
    exact H _ _ hR1
  unfold F_xs_years
  by_cases h1 : a < 1
  · rw [if_pos h1]; exact hE (by omega)
  rw [if_neg h1]
  by_cases h2 : a ≤ 100
  rotate_left
  · rw [if_neg h2]; exact hE (by omega)
  rw [if_pos h2]
  have hn := hR.hn
  obtain ⟨A', B', r, q1, q2, q3, q4⟩ := S_years (nn := a) (by omega) (M 101 0).toNat 0 0 M M (by rw [mx_self]; exact hR.1) (by omega) (by omega)
  have c1 := q3 M (fun x M1 => F_xm_years (fun y M2 => P x y M2) a M1)
  rw [mx_self] at c1
  refine ⟨_, c1 ?_⟩
  unfold F_xm_years
  simp only [E_xm_in, ite01]
  rw [if_pos (by omega)]
  exact ⟨_, q4 A' _ (H _ _ (hR.fr q2 q1))⟩
