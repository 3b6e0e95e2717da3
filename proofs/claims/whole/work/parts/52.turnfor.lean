/-! turnFor, nearest, spare. -/
def bsf (f : Int → Int) : Nat → Int × Int
  | 0 => (0, -1)
  | n + 1 => if f n ≤ (bsf f n).2 then bsf f n else ((n : Int), f n)
theorem bsf_eq {f g : Int → Int} : ∀ n : Nat, (∀ i : Nat, i < n → f i = g i) → bsf f n = bsf g n
  | 0, _ => rfl
  | n + 1, h => by
    unfold bsf
    rw [bsf_eq n (fun i hi => h i (Nat.lt_succ_of_lt hi)), h n (Nat.lt_succ_self n)]
def xtn (M : cM) (p a t : Int) (k : Int) : Int := zsee (xth (wr M 12 p k) 10 a 0 (lampP M 10)).1 (xth (wr M 12 p k) 10 a 0 (lampP M 10)).2 t
def mtn (M : cM) (p a t : Int) (k : Int) : Int := zsee (mth (wr M 101 (15 + 3 * p) k) a 0 (M 101 2, M 101 3)).1 (mth (wr M 101 (15 + 3 * p) k) a 0 (M 101 2, M 101 3)).2 t
theorem tn_eq {M : cM} (h : SC 10 101 M) {p a t k : Int} (hp : 0 ≤ p ∧ p < M 101 0) (ha : 0 ≤ a ∧ a < 4) (hk : 0 ≤ k ∧ k ≤ 11) : xtn M p a t k = mtn M p a t k := by
  have hs : SC 10 101 (wr (wr M 12 p k) 101 (15 + 3 * p) k) := U_turn (p := p) (v := k) (by decide) h hp hk
  unfold xtn mtn
  have e1 : xth (wr M 12 p k) 10 a 0 (lampP M 10) = xth (wr (wr M 12 p k) 101 (15 + 3 * p) k) 10 a 0 (lampP M 10) := (xth_kp (by decide) (fun c j h1 h2 => wr_ne (by omega)) ha 0 _).symm
  have e2 : mth (wr (wr M 12 p k) 101 (15 + 3 * p) k) a 0 (lampP M 10) = mth (wr M 101 (15 + 3 * p) k) a 0 (lampP M 10) := by
    rw [wr_sw _ _ _ (by decide)]
    exact mth_kp (fun j => wr_ne (by decide)) a 0 _
  rw [e1, hs.xm ha, e2, h.lmp]
theorem L_xs_turnFor {Q : Int → cM → Prop} {p a t : Int} {M : cM} (hT : cosT M) (hS : SC 10 101 M) (hp : 0 ≤ p ∧ p < M 101 0) (ha : 0 ≤ a ∧ a < 4) (ht : 0 ≤ t ∧ t ≤ 11) (H : Q (bsf (xtn M p a t) 12).1 M) : ∀ (m n : Nat), n + m = 12 → ∀ M', (∀ k, wr M' 12 p k = wr M 12 p k) → F_xs_turnFor_51 Q (m + 1) p a t (M 12 p) (bsf (xtn M p a t) n).1 (bsf (xtn M p a t) n).2 n M' := by
  have hn := hS.1
  intro m
  induction m with
  | zero =>
    intro n hn M' hM
    unfold F_xs_turnFor_51
    rw [if_pos (by omega), hM, wr_id]
    rw [show n = 12 by omega]; exact ⟨by omega, H⟩
  | succ m ih =>
    intro n hnm M' hM
    have hs := ih (n + 1) (by omega) (wr M 12 p n) (fun k => wr_wr _ _ _ _ _)
    have hS' := U_turn (p := p) (v := n) (by decide) hS hp (by omega)
    have st : stok (wr M 12 p n) 10 a := by
      have := hS'.st ha
      unfold stok shok at this ⊢
      have c : ∀ (c j : Int), c ≤ 30 → wr (wr M (10 + 2) p n) 101 (15 + 3 * p) n c j = wr M (10 + 2) p n c j := fun c j h => wr_ne (by omega)
      refine ⟨ha, ?_, fun i i0 i1 => ?_⟩
      · have := this.2.1
        rw [c _ _ (by omega)] at this
        exact this
      · have := this.2.2 i i0 (by rw [c _ _ (by omega)]; exact i1)
        rw [c _ _ (by omega), c _ _ (by omega), c _ _ (by omega), c _ _ (by omega), c _ _ (by omega)] at this
        exact this
    have hl : lok (wr M 12 p n 10 5) (wr M 12 p n 10 6) := by
      rw [wr_ne (by decide), wr_ne (by decide)]; exact hS.lk
    unfold F_xs_turnFor_51
    rw [if_neg (by omega), hM]
    have hT' : cosT (wr M 12 p n) := ⟨hT.1, hT.2⟩
    refine ⟨by omega, X_frontLight hT' st hl ?_⟩
    have e : lampP (wr M 12 p n) 10 = lampP M 10 := by
      unfold lampP
      rw [wr_ne (by decide), wr_ne (by decide)]
    rw [e]
    have o1 := xth_ok (bh := 0) (l := lampP M 10) st hS.lk
    unfold encp
    rw [E_xl_seenAt hT' o1 ht]
    unfold F_xs_turnFor_98
    rw [w32_e (x := (n : Int) + 1) (by omega) (by omega)]
    rw [show ((n + 1 : Nat) : Int) = (n : Int) + 1 from rfl] at hs
    unfold bsf at hs
    rw [show zsee (xth (wr M 12 p n) 10 a 0 (lampP M 10)).1 (xth (wr M 12 p n) 10 a 0 (lampP M 10)).2 t = xtn M p a t n from rfl]
    by_cases hc : xtn M p a t n ≤ (bsf (xtn M p a t) n).2
    · rw [if_pos hc] at hs ⊢; exact hs
    · rw [if_neg hc] at hs ⊢; exact hs
theorem L_xm_turnFor {Q : Int → cM → Prop} {p a t : Int} {M : cM} (hS : SC 10 101 M) (hp : 0 ≤ p ∧ p < M 101 0) (ha : 0 ≤ a ∧ a < 4) (ht : 0 ≤ t ∧ t ≤ 11) (H : ∀ M', Lt M M' → Q (bsf (mtn M p a t) 12).1 M') : ∀ (m n : Nat), n + m = 12 → ∀ M', (∀ k, Lt (wr M 101 (15 + 3 * p) k) (wr M' 101 (15 + 3 * p) k)) → F_xm_turnFor_53 Q (m + 1) p a t (M 101 (15 + 3 * p)) (bsf (mtn M p a t) n).1 (bsf (mtn M p a t) n).2 n M' := by
  have hn := hS.1
  have ew : w32 (w32 (14 + w32 (3 * p)) + 1) = 15 + 3 * p := by
    rw [w32_e (x := 3 * p) (by omega) (by omega), w32_e (x := 14 + 3 * p) (by omega) (by omega), w32_e (by omega) (by omega)]
    omega
  intro m
  induction m with
  | zero =>
    intro n hn M' hM
    have h0 := hM (M 101 (15 + 3 * p))
    rw [wr_id] at h0
    unfold F_xm_turnFor_53
    rw [ew, if_pos (by omega)]
    rw [show n = 12 by omega]; exact ⟨by omega, H _ h0⟩
  | succ m ih =>
    intro n hnm M' hM
    have hS' := U_turn (p := p) (v := n) (by decide) hS hp (by omega)
    have h0 := hM n
    have e0 : ∀ j, wr M' 101 (15 + 3 * p) n 101 j = wr M 101 (15 + 3 * p) n 101 j := fun j => h0.at (by decide) j
    have mt : mtok (wr M 101 (15 + 3 * p) n) a := by
      have := hS'.mt ha
      rw [wr_sw _ _ _ (by decide)] at this
      exact mtok_kp (M := wr (wr M 101 (15 + 3 * p) n) 12 p n) (fun j => by rw [wr_ne (c := 12) (by decide)]) this
    unfold F_xm_turnFor_53
    rw [ew, if_neg (by omega)]
    refine ⟨by omega, ?_⟩
    have el : wr M 101 (15 + 3 * p) n 101 2 = M 101 2 ∧ wr M 101 (15 + 3 * p) n 101 3 = M 101 3 := ⟨wr_nj (by omega), wr_nj (by omega)⟩
    refine Y_seenThrough (mtok_kp e0 mt) (by rw [e0, e0, el.1, el.2]; exact hS.mlok) (by omega) (fun M2 L2 => ?_)
    rw [mth_kp e0, e0, e0, el.1, el.2]
    have hs := ih (n + 1) (by omega) M2 (fun k => by
      have := (h0.tr L2).wr 101 (15 + 3 * p) k
      rw [wr_wr] at this
      exact this)
    unfold F_xm_turnFor_97 F_xm_turnFor_113
    rw [w32_e (x := (n : Int) + 1) (by omega) (by omega)]
    rw [show ((n + 1 : Nat) : Int) = (n : Int) + 1 from rfl] at hs
    unfold bsf at hs
    rw [show zsee (mth (wr M 101 (15 + 3 * p) n) a 0 (M 101 2, M 101 3)).1 (mth (wr M 101 (15 + 3 * p) n) a 0 (M 101 2, M 101 3)).2 t = mtn M p a t n from rfl]
    by_cases hc : mtn M p a t n ≤ (bsf (mtn M p a t) n).2
    · simp only [if_pos hc] at hs ⊢; exact hs
    · simp only [if_neg hc] at hs ⊢; exact hs
theorem Z_turnFor {P : Int → Int → cM → Prop} {M : cM} {p a t : Int} (hR : RR M) (H : ∀ r M', RR M' → P r r M') : F_xs_turnFor (fun x M1 => F_xm_turnFor (fun y M2 => P x y M2) p a t M1) p a t M := by
  unfold F_xs_turnFor F_xs_turnFor_24
  have hn := hR.hn
  have hz := hR.n10.1
  simp only [E_xs_isStack, E_xs_isSheet, E_xs_isShare, E_xs_within, ite01]
  by_cases h1 : 0 ≤ p ∧ p < M 10 0
  rotate_left
  · rw [if_neg h1]
    refine Z_err 0 (by decide) (by decide) hR (fun M1 e1 hR1 => ?_)
    have e101 := fun j => e1 101 j (by decide)
    unfold F_xm_turnFor F_xm_turnFor_22
    simp only [E_xm_isStack, E_xm_isSlant, E_xm_isShare, E_xm_in, E_xm_isOne, E_xm_isSheet (e101 0) hn, ite01, e101]
    rw [if_neg (by omega), E_xm_fin 0 (by decide) (by decide)]
    exact H _ _ hR1
  rw [if_pos h1]
  by_cases h2 : 0 ≤ a ∧ a < 4
  rotate_left
  · rw [if_neg h2]
    refine Z_err 0 (by decide) (by decide) hR (fun M1 e1 hR1 => ?_)
    have e101 := fun j => e1 101 j (by decide)
    unfold F_xm_turnFor F_xm_turnFor_22
    simp only [E_xm_isStack, E_xm_isSlant, E_xm_isShare, E_xm_in, E_xm_isOne, E_xm_isSheet (e101 0) hn, ite01, e101]
    rw [if_pos (by omega), if_neg (by omega), E_xm_fin 0 (by decide) (by decide)]
    exact H _ _ hR1
  rw [if_pos h2]
  by_cases h3 : 0 ≤ t ∧ t < 12
  rotate_left
  · rw [if_neg h3]
    refine Z_err 0 (by decide) (by decide) hR (fun M1 e1 hR1 => ?_)
    have e101 := fun j => e1 101 j (by decide)
    unfold F_xm_turnFor F_xm_turnFor_22
    simp only [E_xm_isStack, E_xm_isSlant, E_xm_isShare, E_xm_in, E_xm_isOne, E_xm_isSheet (e101 0) hn, ite01, e101]
    rw [if_pos (by omega), if_pos (by omega), if_neg (by omega), E_xm_fin 0 (by decide) (by decide)]
    exact H _ _ hR1
  rw [if_pos h3]

  have hp : 0 ≤ p ∧ p < M 101 0 := by omega
  refine ⟨by omega, _, L_xs_turnFor hR.cos hR.1 hp h2 (by omega) ?_ 12 0 (by omega) M (fun k => rfl)⟩
  unfold F_xm_turnFor
  simp only [E_xm_isStack, E_xm_isSlant, E_xm_isShare, E_xm_in, E_xm_isOne, E_xm_isSheet rfl hn, ite01]
  rw [if_pos (by omega), if_pos (by omega), if_pos (by omega)]
  have ew : w32 (w32 (14 + w32 (3 * p)) + 1) = 15 + 3 * p := by
    rw [w32_e (x := 3 * p) (by omega) (by omega), w32_e (x := 14 + 3 * p) (by omega) (by omega), w32_e (by omega) (by omega)]
    omega
  rw [ew]
  refine ⟨by omega, _, L_xm_turnFor hR.1 hp h2 (by omega) (fun M' L => ?_) 12 0 (by omega) M (fun k => Lt.rf _)⟩
  rw [bsf_eq 12 (g := mtn M p a t) (fun i hi => tn_eq hR.1 hp h2 (by omega))]
  exact H _ _ (hR.kp L.kp)

