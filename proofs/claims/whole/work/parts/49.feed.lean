/-! feed, status, count, as. -/
theorem L_xs_feed {Q : Int → cM → Prop} {v : Int} : ∀ (n : Nat) (M : cM), n ≤ 4 → 0 ≤ M 70 1 → M 70 1 + n ≤ 120 → (∀ M1 : cM, (∀ c j, c ≠ 70 → c ≠ 71 → M1 c j = M c j) → M1 70 1 = M 70 1 + n → (∀ k, k < M 70 1 → M1 71 k = M 71 k) → (∀ t : Int, 0 ≤ t → t < n → M1 71 (M 70 1 + t) = bxs v (n - 1 - t)) → Q (M1 70 1) M1) → F_xs_feed_42 Q (n + 1) v ((n : Int) - 1) M := by
  intro n
  induction n with
  | zero =>
    intro M _ h0 h1 H
    unfold F_xs_feed_42
    rw [if_pos (by omega)]
    exact H M (fun c j _ _ => rfl) (by omega) (fun k _ => rfl) (fun t _ _ => by omega)
  | succ n ih =>
    intro M hn h0 h1 H
    unfold F_xs_feed_42 F_xt_add
    rw [if_neg (by omega), wr_ne (by decide), w32_e (x := M 70 1 + 1) (by omega) (by omega), w32_e (x := 8 * _) (by omega) (by omega), w32_e (x := ((n + 1 : Nat) : Int) - 1 + -1) (by omega) (by omega)]
    refine ⟨by omega, ?_⟩
    rw [show ((n + 1 : Nat) : Int) - 1 + -1 = (n : Int) - 1 by omega, show ((n + 1 : Nat) : Int) - 1 = (n : Int) by omega]
    rw [show narK 5 (zi2b (zushr v (8 * (n : Int)))) = bxs v n from rfl]
    refine ih _ (by omega) (by rw [wr_eq]; omega) (by rw [wr_eq]; omega) (fun M1 a1 a2 a3 a4 => ?_)
    rw [wr_eq] at a2 a3 a4
    refine H M1 (fun c j hc hd => by rw [a1 c j hc hd, wr_ne hc, wr_ne hd]) (by omega) (fun k hk => ?_) (fun t t0 t1 => ?_)
    · rw [a3 k (by omega), wr_ne (by decide), wr_nj (by omega)]
    · by_cases e : t = 0
      · subst e
        rw [a3 _ (by omega), wr_ne (by decide), Int.add_zero, wr_eq]
        congr 1
        omega
      · have := a4 (t - 1) (by omega) (by omega)
        rw [show M 70 1 + 1 + (t - 1) = M 70 1 + t by omega] at this
        rw [this]
        congr 1
        omega
theorem L_xm_feed {Q : Int → cM → Prop} {v : Int} : ∀ (n : Nat) (M : cM), n ≤ 4 → 0 ≤ M 100 12 → M 100 12 + n ≤ 120 → (∀ M1 : cM, (∀ c j, ¬ (c = 100 ∧ j = 12) → c ≠ 109 → M1 c j = M c j) → M1 100 12 = M 100 12 + n → (∀ k, k < M 100 12 → M1 109 k = M 109 k) → (∀ t : Int, 0 ≤ t → t < n → M1 109 (M 100 12 + t) = bxm v (n - 1 - t)) → Q (M1 100 12) M1) → F_xm_feed_41 Q (n + 1) v ((n : Int) - 1) M := by
  intro n
  induction n with
  | zero =>
    intro M _ h0 h1 H
    unfold F_xm_feed_41
    rw [if_pos (by omega)]
    exact H M (fun c j _ _ => rfl) (by omega) (fun k _ => rfl) (fun t _ _ => by omega)
  | succ n ih =>
    intro M hn h0 h1 H
    unfold F_xm_feed_41
    rw [if_neg (by omega), wr_ne (by decide), w32_e (x := M 100 12 + 1) (by omega) (by omega), w32_e (x := 8 * _) (by omega) (by omega), w32_e (x := ((n + 1 : Nat) : Int) - 1 + -1) (by omega) (by omega)]
    refine ⟨by omega, ?_⟩
    rw [show ((n + 1 : Nat) : Int) - 1 + -1 = (n : Int) - 1 by omega, show ((n + 1 : Nat) : Int) - 1 = (n : Int) by omega]
    rw [show zand (zshr v (8 * (n : Int))) 255 = bxm v n from rfl]
    refine ih _ (by omega) (by rw [wr_eq]; omega) (by rw [wr_eq]; omega) (fun M1 a1 a2 a3 a4 => ?_)
    rw [wr_eq] at a2 a3 a4
    refine H M1 (fun c j hc hd => by rw [a1 c j hc hd, wr_at, if_neg hc, wr_ne hd]) (by omega) (fun k hk => ?_) (fun t t0 t1 => ?_)
    · rw [a3 k (by omega), wr_ne (by decide), wr_nj (by omega)]
    · by_cases e : t = 0
      · subst e
        rw [a3 _ (by omega), wr_ne (by decide), Int.add_zero, wr_eq]
        congr 1
        omega
      · have := a4 (t - 1) (by omega) (by omega)
        rw [show M 100 12 + 1 + (t - 1) = M 100 12 + t by omega] at this
        rw [this]
        congr 1
        omega
theorem Z_feed {P : Int → Int → cM → Prop} {M : cM} {v n : Int} (hR : RR M) (H : ∀ r M', RR M' → P r r M') : F_xs_feed (fun x M1 => F_xm_feed (fun y M2 => P x y M2) v n M1) v n M := by
  have hT := hR.2.2.2.1.1
  have hT2 := hR.2.2.2.1.2
  have hE : ¬ (1 ≤ n ∧ n ≤ 4) → F_xs_feed_10 (fun x M1 => F_xm_feed (fun y M2 => P x y M2) v n M1) M := by
    intro hne
    unfold F_xs_feed_10
    refine Z_err 0 (by decide) (by decide) hR (fun M1 e1 hR1 => ?_)
    unfold F_xm_feed
    simp only [E_xm_in, ite01]
    rw [if_neg hne, E_xm_fin 0 (by decide) (by decide)]
    exact H _ _ hR1
  unfold F_xs_feed
  by_cases h1 : n < 1
  · rw [if_pos h1]; exact hE (by omega)
  rw [if_neg h1]
  by_cases h2 : n ≤ 4
  rotate_left
  · rw [if_neg h2]; exact hE (by omega)
  rw [if_pos h2, w32_e (x := M 70 1 + n) (by omega) (by omega), w32_e (x := n - 1) (by omega) (by omega)]
  by_cases h3 : M 70 1 + n ≤ 120
  rotate_left
  · rw [if_neg h3]
    refine Z_err 1 (by decide) (by decide) hR (fun M1 e1 hR1 => ?_)
    have e100 := e1 100 12 (by decide)
    unfold F_xm_feed
    simp only [E_xm_in, ite01, e100]
    rw [if_pos (by omega), w32_e (x := M 100 12 + n) (by omega) (by omega), if_neg (by omega), E_xm_fin 1 (by decide) (by decide)]
    exact H _ _ hR1
  rw [if_pos h3]
  obtain ⟨m, hm⟩ := Int.eq_ofNat_of_zero_le (show 0 ≤ n by omega)
  subst hm
  refine ⟨_, L_xs_feed m M (by omega) (by omega) h3 (fun M1 a1 a2 a3 a4 => ?_)⟩
  have e100 := a1 100 12 (by decide) (by decide)
  unfold F_xm_feed
  simp only [E_xm_in, ite01, e100]
  rw [if_pos (by omega), w32_e (x := M 100 12 + _) (by omega) (by omega), if_pos (by omega), w32_e (by omega) (by omega)]
  refine ⟨_, L_xm_feed m M1 (by omega) (by omega) (by omega) (fun M2 b1 b2 b3 b4 => ?_)⟩
  have f70 := b1 70 1 (by decide) (by decide)
  have f71 := fun j => b1 71 j (by omega) (by decide)
  have g109 := fun j => a1 109 j (by decide) (by decide)
  rw [show M2 100 12 = M1 70 1 by omega]
  refine H _ _ (hR.tp ⟨⟨by omega, by omega, by omega⟩, fun k k0 k1 => ?_⟩ (fun c j _ h1 h2 h3 h4 => ?_))
  · rw [f71]
    by_cases hk : k < M 70 1
    · rw [a3 k hk, b3 k (by omega), g109]
      exact hT2 k k0 (by omega)
    · have q1 := a4 (k - M 70 1) (by omega) (by omega)
      have q2 := b4 (k - M 70 1) (by omega) (by omega)
      rw [show M 70 1 + (k - M 70 1) = k by omega] at q1
      rw [show M1 100 12 + (k - M 70 1) = k by omega] at q2
      rw [q1, q2]
      exact bx_rel v (by omega)
  · rw [b1 c j h4 h3, a1 c j h1 h2]
def ssum (f : Int → Int) : Nat → Int
  | 0 => 0
  | n + 1 => w32 (ssum f n + f n)
theorem L_xs_status {Q : Int → cM → Prop} {M : cM} (H : Q (ssum (M 75) 7) M) : ∀ (m n : Nat), n + m = 7 → F_xs_status_32 Q (m + 1) (ssum (M 75) n) n M := by
  intro m
  induction m with
  | zero =>
    intro n hn
    unfold F_xs_status_32
    rw [if_pos (by omega)]
    rw [show n = 7 by omega]; exact H
  | succ m ih =>
    intro n hn
    have := ih (n + 1) (by omega)
    unfold F_xs_status_32
    rw [if_neg (by omega), w32_e (x := (n : Int) + 1) (by omega) (by omega)]
    exact ⟨by omega, this⟩
theorem L_xm_status {Q : Int → cM → Prop} {M : cM} {w : Int} (hw : w = -1) (H : Q (ssum (M 104) 7) M) : ∀ (m n : Nat), n + m = 7 → F_xm_status_25 Q (m + 1) w (ssum (M 104) n) n M := by
  intro m
  induction m with
  | zero =>
    intro n hn
    unfold F_xm_status_25
    rw [if_pos (by omega)]
    rw [show n = 7 by omega]; exact H
  | succ m ih =>
    intro n hn
    have := ih (n + 1) (by omega)
    unfold F_xm_status_25 F_xm_status_41 F_xm_status_51
    rw [if_neg (by omega), if_pos (by omega), w32_e (x := (n : Int) + 1) (by omega) (by omega)]
    exact ⟨by omega, this⟩
theorem L_xm_status1 {Q : Int → cM → Prop} {M : cM} {w : Int} (hw : 0 ≤ w ∧ w < 7) (hr : iR (M 104 w)) (H : Q (M 104 w) M) : ∀ (m n : Nat), n + m = 7 → F_xm_status_25 Q (m + 1) w (if w < n then M 104 w else 0) n M := by
  intro m
  induction m with
  | zero =>
    intro n hn
    unfold F_xm_status_25
    rw [if_pos (by omega), if_pos (by omega)]; exact H
  | succ m ih =>
    intro n hn
    have := ih (n + 1) (by omega)
    unfold F_xm_status_25 F_xm_status_41 F_xm_status_51
    rw [if_neg (by omega), if_neg (by omega), w32_e (x := (n : Int) + 1) (by omega) (by omega)]
    by_cases e : (n : Int) = w
    · rw [if_pos e, if_neg (by omega), Int.zero_add, e, w32_id hr]
      rw [if_pos (by omega)] at this
      rw [← e]
      rw [← e] at this
      exact ⟨by omega, this⟩
    · rw [if_neg e]
      have q : w32 ((if w < (n : Int) then M 104 w else 0) + 0) = (if w < ((n + 1 : Nat) : Int) then M 104 w else 0) := by
        rw [Int.add_zero]
        by_cases hl : w < (n : Int)
        · rw [if_pos hl, if_pos (by omega), w32_id hr]
        · rw [if_neg hl, if_neg (by omega)]; rfl
      rw [q]
      exact this
theorem Z_status {P : Int → Int → cM → Prop} {M : cM} {a : Int} (hR : RR M) (H : ∀ r M', RR M' → P r r M') : F_xs_status (fun x M1 => F_xm_status (fun y M2 => P x y M2) a M1) a M := by
  have h6 := hR.2.2.2.2.2.1
  unfold F_xs_status
  simp only [E_xs_within, ite01]
  by_cases h1 : 0 ≤ a ∧ a < 7
  · rw [if_pos h1]
    refine ⟨h1, ?_⟩
    unfold F_xm_status
    simp only [E_xm_in, ite01]
    rw [if_pos (by omega)]
    have := L_xm_status1 (Q := fun y M2 => P (M 75 a) y M2) h1 (h6 a h1.1 h1.2).2 (by show P _ _ _; rw [(h6 a h1.1 h1.2).1]; exact H _ _ hR) 7 0 (by omega)
    rw [if_neg (by omega)] at this
    exact ⟨_, this⟩
  rw [if_neg h1]
  by_cases h2 : a = -1
  · rw [if_pos h2]
    refine ⟨8, L_xs_status (M := M) ?_ 7 0 (by omega)⟩
    unfold F_xm_status
    simp only [E_xm_in, ite01]
    rw [if_pos (by omega)]
    have e : ssum (M 75) 7 = ssum (M 104) 7 := by
      unfold ssum ssum ssum ssum ssum ssum ssum ssum
      rw [(h6 _ (by decide) (by decide)).1, (h6 _ (by decide) (by decide)).1, (h6 _ (by decide) (by decide)).1, (h6 _ (by decide) (by decide)).1, (h6 _ (by decide) (by decide)).1, (h6 _ (by decide) (by decide)).1, (h6 _ (by decide) (by decide)).1]
    rw [e]
    exact ⟨8, L_xm_status (M := M) h2 (H _ _ hR) 7 0 (by omega)⟩
  rw [if_neg h2]
  refine Z_err 0 (by decide) (by decide) hR (fun M1 e1 hR1 => ?_)
  unfold F_xm_status
  simp only [E_xm_in, ite01]
  rw [if_neg (by omega), E_xm_fin 0 (by decide) (by decide)]
  exact H _ _ hR1
