/-! row, write, copy, judge. -/
theorem L_fill {Q : cM → Prop} {c v : Int} {r : Nat} (hr : r < 2147483648) : ∀ (m n : Nat) (M : cM), n + m = r → (∀ M' : cM, (∀ c' j, c' ≠ c → M' c' j = M c' j) → (∀ j : Int, j < n → M' c j = M c j) → (∀ j : Int, n ≤ j → j < r → M' c j = v) → Q M') → F_xj_Arrays_fill_5 Q c r (m + 1) v n r M := by
  intro m
  induction m with
  | zero =>
    intro n M hn H
    unfold F_xj_Arrays_fill_5
    rw [if_pos (by omega)]
    exact H M (fun _ _ _ => rfl) (fun _ _ => rfl) (fun j j0 j1 => by omega)
  | succ m ih =>
    intro n M hn H
    unfold F_xj_Arrays_fill_5
    rw [if_neg (by omega), w32_e (by omega) (by omega)]
    refine ⟨by omega, ?_⟩
    refine ih (n + 1) (wr M c n v) (by omega) (fun M' a1 a2 a3 => H M' (fun c' j hc => ?_) (fun j hj => ?_) (fun j j0 j1 => ?_))
    · rw [a1 c' j hc, wr_ne hc]
    · rw [a2 j (by omega), wr_nj (by omega)]
    · by_cases e : j = n
      · subst e
        rw [a2 _ (by omega), wr_eq]
      · exact a3 j (by omega) j1
theorem X_fill {Q : cM → Prop} {c v : Int} {r : Nat} {M : cM} (hr : r < 2147483648) (H : ∀ M' : cM, (∀ c' j, c' ≠ c → M' c' j = M c' j) → (∀ j : Int, 0 ≤ j → j < r → M' c j = v) → Q M') : F_xj_Arrays_fill Q c r v M := by
  unfold F_xj_Arrays_fill
  exact ⟨⟨by omega, by omega⟩, _, L_fill hr r 0 M (by omega) (fun M' a1 _ a3 => H M' a1 (fun j j0 j1 => a3 j (by omega) j1))⟩
theorem L_xm_rowfill {Q : Int → cM → Prop} {s : Int} (hs : 0 ≤ s ∧ s < 4) : ∀ (m n : Nat) (M : cM), n + m = 40 → (∀ M' : cM, (∀ c j, c ≠ 112 → M' c j = M c j) → (∀ j, j < 40 * s + n ∨ 40 * s + 40 ≤ j → M' 112 j = M 112 j) → (∀ i : Int, n ≤ i → i < 40 → M' 112 (40 * s + i) = 0) → Q (M' 111 s) M') → F_xm_row_85 Q (m + 1) s n M := by
  intro m
  induction m with
  | zero =>
    intro n M hn H
    unfold F_xm_row_85
    rw [if_pos (by omega)]
    exact ⟨hs, H M (fun _ _ _ => rfl) (fun _ _ => rfl) (fun i i0 i1 => by omega)⟩
  | succ m ih =>
    intro n M hn H
    unfold F_xm_row_85
    rw [if_neg (by omega), wE (by omega), w32_e (x := 40 * s) (by omega) (by omega), w32_e (x := 40 * s + (n : Int)) (by omega) (by omega)]
    refine ⟨by omega, ?_⟩
    refine ih (n + 1) (wr M 112 (40 * s + (n : Int)) 0) (by omega) (fun M' a1 a2 a3 => H M' (fun c j hc => ?_) (fun j hj => ?_) (fun i i0 i1 => ?_))
    · rw [a1 c j hc, wr_ne hc]
    · rw [a2 j (by omega), wr_nj (by omega)]
    · by_cases e : i = n
      · subst e
        rw [a2 _ (by omega), wr_eq]
      · exact a3 i (by omega) i1
theorem if4 {b : Int} {A B : Prop} (h : b = 0 ∨ b = 8 ∨ b = 16 ∨ b = 32) : (if b = 0 then A else (if b = 8 then A else (if b = 16 then A else (if b = 32 then A else B)))) = A := by
  repeat' split
  all_goals first | rfl | omega
theorem if4n {b : Int} {A B : Prop} (h : ¬ (b = 0 ∨ b = 8 ∨ b = 16 ∨ b = 32)) : (if b = 0 then A else (if b = 8 then A else (if b = 16 then A else (if b = 32 then A else B)))) = B := by
  repeat' split
  all_goals first | rfl | omega
theorem Z_row {P : Int → Int → cM → Prop} {M : cM} {s b n : Int} (hR : RR M) (H : ∀ r M', RR M' → P r r M') : F_xs_row (fun x M1 => F_xm_row (fun y M2 => P x y M2) s b n M1) s b n M := by
  unfold F_xs_row F_xs_row_30
  rw [E_xs_within, ite01]
  by_cases h1 : 0 ≤ s ∧ s < 4
  rotate_left
  · rw [if_neg h1]
    refine Z_err 0 (by decide) (by decide) hR (fun M1 e1 hR1 => ?_)
    unfold F_xm_row F_xm_row_29
    try dsimp only
    rw [E_xm_isOne, ite01, if_neg h1, E_xm_fin 0 (by decide) (by decide)]
    exact H _ _ hR1
  rw [if_pos h1]
  by_cases hb : b = 0 ∨ b = 8 ∨ b = 16 ∨ b = 32
  rotate_left
  · rw [if4n hb]
    refine Z_err 0 (by decide) (by decide) hR (fun M1 e1 hR1 => ?_)
    unfold F_xm_row F_xm_row_29
    try dsimp only
    rw [E_xm_isOne, ite01, if_pos h1, if4n hb, E_xm_fin 0 (by decide) (by decide)]
    exact H _ _ hR1
  rw [if4 hb]
  unfold F_xs_row_37
  by_cases h2 : 0 ≤ n
  rotate_left
  · rw [if_neg h2]
    refine Z_err 6 (by decide) (by decide) hR (fun M1 e1 hR1 => ?_)
    unfold F_xm_row F_xm_row_36
    try dsimp only
    rw [E_xm_isOne, ite01, if_pos h1, if4 hb, if_neg h2, E_xm_fin 6 (by decide) (by decide)]
    exact H _ _ hR1
  rw [if_pos h2]
  by_cases h3 : n ≤ 40
  rotate_left
  · rw [if_neg h3]
    refine Z_err 0 (by decide) (by decide) hR (fun M1 e1 hR1 => ?_)
    unfold F_xm_row F_xm_row_36
    try dsimp only
    rw [E_xm_isOne, ite01, if_pos h1, if4 hb, if_pos h2, if_neg h3, E_xm_fin 0 (by decide) (by decide)]
    exact H _ _ hR1
  rw [if_pos h3]
  refine ⟨h1, ?_⟩
  have key : ∀ len : Int, 0 ≤ len ∧ len ≤ 40 → (∀ (Q : Int → cM → Prop) (M' : cM), F_xm_row_81 Q s len s (wr M' 110 s b) → F_xm_row Q s b n M') → F_xs_row_77 (fun x M1 => F_xm_row (fun y M2 => P x y M2) s b n M1) s len b (90 + 2 * s) M := by
    intro len hl hm
    unfold F_xs_row_77 F_xr_become
    refine X_fill (by decide) (fun M1 a1 a2 => ?_)
    have e1 : M1 (90 + 2 * s) 1 = len := by rw [a1 _ _ (by omega), wr_eq]
    have e0 : M1 (90 + 2 * s) 0 = b := by rw [a1 _ _ (by omega), wr_nj (by decide), wr_eq]
    have eo : ∀ c j, c ≠ 90 + 2 * s → c ≠ 90 + 2 * s + 1 → M1 c j = M c j := fun c j h5 h6 => by rw [a1 _ _ h6, wr_ne h5, wr_ne h5]
    refine ⟨h1, hm _ _ ?_⟩
    unfold F_xm_row_81
    try dsimp only
    refine ⟨h1, _, L_xm_rowfill h1 40 0 _ (by decide) (fun M2 b1 b2 b3 => ?_)⟩
    rw [b1 111 s (by decide), wr_eq, e1]
    refine H _ _ (hR.ro (fun x x0 x1 => ?_) (fun c j _ h5 h6 => ?_))
    · have hro := hR.2.2.2.2.1 x x0 x1
      by_cases hx : x = s
      · subst hx
        rw [b1 _ _ (by omega), wr_ne (by omega), wr_ne (by omega), e0, b1 _ _ (by decide), wr_ne (by decide), wr_eq, b1 (90 + 2 * x) 1 (by omega), wr_ne (by omega), wr_ne (by omega), e1, b1 _ _ (by decide), wr_eq]
        refine ⟨⟨rfl, hb⟩, ⟨rfl, hl⟩, fun i i0 i1 => ?_⟩
        rw [b1 _ _ (by omega), wr_ne (by omega), wr_ne (by omega), b3 i (by omega) (by omega), show 91 + 2 * x = 90 + 2 * x + 1 by omega]
        exact a2 i i0 (by omega)
      · rw [b1 _ _ (by omega), wr_ne (by omega), wr_ne (by omega), eo _ _ (by omega) (by omega), b1 _ _ (by decide), wr_ne (by decide), wr_nj hx, eo _ _ (by omega) (by omega), b1 (90 + 2 * x) 1 (by omega), wr_ne (by omega), wr_ne (by omega), eo (90 + 2 * x) 1 (by omega) (by omega), b1 _ _ (by decide), wr_nj hx, wr_ne (by decide), eo 111 _ (by omega) (by omega)]
        refine ⟨hro.1, hro.2.1, fun i i0 i1 => ?_⟩
        rw [b1 _ _ (by omega), wr_ne (by omega), wr_ne (by omega), eo _ _ (by omega) (by omega), b2 _ (by have := hro.2.1.2; omega), wr_ne (by decide), wr_ne (by decide), eo _ _ (by omega) (by omega)]
        exact hro.2.2 i i0 i1
    · rw [b1 _ _ (by omega), wr_ne (by omega), wr_ne (by omega), eo _ _ (by omega) (by omega)]
  by_cases hb0 : b = 0
  · rw [if_pos hb0]
    refine key 0 (by decide) (fun Q M' h => ?_)
    unfold F_xm_row F_xm_row_36
    try dsimp only
    rw [E_xm_isOne, ite01, if_pos h1, if4 hb, if_pos h2, if_pos h3, if_pos hb0]
    exact ⟨h1, h⟩
  · rw [if_neg hb0]
    refine key n ⟨h2, h3⟩ (fun Q M' h => ?_)
    unfold F_xm_row F_xm_row_36
    try dsimp only
    rw [E_xm_isOne, ite01, if_pos h1, if4 hb, if_pos h2, if_pos h3, if_neg hb0]
    exact ⟨h1, h⟩
def nrw (b v : Int) : Int := if b = 8 then zi2b v else if b = 16 then zi2s v else v
theorem E_xr_set {Q : cM → Prop} {r i v : Int} {M : cM} (hi : 0 ≤ i ∧ i < 40) : F_xr_set Q r i v M = Q (wr M (r + 1) i (nrw (M r 0) v)) := by
  unfold F_xr_set nrw
  have e : (0 ≤ i ∧ i < 40) = True := eq_true hi
  by_cases h8 : M r 0 = 8
  · rw [if_pos h8, if_pos h8, e, true_and]
  · rw [if_neg h8, if_neg h8]
    by_cases h16 : M r 0 = 16
    · rw [if_pos h16, if_pos h16, e, true_and]
    · rw [if_neg h16, if_neg h16, e, true_and]
theorem E_xm_narrowed {Q : Int → cM → Prop} {b v : Int} {M : cM} : F_xm_narrowed Q b v M = Q (nrw b v) M := by
  unfold F_xm_narrowed nrw
  by_cases h8 : b = 8
  · rw [if_pos h8, if_pos h8]
  · rw [if_neg h8, if_neg h8]
    by_cases h16 : b = 16
    · rw [if_pos h16, if_pos h16]
    · rw [if_neg h16, if_neg h16]
theorem Z_write {P : Int → Int → cM → Prop} {M : cM} {s i v : Int} (hR : RR M) (H : ∀ r M', RR M' → P r r M') : F_xs_write (fun x M1 => F_xm_write (fun y M2 => P x y M2) s i v M1) s i v M := by
  unfold F_xs_write
  rw [E_xs_within, ite01]
  by_cases h1 : 0 ≤ s ∧ s < 4
  rotate_left
  · rw [if_neg h1]
    refine Z_err 0 (by decide) (by decide) hR (fun M1 e1 hR1 => ?_)
    unfold F_xm_write
    try dsimp only
    rw [E_xm_wrong, if_neg h1, if_neg (by decide), E_xm_fin 0 (by decide) (by decide)]
    exact H _ _ hR1
  have hro := hR.2.2.2.2.1 s h1.1 h1.2
  rw [if_pos h1, E_xr_isMissing, ite01]
  refine ⟨h1, ?_⟩
  by_cases h2 : M (90 + 2 * s) 0 = 0
  · rw [if_pos h2]
    refine Z_err 5 (by decide) (by decide) hR (fun M1 e1 hR1 => ?_)
    unfold F_xm_write
    try dsimp only
    rw [E_xm_wrong, if_pos h1, e1 110 s (by decide), ← hro.1.1, if_pos h2, if_neg (by decide), E_xm_fin 5 (by decide) (by decide)]
    exact ⟨h1, H _ _ hR1⟩
  rw [if_neg h2, E_xs_within, ite01]
  refine ⟨h1, ?_⟩
  by_cases h3 : 0 ≤ i ∧ i < M (90 + 2 * s) 1
  rotate_left
  · rw [if_neg h3]
    refine Z_err 0 (by decide) (by decide) hR (fun M1 e1 hR1 => ?_)
    have hl := hro.2.1
    unfold F_xm_write
    try dsimp only
    rw [E_xm_wrong, if_pos h1, e1 110 s (by decide), ← hro.1.1, if_neg h2, if_pos rfl, E_xm_in, ite01, e1 111 s (by decide), w32_e (x := M 111 s - 1) (by omega) (by omega), if_neg (by omega), E_xm_fin 0 (by decide) (by decide)]
    exact ⟨h1, h1, H _ _ hR1⟩
  have hl := hro.2.1
  rw [if_pos h3, E_xr_set (by omega)]
  refine ⟨h1, ?_⟩
  unfold F_xm_write
  try dsimp only
  rw [E_xm_wrong, if_pos h1, wr_ne (by omega), ← hro.1.1, if_neg h2, if_pos rfl, E_xm_in, ite01, wr_ne (by omega), w32_e (x := M 111 s - 1) (by omega) (by omega), if_pos (by omega), E_xm_narrowed, wr_ne (by omega), ← hro.1.1, w32_e (x := 40 * s) (by omega) (by omega), w32_e (x := 40 * s + i) (by omega) (by omega)]
  refine ⟨h1, h1, h1, by omega, ?_⟩
  refine H _ _ (hR.ro (fun x x0 x1 => ?_) (fun c j _ h5 h6 => ?_))
  · have hx := hR.2.2.2.2.1 x x0 x1
    rw [wr_ne (by omega), wr_ne (by omega), wr_ne (by omega), wr_ne (by omega), wr_ne (by omega), wr_ne (by omega), wr_ne (by omega), wr_ne (by omega)]
    refine ⟨hx.1, hx.2.1, fun k k0 k1 => ?_⟩
    have hq := hx.2.2 k k0 k1
    have hm := hx.2.1
    by_cases e : x = s ∧ k = i
    · obtain ⟨rfl, rfl⟩ := e
      rw [wr_ne (by omega), show 91 + 2 * x = 90 + 2 * x + 1 by omega, wr_eq, wr_eq]
    · rw [wr_ne (by omega), wr_at, if_neg (by omega), wr_nj (by omega), wr_ne (by omega)]
      exact hq
  · rw [wr_ne (by omega), wr_ne (by omega)]
theorem E_xr_hasRange {Q : Int → cM → Prop} {r a n : Int} {M : cM} (h : 0 ≤ M r 1 ∧ M r 1 ≤ 40) : F_xr_hasRange Q r a n M = Q (if 0 ≤ a ∧ 0 ≤ n ∧ n ≤ M r 1 ∧ a ≤ M r 1 - n then 1 else 0) M := by
  unfold F_xr_hasRange F_xr_hasRange_30
  rw [narK40, narK41]
  by_cases h1 : a < 0
  · rw [if_pos h1, if_neg (by omega)]
  rw [if_neg h1]
  by_cases h2 : n < 0
  · rw [if_pos h2, if_neg (by omega)]
  rw [if_neg h2]
  by_cases h3 : M r 1 < n
  · rw [if_pos h3, if_neg (by omega)]
  rw [if_neg h3, w32_e (by omega) (by omega)]
  by_cases h4 : M r 1 - n < a
  · rw [if_pos h4, if_neg (by omega)]
  · rw [if_neg h4, if_pos (by omega)]
theorem L_xm_cp1 {Q : Int → cM → Prop} {s f t g n : Int} (hs : 0 ≤ s ∧ s < 4) (hf : 0 ≤ f ∧ f + n ≤ 40) (hn : 0 ≤ n) : ∀ (m k : Nat) (M : cM), (k : Int) + m = n → (∀ M' : cM, (∀ c j, c ≠ 113 → M' c j = M c j) → (∀ j : Int, j < k → M' 113 j = M 113 j) → (∀ j : Int, k ≤ j → j < n → M' 113 j = M 112 (40 * s + f + j)) → ∃ e158, F_xm_copy_158 Q e158 t g n 0 M') → F_xm_copy_121 Q (m + 1) s f t g n k M := by
  intro m
  induction m with
  | zero =>
    intro k M hk H
    unfold F_xm_copy_121
    rw [if_pos (by omega)]
    exact H M (fun _ _ _ => rfl) (fun _ _ => rfl) (fun j j0 j1 => by omega)
  | succ m ih =>
    intro k M hk H
    unfold F_xm_copy_121
    rw [if_neg (by omega), wE (by omega), w32_e (x := 40 * s) (by omega) (by omega), w32_e (x := 40 * s + f) (by omega) (by omega), w32_e (x := 40 * s + f + (k : Int)) (by omega) (by omega)]
    refine ⟨by omega, by omega, ?_⟩
    refine ih (k + 1) (wr M 113 k (M 112 (40 * s + f + (k : Int)))) (by omega) (fun M' a1 a2 a3 => H M' (fun c j hc => ?_) (fun j hj => ?_) (fun j j0 j1 => ?_))
    · rw [a1 c j hc, wr_ne hc]
    · rw [a2 j (by omega), wr_nj (by omega)]
    · by_cases e : j = k
      · subst e
        rw [a2 _ (by omega), wr_eq]
      · rw [a3 j (by omega) j1, wr_ne (by decide)]
theorem L_xm_cp2 {Q : Int → cM → Prop} {t g n : Int} (ht : 0 ≤ t ∧ t < 4) (hg : 0 ≤ g ∧ g + n ≤ 40) (hn : 0 ≤ n) : ∀ (m k : Nat) (M : cM), (k : Int) + m = n → (∀ M' : cM, (∀ c j, c ≠ 112 → M' c j = M c j) → (∀ j : Int, j < 40 * t + g + k ∨ 40 * t + g + n ≤ j → M' 112 j = M 112 j) → (∀ i : Int, k ≤ i → i < n → M' 112 (40 * t + g + i) = M 113 i) → Q n M') → F_xm_copy_158 Q (m + 1) t g n k M := by
  intro m
  induction m with
  | zero =>
    intro k M hk H
    unfold F_xm_copy_158
    rw [if_pos (by omega)]
    exact H M (fun _ _ _ => rfl) (fun _ _ => rfl) (fun j j0 j1 => by omega)
  | succ m ih =>
    intro k M hk H
    unfold F_xm_copy_158
    rw [if_neg (by omega), wE (by omega), w32_e (x := 40 * t) (by omega) (by omega), w32_e (x := 40 * t + g) (by omega) (by omega), w32_e (x := 40 * t + g + (k : Int)) (by omega) (by omega)]
    refine ⟨by omega, by omega, ?_⟩
    refine ih (k + 1) (wr M 112 (40 * t + g + (k : Int)) (M 113 k)) (by omega) (fun M' a1 a2 a3 => H M' (fun c j hc => ?_) (fun j hj => ?_) (fun i i0 i1 => ?_))
    · rw [a1 c j hc, wr_ne hc]
    · rw [a2 j (by omega), wr_nj (by omega)]
    · by_cases e : i = k
      · subst e
        rw [a2 _ (by omega), wr_eq]
      · rw [a3 i (by omega) i1, wr_ne (by decide)]
theorem cpyM_in {M : cM} {a sp b dp n j : Int} (h : dp ≤ j ∧ j < dp + n) : cpyM M a sp b dp n b j = M a (sp + (j - dp)) := by
  unfold cpyM
  rw [if_pos ⟨rfl, h⟩]
theorem cpyM_out {M : cM} {a sp b dp n j : Int} (h : ¬ (dp ≤ j ∧ j < dp + n)) : cpyM M a sp b dp n b j = M b j := by
  unfold cpyM
  rw [if_neg (fun q => h q.2)]
theorem Z_copy {P : Int → Int → cM → Prop} {M : cM} {s f t g n : Int} (hR : RR M) (hf : iR f) (hg : iR g) (H : ∀ r M', RR M' → P r r M') : F_xs_copy (fun x M1 => F_xm_copy (fun y M2 => P x y M2) s f t g n M1) s f t g n M := by
  unfold F_xs_copy F_xs_copy_16 F_xs_copy_47 F_xs_copy_115
  rw [E_xs_within, ite01]
  by_cases h1 : 0 ≤ s ∧ s < 4
  rotate_left
  · rw [if_neg h1]
    refine Z_err 0 (by decide) (by decide) hR (fun M1 e1 hR1 => ?_)
    unfold F_xm_copy F_xm_copy_14
    try dsimp only
    rw [E_xm_isOne, ite01, if_neg h1, E_xm_fin 0 (by decide) (by decide)]
    exact H _ _ hR1
  rw [if_pos h1, E_xs_within, ite01]
  by_cases h2 : 0 ≤ t ∧ t < 4
  rotate_left
  · rw [if_neg h2]
    refine Z_err 0 (by decide) (by decide) hR (fun M1 e1 hR1 => ?_)
    unfold F_xm_copy F_xm_copy_14
    try dsimp only
    rw [E_xm_isOne, ite01, if_pos h1, E_xm_isOne, ite01, if_neg h2, E_xm_fin 0 (by decide) (by decide)]
    exact H _ _ hR1
  have hs := hR.2.2.2.2.1 s h1.1 h1.2
  have ht := hR.2.2.2.2.1 t h2.1 h2.2
  rw [if_pos h2, E_xr_isMissing, ite01]
  refine ⟨h1, ?_⟩
  by_cases h3 : M (90 + 2 * s) 0 = 0
  · rw [if_pos h3]
    refine Z_err 5 (by decide) (by decide) hR (fun M1 e1 hR1 => ?_)
    unfold F_xm_copy F_xm_copy_39
    try dsimp only
    rw [E_xm_isOne, ite01, if_pos h1, E_xm_isOne, ite01, if_pos h2, e1 110 s (by decide), if_pos (by omega), E_xm_fin 5 (by decide) (by decide)]
    exact ⟨h1, H _ _ hR1⟩
  rw [if_neg h3, E_xr_isMissing, ite01]
  refine ⟨h2, ?_⟩
  by_cases h4 : M (90 + 2 * t) 0 = 0
  · rw [if_pos h4]
    refine Z_err 5 (by decide) (by decide) hR (fun M1 e1 hR1 => ?_)
    unfold F_xm_copy F_xm_copy_39
    try dsimp only
    rw [E_xm_isOne, ite01, if_pos h1, E_xm_isOne, ite01, if_pos h2, e1 110 s (by decide), if_neg (by omega), e1 110 t (by decide), if_pos (by omega), E_xm_fin 5 (by decide) (by decide)]
    exact ⟨h1, h2, H _ _ hR1⟩
  rw [if_neg h4]
  refine ⟨h1, h2, ?_⟩
  by_cases h5 : M (90 + 2 * s) 0 = M (90 + 2 * t) 0
  rotate_left
  · rw [if_neg h5]
    refine Z_err 2 (by decide) (by decide) hR (fun M1 e1 hR1 => ?_)
    unfold F_xm_copy
    try dsimp only
    rw [E_xm_isOne, ite01, if_pos h1, E_xm_isOne, ite01, if_pos h2, e1 110 s (by decide), if_neg (by omega), e1 110 t (by decide), if_neg (by omega), if_neg (by omega), E_xm_fin 2 (by decide) (by decide)]
    exact ⟨h1, h2, h1, h2, H _ _ hR1⟩
  rw [if_pos h5, E_xr_hasRange (by have := hs.2.1; omega), ite01]
  refine ⟨h1, ?_⟩
  have ls := hs.2.1
  have lt := ht.2.1
  have mdl : ∀ (Q : Int → cM → Prop) (M1 : cM), (∀ j, M1 110 j = M 110 j) → (∀ j, M1 111 j = M 111 j) → ((0 ≤ f ∧ 0 ≤ g ∧ 0 ≤ n ∧ f + n ≤ M 111 s ∧ g + n ≤ M 111 t) → ∃ e121, F_xm_copy_121 Q e121 s f t g n 0 M1) → (¬ (0 ≤ f ∧ 0 ≤ g ∧ 0 ≤ n ∧ f + n ≤ M 111 s ∧ g + n ≤ M 111 t) → F_xm_finds (fun x20 M19 => Q x20 M19) (-1000001) M1) → F_xm_copy Q s f t g n M1 := by
    intro Q M1 e110 e111 G1 G0
    unfold F_xm_copy F_xm_copy_111
    try dsimp only
    rw [E_xm_isOne, ite01, if_pos h1, E_xm_isOne, ite01, if_pos h2, e110, if_neg (by omega), e110, if_neg (by omega), if_pos (by omega), e111, e111]
    refine ⟨h1, h2, h1, h2, ?_⟩
    by_cases a1 : f < 0
    · rw [if_pos a1]; exact G0 (by omega)
    rw [if_neg a1]
    by_cases a2 : g < 0
    · rw [if_pos a2]; exact G0 (by omega)
    rw [if_neg a2]
    by_cases a3 : n < 0
    · rw [if_pos a3]; exact G0 (by omega)
    rw [if_neg a3]
    refine ⟨h1, ?_⟩
    have key : ∀ z x : Int, 0 ≤ z → z < 2147483648 → 0 ≤ x → x ≤ 40 → w32 (x - z) = x - z := fun z x q1 q2 q3 q4 => w32_e (by omega) (by omega)
    have fl : f < 2147483648 := hf.2
    rw [key f _ (by omega) fl (by omega) (by omega)]
    by_cases a4 : M 111 s - f < n
    · rw [if_pos a4]; exact G0 (by omega)
    rw [if_neg a4]
    refine ⟨h2, ?_⟩
    have gl : g < 2147483648 := hg.2
    rw [key g _ (by omega) gl (by omega) (by omega)]
    by_cases a5 : n ≤ M 111 t - g
    · rw [if_pos a5]; exact G1 (by omega)
    · rw [if_neg a5]; exact G0 (by omega)
  have mdlE : ¬ (0 ≤ f ∧ 0 ≤ g ∧ 0 ≤ n ∧ f + n ≤ M 111 s ∧ g + n ≤ M 111 t) → F_xs_finding (fun x29 M28 => F_xm_copy (fun y M2 => P x29 y M2) s f t g n M28) (-1000001) M := by
    intro hne
    refine Z_err 0 (by decide) (by decide) hR (fun M1 e1 hR1 => ?_)
    refine mdl _ M1 (fun j => e1 _ _ (by decide)) (fun j => e1 _ _ (by decide)) (fun q => absurd q hne) (fun _ => ?_)
    rw [E_xm_fin 0 (by decide) (by decide)]
    exact H _ _ hR1
  by_cases h6 : 0 ≤ f ∧ 0 ≤ n ∧ n ≤ M (90 + 2 * s) 1 ∧ f ≤ M (90 + 2 * s) 1 - n
  rotate_left
  · rw [if_neg h6]
    exact mdlE (by omega)
  rw [if_pos h6, E_xr_hasRange (by have := ht.2.1; omega), ite01]
  refine ⟨h2, ?_⟩
  by_cases h7 : 0 ≤ g ∧ 0 ≤ n ∧ n ≤ M (90 + 2 * t) 1 ∧ g ≤ M (90 + 2 * t) 1 - n
  rotate_left
  · rw [if_neg h7]
    exact mdlE (by omega)
  rw [if_pos h7]
  refine ⟨h1, h2, ⟨by omega, by omega, by omega, by omega, by omega⟩, ?_⟩
  have ec : ∀ c j, c ≠ 90 + 2 * t + 1 → cpyM M (90 + 2 * s + 1) f (90 + 2 * t + 1) g n c j = M c j := fun c j hc => cpyM_o c j hc
  obtain ⟨m, hm⟩ := Int.eq_ofNat_of_zero_le (show 0 ≤ n by omega)
  subst hm
  refine mdl _ _ (fun j => ec _ _ (by omega)) (fun j => ec _ _ (by omega)) (fun _ => ?_) (fun q => absurd (show _ by omega) q)
  refine ⟨_, L_xm_cp1 h1 (by omega) (by omega) m 0 _ (by omega) (fun M1 a1 _ a3 => ?_)⟩
  refine ⟨_, L_xm_cp2 h2 (by omega) (by omega) m 0 M1 (by omega) (fun M2 b1 b2 b3 => ?_)⟩
  have eo : ∀ c j, c ≠ 112 → c ≠ 113 → M2 c j = cpyM M (90 + 2 * s + 1) f (90 + 2 * t + 1) g m c j := fun c j q1 q2 => by rw [b1 c j q1, a1 c j q2]
  refine H _ _ (hR.ro (fun x x0 x1 => ?_) (fun c j _ h8 h9 => ?_))
  · have hx := hR.2.2.2.2.1 x x0 x1
    have hm := hx.2.1
    rw [eo _ _ (by omega) (by omega), ec _ _ (by omega), eo 110 _ (by omega) (by omega), ec 110 _ (by omega), eo _ _ (by omega) (by omega), ec _ _ (by omega), eo 111 _ (by omega) (by omega), ec 111 _ (by omega)]
    refine ⟨hx.1, hx.2.1, fun k k0 k1 => ?_⟩
    rw [eo _ _ (by omega) (by omega)]
    by_cases hxt : x = t
    · subst hxt
      rw [show 91 + 2 * x = 90 + 2 * x + 1 by omega]
      by_cases hk : g ≤ k ∧ k < g + m
      · rw [cpyM_in hk]
        have q := b3 (k - g) (by omega) (by omega)
        rw [show 40 * x + g + (k - g) = 40 * x + k by omega] at q
        rw [q, a3 (k - g) (by omega) (by omega), ec _ _ (by omega), ← show 91 + 2 * s = 90 + 2 * s + 1 by omega, hs.2.2 (f + (k - g)) (by omega) (by omega)]
        congr 1
        omega
      · rw [cpyM_out hk, b2 _ (by omega), a1 _ _ (by decide), ec _ _ (by omega), ← show 91 + 2 * x = 90 + 2 * x + 1 by omega]
        exact hx.2.2 k k0 k1
    · rw [ec _ _ (by omega), b2 _ (by omega), a1 _ _ (by decide), ec _ _ (by omega)]
      exact hx.2.2 k k0 k1
  · rw [eo _ _ (by omega) (by unfold keep at *; omega), ec _ _ (by omega)]
/-- the first place where p fails, and one -/
def jd (p : Nat → Bool) : Nat → Nat → Int
  | 0, _ => 0
  | m + 1, k => if p k = true then jd p m (k + 1) else 1 + (k : Int)
def jp (M : cM) (s : Int) (l : Int × Int) (k : Nat) : Bool := decide (k < 12 ∧ zsee l.1 l.2 k = M 112 (40 * s + k))
theorem L_xs_judge {Q : Int → cM → Prop} {s : Int} {l : Int × Int} {M : cM} (hR : RR M) (hs : 0 ≤ s ∧ s < 4) (hl : lok l.1 l.2) : ∀ (m k : Nat), (k : Int) + m = M 111 s → Q (jd (jp M s l) m k) M → F_xs_judge_61 Q (m + 1) s (encp l) k M := by
  have hro := hR.2.2.2.2.1 s hs.1 hs.2
  have hm := hro.2.1
  intro m
  induction m with
  | zero =>
    intro k hk H
    unfold F_xs_judge_61
    rw [if_pos (by omega)]
    exact ⟨hs, H⟩
  | succ m ih =>
    intro k hk H
    unfold F_xs_judge_61 F_xs_judge_103
    rw [if_neg (by omega), w32_e (x := 1 + (k : Int)) (by omega) (by omega), wE (by omega)]
    refine ⟨hs, ?_⟩
    unfold jd at H
    by_cases h12 : 12 ≤ (k : Int)
    · rw [if_pos h12]
      rw [if_neg (by unfold jp; rw [decide_eq_true_eq]; omega)] at H
      exact H
    rw [if_neg h12]
    have e := hro.2.2 k (by omega) (by omega)
    rw [show 91 + 2 * s = 90 + 2 * s + 1 by omega] at e
    unfold encp at ih ⊢
    rw [E_xl_seenAt hR.cos hl (by omega), e]
    refine ⟨hs, by omega, ?_⟩
    by_cases hv : zsee l.1 l.2 k = M 112 (40 * s + k)
    · rw [if_pos hv]
      rw [if_pos (by unfold jp; rw [decide_eq_true_eq]; exact ⟨by omega, hv⟩)] at H
      exact ih (k + 1) (by omega) H
    · rw [if_neg hv]
      rw [if_neg (by unfold jp; rw [decide_eq_true_eq]; exact fun q => hv q.2)] at H
      exact H
theorem L_xm_judge {Q : Int → cM → Prop} {s a : Int} {M : cM} (hR : RR M) (hs : 0 ≤ s ∧ s < 4) (ha : 0 ≤ a ∧ a < 4) : ∀ (m k : Nat) (M' : cM), Lt M M' → (k : Int) + m = M 111 s → (∀ M1, Lt M M1 → Q (jd (jp M s (mth M a 0 (M 101 2, M 101 3))) m k) M1) → F_xm_judge_33 Q (m + 1) s a k M' := by
  have hro := hR.2.2.2.2.1 s hs.1 hs.2
  have hm := hro.2.1
  intro m
  induction m with
  | zero =>
    intro k M' hL hk H
    unfold F_xm_judge_33
    rw [hL.at (by decide), if_pos (by omega)]
    exact ⟨hs, H _ hL⟩
  | succ m ih =>
    intro k M' hL hk H
    unfold F_xm_judge_33 F_xm_judge_73
    rw [hL.at (by decide), if_neg (by omega), w32_e (x := 1 + (k : Int)) (by omega) (by omega), wE (by omega), w32_e (x := 40 * s) (by omega) (by omega), w32_e (x := 40 * s + (k : Int)) (by omega) (by omega), hL.at (by decide)]
    refine ⟨hs, ?_⟩
    unfold jd at H
    by_cases h12 : 11 < (k : Int)
    · rw [if_pos h12]
      rw [if_neg (by unfold jp; rw [decide_eq_true_eq]; omega)] at H
      exact H _ hL
    rw [if_neg h12]
    refine ⟨by omega, ?_⟩
    have e101 : ∀ j, M' 101 j = M 101 j := fun j => hL.at (by decide) j
    refine Y_seenThrough (mtok_kp e101 (hR.1.mt ha)) (by rw [e101, e101]; exact hR.1.mlok) (by omega) (fun M2 L2 => ?_)
    rw [mth_kp e101, e101, e101]
    by_cases hv : zsee (mth M a 0 (M 101 2, M 101 3)).1 (mth M a 0 (M 101 2, M 101 3)).2 k = M 112 (40 * s + k)
    · rw [if_pos hv.symm]
      rw [if_pos (by unfold jp; rw [decide_eq_true_eq]; exact ⟨by omega, hv⟩)] at H
      exact ih (k + 1) M2 (hL.tr L2) (by omega) H
    · rw [if_neg (fun q => hv q.symm)]
      rw [if_neg (by unfold jp; rw [decide_eq_true_eq]; exact fun q => hv q.2)] at H
      exact H _ (hL.tr L2)
theorem Z_judge {P : Int → Int → cM → Prop} {M : cM} {a b : Int} (hR : RR M) (H : ∀ r M', RR M' → P r r M') : F_xs_judge (fun x M1 => F_xm_judge (fun y M2 => P x y M2) a b M1) a b M := by
  unfold F_xs_judge
  rw [E_xs_within, ite01]
  by_cases h1 : 0 ≤ a ∧ a < 4
  rotate_left
  · rw [if_neg h1]
    refine Z_err 0 (by decide) (by decide) hR (fun M1 e1 hR1 => ?_)
    unfold F_xm_judge
    try dsimp only
    rw [E_xm_wrong, if_neg h1, if_neg (by decide), E_xm_fin 0 (by decide) (by decide)]
    exact H _ _ hR1
  have hro := hR.2.2.2.2.1 a h1.1 h1.2
  have hm := hro.2.1
  rw [if_pos h1, E_xr_isMissing, ite01]
  refine ⟨h1, ?_⟩
  by_cases h2 : M (90 + 2 * a) 0 = 0
  · rw [if_pos h2]
    refine Z_err 5 (by decide) (by decide) hR (fun M1 e1 hR1 => ?_)
    unfold F_xm_judge
    try dsimp only
    rw [E_xm_wrong, if_pos h1, e1 110 a (by decide), ← hro.1.1, if_pos h2, if_neg (by decide), E_xm_fin 5 (by decide) (by decide)]
    exact ⟨h1, H _ _ hR1⟩
  rw [if_neg h2, E_xs_isStack, ite01]
  by_cases h3 : 0 ≤ b ∧ b < 4
  rotate_left
  · rw [if_neg h3]
    refine Z_err 0 (by decide) (by decide) hR (fun M1 e1 hR1 => ?_)
    unfold F_xm_judge
    try dsimp only
    rw [E_xm_wrong, if_pos h1, e1 110 a (by decide), ← hro.1.1, if_neg h2, if_pos rfl, E_xm_isStack, ite01, if_neg h3, E_xm_fin 0 (by decide) (by decide)]
    exact ⟨h1, H _ _ hR1⟩
  rw [if_pos h3]
  refine X_frontLight hR.cos (hR.1.st h3) hR.1.lk ?_
  refine ⟨_, L_xs_judge hR h1 (hR.xok h3 0) (M 111 a).toNat 0 (by omega) ?_⟩
  unfold F_xm_judge
  try dsimp only
  rw [E_xm_wrong, if_pos h1, ← hro.1.1, if_neg h2, if_pos rfl, E_xm_isStack, ite01, if_pos h3]
  refine ⟨h1, _, L_xm_judge hR h1 h3 (M 111 a).toNat 0 M (Lt.rf M) (by omega) (fun M1 L1 => ?_)⟩
  rw [hR.1.xm h3, hR.1.lmp]
  exact H _ _ (hR.kp L1.kp)
