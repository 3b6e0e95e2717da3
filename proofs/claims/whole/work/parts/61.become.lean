/-! become, image, undo; like, round. -/
theorem cpyM_ne {M : cM} {a sp b dp n c j : Int} (h : c ≠ b) : cpyM M a sp b dp n c j = M c j := cpyM_o c j h
theorem cpyM_i0 {M : cM} {a b n j : Int} (h : 0 ≤ j ∧ j < n) : cpyM M a 0 b 0 n b j = M a j := by
  rw [cpyM_in (by omega), Int.sub_zero, Int.zero_add]
/-- a scene at b is as the one at b0 was -/
def BC (b b0 : Int) (M M' : cM) : Prop := (M' b 0 = M b0 0 ∧ M' b 4 = M b0 4 ∧ M' b 5 = M b0 5 ∧ M' b 6 = M b0 6 ∧ M' b 9 = M b0 9 ∧ M' b 12 = M b0 12) ∧
  (∀ j, 0 ≤ j → j < 10 → M' (b + 1) j = M (b0 + 1) j ∧ M' (b + 2) j = M (b0 + 2) j ∧ M' (b + 3) j = M (b0 + 3) j ∧ M' (b + 12) j = M (b0 + 12) j) ∧
  (∀ j, 0 ≤ j → j < 4 → M' (b + 10) j = M (b0 + 10) j ∧ M' (b + 11) j = M (b0 + 11) j) ∧
  (∀ k, 0 ≤ k → k < 4 → M' (b + 9) k = M (b0 + 9) k) ∧
  (∀ k i, 0 ≤ k → k < 4 → 0 ≤ i → i < M (b0 + 9) k → M' (b + 5 + k) i = M (b0 + 5 + k) i)
theorem BC.kp {b b0 : Int} {M M' M2 : cM} (h : BC b b0 M M') (e : ∀ c j, b ≤ c → c ≤ b + 12 → M2 c j = M' c j) : BC b b0 M M2 := by
  obtain ⟨h1, h2, h3, h4, h5⟩ := h
  refine ⟨?_, fun j j0 j1 => ?_, fun j j0 j1 => ?_, fun j j0 j1 => ?_, fun k i k0 k1 i0 i1 => ?_⟩
  · rw [e b 0 (by omega) (by omega), e b 4 (by omega) (by omega), e b 5 (by omega) (by omega), e b 6 (by omega) (by omega), e b 9 (by omega) (by omega), e b 12 (by omega) (by omega)]; exact h1
  · rw [e _ _ (by omega) (by omega), e _ _ (by omega) (by omega), e _ _ (by omega) (by omega), e _ _ (by omega) (by omega)]; exact h2 j j0 j1
  · rw [e _ _ (by omega) (by omega), e _ _ (by omega) (by omega)]; exact h3 j j0 j1
  · rw [e _ _ (by omega) (by omega)]; exact h4 j j0 j1
  · rw [e _ _ (by omega) (by omega)]; exact h5 k i k0 k1 i0 i1
theorem SC.bc {b b0 c c' : Int} {M M' : cM} (h : SC b0 c M) (hb : BC b b0 M M') (hc : ∀ j, 0 ≤ j → j < 82 → M' c' j = M c j) : SC b c' M' := by
  obtain ⟨h0, h1, h2, h3, h4, h5, h6, h7, h8, h9, h10⟩ := h
  obtain ⟨⟨f0, f4, f5, f6, f9, f12⟩, hk, hl, hh, hs⟩ := hb
  have c0 := hc 0 (by decide) (by decide)
  have c5 := hc 5 (by decide) (by decide)
  refine ⟨by rw [f0, c0]; exact h0, by rw [f4, hc 1 (by decide) (by decide)]; exact h1, by rw [f5, hc 2 (by decide) (by decide)]; exact h2, by rw [f6, hc 3 (by decide) (by decide)]; exact h3, by rw [f12, hc 4 (by decide) (by decide)]; exact h4, by rw [f9, c5]; exact h5, fun k k0 k1 => ?_, fun k k0 k1 => ?_, fun k k0 k1 => ?_, fun k i k0 k1 i0 i1 => ?_, fun k k0 k1 => ?_⟩
  · rw [c5] at k1
    have g := hl k k0 (by omega)
    rw [g.1, g.2, hc _ (by omega) (by omega), hc _ (by omega) (by omega)]
    exact h6 k k0 k1
  · rw [c0] at k1
    have g := hk k k0 (by omega)
    rw [g.1, g.2.1, g.2.2.1, hc _ (by omega) (by omega), hc _ (by omega) (by omega), hc _ (by omega) (by omega)]
    exact h7 k k0 k1
  · rw [hh k k0 k1, hc _ (by omega) (by omega)]; exact h8 k k0 k1
  · have g8 := h8 k k0 k1
    rw [hc _ (by omega) (by omega)] at i1
    rw [hs k i k0 k1 i0 (by omega), hc _ (by omega) (by omega), c0]
    exact h9 k i k0 k1 i0 i1
  · rw [(hk k k0 k1).2.2.2, hc _ (by omega) (by omega), c0]; exact h10 k k0 k1
/-- become, half way -/
def bcP (b b0 : Int) (M M1 : cM) (n : Int) : Prop := (∀ c j, ¬ (b ≤ c ∧ c ≤ b + 12) → M1 c j = M c j) ∧ (M1 b 0 = M b0 0 ∧ M1 b 4 = M b0 4 ∧ M1 b 5 = M b0 5 ∧ M1 b 6 = M b0 6) ∧
  (∀ j, 0 ≤ j → j < 10 → M1 (b + 1) j = M (b0 + 1) j ∧ M1 (b + 2) j = M (b0 + 2) j ∧ M1 (b + 3) j = M (b0 + 3) j) ∧
  (∀ k, 0 ≤ k → k < n → M1 (b + 9) k = M (b0 + 9) k) ∧
  (∀ k i, 0 ≤ k → k < n → 0 ≤ i → i < M (b0 + 9) k → M1 (b + 5 + k) i = M (b0 + 5 + k) i)
theorem L_become {Q : cM → Prop} {b b0 : Int} {M : cM} (hb : b + 13 ≤ b0 ∨ b0 + 13 ≤ b) (hh : ∀ k, 0 ≤ k → k < 4 → 0 ≤ M (b0 + 9) k ∧ M (b0 + 9) k ≤ 6) (H : ∀ M', (∀ c j, ¬ (b ≤ c ∧ c ≤ b + 12) → M' c j = M c j) → BC b b0 M M' → Q M') : ∀ (m n : Nat) (M1 : cM), n + m = 4 → bcP b b0 M M1 n → F_xg_become_79 Q b b0 (m + 1) n M1 := by
  intro m
  induction m with
  | zero =>
    intro n M1 hn hp
    obtain ⟨p1, p2, p3, p4, p5⟩ := hp
    unfold F_xg_become_79
    rw [if_pos (by omega)]
    refine ⟨by decide, by decide, by decide, H _ (fun c j hc => ?_) ?_⟩
    · rw [cpyM_ne (by omega), wr_ne (by omega), cpyM_ne (by omega), cpyM_ne (by omega), wr_ne (by omega)]
      exact p1 c j hc
    · refine ⟨?_, fun j j0 j1 => ?_, fun j j0 j1 => ?_, fun j j0 j1 => ?_, fun k i k0 k1 i0 i1 => ?_⟩
      · simp (disch := omega) only [cpyM_ne, cpyM_i0, wr_ne, wr_nj, wr_eq, p1]
        exact ⟨p2.1, p2.2.1, p2.2.2.1, p2.2.2.2, trivial, trivial⟩
      · have g := p3 j j0 j1
        simp (disch := omega) only [cpyM_ne, cpyM_i0, wr_ne, wr_nj, wr_eq, p1]
        exact ⟨g.1, g.2.1, g.2.2, trivial⟩
      · simp (disch := omega) only [cpyM_ne, cpyM_i0, wr_ne, wr_nj, wr_eq, p1]
        exact ⟨trivial, trivial⟩
      · simp (disch := omega) only [cpyM_ne, cpyM_i0, wr_ne, wr_nj, wr_eq]
        exact p4 j j0 (by omega)
      · simp (disch := omega) only [cpyM_ne, cpyM_i0, wr_ne, wr_nj, wr_eq]
        exact p5 k i k0 (by omega) i0 i1
  | succ m ih =>
    intro n M1 hn hp
    obtain ⟨p1, p2, p3, p4, p5⟩ := hp
    unfold F_xg_become_79 F_xg_setStack
    have e9 : M1 (b0 + 9) n = M (b0 + 9) n := p1 _ _ (by omega)
    have h9 := hh n (by omega) (by omega)
    rw [if_neg (by omega), wE (by omega), e9]
    refine ⟨by omega, by omega, by omega, ⟨by omega, by omega, by omega, by omega, by omega⟩, by omega, ?_⟩
    refine ih (n + 1) _ (by omega) ⟨fun c j hc => ?_, ?_, fun j j0 j1 => ?_, fun k k0 k1 => ?_, fun k i k0 k1 i0 i1 => ?_⟩
    · rw [wr_ne (by omega), cpyM_ne (by omega)]; exact p1 c j hc
    · simp (disch := omega) only [cpyM_ne, cpyM_i0, wr_ne, wr_nj, wr_eq]; exact p2
    · simp (disch := omega) only [cpyM_ne, cpyM_i0, wr_ne, wr_nj, wr_eq]; exact p3 j j0 j1
    · by_cases e : k = n
      · subst e
        rw [wr_eq]
      · rw [wr_nj e, cpyM_ne (by omega)]; exact p4 k k0 (by omega)
    · by_cases e : k = n
      · subst e
        rw [wr_ne (by omega), cpyM_i0 ⟨i0, i1⟩]; exact p1 _ _ (by omega)
      · rw [wr_ne (by omega), cpyM_ne (by omega)]; exact p5 k i k0 (by omega) i0 i1
theorem X_become {Q : cM → Prop} {b b0 : Int} {M : cM} (hb : b + 13 ≤ b0 ∨ b0 + 13 ≤ b) (hh : ∀ k, 0 ≤ k → k < 4 → 0 ≤ M (b0 + 9) k ∧ M (b0 + 9) k ≤ 6) (H : ∀ M', (∀ c j, ¬ (b ≤ c ∧ c ≤ b + 12) → M' c j = M c j) → BC b b0 M M' → Q M') : F_xg_become Q b b0 M := by
  unfold F_xg_become
  refine ⟨by decide, by decide, by decide, _, L_become hb hh H 4 0 _ (by decide) ⟨fun c j hc => ?_, ?_, fun j j0 j1 => ?_, fun k k0 k1 => ?_, fun k i k0 k1 i0 i1 => ?_⟩⟩
  · simp (disch := omega) only [cpyM_ne, wr_ne]
  · simp (disch := omega) only [cpyM_ne, cpyM_i0, wr_ne, wr_nj, wr_eq]
    exact ⟨trivial, trivial, trivial, trivial⟩
  · simp (disch := omega) only [cpyM_ne, cpyM_i0, wr_ne, wr_nj, wr_eq]
    exact ⟨trivial, trivial, trivial⟩
  · exact absurd k1 (by omega)
  · exact absurd k1 (by omega)
theorem L_xm_image {Q : Int → cM → Prop} : ∀ (m n : Nat) (M : cM), n + m = 82 → (∀ M' : cM, (∀ c j, c ≠ 102 → M' c j = M c j) → (∀ j : Int, j < n → M' 102 j = M 102 j) → (∀ j : Int, n ≤ j → j < 82 → M' 102 j = M 101 j) → Q 1 (wr M' 100 4 1)) → F_xm_image_2 Q (m + 1) n M := by
  intro m
  induction m with
  | zero =>
    intro n M hn H
    unfold F_xm_image_2
    rw [if_pos (by omega)]
    exact H M (fun _ _ _ => rfl) (fun _ _ => rfl) (fun j j0 j1 => by omega)
  | succ m ih =>
    intro n M hn H
    unfold F_xm_image_2
    rw [if_neg (by omega), wE (by omega)]
    refine ⟨by omega, by omega, ?_⟩
    refine ih (n + 1) (wr M 102 n (M 101 n)) (by omega) (fun M' a1 a2 a3 => H M' (fun c j hc => ?_) (fun j hj => ?_) (fun j j0 j1 => ?_))
    · rw [a1 c j hc, wr_ne hc]
    · rw [a2 j (by omega), wr_nj (by omega)]
    · by_cases e : j = n
      · subst e
        rw [a2 _ (by omega), wr_eq]
      · rw [a3 j (by omega) j1, wr_ne (by decide)]
theorem L_xm_undo {Q : Int → cM → Prop} : ∀ (m n : Nat) (M : cM), n + m = 82 → (∀ M' : cM, (∀ c j, c ≠ 101 → M' c j = M c j) → (∀ j : Int, j < n → M' 101 j = M 101 j) → (∀ j : Int, n ≤ j → j < 82 → M' 101 j = M 102 j) → Q (M' 101 0) M') → F_xm_undo_16 Q (m + 1) n M := by
  intro m
  induction m with
  | zero =>
    intro n M hn H
    unfold F_xm_undo_16
    rw [if_pos (by omega)]
    exact H M (fun _ _ _ => rfl) (fun _ _ => rfl) (fun j j0 j1 => by omega)
  | succ m ih =>
    intro n M hn H
    unfold F_xm_undo_16
    rw [if_neg (by omega), wE (by omega)]
    refine ⟨by omega, by omega, ?_⟩
    refine ih (n + 1) (wr M 101 n (M 102 n)) (by omega) (fun M' a1 a2 a3 => H M' (fun c j hc => ?_) (fun j hj => ?_) (fun j j0 j1 => ?_))
    · rw [a1 c j hc, wr_ne hc]
    · rw [a2 j (by omega), wr_nj (by omega)]
    · by_cases e : j = n
      · subst e
        rw [a2 _ (by omega), wr_eq]
      · rw [a3 j (by omega) j1, wr_ne (by decide)]
theorem L_xm_text2 {Q : Int → cM → Prop} : ∀ (m n : Nat) (M : cM), n + m = 82 → (∀ M' : cM, (∀ c j, c ≠ 103 → M' c j = M c j) → (∀ j : Int, j < n → M' 103 j = M 103 j) → (∀ j : Int, n ≤ j → j < 82 → M' 103 j = M 101 j) → F_xm_token (fun M2 => F_xm_item (fun M5 => ∃ e46, F_xm_text_46 Q e46 1 M5) M2) (wr (wr M' 100 14 0) 100 16 0)) → F_xm_text_2 Q (m + 1) n M := by
  intro m
  induction m with
  | zero =>
    intro n M hn H
    unfold F_xm_text_2
    rw [if_pos (by omega)]
    exact H M (fun _ _ _ => rfl) (fun _ _ => rfl) (fun j j0 j1 => by omega)
  | succ m ih =>
    intro n M hn H
    unfold F_xm_text_2
    rw [if_neg (by omega), wE (by omega)]
    refine ⟨by omega, by omega, ?_⟩
    refine ih (n + 1) (wr M 103 n (M 101 n)) (by omega) (fun M' a1 a2 a3 => H M' (fun c j hc => ?_) (fun j hj => ?_) (fun j j0 j1 => ?_))
    · rw [a1 c j hc, wr_ne hc]
    · rw [a2 j (by omega), wr_nj (by omega)]
    · by_cases e : j = n
      · subst e
        rw [a2 _ (by omega), wr_eq]
      · rw [a3 j (by omega) j1, wr_ne (by decide)]
theorem L_xm_text110 {Q : Int → cM → Prop} : ∀ (m n : Nat) (M : cM), n + m = 82 → (∀ M' : cM, (∀ c j, c ≠ 101 → M' c j = M c j) → (∀ j : Int, j < n → M' 101 j = M 101 j) → (∀ j : Int, n ≤ j → j < 82 → M' 101 j = M 103 j) → Q (w32 ((-1) - (M' 100 13))) M') → F_xm_text_110 Q (m + 1) n M := by
  intro m
  induction m with
  | zero =>
    intro n M hn H
    unfold F_xm_text_110
    rw [if_pos (by omega)]
    exact H M (fun _ _ _ => rfl) (fun _ _ => rfl) (fun j j0 j1 => by omega)
  | succ m ih =>
    intro n M hn H
    unfold F_xm_text_110
    rw [if_neg (by omega), wE (by omega)]
    refine ⟨by omega, by omega, ?_⟩
    refine ih (n + 1) (wr M 101 n (M 103 n)) (by omega) (fun M' a1 a2 a3 => H M' (fun c j hc => ?_) (fun j hj => ?_) (fun j j0 j1 => ?_))
    · rw [a1 c j hc, wr_ne hc]
    · rw [a2 j (by omega), wr_nj (by omega)]
    · by_cases e : j = n
      · subst e
        rw [a2 _ (by omega), wr_eq]
      · rw [a3 j (by omega) j1, wr_ne (by decide)]
theorem SC.hh {M : cM} {b c : Int} (h : SC b c M) : ∀ k, 0 ≤ k → k < 4 → 0 ≤ M (b + 9) k ∧ M (b + 9) k ≤ 6 := fun k k0 k1 => by
  have g := h.2.2.2.2.2.2.2.2.1 k k0 k1
  omega
theorem Z_image {P : Int → Int → cM → Prop} {M : cM} (hR : RR M) (H : ∀ r M', RR M' → P r r M') : F_xs_image (fun x M1 => F_xm_image (fun y M2 => P x y M2) M1) M := by
  unfold F_xs_image
  refine X_become (by decide) hR.1.hh (fun M1 a1 a2 => ?_)
  unfold F_xm_image
  try dsimp only
  refine ⟨_, L_xm_image 82 0 _ (by decide) (fun M2 b1 _ b3 => ?_)⟩
  have e : ∀ c j, ¬ (30 ≤ c ∧ c ≤ 42) → c ≠ 102 → ¬ (c = 0 ∧ j = 2) → M2 c j = M c j := fun c j h1 h2 h3 => by
    rw [b1 c j h2, wr_at, if_neg h3]; exact a1 c j (by omega)
  refine H _ _ (hR.fl ⟨?_, Or.inr ?_⟩ (fun _ => ?_) (fun c j _ h1 h2 h3 h4 => ?_))
  · rw [wr_ne (by decide), wr_eq, b1 0 2 (by decide), wr_eq]
  · rw [wr_ne (by decide), b1 0 2 (by decide), wr_eq]
  · refine hR.1.bc (a2.kp (fun c j h1 h2 => ?_)) (fun j j0 j1 => ?_)
    · rw [wr_ne (by omega), b1 c j (by omega), wr_ne (by omega)]
    · rw [wr_ne (by decide), b3 j (by omega) j1, wr_ne (by decide), a1 _ _ (by decide)]
  · rw [wr_at, if_neg h4]
    exact e c j h2 h3 (fun q => h1 q.1)
theorem Z_undo {P : Int → Int → cM → Prop} {M : cM} (hR : RR M) (H : ∀ r M', RR M' → P r r M') : F_xs_undo (fun x M1 => F_xm_undo (fun y M2 => P x y M2) M1) M := by
  have h2 := hR.2.1
  unfold F_xs_undo
  by_cases h : M 0 2 = 0
  · rw [if_pos h]
    refine Z_err 3 (by decide) (by decide) hR (fun M1 e1 hR1 => ?_)
    unfold F_xm_undo
    try dsimp only
    rw [e1 100 4 (by decide), if_pos (by omega), E_xm_fin 3 (by decide) (by decide)]
    exact H _ _ hR1
  rw [if_neg h]
  have hK := hR.2.2.1 (by omega)
  refine X_become (by decide) hK.hh (fun M1 a1 a2 => ?_)
  unfold F_xm_undo
  try dsimp only
  rw [a1 100 4 (by decide), if_neg (by omega)]
  refine ⟨_, L_xm_undo 82 0 _ (by decide) (fun M2 b1 _ b3 => ?_)⟩
  have hs : SC 10 101 M2 := hK.bc (a2.kp (fun c j h1 h2 => b1 c j (by omega))) (fun j j0 j1 => by rw [b3 j (by omega) j1, a1 _ _ (by decide)])
  rw [← hs.1.1, b1 10 0 (by decide)]
  exact H _ _ (hR.sc hs (fun c j _ h1 h2 => by rw [b1 c j h2]; exact a1 c j (by omega)))
theorem ix44 {k i : Int} (hk : 0 ≤ k ∧ k < 4) (hi : 0 ≤ i ∧ i < 7) : w32 (w32 (44 + w32 (7 * k)) + i) = 44 + 7 * k + i := by
  rw [w32_e (x := 7 * k) (by omega) (by omega), w32_e (x := 44 + 7 * k) (by omega) (by omega), w32_e (by omega) (by omega)]
theorem ix45 {k i : Int} (hk : 0 ≤ k ∧ k < 4) (hi : 0 ≤ i ∧ i < 6) : w32 (w32 (w32 (44 + w32 (7 * k)) + 1) + i) = 45 + 7 * k + i := by
  rw [ix44 hk (by decide), w32_e (by omega) (by omega)]
  omega
theorem L_xm_like {Q : Int → cM → Prop} {st o : Int} (hs : 0 ≤ st ∧ st < 4) (ho : 0 ≤ o ∧ o < 4) : ∀ (m n : Nat) (M : cM), n + m = 7 → (∀ M' : cM, (∀ c j, c ≠ 101 → M' c j = M c j) → (∀ j : Int, j < 44 + 7 * st + n ∨ 44 + 7 * st + 7 ≤ j → M' 101 j = M 101 j) → (∀ i : Int, n ≤ i → i < 7 → M' 101 (44 + 7 * st + i) = M 101 (44 + 7 * o + i)) → Q (M' 101 (44 + 7 * st)) M') → F_xm_like_23 Q (m + 1) st o n M := by
  intro m
  induction m with
  | zero =>
    intro n M hn H
    unfold F_xm_like_23
    rw [if_pos (by omega), E_xm_manyIn hs]
    exact H M (fun _ _ _ => rfl) (fun _ _ => rfl) (fun j j0 j1 => by omega)
  | succ m ih =>
    intro n M hn H
    unfold F_xm_like_23
    rw [if_neg (by omega), wE (by omega), ix44 hs (by omega), ix44 ho (by omega)]
    refine ⟨by omega, by omega, ?_⟩
    refine ih (n + 1) _ (by omega) (fun M' a1 a2 a3 => H M' (fun c j hc => ?_) (fun j hj => ?_) (fun i i0 i1 => ?_))
    · rw [a1 c j hc, wr_ne hc]
    · rw [a2 j (by omega), wr_nj (by omega)]
    · by_cases e : i = n
      · subst e
        rw [a2 _ (by omega), wr_eq]
      · rw [a3 i (by omega) i1, wr_nj (by omega)]
/-- one stack given anew on both sides -/
theorem SC.stk {b : Int} {M M' : cM} {st h : Int} (hb : 0 ≤ b ∧ b ≤ 50) (hS : SC b 101 M) (hs : 0 ≤ st ∧ st < 4) (e1 : ∀ c j, b ≤ c → c ≤ b + 12 → c ≠ b + 5 + st → ¬ (c = b + 9 ∧ j = st) → M' c j = M c j) (e2 : ∀ j, ¬ (44 + 7 * st ≤ j ∧ j < 51 + 7 * st) → M' 101 j = M 101 j) (hh : M' (b + 9) st = h ∧ M' 101 (44 + 7 * st) = h ∧ 0 ≤ h ∧ h ≤ 6) (hr : ∀ i, 0 ≤ i → i < h → M' (b + 5 + st) i = M' 101 (45 + 7 * st + i) ∧ 0 ≤ M' 101 (45 + 7 * st + i) ∧ M' 101 (45 + 7 * st + i) < M 101 0) : SC b 101 M' := by
  obtain ⟨h0, h1, h2, h3, h4, h5, h6, h7, h8, h9, h10⟩ := hS
  refine ⟨?_, ?_, ?_, ?_, ?_, ?_, fun k k0 k1 => ?_, fun k k0 k1 => ?_, fun k k0 k1 => ?_, fun k i k0 k1 i0 i1 => ?_, fun k k0 k1 => ?_⟩
  · rw [e1 b 0 (by omega) (by omega) (by omega) (by omega), e2 0 (by omega)]; exact h0
  · rw [e1 b 4 (by omega) (by omega) (by omega) (by omega), e2 1 (by omega)]; exact h1
  · rw [e1 b 5 (by omega) (by omega) (by omega) (by omega), e2 2 (by omega)]; exact h2
  · rw [e1 b 6 (by omega) (by omega) (by omega) (by omega), e2 3 (by omega)]; exact h3
  · rw [e1 b 12 (by omega) (by omega) (by omega) (by omega), e2 4 (by omega)]; exact h4
  · rw [e1 b 9 (by omega) (by omega) (by omega) (by omega), e2 5 (by omega)]; exact h5
  · rw [e2 5 (by omega)] at k1
    rw [e1 (b + 10) _ (by omega) (by omega) (by omega) (by omega), e1 (b + 11) _ (by omega) (by omega) (by omega) (by omega), e2 _ (by omega), e2 _ (by omega)]
    exact h6 k k0 k1
  · rw [e2 0 (by omega)] at k1
    rw [e1 (b + 1) _ (by omega) (by omega) (by omega) (by omega), e1 (b + 2) _ (by omega) (by omega) (by omega) (by omega), e1 (b + 3) _ (by omega) (by omega) (by omega) (by omega), e2 _ (by omega), e2 _ (by omega), e2 _ (by omega)]
    exact h7 k k0 k1
  · by_cases e : k = st
    · subst e
      rw [hh.1, hh.2.1]; exact ⟨rfl, hh.2.2⟩
    · rw [e1 _ _ (by omega) (by omega) (by omega) (by omega), e2 _ (by omega)]
      exact h8 k k0 k1
  · rw [e2 0 (by omega)]
    by_cases e : k = st
    · subst e
      rw [hh.2.1] at i1
      exact hr i i0 i1
    · have g8 := h8 k k0 k1
      rw [e2 _ (by omega)] at i1
      rw [e1 _ _ (by omega) (by omega) (by omega) (by omega), e2 _ (by omega)]
      exact h9 k i k0 k1 i0 i1
  · rw [e1 _ _ (by omega) (by omega) (by omega) (by omega), e2 _ (by omega), e2 0 (by omega)]
    exact h10 k k0 k1
theorem Z_like {P : Int → Int → cM → Prop} {M : cM} {a b : Int} (hR : RR M) (H : ∀ r M', RR M' → P r r M') : F_xs_like (fun x M1 => F_xm_like (fun y M2 => P x y M2) a b M1) a b M := by
  unfold F_xs_like F_xs_like_14
  rw [E_xs_isStack, ite01]
  by_cases h1 : 0 ≤ a ∧ a < 4
  rotate_left
  · rw [if_neg h1]
    refine Z_err 0 (by decide) (by decide) hR (fun M1 e1 hR1 => ?_)
    unfold F_xm_like F_xm_like_14
    try dsimp only
    rw [E_xm_isStack, ite01, if_neg h1, E_xm_fin 0 (by decide) (by decide)]
    exact H _ _ hR1
  rw [if_pos h1, E_xs_isStack, ite01]
  by_cases h2 : 0 ≤ b ∧ b < 4
  rotate_left
  · rw [if_neg h2]
    refine Z_err 0 (by decide) (by decide) hR (fun M1 e1 hR1 => ?_)
    unfold F_xm_like F_xm_like_14
    try dsimp only
    rw [E_xm_isStack, ite01, if_pos h1, E_xm_isStack, ite01, if_neg h2, E_xm_fin 0 (by decide) (by decide)]
    exact H _ _ hR1
  have hb := hR.h19 h2
  rw [if_pos h2]
  unfold F_xg_setStack
  refine ⟨h2, h2, h1, ⟨by decide, by decide, by omega, by omega, by omega⟩, h1, h1, ?_⟩
  rw [show (10 : Int) + 9 = 19 from rfl, wr_eq, show (10 : Int) + 5 = 15 from rfl]
  unfold F_xm_like
  try dsimp only
  rw [E_xm_isStack, ite01, if_pos h1, E_xm_isStack, ite01, if_pos h2]
  refine ⟨_, L_xm_like h1 h2 7 0 _ (by decide) (fun M2 b1 b2 b3 => ?_)⟩
  have e44 := b3 0 (by decide) (by decide)
  rw [Int.add_zero, Int.add_zero, wr_ne (by decide), cpyM_ne (by omega)] at e44
  rw [e44, ← hb.1]
  have hs : SC 10 101 M2 := by
    refine hR.1.stk (st := a) (h := M 19 b) (by decide) h1 (fun c j c1 c2 c3 c4 => ?_) (fun j hj => ?_) ⟨?_, by rw [e44, hb.1], by omega, by omega⟩ (fun i i0 i1 => ?_)
    · rw [b1 c j (by omega), wr_at, if_neg (show ¬ (c = 19 ∧ j = a) by omega), cpyM_ne (by omega)]
    · rw [b2 j (by omega), wr_ne (by decide), cpyM_ne (by omega)]
    · rw [b1 _ _ (by decide)]; exact wr_eq
    · have q := b3 (i + 1) (by omega) (by omega)
      rw [wr_ne (by decide), cpyM_ne (by omega), show 44 + 7 * a + (i + 1) = 45 + 7 * a + i by omega, show 44 + 7 * b + (i + 1) = 45 + 7 * b + i by omega] at q
      have g := hR.row h2 (i := i) (by omega)
      rw [q, b1 _ _ (by omega), wr_ne (by omega), show (10 : Int) + 5 = 15 from rfl, cpyM_i0 ⟨i0, i1⟩]
      exact g
  exact H _ _ (hR.sc hs (fun c j _ h3 h4 => by rw [b1 c j h4, wr_ne (by omega), cpyM_ne (by omega)]))
theorem L_xs_round {Q : Int → cM → Prop} {c n : Int} {M : cM} (hn : 0 ≤ n ∧ n ≤ 6) (H : ∀ M', (∀ c' j, c' ≠ c → M' c' j = M c' j) → (∀ i, 0 ≤ i → i < n → M' c i = M c (n - 1 - i)) → Q n M') : ∀ (m k : Nat) (M1 : cM), (k : Int) + m = n / 2 → (∀ c' j, c' ≠ c → M1 c' j = M c' j) → (∀ i, 0 ≤ i → i < n → (i < k ∨ n - 1 - i < k → M1 c i = M c (n - 1 - i)) ∧ (¬ (i < k ∨ n - 1 - i < k) → M1 c i = M c i)) → F_xs_round_37 Q (m + 1) c n k M1 := by
  intro m
  induction m with
  | zero =>
    intro k M1 hk e1 e2
    unfold F_xs_round_37
    rw [tdn hn.1, w32_e (x := n / 2) (by omega) (by omega), if_pos (by omega)]
    refine H _ e1 (fun i i0 i1 => ?_)
    by_cases h : i < k ∨ n - 1 - i < k
    · exact (e2 i i0 i1).1 h
    · rw [(e2 i i0 i1).2 h]
      congr 1
      omega
  | succ m ih =>
    intro k M1 hk e1 e2
    unfold F_xs_round_37
    rw [tdn hn.1, w32_e (x := n / 2) (by omega) (by omega), if_neg (by omega), wE (by omega), w32_e (x := n - 1) (by omega) (by omega), w32_e (x := n - 1 - (k : Int)) (by omega) (by omega)]
    refine ⟨by omega, by omega, by omega, by omega, ?_⟩
    have q1 := (e2 k (by omega) (by omega)).2 (by omega)
    have q2 := (e2 (n - 1 - k) (by omega) (by omega)).2 (by omega)
    rw [q1, q2]
    refine ih (k + 1) _ (by omega) (fun c' j hc => by rw [wr_ne hc, wr_ne hc]; exact e1 c' j hc) (fun i i0 i1 => ⟨fun h => ?_, fun h => ?_⟩)
    · by_cases a1 : i = n - 1 - k
      · subst a1
        rw [wr_eq]
        congr 1
        omega
      · by_cases a2 : i = k
        · subst a2
          rw [wr_nj a1, wr_eq]
        · rw [wr_nj a1, wr_nj a2]
          exact (e2 i i0 i1).1 (by omega)
    · rw [wr_nj (by omega), wr_nj (by omega)]
      exact (e2 i i0 i1).2 (by omega)
theorem L_xm_round2 {Q : Int → cM → Prop} {st n : Int} (hs : 0 ≤ st ∧ st < 4) (hn : 0 ≤ n ∧ n ≤ 6) : ∀ (m k : Nat) (M : cM), (k : Int) + m = n → (∀ M' : cM, (∀ c j, c ≠ 101 → M' c j = M c j) → (∀ j : Int, j < 45 + 7 * st + k ∨ 45 + 7 * st + n ≤ j → M' 101 j = M 101 j) → (∀ i : Int, k ≤ i → i < n → M' 101 (45 + 7 * st + i) = M 105 i) → Q n M') → F_xm_round_51 Q (m + 1) st n k M := by
  intro m
  induction m with
  | zero =>
    intro k M hk H
    unfold F_xm_round_51
    rw [if_pos (by omega)]
    exact H M (fun _ _ _ => rfl) (fun _ _ => rfl) (fun j j0 j1 => by omega)
  | succ m ih =>
    intro k M hk H
    unfold F_xm_round_51
    rw [if_neg (by omega), wE (by omega), ix45 hs (by omega)]
    refine ⟨by omega, by omega, ?_⟩
    refine ih (k + 1) _ (by omega) (fun M' a1 a2 a3 => H M' (fun c j hc => ?_) (fun j hj => ?_) (fun i i0 i1 => ?_))
    · rw [a1 c j hc, wr_ne hc]
    · rw [a2 j (by omega), wr_nj (by omega)]
    · by_cases e : i = k
      · subst e
        rw [a2 _ (by omega), wr_eq]
      · rw [a3 i (by omega) i1, wr_ne (by decide)]
theorem L_xm_round1 {Q : Int → cM → Prop} {st n : Int} (hs : 0 ≤ st ∧ st < 4) (hn : 0 ≤ n ∧ n ≤ 6) : ∀ (m k : Nat) (M : cM), (k : Int) + m = n → (∀ M' : cM, (∀ c j, c ≠ 105 → M' c j = M c j) → (∀ j : Int, j < k → M' 105 j = M 105 j) → (∀ i : Int, k ≤ i → i < n → M' 105 i = M 101 (45 + 7 * st + (n - 1 - i))) → ∃ e51, F_xm_round_51 Q e51 st n 0 M') → F_xm_round_22 Q (m + 1) st n k M := by
  intro m
  induction m with
  | zero =>
    intro k M hk H
    unfold F_xm_round_22
    rw [if_pos (by omega)]
    exact H M (fun _ _ _ => rfl) (fun _ _ => rfl) (fun j j0 j1 => by omega)
  | succ m ih =>
    intro k M hk H
    unfold F_xm_round_22
    rw [if_neg (by omega), wE (by omega), w32_e (x := n - 1) (by omega) (by omega), w32_e (x := n - 1 - (k : Int)) (by omega) (by omega), E_xm_sheetIn hs (by omega)]
    refine ⟨by omega, ?_⟩
    refine ih (k + 1) _ (by omega) (fun M' a1 a2 a3 => H M' (fun c j hc => ?_) (fun j hj => ?_) (fun i i0 i1 => ?_))
    · rw [a1 c j hc, wr_ne hc]
    · rw [a2 j (by omega), wr_nj (by omega)]
    · by_cases e : i = k
      · subst e
        rw [a2 _ (by omega), wr_eq]
      · rw [a3 i (by omega) i1, wr_ne (by decide)]
theorem Z_round {P : Int → Int → cM → Prop} {M : cM} {a : Int} (hR : RR M) (H : ∀ r M', RR M' → P r r M') : F_xs_round (fun x M1 => F_xm_round (fun y M2 => P x y M2) a M1) a M := by
  unfold F_xs_round
  rw [E_xs_isStack, ite01]
  by_cases h1 : 0 ≤ a ∧ a < 4
  rotate_left
  · rw [if_neg h1]
    refine Z_err 0 (by decide) (by decide) hR (fun M1 e1 hR1 => ?_)
    unfold F_xm_round
    try dsimp only
    rw [E_xm_isStack, ite01, if_neg h1, E_xm_fin 0 (by decide) (by decide)]
    exact H _ _ hR1
  have hb := hR.h19 h1
  rw [if_pos h1]
  refine ⟨h1, h1, _, L_xs_round (by omega) (fun M1 a1 a2 => ?_) (M 19 a / 2).toNat 0 M (by omega) (fun _ _ _ => rfl) (fun i i0 i1 => ⟨fun h => absurd h (by omega), fun _ => rfl⟩)⟩
  have e101 : ∀ j, M1 101 j = M 101 j := fun j => a1 101 j (by omega)
  unfold F_xm_round
  try dsimp only
  rw [E_xm_isStack, ite01, if_pos h1, E_xm_manyIn h1, e101, ← hb.1]
  refine ⟨_, L_xm_round1 h1 (by omega) (M 19 a).toNat 0 M1 (by omega) (fun M2 b1 _ b3 => ?_)⟩
  refine ⟨_, L_xm_round2 h1 (by omega) (M 19 a).toNat 0 M2 (by omega) (fun M3 c1 c2 c3 => ?_)⟩
  have hs : SC 10 101 M3 := by
    refine hR.1.stk (st := a) (h := M 19 a) (by decide) h1 (fun c j c4 c5 c6 c7 => ?_) (fun j hj => ?_) ⟨?_, ?_, by omega, by omega⟩ (fun i i0 i1 => ?_)
    · rw [c1 c j (by omega), b1 c j (by omega), a1 c j (by omega)]
    · rw [c2 j (by omega), b1 _ _ (by decide), e101]
    · rw [c1 _ _ (by decide), b1 _ _ (by decide), a1 _ _ (by omega)]; rfl
    · rw [c2 _ (by omega), b1 _ _ (by decide), e101, hb.1]
    · have g := hR.row h1 (i := M 19 a - 1 - i) (by omega)
      have q := c3 i (by omega) i1
      rw [b3 i (by omega) i1, e101] at q
      rw [q, c1 _ _ (by omega), b1 _ _ (by omega), show (10 : Int) + 5 + a = 15 + a by omega, a2 i i0 i1]
      exact g
  refine H _ _ (hR.sc hs (fun c j hk h3 h4 => ?_))
  have h105 : c ≠ 105 := fun q => by unfold keep at hk; omega
  rw [c1 c j h4, b1 c j h105, a1 c j (by omega)]
