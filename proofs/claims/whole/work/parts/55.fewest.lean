/-! fewest: at most three sheets more. -/
def anyN (p : Int → Bool) : Nat → Bool
  | 0 => false
  | n + 1 => anyN p n || p n
theorem anyN_iff {p : Int → Bool} : ∀ n : Nat, anyN p n = true ↔ ∃ i : Int, 0 ≤ i ∧ i < n ∧ p i = true
  | 0 => by
    constructor
    · intro h; cases h
    · rintro ⟨i, h1, h2, -⟩; omega
  | n + 1 => by
    show (anyN p n || p n) = true ↔ _
    rw [Bool.or_eq_true, anyN_iff n]
    constructor
    · rintro (⟨i, h1, h2, h3⟩ | h)
      · exact ⟨i, h1, by omega, h3⟩
      · exact ⟨n, by omega, by omega, h⟩
    · rintro ⟨i, h1, h2, h3⟩
      by_cases e : i = n
      · rw [e] at h3; exact Or.inr h3
      · exact Or.inl ⟨i, h1, by omega, h3⟩
/-- just v is brought with k sheets more -/
def cbr (M : cM) (t v : Int) : Nat → Int × Int → Bool
  | 0, l => decide (zsee l.1 l.2 t = v)
  | k + 1, l => anyN (fun s => cbr M t v k (mst M 0 s l)) (M 101 0).toNat
theorem X_canBring {t v : Int} {M : cM} (hT : cosT M) (hS : SC 10 101 M) (ht : 0 ≤ t ∧ t ≤ 11) : ∀ (k x : Nat) (l : Int × Int) (Q : Int → cM → Prop), k ≤ 3 → lok l.1 l.2 → Q (if cbr M t v k l = true then 1 else 0) M → F_xs_canBring_n (k + 1 + x) Q 10 (encp l) t v k M := by
  have h0 := hS.1
  intro k
  induction k with
  | zero =>
    intro x l Q hk hl H
    rw [show 0 + 1 + x = x + 1 by omega]
    unfold F_xs_canBring_n F_xs_canBring_r encp
    rw [if_neg (by omega), E_xl_seenAt hT hl ht, narK40, narK41]
    unfold cbr at H
    by_cases hc : zsee l.1 l.2 t = v
    · rw [if_pos hc]
      rw [if_pos (by simp; omega)] at H
      exact H
    · rw [if_neg hc]
      rw [if_neg (by simp; omega)] at H
      exact H
  | succ k ih =>
    intro x l Q hk hl H
    rw [show k + 1 + 1 + x = (k + 1 + x) + 1 by omega]
    unfold F_xs_canBring_n F_xs_canBring_r
    rw [if_pos (by omega)]
    have loop : ∀ (m n : Nat), (n : Int) + m = M 101 0 → (∀ i : Int, 0 ≤ i → i < n → cbr M t v k (mst M 0 i l) = false) → F_xs_canBring_23 Q (F_xs_canBring_n (k + 1 + x)) 10 (m + 1) (encp l) t v ((k + 1 : Nat) : Int) n M := by
      intro m
      induction m with
      | zero =>
        intro n hn hp
        unfold F_xs_canBring_23
        rw [if_pos (by omega), narK40]
        have e : cbr M t v (k + 1) l = false := by
          show anyN (fun s => cbr M t v k (mst M 0 s l)) (M 101 0).toNat = false
          rw [← Bool.not_eq_true, anyN_iff]
          rintro ⟨i, h1, h2, h3⟩
          have := hp i h1 (by omega)
          rw [this] at h3; cases h3
        rw [e] at H
        exact H
      | succ m im =>
        intro n hn hp
        have sk := hS.sk (k := n) (by omega) (by omega)
        have sp := hS.sp (k := n) (bh := 0) (by omega) (by omega) l
        have o := xst_ok (bh := 0) hl sk
        unfold F_xs_canBring_23 encp
        rw [if_neg (by omega), E_bS hT hl sk, w32_e (x := ((k + 1 : Nat) : Int) - 1) (by omega) (by omega), w32_e (x := (n : Int) + 1) (by omega) (by omega), narK41]
        rw [show ((k + 1 : Nat) : Int) - 1 = (k : Int) by omega]
        refine ih x (xst M 10 0 n l) _ (by omega) o ?_
        rw [sp]
        by_cases hc : cbr M t v k (mst M 0 n l) = true
        · rw [if_pos hc, if_neg (by decide)]
          have e : cbr M t v (k + 1) l = true := by
            show anyN (fun s => cbr M t v k (mst M 0 s l)) (M 101 0).toNat = true
            rw [anyN_iff]
            exact ⟨n, by omega, by omega, hc⟩
          rw [e, if_pos rfl] at H
          exact H
        · rw [if_neg hc, if_pos rfl]
          refine im (n + 1) (by omega) (fun i i0 i1 => ?_)
          by_cases e : i = n
          · rw [e]; simpa using hc
          · exact hp i i0 (by omega)
    exact ⟨_, loop (M 101 0).toNat 0 (by omega) (fun i i0 i1 => by omega)⟩
/-- the least of 0 .. 3; 4: none -/
def lea (c : Nat → Bool) : Int := if c 0 = true then 0 else if c 1 = true then 1 else if c 2 = true then 2 else if c 3 = true then 3 else 4
theorem L_xs_fewest {Q : Int → cM → Prop} {t v : Int} {l : Int × Int} {M : cM} (hT : cosT M) (hS : SC 10 101 M) (hl : lok l.1 l.2) (ht : 0 ≤ t ∧ t ≤ 11) (H : lea (fun k => cbr M t v k l) ≤ 3 → Q (lea (fun k => cbr M t v k l)) M) (H4 : lea (fun k => cbr M t v k l) = 4 → F_xs_finding (fun x M1 => Q x M1) (-1000004) M) : F_xs_fewest_63 Q 5 t v (encp l) 0 M := by
  unfold lea at H H4
  unfold F_xs_fewest_63 F_xs_canBring
  rw [if_neg (by decide)]
  refine X_canBring hT hS ht 0 4 l _ (by decide) hl ?_
  by_cases c0 : cbr M t v 0 l = true
  · rw [if_pos c0, if_neg (by decide)]
    simp only [if_pos c0] at H
    exact H (by decide)
  rw [if_neg c0, if_pos rfl]
  simp only [if_neg c0] at H H4
  unfold F_xs_fewest_63 F_xs_canBring
  rw [show w32 (0 + 1) = ((1 : Nat) : Int) by decide, if_neg (by decide)]
  refine X_canBring hT hS ht 1 3 l _ (by decide) hl ?_
  by_cases c1 : cbr M t v 1 l = true
  · rw [if_pos c1, if_neg (by decide)]
    simp only [if_pos c1] at H
    exact H (by decide)
  rw [if_neg c1, if_pos rfl]
  simp only [if_neg c1] at H H4
  unfold F_xs_fewest_63 F_xs_canBring
  rw [show w32 (((1 : Nat) : Int) + 1) = ((2 : Nat) : Int) by decide, if_neg (by decide)]
  refine X_canBring hT hS ht 2 2 l _ (by decide) hl ?_
  by_cases c2 : cbr M t v 2 l = true
  · rw [if_pos c2, if_neg (by decide)]
    simp only [if_pos c2] at H
    exact H (by decide)
  rw [if_neg c2, if_pos rfl]
  simp only [if_neg c2] at H H4
  unfold F_xs_fewest_63 F_xs_canBring
  rw [show w32 (((2 : Nat) : Int) + 1) = ((3 : Nat) : Int) by decide, if_neg (by decide)]
  refine X_canBring hT hS ht 3 1 l _ (by decide) hl ?_
  by_cases c3 : cbr M t v 3 l = true
  · rw [if_pos c3, if_neg (by decide)]
    simp only [if_pos c3] at H
    exact H (by decide)
  rw [if_neg c3, if_pos rfl]
  simp only [if_neg c3] at H H4
  unfold F_xs_fewest_63
  rw [show w32 (((3 : Nat) : Int) + 1) = (4 : Int) by decide, if_pos (by decide)]
  exact H4 trivial
/-- the model: three nested rounds, from -1 on -/
def fo (g : Int → Int → Int) : Nat → Int → Int
  | 0, x => x
  | k + 1, x => g ((k : Int) - 1) (fo g k x)
def cnt (a b c : Int) : Int := (if 0 ≤ a then 1 else 0) + (if 0 ≤ b then 1 else 0) + (if 0 ≤ c then 1 else 0)
theorem cnt_b (a b c : Int) : 0 ≤ cnt a b c ∧ cnt a b c ≤ 3 := by
  unfold cnt
  split <;> split <;> split <;> omega
abbrev hit (M : cM) (t v : Int) (l : Int × Int) (a b c : Int) : Prop := zsee (wsh M c (wsh M b (wsh M a l))).1 (wsh M c (wsh M b (wsh M a l))).2 t = v
def g3 (M : cM) (t v : Int) (l : Int × Int) (a b c x : Int) : Int := if x ≤ cnt a b c then x else if hit M t v l a b c then cnt a b c else x
def g2 (M : cM) (t v : Int) (l : Int × Int) (N : Nat) (a b x : Int) : Int := fo (g3 M t v l a b) N x
def g1 (M : cM) (t v : Int) (l : Int × Int) (N : Nat) (a x : Int) : Int := fo (g2 M t v l N a) N x
/-- what a round does: never more, a witness, every hit counted -/
def rsp (g : Int → Int) (W : Int → Prop) (T : Int → Prop) : Prop := ∀ x, g x ≤ x ∧ (g x = x ∨ W (g x)) ∧ ∀ y, T y → g x ≤ y
theorem fo_rsp {g : Int → Int → Int} {W : Int → Prop} {T : Int → Int → Prop} : ∀ k : Nat, (∀ c : Int, -1 ≤ c → c + 1 < k → rsp (g c) W (T c)) → rsp (fo g k) W (fun y => ∃ c : Int, -1 ≤ c ∧ c + 1 < k ∧ T c y)
  | 0, _ => fun x => ⟨Int.le_refl _, Or.inl rfl, by rintro y ⟨c, h1, h2, -⟩; omega⟩
  | k + 1, h => fun x => by
    obtain ⟨a1, a2, a3⟩ := fo_rsp k (fun c h1 h2 => h c h1 (by omega)) x
    obtain ⟨b1, b2, b3⟩ := h ((k : Int) - 1) (by omega) (by omega) (fo g k x)
    refine ⟨Int.le_trans b1 a1, ?_, ?_⟩
    · show g _ (fo g k x) = x ∨ W (g _ (fo g k x))
      rcases b2 with e | w
      · rw [e]; exact a2
      · exact Or.inr w
    · rintro y ⟨c, h1, h2, h3⟩
      show g _ (fo g k x) ≤ y
      by_cases e : c = (k : Int) - 1
      · rw [e] at h3; exact b3 y h3
      · exact Int.le_trans b1 (a3 y ⟨c, h1, by omega, h3⟩)
theorem few_rsp (M : cM) (t v : Int) (l : Int × Int) (N : Nat) : rsp (fo (g1 M t v l N) N) (fun y => ∃ a b c : Int, (-1 ≤ a ∧ a + 1 < N) ∧ (-1 ≤ b ∧ b + 1 < N) ∧ (-1 ≤ c ∧ c + 1 < N) ∧ hit M t v l a b c ∧ cnt a b c = y) (fun y => ∃ a : Int, -1 ≤ a ∧ a + 1 < N ∧ ∃ b : Int, -1 ≤ b ∧ b + 1 < N ∧ ∃ c : Int, -1 ≤ c ∧ c + 1 < N ∧ (hit M t v l a b c ∧ cnt a b c = y)) := by
  refine fo_rsp N (fun a a1 a2 => ?_)
  refine fo_rsp N (fun b b1 b2 => ?_)
  refine fo_rsp N (fun c c1 c2 => ?_)
  intro x
  unfold g3
  by_cases h1 : x ≤ cnt a b c
  · rw [if_pos h1]
    exact ⟨Int.le_refl _, Or.inl rfl, by rintro y ⟨-, h⟩; omega⟩
  · rw [if_neg h1]
    by_cases h2 : hit M t v l a b c
    · rw [if_pos h2]
      exact ⟨by omega, Or.inr ⟨a, b, c, ⟨a1, by omega⟩, ⟨b1, by omega⟩, ⟨c1, by omega⟩, h2, rfl⟩, by rintro y ⟨-, h⟩; omega⟩
    · rw [if_neg h2]
      exact ⟨Int.le_refl _, Or.inl rfl, by rintro y ⟨h, -⟩; exact absurd h h2⟩
theorem hit_cbr {M : cM} {t v : Int} {l : Int × Int} {a b c : Int} (h0 : 0 ≤ M 101 0) (ha : -1 ≤ a ∧ a < M 101 0) (hb : -1 ≤ b ∧ b < M 101 0) (hc : -1 ≤ c ∧ c < M 101 0) (h : hit M t v l a b c) : ∃ k : Nat, (k : Int) = cnt a b c ∧ cbr M t v k l = true := by
  have s0 : ∀ l, zsee l.1 l.2 t = v → cbr M t v 0 l = true := fun l h => by unfold cbr; simpa using h
  have sS : ∀ (k : Nat) (s : Int) l, 0 ≤ s → s < M 101 0 → cbr M t v k (mst M 0 s l) = true → cbr M t v (k + 1) l = true := by
    intro k s l h1 h2 h3
    show anyN (fun s => cbr M t v k (mst M 0 s l)) (M 101 0).toNat = true
    rw [anyN_iff]
    exact ⟨s, h1, by omega, h3⟩
  unfold hit wsh at h
  unfold cnt
  by_cases a0 : a < 0 <;> by_cases b0 : b < 0 <;> by_cases c0 : c < 0
  · rw [if_pos a0, if_pos b0, if_pos c0] at h
    rw [if_neg (by omega), if_neg (by omega), if_neg (by omega)]
    exact ⟨0, rfl, s0 _ h⟩
  · rw [if_pos a0, if_pos b0, if_neg c0] at h
    rw [if_neg (by omega), if_neg (by omega), if_pos (by omega)]
    exact ⟨1, rfl, sS 0 c _ (by omega) (by omega) (s0 _ h)⟩
  · rw [if_pos a0, if_neg b0, if_pos c0] at h
    rw [if_neg (by omega), if_pos (by omega), if_neg (by omega)]
    exact ⟨1, rfl, sS 0 b _ (by omega) (by omega) (s0 _ h)⟩
  · rw [if_pos a0, if_neg b0, if_neg c0] at h
    rw [if_neg (by omega), if_pos (by omega), if_pos (by omega)]
    exact ⟨2, rfl, sS 1 b _ (by omega) (by omega) (sS 0 c _ (by omega) (by omega) (s0 _ h))⟩
  · rw [if_neg a0, if_pos b0, if_pos c0] at h
    rw [if_pos (by omega), if_neg (by omega), if_neg (by omega)]
    exact ⟨1, rfl, sS 0 a _ (by omega) (by omega) (s0 _ h)⟩
  · rw [if_neg a0, if_pos b0, if_neg c0] at h
    rw [if_pos (by omega), if_neg (by omega), if_pos (by omega)]
    exact ⟨2, rfl, sS 1 a _ (by omega) (by omega) (sS 0 c _ (by omega) (by omega) (s0 _ h))⟩
  · rw [if_neg a0, if_neg b0, if_pos c0] at h
    rw [if_pos (by omega), if_pos (by omega), if_neg (by omega)]
    exact ⟨2, rfl, sS 1 a _ (by omega) (by omega) (sS 0 b _ (by omega) (by omega) (s0 _ h))⟩
  · rw [if_neg a0, if_neg b0, if_neg c0] at h
    rw [if_pos (by omega), if_pos (by omega), if_pos (by omega)]
    exact ⟨3, rfl, sS 2 a _ (by omega) (by omega) (sS 1 b _ (by omega) (by omega) (sS 0 c _ (by omega) (by omega) (s0 _ h)))⟩
theorem cbr_hit {M : cM} {t v : Int} {l : Int × Int} (h0 : 0 ≤ M 101 0) (k : Nat) (hk : k ≤ 3) (h : cbr M t v k l = true) : ∃ a b c : Int, (-1 ≤ a ∧ a < M 101 0) ∧ (-1 ≤ b ∧ b < M 101 0) ∧ (-1 ≤ c ∧ c < M 101 0) ∧ hit M t v l a b c ∧ cnt a b c = k := by
  have s0 : ∀ l, cbr M t v 0 l = true → zsee l.1 l.2 t = v := fun l h => by unfold cbr at h; simpa using h
  have sS : ∀ (k : Nat) l, cbr M t v (k + 1) l = true → ∃ s : Int, 0 ≤ s ∧ s < M 101 0 ∧ cbr M t v k (mst M 0 s l) = true := by
    intro k l h
    have h : anyN (fun s => cbr M t v k (mst M 0 s l)) (M 101 0).toNat = true := h
    rw [anyN_iff] at h
    obtain ⟨s, h1, h2, h3⟩ := h
    exact ⟨s, h1, by omega, h3⟩
  have k4 : k = 0 ∨ k = 1 ∨ k = 2 ∨ k = 3 := by omega
  rcases k4 with rfl | rfl | rfl | rfl
  · refine ⟨-1, -1, -1, by omega, by omega, by omega, ?_, rfl⟩
    unfold hit wsh
    simp only [show ((-1 : Int) < 0) by decide, if_true]
    exact s0 _ h
  · obtain ⟨a, a0, a1, h⟩ := sS _ _ h
    refine ⟨a, -1, -1, by omega, by omega, by omega, ?_, ?_⟩
    · unfold hit wsh
      simp only [show ((-1 : Int) < 0) by decide, if_true, if_neg (show ¬ (a < 0) by omega)]
      exact s0 _ h
    · unfold cnt; rw [if_pos a0, if_neg (by decide)]; rfl
  · obtain ⟨a, a0, a1, h⟩ := sS _ _ h
    obtain ⟨b, b0, b1, h⟩ := sS _ _ h
    refine ⟨a, b, -1, by omega, by omega, by omega, ?_, ?_⟩
    · unfold hit wsh
      simp only [show ((-1 : Int) < 0) by decide, if_true, if_neg (show ¬ (a < 0) by omega), if_neg (show ¬ (b < 0) by omega)]
      exact s0 _ h
    · unfold cnt; rw [if_pos a0, if_pos b0, if_neg (by decide)]; rfl
  · obtain ⟨a, a0, a1, h⟩ := sS _ _ h
    obtain ⟨b, b0, b1, h⟩ := sS _ _ h
    obtain ⟨c, c0, c1, h⟩ := sS _ _ h
    refine ⟨a, b, c, by omega, by omega, by omega, ?_, ?_⟩
    · unfold hit wsh
      simp only [if_neg (show ¬ (a < 0) by omega), if_neg (show ¬ (b < 0) by omega), if_neg (show ¬ (c < 0) by omega)]
      exact s0 _ h
    · unfold cnt; rw [if_pos a0, if_pos b0, if_pos c0]; rfl
theorem few_eq {M : cM} {t v : Int} {l : Int × Int} (h0 : 0 ≤ M 101 0) : fo (g1 M t v l ((M 101 0).toNat + 1)) ((M 101 0).toNat + 1) 4 = lea (fun k => cbr M t v k l) := by
  obtain ⟨r1, r2, r3⟩ := few_rsp M t v l ((M 101 0).toNat + 1) 4
  generalize fo (g1 M t v l ((M 101 0).toNat + 1)) ((M 101 0).toNat + 1) 4 = B at *
  have up : ∀ k : Nat, k ≤ 3 → cbr M t v k l = true → B ≤ k := by
    intro k hk h
    obtain ⟨a, b, c, ha, hb, hc, h1, h2⟩ := cbr_hit h0 k hk h
    exact r3 k ⟨a, by omega, by omega, b, by omega, by omega, c, by omega, by omega, h1, h2⟩
  have dn : B = 4 ∨ ∃ k : Nat, (k : Int) = B ∧ k ≤ 3 ∧ cbr M t v k l = true := by
    rcases r2 with e | ⟨a, b, c, ha, hb, hc, h1, h2⟩
    · exact Or.inl e
    · obtain ⟨k, hk, hc2⟩ := hit_cbr h0 (by omega) (by omega) (by omega) h1
      have := cnt_b a b c
      exact Or.inr ⟨k, by omega, by omega, hc2⟩
  have cl : ∀ k : Nat, k ≤ 3 → (∀ j, j < k → cbr M t v j l ≠ true) → cbr M t v k l = true → B = k := by
    intro k hk hl h
    have u := up k hk h
    rcases dn with e | ⟨j, h1, h2, h3⟩
    · omega
    · by_cases hj : j < k
      · exact absurd h3 (hl j hj)
      · omega
  unfold lea
  by_cases c0 : cbr M t v 0 l = true
  · simp only [if_pos c0]; exact cl 0 (by decide) (fun j hj => by omega) c0
  by_cases c1 : cbr M t v 1 l = true
  · simp only [if_neg c0, if_pos c1]
    exact cl 1 (by decide) (fun j hj => by rw [show j = 0 by omega]; exact c0) c1
  by_cases c2 : cbr M t v 2 l = true
  · simp only [if_neg c0, if_neg c1, if_pos c2]
    refine cl 2 (by decide) (fun j hj => ?_) c2
    have : j = 0 ∨ j = 1 := by omega
    rcases this with rfl | rfl
    · exact c0
    · exact c1
  by_cases c3 : cbr M t v 3 l = true
  · simp only [if_neg c0, if_neg c1, if_neg c2, if_pos c3]
    refine cl 3 (by decide) (fun j hj => ?_) c3
    have : j = 0 ∨ j = 1 ∨ j = 2 := by omega
    rcases this with rfl | rfl | rfl
    · exact c0
    · exact c1
    · exact c2
  · simp only [if_neg c0, if_neg c1, if_neg c2, if_neg c3]
    rcases dn with e | ⟨j, h1, h2, h3⟩
    · exact e
    · have : j = 0 ∨ j = 1 ∨ j = 2 ∨ j = 3 := by omega
      rcases this with rfl | rfl | rfl | rfl
      · exact absurd h3 c0
      · exact absurd h3 c1
      · exact absurd h3 c2
      · exact absurd h3 c3
