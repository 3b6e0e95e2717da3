/-! Items of a text. -/
def gA (A A' : cM) : Prop := ∀ c j, c ≠ 72 → c ≠ 73 → ¬ (50 ≤ c ∧ c ≤ 62) → A' c j = A c j
def gB (B B' : cM) : Prop := ∀ c j, ¬ (c = 100 ∧ 13 ≤ j ∧ j ≤ 16) → c ≠ 101 → B' c j = B c j
theorem gA.rf (A : cM) : gA A A := fun _ _ _ _ _ => rfl
theorem gB.rf (A : cM) : gB A A := fun _ _ _ _ => rfl
theorem gA.tr {A A1 A2 : cM} (h : gA A A1) (h' : gA A1 A2) : gA A A2 := fun c j a b d => (h' c j a b d).trans (h c j a b d)
theorem gB.tr {A A1 A2 : cM} (h : gB A A1) (h' : gB A1 A2) : gB A A2 := fun c j a b => (h' c j a b).trans (h c j a b)
theorem fA.g {A A' : cM} (h : fA A A') : gA A A' := fun c j a _ _ => h c j a
theorem fB.g {A A' : cM} (h : fB A A') : gB A A' := fun c j a _ => h c j a
theorem gA.w {A A1 : cM} {c j v : Int} (h : gA A A1) (hc : c = 73 ∨ (50 ≤ c ∧ c ≤ 62)) : gA A (wr A1 c j v) := fun c' j' a b d => by
  rw [wr_ne (by omega)]
  exact h c' j' a b d
theorem gB.w {A A1 : cM} {j v : Int} (h : gB A A1) : gB A (wr A1 101 j v) := fun c' j' a b => by
  rw [wr_ne b]
  exact h c' j' a b
/-- an item read by both, well or not -/
def ITM (A B : cM) (L s : Nat) (F : (Int → cM → Prop) → cM → Prop) (G : (cM → Prop) → cM → Prop) : Prop :=
  (∃ (A' B' : cM) (s' e' : Nat), xr F A A' 1 ∧ yq G B B' ∧ TKR A' B' L s' e' ∧ s ≤ s' ∧ SC 50 101 (mx A' B') ∧ B' 100 16 = 0 ∧ gA A A' ∧ gB B B') ∨
  (∃ (A' B' : cM) (f e' : Nat), xr F A A' 0 ∧ yq G B B' ∧ A' 72 4 = f ∧ BW B' L f e' ∧ gA A A' ∧ gB B B')
theorem ITM.tr {A B A1 B1 : cM} {L s s1 : Nat} {F F1 : (Int → cM → Prop) → cM → Prop} {G G1 : (cM → Prop) → cM → Prop} (h : ITM A1 B1 L s1 F1 G1) (hs : s ≤ s1) (ha : gA A A1) (hb : gB B B1) (hF : ∀ A' r, xr F1 A1 A' r → xr F A A' r) (hG : ∀ B', yq G1 B1 B' → yq G B B') : ITM A B L s F G := by
  rcases h with ⟨A', B', s', e', h1, h2, h3, h4, h5, h6, h7, h8⟩ | ⟨A', B', f, e', h1, h2, h3, h4, h5, h6⟩
  · exact Or.inl ⟨A', B', s', e', hF _ _ h1, hG _ h2, h3, by omega, h5, h6, ha.tr h7, hb.tr h8⟩
  · exact Or.inr ⟨A', B', f, e', hF _ _ h1, hG _ h2, h3, h4, ha.tr h5, hb.tr h6⟩
theorem SC.fr2 {A B A' B' : cM} (h : SC 50 101 (mx A B)) (ha : ∀ c j, 50 ≤ c → c ≤ 62 → A' c j = A c j) (hb : ∀ j, B' 101 j = B 101 j) : SC 50 101 (mx A' B') :=
  SC.kp (fun k j k0 k1 => by rw [mx_lt (by omega), mx_lt (by omega)]; exact ha _ _ (by omega) (by omega)) (fun j => by rw [mx_ge (by decide), mx_ge (by decide)]; exact hb j) h
theorem SC.fAB {A B A' B' : cM} (h : SC 50 101 (mx A B)) (ha : fA A A') (hb : fB B B') : SC 50 101 (mx A' B') := h.fr2 (fun c j _ _ => ha c j (by omega)) (fun j => hb 101 j (by omega))
theorem Y_addSheet {Q : Int → cM → Prop} {b k t p n : Int} {M : cM} (hb : 0 ≤ b ∧ b ≤ 50) (hn : M b 0 = n) (h : 0 ≤ n ∧ n < 10) (H : Q n (wr (wr (wr (wr M (b + 1) n k) (b + 2) n t) (b + 3) n p) b 0 (n + 1))) : F_xg_addSheet Q b k t p M := by
  unfold F_xg_addSheet
  simp (disch := omega) only [wr_ne, wr_nj, wr_eq, hn, w32_e]
  rw [show n + 1 - 1 = n by omega]
  exact ⟨h, h, h, H⟩
theorem Y_newSheet {Q : Int → cM → Prop} {k t p n : Int} {M : cM} (hn : M 101 0 = n) (h : 0 ≤ n ∧ n < 10) (H : Q n (wr (wr (wr (wr M 101 (14 + 3 * n) k) 101 (15 + 3 * n) t) 101 (16 + 3 * n) p) 101 0 (n + 1))) : F_xm_newSheet Q k t p M := by
  unfold F_xm_newSheet
  simp (disch := omega) only [wr_ne, wr_nj, wr_eq, hn, w32_e]
  rw [show n + 1 - 1 = n by omega, show 14 + 3 * n + 1 = 15 + 3 * n by omega, show 14 + 3 * n + 2 = 16 + 3 * n by omega]
  exact ⟨by omega, by omega, by omega, H⟩
theorem I_C {A B : cM} {L s e : Nat} {k t p : Int} (hK : TKR A B L s e) (hw : B 100 16 = 0) (hS : SC 50 101 (mx A B)) (hN : B 101 0 < 10) (hk : 0 ≤ k ∧ k ≤ 6) (ht : 0 ≤ t ∧ t ≤ 11) (hp : 0 ≤ p ∧ p ≤ 1000) : ITM A B L s (fun Q M => F_xq_sheetItem_75 Q k t p M) (fun Q M => F_xm_sheetItem_83 Q k t p M) := by
  have h0 : A 50 0 = B 101 0 ∧ 0 ≤ B 101 0 ∧ B 101 0 ≤ 10 := hS.1
  refine Or.inl ⟨wr (wr (wr (wr A (50 + 1) (B 101 0) k) (50 + 2) (B 101 0) t) (50 + 3) (B 101 0) p) 50 0 (B 101 0 + 1), wr (wr (wr (wr B 101 (14 + 3 * B 101 0) k) 101 (15 + 3 * B 101 0) t) 101 (16 + 3 * B 101 0) p) 101 0 (B 101 0 + 1), s, e, fun X Q hX H => ?_, fun X Q H => ?_, ?_, Nat.le_refl _, ?_, ?_, ?_, ?_⟩
  · show F_xq_sheetItem_75 Q k t p (mx A X)
    unfold F_xq_sheetItem_75
    rw [if_pos hp.1]
    refine Y_addSheet (n := B 101 0) (by decide) (by rw [mx_lt (by decide)]; exact h0.1) ⟨h0.2.1, hN⟩ ?_
    rw [narK41, mx_wl (by decide), mx_wl (by decide), mx_wl (by decide), mx_wl (by decide)]
    exact H
  · show F_xm_sheetItem_83 Q k t p (mx X B)
    unfold F_xm_sheetItem_83
    rw [mx_ge (by decide), if_pos hw]
    refine Y_newSheet (n := B 101 0) (mx_ge (by decide)) ⟨h0.2.1, hN⟩ ?_
    rw [mx_wr (by decide), mx_wr (by decide), mx_wr (by decide), mx_wr (by decide)]
    exact H
  · refine (hK.kpA (fun c j h1 h2 => ?_)).kpB (fun j => ?_) (fun j _ => ?_)
    · rw [wr_ne (by omega), wr_ne (by omega), wr_ne (by omega), wr_ne (by omega)]
    · rw [wr_ne (by decide), wr_ne (by decide), wr_ne (by decide), wr_ne (by decide)]
    · rw [wr_ne (by decide), wr_ne (by decide), wr_ne (by decide), wr_ne (by decide)]
  · have := U_sheet (n := B 101 0) (kd := k) (tn := t) (ps := p) (by decide) hS (mx_ge (by decide)) hN hk ht hp
    rw [mx_wl (by decide), mx_wl (by decide), mx_wl (by decide), mx_wl (by decide), mx_wr (by decide), mx_wr (by decide), mx_wr (by decide), mx_wr (by decide)] at this
    exact this
  · rw [wr_ne (by decide), wr_ne (by decide), wr_ne (by decide), wr_ne (by decide)]; exact hw
  · exact ((((gA.rf A).w (by decide)).w (by decide)).w (by decide)).w (by decide)
  · exact (gB.rf B).w.w.w.w
theorem wcK : wco 0 = 20579435 ∧ wco 1 = 394672 ∧ wco 2 = 13951140 ∧ wco 3 = 20317652 ∧ wco 4 = 408612 ∧ wco 5 = 211177650 ∧ wco 6 = 693713074 ∧ wco 7 = 263558 ∧ wco 8 = 20364645 ∧ wco 9 = 278094 ∧ wco 10 = 659096878 ∧ wco 11 = 20190388 ∧ wco 12 = 677454 ∧ wco 13 = 525939 := by decide +kernel
theorem wco_inj : ∀ i : Nat, i < 14 → ∀ j : Nat, j < 14 → wco i = wco j → i = j := by decide +kernel
theorem W_83 {B : cM} {L f e : Nat} {k t p : Int} (hK : BW B L f e) : yq (fun Q M => F_xm_sheetItem_83 Q k t p M) B B := fun X Q H => by
  show F_xm_sheetItem_83 Q k t p (mx X B)
  have h16 := hK.2.2.2.2.2.2.2
  unfold F_xm_sheetItem_83
  rw [mx_ge (by decide), if_neg (by omega)]
  exact H
theorem W_54 {B : cM} {L f e : Nat} {k t p : Int} (hK : BW B L f e) : yq (fun Q M => F_xm_sheetItem_54 Q k t p M) B B := fun X Q H => by
  show F_xm_sheetItem_54 Q k t p (mx X B)
  unfold F_xm_sheetItem_54
  refine W_word hK ?_
  rw [if_neg (by decide)]
  exact W_83 hK X Q H
theorem K_54y {A B B1 : cM} {L s e : Nat} {k t p : Int} (hK : TKR A B L s e) (hw : B 100 16 = 0) (h : isW B L s e 13 = true) (hn : yq F_xm_token B B1) (B' : cM) (h' : yq (fun Q M => F_xm_number (fun M20 => F_xm_sheetItem_83 Q k t (M20 100 15) M20) 0 1000 M) B1 B') : yq (fun Q M => F_xm_sheetItem_54 Q k t p M) B B' := fun X Q H => by
  show F_xm_sheetItem_54 Q k t p (mx X B)
  unfold F_xm_sheetItem_54
  refine K_word hK ?_
  rw [if_pos ((E_wcmp wcK.2.2.2.2.2.2.2.2.2.2.2.2.2).mpr ((J_word hK hw (by decide)).mpr h))]
  exact Y_needs1 hw hn X _ (h' X Q H)
theorem K_54n {A B : cM} {L s e : Nat} {k t p : Int} (hK : TKR A B L s e) (hw : B 100 16 = 0) (h : ¬ isW B L s e 13 = true) (B' : cM) (h' : yq (fun Q M => F_xm_sheetItem_83 Q k t p M) B B') : yq (fun Q M => F_xm_sheetItem_54 Q k t p M) B B' := fun X Q H => by
  show F_xm_sheetItem_54 Q k t p (mx X B)
  unfold F_xm_sheetItem_54
  refine K_word hK ?_
  rw [if_neg (fun z => h ((J_word hK hw (by decide)).mp ((E_wcmp wcK.2.2.2.2.2.2.2.2.2.2.2.2.2).mp z)))]
  exact h' X Q H
theorem I_B {A B : cM} {L s e : Nat} {k t : Int} (hK : TKR A B L s e) (hw : B 100 16 = 0) (hS : SC 50 101 (mx A B)) (hN : B 101 0 < 10) (hk : 0 ≤ k ∧ k ≤ 6) (ht : 0 ≤ t ∧ t ≤ 11) : ITM A B L s (fun Q M => F_xq_sheetItem_46 Q k t M) (fun Q M => F_xm_sheetItem_54 Q k t 1000 M) := by
  have hb := hK.b
  by_cases q : isW B L s e 13 = true
  rotate_left
  · refine (I_C hK hw hS hN hk ht (p := 1000) (by decide)).tr (Nat.le_refl _) (gA.rf A) (gB.rf B) (fun A' r h X Q hX H => ?_) (K_54n hK hw q)
    show F_xq_sheetItem_46 Q k t (mx A X)
    unfold F_xq_sheetItem_46
    rw [if_pos ht.1]
    refine X_tWn hK (by decide) q X _ hX ?_
    rw [if_pos rfl]
    exact h X Q hX H
  · obtain ⟨A1, B1, s1, n1, n2, n3, n4, n5, n6, n7, n8, n9⟩ := J_next hK.1 hK.2.1.2.1 hK.2.1.2.2.2 hb.2.1
    have c1 : ∀ A' r, xr (fun Q M => F_xq_takeNumber (fun x23 M22 => F_xq_sheetItem_75 Q k t x23 M22) 1000 M) A1 A' r → xr (fun Q M => F_xq_sheetItem_46 Q k t M) A A' r := fun A' r h X Q hX H => by
      show F_xq_sheetItem_46 Q k t (mx A X)
      unfold F_xq_sheetItem_46
      rw [if_pos ht.1]
      refine X_tWy hK (by decide) q n1 X _ hX ?_
      rw [if_neg (by decide)]
      exact h X Q hX H
    rcases J_number (most := 1000) n3 (by rw [n8]; exact hw) (by decide) with ⟨A2, B2, r, s2, e2, m1, m2, m3, m4, m5, m6, m7, m8, m9, m10⟩ | ⟨m1, B2, m2, m3, m4, m5, m6⟩
    · refine (I_C (t := t) m5 m10 ((hS.fAB n6 n7).fAB m7 m8) (by rw [m8 101 0 (by omega), n7 101 0 (by omega)]; exact hN) hk ht ⟨m1, m2⟩).tr (show s ≤ s2 by omega) (n6.g.tr m7.g) (n7.g.tr m8.g) (fun A' r' h => c1 A' r' (fun X Q hX H => ?_)) (fun B' h => K_54y hK hw q n2 B' (fun X Q H => ?_))
      · exact m3 X _ hX (h X Q hX H)
      · refine m4 X _ ?_
        rw [mx_ge (by decide), m9]
        exact h X Q H
    · refine Or.inr ⟨A1, B2, s1, tke (tyB B) L s1, c1 A1 0 (fun X Q hX H => ?_), K_54y hK hw q n2 B2 (fun X Q H => ?_), n3.2.1.1, n3.bw m6 m3 m4 m5, n6.g, n7.g.tr m6.g⟩
      · refine m1 X _ hX ?_
        unfold F_xq_sheetItem_75
        rw [if_neg (by decide), narK40]
        exact H
      · exact m2 X _ (W_83 (n3.bw m6 m3 m4 m5) X Q H)
theorem I_A {A B : cM} {L s e : Nat} {k : Int} (hK : TKR A B L s e) (hw : B 100 16 = 0) (hS : SC 50 101 (mx A B)) (hN : B 101 0 < 10) (hk : 0 ≤ k ∧ k ≤ 6) : ITM A B L s (fun Q M => F_xq_takeWord (fun x10 M9 => if x10 = 0 then (F_xq_sheetItem_46 Q k 0 M9) else (F_xq_takeNumber (fun x26 M25 => F_xq_sheetItem_46 Q k x26 M25) 11 M9)) 12 M) (fun Q M => F_xm_word (fun x6 M5 => if (zlcmp x6 677454) = 0 then (F_xm_needs (fun M23 => F_xm_number (fun M26 => F_xm_sheetItem_54 Q k (M26 100 15) 1000 M26) 0 11 M23) 1 M5) else (F_xm_sheetItem_54 Q k 0 1000 M5)) M) := by
  have hb := hK.b
  have e12 : wco 12 = 677454 := wcK.2.2.2.2.2.2.2.2.2.2.2.2.1
  by_cases q : isW B L s e 12 = true
  rotate_left
  · refine (I_B hK hw hS hN hk (t := 0) (by decide)).tr (Nat.le_refl _) (gA.rf A) (gB.rf B) (fun A' r h X Q hX H => ?_) (fun B' h X Q H => ?_)
    · refine X_tWn hK (by decide) q X _ hX ?_
      rw [if_pos rfl]
      exact h X Q hX H
    · refine K_word hK ?_
      rw [if_neg (fun z => q ((J_word hK hw (by decide)).mp ((E_wcmp e12).mp z)))]
      exact h X Q H
  · obtain ⟨A1, B1, s1, n1, n2, n3, n4, n5, n6, n7, n8, n9⟩ := J_next hK.1 hK.2.1.2.1 hK.2.1.2.2.2 hb.2.1
    rcases J_number (most := 11) n3 (by rw [n8]; exact hw) (by decide) with ⟨A2, B2, r, s2, e2, m1, m2, m3, m4, m5, m6, m7, m8, m9, m10⟩ | ⟨m1, B2, m2, m3, m4, m5, m6⟩
    · refine (I_B m5 m10 ((hS.fAB n6 n7).fAB m7 m8) (by rw [m8 101 0 (by omega), n7 101 0 (by omega)]; exact hN) hk (t := r) ⟨m1, m2⟩).tr (show s ≤ s2 by omega) (n6.g.tr m7.g) (n7.g.tr m8.g) (fun A' r' h X Q hX H => ?_) (fun B' h X Q H => ?_)
      · refine X_tWy hK (by decide) q n1 X _ hX ?_
        rw [if_neg (by decide)]
        exact m3 X _ hX (h X Q hX H)
      · refine K_word hK ?_
        rw [if_pos ((E_wcmp e12).mpr ((J_word hK hw (by decide)).mpr q))]
        refine Y_needs1 hw n2 X _ (m4 X _ ?_)
        rw [mx_ge (by decide), m9]
        exact h X Q H
    · refine Or.inr ⟨A1, B2, s1, tke (tyB B) L s1, fun X Q hX H => ?_, fun X Q H => ?_, n3.2.1.1, n3.bw m6 m3 m4 m5, n6.g, n7.g.tr m6.g⟩
      · refine X_tWy hK (by decide) q n1 X _ hX ?_
        rw [if_neg (by decide)]
        refine m1 X _ hX ?_
        unfold F_xq_sheetItem_46
        rw [if_neg (by decide), narK40]
        exact H
      · refine K_word hK ?_
        rw [if_pos ((E_wcmp e12).mpr ((J_word hK hw (by decide)).mpr q))]
        refine Y_needs1 hw n2 X _ (m2 X _ ?_)
        exact W_54 (n3.bw m6 m3 m4 m5) X Q H
/-- the kind at hand -/
def kw (k : Nat) : Nat := if k = 0 then 11 else 4 + k
def kdn (p : Nat → Bool) : Nat → Nat → Int
  | 0, _ => -1
  | m + 1, k => if p (kw k) = true then (k : Int) else kdn p m (k + 1)
theorem kdn_b (p : Nat → Bool) : ∀ m k : Nat, kdn p m k = -1 ∨ ∃ j, k ≤ j ∧ j < k + m ∧ kdn p m k = j ∧ p (kw j) = true
  | 0, k => Or.inl rfl
  | m + 1, k => by
    unfold kdn
    by_cases q : p (kw k) = true
    · rw [if_pos q]; exact Or.inr ⟨k, Nat.le_refl _, by omega, rfl, q⟩
    · rw [if_neg q]
      rcases kdn_b p m (k + 1) with h | ⟨j, h1, h2, h3, h4⟩
      · exact Or.inl h
      · exact Or.inr ⟨j, by omega, by omega, h3, h4⟩
theorem E_wordOf {Q : Nat → cM → Prop} {k : Nat} {M : cM} (hk : k < 7) : F_xq_wordOf Q k M = Q (kw k) M := by
  have hc : k = 0 ∨ k = 1 ∨ k = 2 ∨ k = 3 ∨ k = 4 ∨ k = 5 ∨ k = 6 := by omega
  rcases hc with rfl | rfl | rfl | rfl | rfl | rfl | rfl <;> rfl
theorem kw_lt {k : Nat} (hk : k < 7) : kw k < 14 := by unfold kw; split <;> omega
theorem L_kind {Q : Int → cM → Prop} {A B X : cM} {L s e : Nat} (hX : TB X) (hK : TKR A B L s e) : ∀ (m k : Nat), k + m = 7 → Q (kdn (isW B L s e) m k) (mx A X) → F_xq_kindAtHand_2 Q (m + 1) k (mx A X) := by
  intro m
  induction m with
  | zero =>
    intro k hk H
    unfold F_xq_kindAtHand_2
    rw [if_pos (by omega)]
    exact H
  | succ m ih =>
    intro k hk H
    unfold F_xq_kindAtHand_2
    rw [if_neg (by omega), E_wordOf (by omega), wE (by omega)]
    refine ⟨kw_lt (by omega), X_isWord hX hK (kw_lt (by omega)) ?_⟩
    rw [ite01]
    unfold kdn at H
    by_cases q : isW B L s e (kw k) = true
    · rw [if_pos q] at H ⊢; exact H
    · rw [if_neg q] at H ⊢; exact ih (k + 1) (by omega) H
theorem X_kind {Q : Int → cM → Prop} {A B X : cM} {L s e : Nat} (hX : TB X) (hK : TKR A B L s e) (H : Q (kdn (isW B L s e) 7 0) (mx A X)) : F_xq_kindAtHand Q (mx A X) := by
  unfold F_xq_kindAtHand
  exact ⟨_, L_kind hX hK 7 0 (by decide) H⟩
theorem K_kind {Q : Int → cM → Prop} {A B X : cM} {L s e : Nat} (hK : TKR A B L s e) (hw : B 100 16 = 0) (H : Q (kdn (isW B L s e) 7 0) (mx X B)) : F_xm_kindHere Q (mx X B) := by
  obtain ⟨c0, c1, c2, c3, c4, c5, c6, c7, c8, c9, c10, c11, c12, c13⟩ := wcK
  have j : ∀ (k0 : Nat) (c : Int), k0 < 14 → wco k0 = c → (zlcmp (wcd B L s e) c = 0 ↔ isW B L s e k0 = true) := fun k0 c hk hc => (E_wcmp hc).trans (J_word hK hw hk)
  unfold F_xm_kindHere
  refine K_word hK ?_
  unfold kdn kdn kdn kdn kdn kdn kdn kdn at H
  rw [show kw (0) = 11 from rfl] at H
  by_cases a0 : isW B L s e 11 = true
  · rw [if_pos ((j 11 _ (by decide) c11).mpr a0)]
    rw [if_pos a0] at H
    exact H
  rw [if_neg (fun z => a0 ((j 11 _ (by decide) c11).mp z))]
  rw [if_neg a0] at H
  rw [show kw (0 + 1) = 5 from rfl] at H
  by_cases a1 : isW B L s e 5 = true
  · rw [if_pos ((j 5 _ (by decide) c5).mpr a1)]
    rw [if_pos a1] at H
    exact H
  rw [if_neg (fun z => a1 ((j 5 _ (by decide) c5).mp z))]
  rw [if_neg a1] at H
  rw [show kw (0 + 1 + 1) = 6 from rfl] at H
  by_cases a2 : isW B L s e 6 = true
  · rw [if_pos ((j 6 _ (by decide) c6).mpr a2)]
    rw [if_pos a2] at H
    exact H
  rw [if_neg (fun z => a2 ((j 6 _ (by decide) c6).mp z))]
  rw [if_neg a2] at H
  rw [show kw (0 + 1 + 1 + 1) = 7 from rfl] at H
  by_cases a3 : isW B L s e 7 = true
  · rw [if_pos ((j 7 _ (by decide) c7).mpr a3)]
    rw [if_pos a3] at H
    exact H
  rw [if_neg (fun z => a3 ((j 7 _ (by decide) c7).mp z))]
  rw [if_neg a3] at H
  rw [show kw (0 + 1 + 1 + 1 + 1) = 8 from rfl] at H
  by_cases a4 : isW B L s e 8 = true
  · rw [if_pos ((j 8 _ (by decide) c8).mpr a4)]
    rw [if_pos a4] at H
    exact H
  rw [if_neg (fun z => a4 ((j 8 _ (by decide) c8).mp z))]
  rw [if_neg a4] at H
  rw [show kw (0 + 1 + 1 + 1 + 1 + 1) = 9 from rfl] at H
  by_cases a5 : isW B L s e 9 = true
  · rw [if_pos ((j 9 _ (by decide) c9).mpr a5)]
    rw [if_pos a5] at H
    exact H
  rw [if_neg (fun z => a5 ((j 9 _ (by decide) c9).mp z))]
  rw [if_neg a5] at H
  rw [show kw (0 + 1 + 1 + 1 + 1 + 1 + 1) = 10 from rfl] at H
  by_cases a6 : isW B L s e 10 = true
  · rw [if_pos ((j 10 _ (by decide) c10).mpr a6)]
    rw [if_pos a6] at H
    exact H
  rw [if_neg (fun z => a6 ((j 10 _ (by decide) c10).mp z))]
  rw [if_neg a6] at H
  exact H
theorem isW_uq {A B : cM} {L s e i j : Nat} (hK : TKR A B L s e) (hw : B 100 16 = 0) (hi : i < 14) (hj : j < 14) (h1 : isW B L s e i = true) (h2 : isW B L s e j = true) : i = j :=
  wco_inj i hi j hj (((J_word hK hw hi).mpr h1).symm.trans ((J_word hK hw hj).mpr h2))
theorem isW_lt {A B : cM} {L s e k0 : Nat} (hK : TKR A B L s e) (h : isW B L s e k0 = true) : s < e := by
  have hb := hK.b
  unfold isW at h
  rw [Bool.and_eq_true, Bool.and_eq_true, decide_eq_true_eq] at h
  have q := h.1.1
  refine hb.2.2.2 ?_
  by_cases z : s < L
  · exact z
  · unfold tkt at q; rw [if_neg z] at q; cases q
theorem kd_none {A B : cM} {L s e k0 : Nat} (hK : TKR A B L s e) (hw : B 100 16 = 0) (hk : k0 = 0 ∨ k0 = 1 ∨ k0 = 4) (h : isW B L s e k0 = true) : kdn (isW B L s e) 7 0 = -1 := by
  rcases kdn_b (isW B L s e) 7 0 with g | ⟨j, g1, g2, g3, g4⟩
  · exact g
  · have := isW_uq hK hw (kw_lt (show j < 7 by omega)) (show k0 < 14 by omega) g4 h
    unfold kw at this
    split at this <;> omega
/-- a sheet -/
theorem I_sheet {A B : cM} {L s e : Nat} (hK : TKR A B L s e) (hw : B 100 16 = 0) (hS : SC 50 101 (mx A B)) (hk : 0 ≤ kdn (isW B L s e) 7 0) : ITM A B L (s + 1) (fun Q M => F_xq_sheetItem Q M) (fun Q M => F_xm_sheetItem (fun M30 => Q M30) (kdn (isW B L s e) 7 0) M) := by
  have hb := hK.b
  have h0 : A 50 0 = B 101 0 ∧ 0 ≤ B 101 0 ∧ B 101 0 ≤ 10 := hS.1
  obtain ⟨j, j1, j2, j3, j4⟩ : ∃ j : Nat, 0 ≤ j ∧ j < 7 ∧ kdn (isW B L s e) 7 0 = (j : Int) ∧ isW B L s e (kw j) = true := by
    rcases kdn_b (isW B L s e) 7 0 with g | ⟨j, g1, g2, g3, g4⟩
    · omega
    · exact ⟨j, g1, by omega, g3, g4⟩
  have hse := isW_lt hK j4
  by_cases hN : B 101 0 < 10
  · obtain ⟨A1, B1, s1, n1, n2, n3, n4, n5, n6, n7, n8, n9⟩ := J_next hK.1 hK.2.1.2.1 hK.2.1.2.2.2 hb.2.1
    refine (I_A n3 (by rw [n8]; exact hw) (hS.fAB n6 n7) (by rw [n7 101 0 (by omega)]; exact hN) (k := kdn (isW B L s e) 7 0) (by omega)).tr (by omega) n6.g n7.g (fun A' r h X Q hX H => ?_) (fun B' h X Q H => ?_)
    · show F_xq_sheetItem Q (mx A X)
      unfold F_xq_sheetItem
      refine X_kind hX hK ?_
      rw [if_neg (by omega), mx_lt (by decide), h0.1, if_pos hN]
      exact n1 X _ hX (h X Q hX H)
    · show F_xm_sheetItem (fun M30 => Q M30) (kdn (isW B L s e) 7 0) (mx X B)
      unfold F_xm_sheetItem F_xm_sheetItem_17
      rw [mx_ge (by decide), if_neg (by omega)]
      exact Y_needs1 hw n2 X _ (h X Q H)
  · have hB : BW (wr B 100 16 1) L s e := hK.bw ((fB.rf B).w (by decide)) (by rw [wr_nj (by decide)]; exact hK.2.1.2.2.1) (by rw [wr_nj (by decide)]; exact hK.2.1.2.2.2) wr_eq
    refine Or.inr ⟨A, wr B 100 16 1, s, e, fun X Q hX H => ?_, fun X Q H => ?_, hK.2.1.1, hB, gA.rf A, ((fB.rf B).w (by decide)).g⟩
    · show F_xq_sheetItem Q (mx A X)
      unfold F_xq_sheetItem F_xq_sheetItem_21
      refine X_kind hX hK ?_
      rw [if_neg (by omega), mx_lt (by decide), h0.1, if_neg hN, narK40]
      exact H
    · show F_xm_sheetItem (fun M30 => Q M30) (kdn (isW B L s e) 7 0) (mx X B)
      unfold F_xm_sheetItem F_xm_sheetItem_17
      rw [mx_ge (by decide), if_pos (by omega)]
      refine Y_needs0 hw X _ (W_word hB ?_)
      rw [if_neg (by decide)]
      exact W_54 hB X Q H
/-- the load -/
theorem I_load {A B : cM} {L s e : Nat} (hK : TKR A B L s e) (hw : B 100 16 = 0) (hS : SC 50 101 (mx A B)) (h : isW B L s e 4 = true) : ITM A B L (s + 1) (fun Q M => ∀ Z : cM → Prop, F_xq_takeWord (fun x10 M9 => if x10 = 0 then Z M9 else (F_xq_loadItem Q M9)) 4 M) (fun Q M => F_xm_item_70 Q 1 M) := by
  have hb := hK.b
  have hse := isW_lt hK h
  obtain ⟨A1, B1, s1, n1, n2, n3, n4, n5, n6, n7, n8, n9⟩ := J_next hK.1 hK.2.1.2.1 hK.2.1.2.2.2 hb.2.1
  rcases J_number (most := 11) n3 (by rw [n8]; exact hw) (by decide) with ⟨A2, B2, r, s2, e2, m1, m2, m3, m4, m5, m6, m7, m8, m9, m10⟩ | ⟨m1, B2, m2, m3, m4, m5, m6⟩
  · refine Or.inl ⟨wr A2 50 4 r, wr B2 101 1 r, s2, e2, fun X Q hX H Z => ?_, fun X Q H => ?_, (m5.kpA (fun c j h1 h2 => wr_ne (by omega))).kpB (fun j => wr_ne (by decide)) (fun j _ => wr_ne (by decide)), by omega, ?_, by rw [wr_ne (by decide)]; exact m10, (n6.g.tr m7.g).w (by decide), (n7.g.tr m8.g).w⟩
    · refine X_tWy hK (by decide) h n1 X _ hX ?_
      rw [if_neg (by decide)]
      unfold F_xq_loadItem
      refine m3 X _ hX ?_
      rw [if_pos m1, narK41, mx_wl (by decide)]
      exact H
    · show F_xm_item_70 Q 1 (mx X B)
      unfold F_xm_item_70 F_xm_item_105
      refine Y_needs1 hw n2 X _ (m4 X _ ?_)
      rw [mx_ge (by decide), if_pos m10, mx_ge (by decide), m9, mx_wr (by decide)]
      exact ⟨by decide, H⟩
    · have := U_load (v := r) (by decide) ((hS.fAB n6 n7).fAB m7 m8) ⟨m1, m2⟩
      rw [mx_wl (by decide), mx_wr (by decide)] at this
      exact this
  · refine Or.inr ⟨A1, B2, s1, tke (tyB B) L s1, fun X Q hX H Z => ?_, fun X Q H => ?_, n3.2.1.1, n3.bw m6 m3 m4 m5, n6.g, n7.g.tr m6.g⟩
    · refine X_tWy hK (by decide) h n1 X _ hX ?_
      rw [if_neg (by decide)]
      unfold F_xq_loadItem
      refine m1 X _ hX ?_
      rw [if_neg (by decide), narK40]
      exact H
    · show F_xm_item_70 Q 1 (mx X B)
      unfold F_xm_item_70 F_xm_item_105
      refine Y_needs1 hw n2 X _ (m2 X _ ?_)
      rw [mx_ge (by decide), if_neg (by omega), wr_id]
      exact ⟨by decide, H⟩
/-- the lamp -/
theorem W_l56 {B : cM} {L f e : Nat} {l1 l2 x : Int} (hK : BW B L f e) : yq (fun Q M => F_xm_lampItem_56 Q l1 l2 x M) B B := fun X Q H => by
  show F_xm_lampItem_56 Q l1 l2 x (mx X B)
  have h16 := hK.2.2.2.2.2.2.2
  have e70 : F_xm_lampItem_70 Q l1 l2 (mx X B) := by
    unfold F_xm_lampItem_70
    rw [mx_ge (by decide), if_neg (by omega)]
    exact H
  unfold F_xm_lampItem_56
  refine Y_needsW h16 x X _ ?_
  by_cases q : l2 = 0
  · rw [if_pos q]
    exact Y_numberW h16 0 11 X _ e70
  · rw [if_neg q]
    exact e70
theorem W_l34 {Q : cM → Prop} {B X : cM} {L f e : Nat} {l1 : Int} (hK : BW B L f e) (H : Q (mx X B)) : F_xm_lampItem_34 Q l1 0 (mx X B) := by
  unfold F_xm_lampItem_34
  rw [if_pos rfl]
  refine W_word hK ?_
  rw [if_neg (by decide)]
  exact W_l56 hK X Q H
theorem I_lamp {A B : cM} {L s e : Nat} (hK : TKR A B L s e) (hw : B 100 16 = 0) (hS : SC 50 101 (mx A B)) (h : isW B L s e 1 = true) : ITM A B L (s + 1) (fun Q M => ∀ Z : cM → Prop, F_xq_takeWord (fun x6 M5 => if x6 = 0 then Z M5 else (F_xq_lampItem Q M5)) 1 M) (fun Q M => F_xm_lampItem Q M) := by
  have hb := hK.b
  have hse := isW_lt hK h
  obtain ⟨d0, d1, d2, d3, -⟩ := wcK
  obtain ⟨A1, B1, s1, n1, n2, n3, n4, n5, n6, n7, n8, n9⟩ := J_next hK.1 hK.2.1.2.1 hK.2.1.2.2.2 hb.2.1
  rcases J_number (most := 1000) n3 (by rw [n8]; exact hw) (by decide) with ⟨A2, B2, sh, s2, e2, m1, m2, m3, m4, m5, m6, m7, m8, m9, m10⟩ | ⟨m1, B2, m2, m3, m4, m5, m6⟩
  rotate_left
  · refine Or.inr ⟨A1, B2, s1, tke (tyB B) L s1, fun X Q hX H Z => ?_, fun X Q H => ?_, n3.2.1.1, n3.bw m6 m3 m4 m5, n6.g, n7.g.tr m6.g⟩
    · refine X_tWy hK (by decide) h n1 X _ hX ?_
      rw [if_neg (by decide)]
      unfold F_xq_lampItem
      refine m1 X _ hX ?_
      rw [if_neg (by decide), narK40]
      exact H
    · show F_xm_lampItem Q (mx X B)
      unfold F_xm_lampItem
      refine Y_needs1 hw n2 X _ (m2 X _ (W_word (n3.bw m6 m3 m4 m5) ?_))
      rw [if_neg (by decide)]
      exact W_l34 (n3.bw m6 m3 m4 m5) H
  have hS2 := (hS.fAB n6 n7).fAB m7 m8
  have hb2 := m5.b
  -- the class up to the share, the model up to the word behind it
  have cls : ∀ (X : cM) (Q : Int → cM → Prop), TB X → F_xq_takeWord (fun x6 M5 => if x6 = 0 then (F_xq_takeWord (fun x10 M9 => if x10 = 0 then (F_xq_lampItem_44 Q sh (-1) M9) else (F_xq_takeNumber (fun x15 M14 => F_xq_lampItem_44 Q sh x15 M14) 11 M9)) 3 M5) else (F_xq_lampItem_51 Q sh (-1) M5)) 2 (mx A2 X) → ∀ Z : cM → Prop, F_xq_takeWord (fun x6 M5 => if x6 = 0 then Z M5 else (F_xq_lampItem Q M5)) 1 (mx A X) := by
    intro X Q hX H Z
    refine X_tWy hK (by decide) h n1 X _ hX ?_
    rw [if_neg (by decide)]
    unfold F_xq_lampItem
    refine m3 X _ hX ?_
    rw [if_pos m1]
    exact H
  have mdl : ∀ (X : cM) (Q : cM → Prop), (if isW B2 L s2 e2 2 = true then F_xm_lampItem_34 Q sh 1 (mx X B2) else F_xm_lampItem_34 Q sh 0 (mx X B2)) → F_xm_lampItem Q (mx X B) := by
    intro X Q H
    unfold F_xm_lampItem
    refine Y_needs1 hw n2 X _ (m4 X _ (K_word m5 ?_))
    have e15 : mx X B2 100 15 = sh := by rw [mx_ge (by decide)]; exact m9
    rw [e15]
    by_cases q : isW B2 L s2 e2 2 = true
    · rw [if_pos q] at H
      rw [if_pos ((E_wcmp d2).mpr ((J_word m5 m10 (by decide)).mpr q))]
      exact H
    · rw [if_neg q] at H
      rw [if_neg (fun z => q ((J_word m5 m10 (by decide)).mp ((E_wcmp d2).mp z)))]
      exact H
  by_cases q2 : isW B2 L s2 e2 2 = true
  · -- mixed
    obtain ⟨A3, B3, s3, o1, o2, o3, o4, o5, o6, o7, o8, o9⟩ := J_next m5.1 m5.2.1.2.1 m5.2.1.2.2.2 hb2.2.1
    refine Or.inl ⟨wr (wr A3 50 5 sh) 50 6 (-1), wr (wr B3 101 2 sh) 101 3 (-1), s3, _, fun X Q hX H Z => ?_, fun X Q H => ?_, (o3.kpA (fun c j h1 h2 => by rw [wr_ne (by omega), wr_ne (by omega)])).kpB (fun j => by rw [wr_ne (by decide), wr_ne (by decide)]) (fun j _ => by rw [wr_ne (by decide), wr_ne (by decide)]), by omega, ?_, by rw [wr_ne (by decide), wr_ne (by decide), o8]; exact m10, (((n6.g.tr m7.g).tr o6.g).w (by decide)).w (by decide), (((n7.g.tr m8.g).tr o7.g).w).w⟩
    · refine cls X Q hX ?_ Z
      refine X_tWy m5 (by decide) q2 o1 X _ hX ?_
      rw [if_neg (by decide)]
      unfold F_xq_lampItem_51
      rw [narK41, mx_wl (by decide), mx_wl (by decide)]
      exact H
    · refine mdl X Q ?_
      rw [if_pos q2]
      unfold F_xm_lampItem_34 F_xm_lampItem_51 F_xm_lampItem_56 F_xm_lampItem_70 F_xm_lampItem_101
      rw [if_neg (by decide)]
      refine Y_needs1 m10 o2 X _ ?_
      rw [if_neg (by decide), mx_ge (by decide), o8, m10, if_pos rfl, if_neg (by decide), mx_wr (by decide), mx_wr (by decide)]
      exact ⟨by decide, H⟩
    · have := U_slant (v := -1) (by decide) (U_share (v := sh) (by decide) (hS2.fAB o6 o7) ⟨m1, m2⟩) (by decide)
      rw [wr_sw (wr (mx A3 B3) 50 5 sh) (c := 101) (j := 2) (c' := 50) (j' := 6) sh (-1) (by decide)] at this
      rw [mx_wl (by decide), mx_wl (by decide), mx_wr (by decide), mx_wr (by decide)] at this
      exact this
  by_cases q3 : isW B2 L s2 e2 3 = true
  · obtain ⟨A3, B3, s3, o1, o2, o3, o4, o5, o6, o7, o8, o9⟩ := J_next m5.1 m5.2.1.2.1 m5.2.1.2.2.2 hb2.2.1
    have mdl2 : ∀ (X : cM) (Q : cM → Prop), F_xm_number (fun M18 => F_xm_lampItem_70 Q sh 0 M18) 0 11 (mx X B3) → F_xm_lampItem Q (mx X B) := by
      intro X Q H
      refine mdl X Q ?_
      rw [if_neg q2]
      unfold F_xm_lampItem_34 F_xm_lampItem_51 F_xm_lampItem_56
      rw [if_pos rfl]
      refine K_word m5 ?_
      rw [if_pos ((E_wcmp d3).mpr ((J_word m5 m10 (by decide)).mpr q3))]
      refine Y_needs1 m10 o2 X _ ?_
      rw [if_pos rfl]
      exact H
    have cls2 : ∀ (X : cM) (Q : Int → cM → Prop), TB X → F_xq_takeNumber (fun x15 M14 => F_xq_lampItem_44 Q sh x15 M14) 11 (mx A3 X) → ∀ Z : cM → Prop, F_xq_takeWord (fun x6 M5 => if x6 = 0 then Z M5 else (F_xq_lampItem Q M5)) 1 (mx A X) := by
      intro X Q hX H Z
      refine cls X Q hX ?_ Z
      refine X_tWn m5 (by decide) q2 X _ hX ?_
      rw [if_pos rfl]
      refine X_tWy m5 (by decide) q3 o1 X _ hX ?_
      rw [if_neg (by decide)]
      exact H
    rcases J_number (most := 11) o3 (by rw [o8]; exact m10) (by decide) with ⟨A4, B4, sl, s4, e4, p1, p2, p3, p4, p5, p6, p7, p8, p9, p10⟩ | ⟨p1, B4, p2, p3, p4, p5, p6⟩
    · refine Or.inl ⟨wr (wr A4 50 5 sh) 50 6 sl, wr (wr B4 101 2 sh) 101 3 sl, s4, e4, fun X Q hX H Z => ?_, fun X Q H => ?_, (p5.kpA (fun c j h1 h2 => by rw [wr_ne (by omega), wr_ne (by omega)])).kpB (fun j => by rw [wr_ne (by decide), wr_ne (by decide)]) (fun j _ => by rw [wr_ne (by decide), wr_ne (by decide)]), by omega, ?_, by rw [wr_ne (by decide), wr_ne (by decide)]; exact p10, ((((n6.g.tr m7.g).tr o6.g).tr p7.g).w (by decide)).w (by decide), ((((n7.g.tr m8.g).tr o7.g).tr p8.g).w).w⟩
      · refine cls2 X Q hX (p3 X _ hX ?_) Z
        unfold F_xq_lampItem_44 F_xq_lampItem_51
        rw [if_pos p1, narK41, mx_wl (by decide), mx_wl (by decide)]
        exact H
      · refine mdl2 X Q (p4 X _ ?_)
        unfold F_xm_lampItem_70 F_xm_lampItem_101
        rw [mx_ge (by decide), p10, if_pos rfl, if_pos rfl, wr_ne (by decide), mx_ge (by decide), p9, mx_wr (by decide), mx_wr (by decide)]
        exact ⟨by decide, H⟩
      · have := U_slant (v := sl) (by decide) (U_share (v := sh) (by decide) ((hS2.fAB o6 o7).fAB p7 p8) ⟨m1, m2⟩) ⟨by omega, p2⟩
        rw [wr_sw (wr (mx A4 B4) 50 5 sh) (c := 101) (j := 2) (c' := 50) (j' := 6) sh sl (by decide)] at this
        rw [mx_wl (by decide), mx_wl (by decide), mx_wr (by decide), mx_wr (by decide)] at this
        exact this
    · refine Or.inr ⟨A3, B4, s3, _, fun X Q hX H Z => ?_, fun X Q H => ?_, o3.2.1.1, o3.bw p6 p3 p4 p5, (n6.g.tr m7.g).tr o6.g, ((n7.g.tr m8.g).tr o7.g).tr p6.g⟩
      · refine cls2 X Q hX (p1 X _ hX ?_) Z
        unfold F_xq_lampItem_44
        rw [if_neg (by decide), narK40]
        exact H
      · refine mdl2 X Q (p2 X _ ?_)
        unfold F_xm_lampItem_70
        rw [mx_ge (by decide), p5, if_neg (by decide)]
        exact H
  · have hB : BW (wr B2 100 16 1) L s2 e2 := m5.bw ((fB.rf B2).w (by decide)) (by rw [wr_nj (by decide)]; exact m5.2.1.2.2.1) (by rw [wr_nj (by decide)]; exact m5.2.1.2.2.2) wr_eq
    refine Or.inr ⟨A2, wr B2 100 16 1, s2, e2, fun X Q hX H Z => ?_, fun X Q H => ?_, m5.2.1.1, hB, n6.g.tr m7.g, (n7.g.tr m8.g).tr ((fB.rf B2).w (by decide)).g⟩
    · refine cls X Q hX ?_ Z
      refine X_tWn m5 (by decide) q2 X _ hX ?_
      rw [if_pos rfl]
      refine X_tWn m5 (by decide) q3 X _ hX ?_
      rw [if_pos rfl]
      unfold F_xq_lampItem_44
      rw [if_neg (by decide), narK40]
      exact H
    · refine mdl X Q ?_
      rw [if_neg q2]
      unfold F_xm_lampItem_34 F_xm_lampItem_56
      rw [if_pos rfl]
      refine K_word m5 ?_
      rw [if_neg (fun z => q3 ((J_word m5 m10 (by decide)).mp ((E_wcmp d3).mp z)))]
      refine Y_needs0 m10 X _ ?_
      rw [if_pos rfl]
      refine Y_numberW wr_eq 0 11 X _ ?_
      unfold F_xm_lampItem_70
      rw [mx_ge (by decide), wr_eq, if_neg (by decide)]
      exact H
