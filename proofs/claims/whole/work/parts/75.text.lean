/-! Stack items, items, text. -/
theorem mx_cpy {A X : cM} {a sp b dp n : Int} (ha : a < 100) (hb : b < 100) : cpyM (mx A X) a sp b dp n = mx (cpyM A a sp b dp n) X := by
  funext c j
  by_cases h : c < 100
  · rw [mx_lt h]
    unfold cpyM
    rw [mx_lt h, mx_lt ha]
  · rw [mx_ge (by omega), cpyM_ne (by omega), mx_ge (by omega)]
/-- so far i numbers of a stack item have been read -/
def SI (A0 B0 : cM) (k : Int) (i : Nat) (A B : cM) : Prop := (∀ c j, c ≠ 72 → c ≠ 73 → A c j = A0 c j) ∧ (∀ j, ¬ (44 + 7 * k ≤ j ∧ j < 51 + 7 * k) → B 101 j = B0 101 j) ∧ gB B0 B ∧ B 101 (44 + 7 * k) = i ∧ ∀ j : Int, 0 ≤ j → j < i → A 73 j = B 101 (45 + 7 * k + j) ∧ 0 ≤ B 101 (45 + 7 * k + j) ∧ B 101 (45 + 7 * k + j) < B0 101 0
/-- the end of a stack item -/
theorem I_end {A0 B0 A B : cM} {L s e n : Nat} {k : Int} (hk : 0 ≤ k ∧ k < 4) (hS : SC 50 101 (mx A0 B0)) (hK : TKR A B L s e) (hw : B 100 16 = 0) (hI : SI A0 B0 k n A B) (hn : n ≤ 6) : ITM A B L s (fun Q M => F_xq_stackItem_73 Q k n M) (fun Q M => Q M) := by
  obtain ⟨h1, h2, h3, h4, h5⟩ := hI
  refine Or.inl ⟨wr (cpyM A 73 0 (50 + 5 + k) 0 n) (50 + 9) k n, B, s, e, fun X Q hX H => ?_, fun X Q H => H, hK.kpA (fun c j c1 c2 => by rw [wr_ne (by omega), cpyM_ne (by omega)]), Nat.le_refl _, ?_, hw, fun c j c1 c2 c3 => by rw [wr_ne (by omega), cpyM_ne (by omega)], gB.rf B⟩
  · show F_xq_stackItem_73 Q k n (mx A X)
    unfold F_xq_stackItem_73 F_xg_setStack
    rw [narK41, mx_cpy (by decide) (by omega), mx_wl (by decide)]
    exact ⟨hk, ⟨by omega, by omega, by omega, by omega, by omega⟩, hk, H⟩
  · refine hS.stk (st := k) (h := n) (by decide) hk (fun c j c1 c2 c3 c4 => ?_) (fun j hj => ?_) ⟨?_, ?_, by omega, by omega⟩ (fun i i0 i1 => ?_)
    · rw [mx_lt (by omega), mx_lt (by omega), wr_at, if_neg c4, cpyM_ne c3]
      exact h1 c j (by omega) (by omega)
    · rw [mx_ge (by decide), mx_ge (by decide)]
      exact h2 j hj
    · rw [mx_lt (by decide), wr_eq]
    · rw [mx_ge (by decide), h4]
    · rw [mx_lt (by omega), mx_ge (by decide), mx_ge (by decide), wr_ne (by omega), cpyM_i0 ⟨i0, i1⟩]
      exact h5 i i0 i1
theorem ty2 {A B X : cM} {L s e : Nat} (hK : TKR A B L s e) : tyo (bya (mx X B) L s) = 2 ↔ A 72 3 = 2 := by
  rw [hK.2.2.1, show bya (mx X B) L s = bya B L s by unfold bya; rw [mx_ge (by decide)]]
  unfold bya tkt
  by_cases z : s < L
  · rw [if_pos z, if_pos z]; exact Iff.rfl
  · rw [if_neg z, if_neg z]
    constructor
    · intro h; exact absurd h (by decide)
    · intro h; exact absurd h (by decide)
theorem W_38 {B : cM} {L f e m : Nat} {k : Int} (hK : BW B L f e) : yq (fun Q M => F_xm_stackItem_38 Q (m + 1) k 1 M) B B := fun X Q H => by
  show F_xm_stackItem_38 Q (m + 1) k 1 (mx X B)
  have h16 := hK.2.2.2.2.2.2.2
  unfold F_xm_stackItem_38
  rw [if_neg (by decide), mx_ge (by decide), if_neg (by omega)]
  exact H
theorem I_stk {A0 B0 : cM} {k : Int} (hk : 0 ≤ k ∧ k < 4) (hS : SC 50 101 (mx A0 B0)) {L : Nat} : ∀ (m i : Nat) (A B : cM) (s e : Nat), i + m = 5 → TKR A B L s e → B 100 16 = 0 → SI A0 B0 k i A B → (i = 0 ∨ A 72 3 = 2) → ITM A B L s (fun Q M => F_xq_stackItem_16 Q (m + 2) k i i M) (fun Q M => F_xm_stackItem_38 Q (m + 2) k 1 M) := by
  have h0 : A0 50 0 = B0 101 0 ∧ 0 ≤ B0 101 0 ∧ B0 101 0 ≤ 10 := hS.1
  have key : ∀ (m i : Nat) (A B : cM) (s e : Nat), i + m = 5 → TKR A B L s e → B 100 16 = 0 → SI A0 B0 k i A B → (i = 0 ∨ A 72 3 = 2) → (∀ (A2 B2 : cM) (s2 e2 : Nat), TKR A2 B2 L s2 e2 → B2 100 16 = 0 → SI A0 B0 k (i + 1) A2 B2 → A2 72 3 = 2 → i + 1 < 6 → ITM A2 B2 L s2 (fun Q M => F_xq_stackItem_16 Q (m + 1) k ((i + 1 : Nat) : Int) ((i + 1 : Nat) : Int) M) (fun Q M => F_xm_stackItem_38 Q (m + 1) k 1 M)) → ITM A B L s (fun Q M => F_xq_stackItem_16 Q (m + 2) k i i M) (fun Q M => F_xm_stackItem_38 Q (m + 2) k 1 M) := by
    intro m i A B s e hi hK hw hI h02 hrec
    obtain ⟨h1, h2, h3, h4, h5⟩ := id hI
    have hb := hK.b
    have a50 : A 50 0 = B0 101 0 := by rw [h1 50 0 (by decide) (by decide), h0.1]
    have b101 : B 101 0 = B0 101 0 := h2 0 (by omega)
    have cls : ∀ (X : cM) (Q : Int → cM → Prop), F_xq_takeNumber (fun x11 M10 => if 0 ≤ x11 then (((0 : Int) ≤ (i : Int) ∧ (i : Int) < 6) ∧ (F_xq_stackItem_16 Q (m + 1) k ((i + 1 : Nat) : Int) ((i + 1 : Nat) : Int) (wr M10 73 i x11))) else (Q 0 M10)) (B0 101 0 - 1) (mx A X) → F_xq_stackItem_16 Q (m + 2) k i i (mx A X) := by
      intro X Q H
      have e34 : F_xq_stackItem_34 Q (F_xq_stackItem_16 Q (m + 1)) k i i (mx A X) := by
        unfold F_xq_stackItem_34
        rw [mx_lt (by decide), a50, w32_e (x := B0 101 0 - 1) (by omega) (by omega), wE (n := i) (by omega), narK40]
        exact H
      unfold F_xq_stackItem_16
      rw [if_neg (by omega)]
      by_cases q : (i : Int) = 0
      · rw [if_pos q]; exact e34
      · rw [if_neg q, mx_lt (by decide), if_pos (by omega)]; exact e34
    have mdl : ∀ (X : cM) (Q : cM → Prop), F_xm_number (fun M10 => if (M10 100 16) = 0 then (F_xm_lays (fun M14 => F_xm_manyIn (fun x18 M17 => if 6 ≤ x18 then (F_xm_stackItem_106 Q (F_xm_stackItem_38 Q (m + 1)) k M17) else (F_xm_byteAt (fun x22 M21 => F_xm_isDigit (fun x25 M24 => if x25 = 0 then (F_xm_stackItem_106 Q (F_xm_stackItem_38 Q (m + 1)) k M24) else (F_xm_stackItem_107 Q (F_xm_stackItem_38 Q (m + 1)) k 1 M24)) x22 M21) (M17 100 13) M17)) k M14) k (M10 100 15) M10) else (F_xm_stackItem_38 Q (m + 1) k 1 M10)) 0 (B0 101 0 - 1) (mx X B) → F_xm_stackItem_38 Q (m + 2) k 1 (mx X B) := by
      intro X Q H
      unfold F_xm_stackItem_38
      rw [if_neg (by decide), mx_ge (by decide), if_pos hw, mx_ge (by decide), b101, w32_e (x := B0 101 0 - 1) (by omega) (by omega)]
      exact H
    rcases J_number (most := B0 101 0 - 1) hK hw (by omega) with ⟨A1, B1, r, s1, e1, m1, m2, m3, m4, m5, m6, m7, m8, m9, m10⟩ | ⟨m1, B1, m2, m3, m4, m5, m6⟩
    rotate_left
    · refine Or.inr ⟨A, B1, s, e, fun X Q hX H => ?_, fun X Q H => ?_, hK.2.1.1, hK.bw m6 m3 m4 m5, gA.rf A, m6.g⟩
      · refine cls X Q (m1 X _ hX ?_)
        rw [if_neg (by decide)]
        exact H
      · refine mdl X Q (m2 X _ ?_)
        rw [mx_ge (by decide), if_neg (by omega)]
        exact W_38 (hK.bw m6 m3 m4 m5) X Q H
    -- one number more
    have eB1 : ∀ j, B1 101 j = B 101 j := fun j => m8 101 j (by omega)
    have hI2 : SI A0 B0 k (i + 1) (wr A1 73 i r) (wr (wr B1 101 (45 + 7 * k + i) r) 101 (44 + 7 * k) (i + 1)) := by
      refine ⟨fun c j c1 c2 => ?_, fun j hj => ?_, ?_, by rw [wr_eq]; rfl, fun j j0 j1 => ?_⟩
      · rw [wr_ne c2, m7 c j c1]; exact h1 c j c1 c2
      · rw [wr_nj (by omega), wr_nj (by omega), eB1]; exact h2 j hj
      · exact (h3.tr m8.g).w.w
      · by_cases e : j = i
        · subst e
          rw [wr_eq, wr_nj (by omega), wr_eq]
          exact ⟨rfl, m1, by omega⟩
        · rw [wr_nj e, wr_nj (by omega), wr_nj (by omega), eB1, m7 73 _ (by decide)]
          exact h5 j j0 (by omega)
    have hK2 : TKR (wr A1 73 i r) (wr (wr B1 101 (45 + 7 * k + i) r) 101 (44 + 7 * k) (i + 1)) L s1 e1 := (m5.kpA (fun c j c1 c2 => wr_ne (by omega))).kpB (fun j => by rw [wr_ne (by decide), wr_ne (by decide)]) (fun j _ => by rw [wr_ne (by decide), wr_ne (by decide)])
    have hw2 : (wr (wr B1 101 (45 + 7 * k + i) r) 101 (44 + 7 * k) (i + 1)) 100 16 = 0 := by rw [wr_ne (by decide), wr_ne (by decide)]; exact m10
    have cls2 : ∀ (X : cM) (Q : Int → cM → Prop), TB X → F_xq_stackItem_16 Q (m + 1) k ((i + 1 : Nat) : Int) ((i + 1 : Nat) : Int) (mx (wr A1 73 i r) X) → F_xq_stackItem_16 Q (m + 2) k i i (mx A X) := by
      intro X Q hX H
      refine cls X Q (m3 X _ hX ?_)
      rw [if_pos m1, mx_wl (by decide)]
      exact ⟨by omega, H⟩
    have mdl2 : ∀ (X : cM) (Q : cM → Prop), (if 6 ≤ (i : Int) + 1 then F_xm_stackItem_38 Q (m + 1) k 0 (mx X (wr (wr B1 101 (45 + 7 * k + i) r) 101 (44 + 7 * k) (i + 1))) else if (wr A1 73 i r) 72 3 = 2 then F_xm_stackItem_38 Q (m + 1) k 1 (mx X (wr (wr B1 101 (45 + 7 * k + i) r) 101 (44 + 7 * k) (i + 1))) else F_xm_stackItem_38 Q (m + 1) k 0 (mx X (wr (wr B1 101 (45 + 7 * k + i) r) 101 (44 + 7 * k) (i + 1)))) → F_xm_stackItem_38 Q (m + 2) k 1 (mx X B) := by
      intro X Q H
      refine mdl X Q (m4 X _ ?_)
      rw [mx_ge (by decide), if_pos m10, mx_ge (by decide), m9]
      refine Y_lays hk (n := i) (by rw [mx_ge (by decide), eB1, h4]) (by omega) ?_
      rw [mx_wr (by decide), mx_wr (by decide), E_xm_manyIn hk, mx_ge (by decide), wr_eq]
      unfold F_xm_stackItem_106 F_xm_stackItem_107
      by_cases q : 6 ≤ (i : Int) + 1
      · rw [if_pos q] at H ⊢; exact H
      · rw [if_neg q] at H ⊢
        rw [mx_ge (by decide), hK2.2.1.2.2.1, E_byteAt (L := L) (by rw [mx_ge (by decide)]; exact hK2.1.1.2.1) hK2.1.1.2.2, E_isDigit, ite01, if_iff (ty2 hK2)]
        exact H
    have ends : (6 ≤ (i : Int) + 1 ∨ ¬ (wr A1 73 i r) 72 3 = 2) → ITM A B L s (fun Q M => F_xq_stackItem_16 Q (m + 2) k i i M) (fun Q M => F_xm_stackItem_38 Q (m + 2) k 1 M) := by
      intro hq
      refine (I_end hk hS hK2 hw2 hI2 (by omega)).tr (by omega) (m7.g.w (Or.inl rfl)) m8.g.w.w (fun A' r' h X Q hX H => cls2 X Q hX ?_) (fun B' h X Q H => mdl2 X Q ?_)
      · have e73 := h X Q hX H
        unfold F_xq_stackItem_16
        by_cases q : 6 ≤ ((i + 1 : Nat) : Int)
        · rw [if_pos q]; exact e73
        · rw [if_neg q, if_neg (by omega), mx_lt (by decide), if_neg (by omega)]; exact e73
      · have e38 : F_xm_stackItem_38 Q (m + 1) k 0 (mx X (wr (wr B1 101 (45 + 7 * k + i) r) 101 (44 + 7 * k) (i + 1))) := by
          unfold F_xm_stackItem_38
          rw [if_pos rfl]
          exact h X Q H
        by_cases q : 6 ≤ (i : Int) + 1
        · rw [if_pos q]; exact e38
        · rw [if_neg q, if_neg (by omega)]; exact e38
    by_cases q6 : 6 ≤ (i : Int) + 1
    · exact ends (Or.inl q6)
    by_cases q2 : (wr A1 73 i r) 72 3 = 2
    rotate_left
    · exact ends (Or.inr q2)
    refine (hrec _ _ s1 e1 hK2 hw2 hI2 q2 (by omega)).tr (by omega) (m7.g.w (Or.inl rfl)) m8.g.w.w (fun A' r' h X Q hX H => cls2 X Q hX (h X Q hX H)) (fun B' h X Q H => mdl2 X Q ?_)
    rw [if_neg q6, if_pos q2]
    exact h X Q H
  intro m
  induction m with
  | zero =>
    intro i A B s e hi hK hw hI h02
    exact key 0 i A B s e hi hK hw hI h02 (fun A2 B2 s2 e2 _ _ _ _ h6 => absurd h6 (by omega))
  | succ m ih =>
    intro i A B s e hi hK hw hI h02
    exact key (m + 1) i A B s e hi hK hw hI h02 (fun A2 B2 s2 e2 k2 w2 i2 t2 h6 => ih (i + 1) A2 B2 s2 e2 (by omega) k2 w2 i2 (Or.inr t2))
theorem I_stack {A B : cM} {L s e : Nat} (hK : TKR A B L s e) (hw : B 100 16 = 0) (hS : SC 50 101 (mx A B)) (h : isW B L s e 0 = true) : ITM A B L (s + 1) (fun Q M => ∀ Z : cM → Prop, F_xq_takeWord (fun x2 M1 => if x2 = 0 then Z M1 else (F_xq_stackItem Q M1)) 0 M) (fun Q M => F_xm_stackItem Q M) := by
  have hb := hK.b
  have hse := isW_lt hK h
  obtain ⟨A1, B1, s1, n1, n2, n3, n4, n5, n6, n7, n8, n9⟩ := J_next hK.1 hK.2.1.2.1 hK.2.1.2.2.2 hb.2.1
  rcases J_number (most := 3) n3 (by rw [n8]; exact hw) (by decide) with ⟨A2, B2, k, s2, e2, m1, m2, m3, m4, m5, m6, m7, m8, m9, m10⟩ | ⟨m1, B2, m2, m3, m4, m5, m6⟩
  rotate_left
  · refine Or.inr ⟨A1, B2, s1, tke (tyB B) L s1, fun X Q hX H Z => ?_, fun X Q H => ?_, n3.2.1.1, n3.bw m6 m3 m4 m5, n6.g, n7.g.tr m6.g⟩
    · refine X_tWy hK (by decide) h n1 X _ hX ?_
      rw [if_neg (by decide)]
      unfold F_xq_stackItem
      refine m1 X _ hX ?_
      rw [if_neg (by decide), narK40]
      exact H
    · show F_xm_stackItem Q (mx X B)
      unfold F_xm_stackItem F_xm_stackItem_36
      refine Y_needs1 hw n2 X _ (m2 X _ ?_)
      rw [mx_ge (by decide), if_neg (by omega)]
      exact ⟨1, W_38 (m := 0) (n3.bw m6 m3 m4 m5) X Q H⟩
  have hS2 := (hS.fAB n6 n7).fAB m7 m8
  refine (I_stk (k := k) ⟨m1, by omega⟩ hS2 5 0 A2 (wr B2 101 (44 + 7 * k) 0) s2 e2 (by decide) (m5.kpB (fun j => wr_ne (by decide)) (fun j _ => wr_ne (by decide))) (by rw [wr_ne (by decide)]; exact m10) ⟨fun c j _ _ => rfl, fun j hj => wr_nj (by omega), (gB.rf B2).w, wr_eq, fun j j0 j1 => absurd j1 (by omega)⟩ (Or.inl rfl)).tr (by omega) (n6.g.tr m7.g) (n7.g.tr m8.g).w (fun A' r h' X Q hX H Z => ?_) (fun B' h' X Q H => ?_)
  · refine X_tWy hK (by decide) h n1 X _ hX ?_
    rw [if_neg (by decide)]
    unfold F_xq_stackItem
    refine m3 X _ hX ?_
    rw [if_pos m1]
    exact ⟨_, h' X Q hX H⟩
  · show F_xm_stackItem Q (mx X B)
    unfold F_xm_stackItem F_xm_stackItem_36
    refine Y_needs1 hw n2 X _ (m4 X _ ?_)
    rw [mx_ge (by decide), if_pos m10, mx_ge (by decide), m9, w32_e (x := 7 * k) (by omega) (by omega), w32_e (x := 44 + 7 * k) (by omega) (by omega), mx_wr (by decide)]
    exact ⟨by omega, _, h' X Q H⟩
/-- an item -/
theorem J_item {A B : cM} {L s e : Nat} (hK : TKR A B L s e) (hw : B 100 16 = 0) (hS : SC 50 101 (mx A B)) : ITM A B L (s + 1) (fun Q M => F_xq_item Q M) (fun Q M => F_xm_item Q M) ∨ (∃ B' : cM, xr (fun Q M => F_xq_item Q M) A A 0 ∧ yq (fun Q M => F_xm_item Q M) B B' ∧ BW B' L s e ∧ gB B B') := by
  have hb := hK.b
  have c0 : wco 0 = 20579435 := wcK.1
  have c1 : wco 1 = 394672 := wcK.2.1
  have c4 : wco 4 = 408612 := wcK.2.2.2.2.1
  have j : ∀ (k0 : Nat) (c : Int), k0 < 14 → wco k0 = c → (zlcmp (wcd B L s e) c = 0 ↔ isW B L s e k0 = true) := fun k0 c hk hc => (E_wcmp hc).trans (J_word hK hw hk)
  have nar : ∀ r : Int, r = 0 ∨ r = 1 → narK 4 r = r := fun r hr => by
    rcases hr with rfl | rfl
    · exact narK40
    · exact narK41
  -- narrowing an item's answer
  have xn : ∀ {F : (Int → cM → Prop) → cM → Prop} {A' : cM} {r : Int}, (r = 0 ∨ r = 1) → xr F A A' r → xr (fun Q M => F (fun x M1 => Q (narK 4 x) M1) M) A A' r := fun hr h X Q hX H => h X _ hX (by rw [nar _ hr]; exact H)
  have itn : ∀ {F : (Int → cM → Prop) → cM → Prop} {G : (cM → Prop) → cM → Prop}, ITM A B L (s + 1) F G → ITM A B L (s + 1) (fun Q M => F (fun x M1 => Q (narK 4 x) M1) M) G := by
    intro F G h
    rcases h with ⟨A', B', s', e', h1, h2, h3, h4, h5, h6, h7, h8⟩ | ⟨A', B', f, e', h1, h2, h3, h4, h5, h6⟩
    · exact Or.inl ⟨A', B', s', e', xn (Or.inr rfl) h1, h2, h3, h4, h5, h6, h7, h8⟩
    · exact Or.inr ⟨A', B', f, e', xn (Or.inl rfl) h1, h2, h3, h4, h5, h6⟩
  by_cases q0 : isW B L s e 0 = true
  · left
    refine (itn (I_stack hK hw hS q0)).tr (Nat.le_refl _) (gA.rf A) (gB.rf B) (fun A' r h X Q hX H => ?_) (fun B' h X Q H => ?_)
    · show F_xq_item Q (mx A X)
      unfold F_xq_item
      exact h X Q hX H _
    · show F_xm_item Q (mx X B)
      unfold F_xm_item
      refine K_kind hK hw ?_
      rw [kd_none hK hw (Or.inl rfl) q0, if_pos (by decide)]
      refine K_word hK ?_
      rw [if_pos ((j 0 _ (by decide) c0).mpr q0)]
      exact h X Q H
  by_cases q1 : isW B L s e 1 = true
  · left
    refine (itn (I_lamp hK hw hS q1)).tr (Nat.le_refl _) (gA.rf A) (gB.rf B) (fun A' r h X Q hX H => ?_) (fun B' h X Q H => ?_)
    · show F_xq_item Q (mx A X)
      unfold F_xq_item
      refine X_tWn hK (by decide) q0 X _ hX ?_
      rw [if_pos rfl]
      exact h X Q hX H _
    · show F_xm_item Q (mx X B)
      unfold F_xm_item
      refine K_kind hK hw ?_
      rw [kd_none hK hw (Or.inr (Or.inl rfl)) q1, if_pos (by decide)]
      refine K_word hK ?_
      rw [if_neg (fun z => q0 ((j 0 _ (by decide) c0).mp z))]
      refine K_word hK ?_
      rw [if_pos ((j 1 _ (by decide) c1).mpr q1)]
      exact h X Q H
  by_cases q4 : isW B L s e 4 = true
  · left
    refine (itn (I_load hK hw hS q4)).tr (Nat.le_refl _) (gA.rf A) (gB.rf B) (fun A' r h X Q hX H => ?_) (fun B' h X Q H => ?_)
    · show F_xq_item Q (mx A X)
      unfold F_xq_item
      refine X_tWn hK (by decide) q0 X _ hX ?_
      rw [if_pos rfl]
      refine X_tWn hK (by decide) q1 X _ hX ?_
      rw [if_pos rfl]
      exact h X Q hX H _
    · show F_xm_item Q (mx X B)
      unfold F_xm_item
      refine K_kind hK hw ?_
      rw [kd_none hK hw (Or.inr (Or.inr rfl)) q4, if_pos (by decide)]
      refine K_word hK ?_
      rw [if_neg (fun z => q0 ((j 0 _ (by decide) c0).mp z))]
      refine K_word hK ?_
      rw [if_neg (fun z => q1 ((j 1 _ (by decide) c1).mp z))]
      refine K_word hK ?_
      rw [if_pos ((j 4 _ (by decide) c4).mpr q4)]
      exact h X Q H
  have cls : ∀ (X : cM) (Q : Int → cM → Prop), TB X → F_xq_sheetItem (fun x14 M13 => Q (narK 4 x14) M13) (mx A X) → F_xq_item Q (mx A X) := by
    intro X Q hX H
    unfold F_xq_item
    refine X_tWn hK (by decide) q0 X _ hX ?_
    rw [if_pos rfl]
    refine X_tWn hK (by decide) q1 X _ hX ?_
    rw [if_pos rfl]
    refine X_tWn hK (by decide) q4 X _ hX ?_
    rw [if_pos rfl]
    exact H
  by_cases qk : 0 ≤ kdn (isW B L s e) 7 0
  · left
    refine (itn (I_sheet hK hw hS qk)).tr (Nat.le_refl _) (gA.rf A) (gB.rf B) (fun A' r h X Q hX H => cls X Q hX (h X Q hX H)) (fun B' h X Q H => ?_)
    show F_xm_item Q (mx X B)
    unfold F_xm_item
    refine K_kind hK hw ?_
    rw [if_neg (by omega)]
    exact h X Q H
  · right
    have hB : BW (wr B 100 16 1) L s e := hK.bw ((fB.rf B).w (by decide)) (by rw [wr_nj (by decide)]; exact hK.2.1.2.2.1) (by rw [wr_nj (by decide)]; exact hK.2.1.2.2.2) wr_eq
    refine ⟨wr B 100 16 1, fun X Q hX H => ?_, fun X Q H => ?_, hB, ((fB.rf B).w (by decide)).g⟩
    · refine cls X Q hX ?_
      unfold F_xq_sheetItem F_xq_sheetItem_21
      refine X_kind hX hK ?_
      rw [if_pos (by omega), narK40]
      show Q (narK 4 0) (mx A X)
      rw [narK40]
      exact H
    · show F_xm_item Q (mx X B)
      unfold F_xm_item F_xm_item_70 F_xm_item_105
      refine K_kind hK hw ?_
      rw [if_pos (by omega)]
      refine K_word hK ?_
      rw [if_neg (fun z => q0 ((j 0 _ (by decide) c0).mp z))]
      refine K_word hK ?_
      rw [if_neg (fun z => q1 ((j 1 _ (by decide) c1).mp z))]
      refine K_word hK ?_
      rw [if_neg (fun z => q4 ((j 4 _ (by decide) c4).mp z))]
      refine Y_needs0 hw X _ (Y_numberW wr_eq 0 11 X _ ?_)
      rw [mx_ge (by decide), wr_eq, if_neg (by decide), wr_id]
      exact ⟨by decide, H⟩
theorem W_item {Q : cM → Prop} {B X : cM} {L f e : Nat} (hK : BW B L f e) (H : Q (mx X B)) : F_xm_item Q (mx X B) := by
  have h16 := hK.2.2.2.2.2.2.2
  unfold F_xm_item F_xm_kindHere F_xm_item_70 F_xm_item_105
  refine W_word hK ?_
  rw [if_neg (by decide), if_neg (by decide), if_neg (by decide), if_neg (by decide), if_neg (by decide), if_neg (by decide), if_neg (by decide)]
  show (if (-1 : Int) < 0 then _ else _)
  rw [if_pos (by decide)]
  refine W_word hK ?_
  rw [if_neg (by decide)]
  refine W_word hK ?_
  rw [if_neg (by decide)]
  refine W_word hK ?_
  rw [if_neg (by decide)]
  refine Y_needsW h16 0 X _ (Y_numberW h16 0 11 X _ ?_)
  rw [mx_ge (by decide), if_neg (by omega), wr_id]
  exact ⟨by decide, H⟩
/-- the items, from one on -/
theorem S_items {L : Nat} : ∀ (m i : Nat) (A B : cM) (s e : Nat), L + 1 ≤ s + m → 2 * (i - 1) ≤ s → 1 ≤ i → TKR A B L s e → B 100 16 = 0 → SC 50 101 (mx A B) → ∃ (A' B' : cM) (r l1 : Int), xr (fun Q M => F_xq_items_11 Q (m + 1) i M) A A' r ∧ (∀ (X : cM) (Q : Int → cM → Prop) (K : cM → Prop), (∀ M5, F_xm_text_46 Q (m + 2) i M5 → K M5) → F_xm_text_96 Q l1 (mx X B') → F_xm_item (fun M5 => K M5) (mx X B)) ∧ gA A A' ∧ gB B B' ∧ ((r = l1 ∧ 1 ≤ r ∧ SC 50 101 (mx A' B') ∧ B' 100 16 = 0) ∨ (∃ f : Nat, r = -1 - (f : Int) ∧ B' 100 13 = f ∧ f ≤ 120 ∧ B' 100 16 = 1)) := by
  intro m
  induction m with
  | zero =>
    intro i A B s e hm _ _ hK _ _
    have := hK.2.2.2.1
    omega
  | succ m ih =>
    intro i A B s e hm h2i hi1 hK hw hS
    have hb := hK.b
    have hsL := hK.2.2.2.1
    have fail : ∀ (A' B' : cM) (f e' : Nat), xr (fun Q M => F_xq_item Q M) A A' 0 → yq (fun Q M => F_xm_item Q M) B B' → A' 72 4 = f → BW B' L f e' → gA A A' → gB B B' → ∃ (A' B' : cM) (r l1 : Int), xr (fun Q M => F_xq_items_11 Q (m + 1 + 1) i M) A A' r ∧ (∀ (X : cM) (Q : Int → cM → Prop) (K : cM → Prop), (∀ M5, F_xm_text_46 Q (m + 1 + 2) i M5 → K M5) → F_xm_text_96 Q l1 (mx X B') → F_xm_item (fun M5 => K M5) (mx X B)) ∧ gA A A' ∧ gB B B' ∧ ((r = l1 ∧ 1 ≤ r ∧ SC 50 101 (mx A' B') ∧ B' 100 16 = 0) ∨ (∃ f : Nat, r = -1 - (f : Int) ∧ B' 100 13 = f ∧ f ≤ 120 ∧ B' 100 16 = 1)) := by
      intro A' B' f e' x1 x2 x3 x4 x5 x6
      obtain ⟨b1, b2, b3, b4, b5, b6, b7, b8⟩ := id x4
      refine ⟨A', B', -1 - (f : Int), i, fun X Q hX H => ?_, fun X Q K hk H => ?_, x5, x6, Or.inr ⟨f, rfl, b3, by omega, b8⟩⟩
      · show F_xq_items_11 Q (m + 1 + 1) i (mx A X)
        unfold F_xq_items_11 F_xq_items_57
        rw [if_neg (by omega)]
        refine x1 X _ hX ?_
        rw [if_pos rfl, mx_lt (by decide), x3, w32_e (by omega) (by omega)]
        exact H
      · refine x2 X _ (hk _ ?_)
        show F_xm_text_46 Q (m + 1 + 2) i (mx X B')
        unfold F_xm_text_46
        rw [mx_ge (by decide), if_neg (by omega)]
        exact H
    rcases J_item hK hw hS with (⟨A1, B1, s1, e1, x1, x2, x3, x4, x5, x6, x7, x8⟩ | ⟨A1, B1, f, e1, x1, x2, x3, x4, x5, x6⟩) | ⟨B1, x1, x2, x3, x4⟩
    rotate_left
    · exact fail A1 B1 f e1 x1 x2 x3 x4 x5 x6
    · exact fail A B1 s e x1 x2 hK.2.1.1 x3 (gA.rf A) x4
    have hb1 := x3.b
    have hs1 := x3.2.2.2.1
    have e12 : B1 100 12 = L := x3.1.1.2.1
    have ecl : ∀ (X : cM) (Q : Int → cM → Prop), TB X → (if A1 72 3 = 0 then Q i (mx A1 X) else if A1 72 3 = 3 then F_xq_next (fun M11 => F_xq_items_11 Q (m + 1) ((i + 1 : Nat) : Int) M11) (mx A1 X) else Q (-1 - (s1 : Int)) (mx A1 X)) → F_xq_items_11 Q (m + 1 + 1) i (mx A X) := by
      intro X Q hX H
      unfold F_xq_items_11 F_xq_items_57
      rw [if_neg (by omega)]
      refine x1 X _ hX ?_
      rw [if_neg (by decide), mx_lt (by decide), wE (by omega), mx_lt (by decide), x3.2.1.1, w32_e (x := -1 - (s1 : Int)) (by omega) (by omega)]
      exact H
    have emd : ∀ (X : cM) (Q : Int → cM → Prop) (K : cM → Prop), (∀ M5, F_xm_text_46 Q (m + 1 + 2) i M5 → K M5) → (if (L : Int) ≤ (s1 : Int) then F_xm_text_96 Q i (mx X B1) else if bya B1 L s1 = 59 then F_xm_needs (fun M16 => F_xm_item (fun M19 => F_xm_text_46 Q (m + 2) ((i + 1 : Nat) : Int) M19) M16) 1 (mx X B1) else F_xm_needs (fun M16 => F_xm_item (fun M19 => F_xm_text_46 Q (m + 2) ((i + 1 : Nat) : Int) M19) M16) 0 (mx X B1)) → F_xm_item (fun M5 => K M5) (mx X B) := by
      intro X Q K hk H
      refine x2 X _ (hk _ ?_)
      show F_xm_text_46 Q (m + 1 + 2) i (mx X B1)
      unfold F_xm_text_46 F_xm_text_83
      rw [mx_ge (by decide), if_pos x6, mx_ge (by decide), e12, mx_ge (by decide), x3.2.1.2.2.1, E_byteAt (L := L) (by rw [mx_ge (by decide)]; exact e12) hb.2.2.1, show bya (mx X B1) L s1 = bya B1 L s1 by unfold bya; rw [mx_ge (by decide)], wE (by omega)]
      exact H
    have e3 := x3.2.2.1
    by_cases qe : s1 < L
    rotate_left
    · -- the text's end
      have t0 : A1 72 3 = 0 := by rw [e3]; unfold tkt; rw [if_neg qe]
      refine ⟨A1, B1, i, i, fun X Q hX H => ecl X Q hX ?_, fun X Q K hk H => emd X Q K hk ?_, x7, x8, Or.inl ⟨rfl, by omega, x5, x6⟩⟩
      · rw [if_pos t0]; exact H
      · rw [if_pos (by omega)]; exact H
    have t1 : A1 72 3 = tyB B1 s1 := by rw [e3]; unfold tkt; rw [if_pos qe]
    have tb := tyo_b (B1 109 s1)
    have ebya : bya B1 L s1 = B1 109 s1 := by unfold bya; rw [if_pos qe]
    have t59 : B1 109 s1 = 59 ↔ tyB B1 s1 = 3 := by
      unfold tyB tyo
      repeat' split
      all_goals omega
    have tn0 : ¬ A1 72 3 = 0 := by rw [t1]; unfold tyB; omega
    by_cases q3 : tyB B1 s1 = 3
    · -- the next item
      obtain ⟨A2, B2, s2, n1, n2, n3, n4, n5, n6, n7, n8, n9⟩ := J_next x3.1 x3.2.1.2.1 x3.2.1.2.2.2 hb1.2.1
      have hlt := hb1.2.2.2 qe
      obtain ⟨A3, B3, r, l1, y1, y2, y3, y4, y5⟩ := ih (i + 1) A2 B2 s2 _ (by omega) (by omega) (by omega) n3 (by rw [n8]; exact x6) (x5.fAB n6 n7)
      refine ⟨A3, B3, r, l1, fun X Q hX H => ecl X Q hX ?_, fun X Q K hk H => emd X Q K hk ?_, (x7.tr n6.g).tr y3, (x8.tr n7.g).tr y4, y5⟩
      · rw [if_neg tn0, if_pos (by rw [t1]; exact q3)]
        exact n1 X _ hX (y1 X Q hX H)
      · rw [if_neg (by omega), ebya, if_pos (t59.mpr q3)]
        exact Y_needs1 x6 n2 X _ (y2 X Q _ (fun _ h => h) H)
    · have hB : BW (wr B1 100 16 1) L s1 e1 := x3.bw ((fB.rf B1).w (by decide)) (by rw [wr_nj (by decide)]; exact x3.2.1.2.2.1) (by rw [wr_nj (by decide)]; exact x3.2.1.2.2.2) wr_eq
      refine ⟨A1, wr B1 100 16 1, -1 - (s1 : Int), ((i + 1 : Nat) : Int), fun X Q hX H => ecl X Q hX ?_, fun X Q K hk H => emd X Q K hk ?_, x7, x8.tr ((fB.rf B1).w (by decide)).g, Or.inr ⟨s1, rfl, hB.2.2.1, by omega, wr_eq⟩⟩
      · rw [if_neg tn0, if_neg (by rw [t1]; exact q3)]
        exact H
      · rw [if_neg (by omega), ebya, if_neg (fun z => q3 (t59.mp z))]
        refine Y_needs0 x6 X _ (W_item hB ?_)
        unfold F_xm_text_46
        rw [mx_ge (by decide), wr_eq, if_neg (by decide)]
        exact H
theorem RR.st2 {M M' : cM} (h : RR M) (hs : SC 10 101 M') (ht : TP M') (hk : ∀ c j, keep c j → ¬ (10 ≤ c ∧ c ≤ 22) → c ≠ 101 → ¬ (c = 70 ∧ j = 1) → ¬ (c = 100 ∧ j = 12) → M' c j = M c j) : RR M' := by
  obtain ⟨h1, h2, h3, h4, h5, h6, h7⟩ := h
  unfold keep at hk
  refine ⟨hs, ?_, fun z => ?_, ht, ?_, fun x x0 x1 => ?_, ?_⟩
  · rw [hk 0 2 (by omega) (by omega) (by omega) (by omega) (by omega), hk 100 4 (by omega) (by omega) (by omega) (by omega) (by omega)]; exact h2
  · rw [hk 0 2 (by omega) (by omega) (by omega) (by omega) (by omega)] at z
    exact SC.kp (fun x j _ _ => hk _ _ (by omega) (by omega) (by omega) (by omega) (by omega)) (fun j => hk _ _ (by omega) (by omega) (by omega) (by omega) (by omega)) (h3 z)
  · exact RO.kp (fun c j _ _ => hk _ _ (by omega) (by omega) (by omega) (by omega) (by omega)) (fun c j _ _ => hk _ _ (by omega) (by omega) (by omega) (by omega) (by omega)) h5
  · rw [hk 75 x (by omega) (by omega) (by omega) (by omega) (by omega), hk 104 x (by omega) (by omega) (by omega) (by omega) (by omega)]; exact h6 x x0 x1
  · exact TB.kp (fun c j _ => hk _ _ (by omega) (by omega) (by omega) (by omega) (by omega)) h7
/-- the model's copy before it reads -/
def g82 (M : cM) (n : Nat) : Int → Int := fun j => if 0 ≤ j ∧ j < n then M 101 j else M 103 j
theorem L_xm_t2 {Q : Int → cM → Prop} {M : cM} (H : F_xm_token (fun M2 => F_xm_item (fun M5 => ∃ e46, F_xm_text_46 Q e46 1 M5) M2) (wr (wr (stc M 103 (g82 M 82)) 100 14 0) 100 16 0)) : ∀ (m n : Nat), n + m = 82 → F_xm_text_2 Q (m + 1) n (stc M 103 (g82 M n)) := by
  intro m
  induction m with
  | zero =>
    intro n hn
    unfold F_xm_text_2
    rw [if_pos (by omega)]
    rw [show 82 = n by omega] at H; exact H
  | succ m ih =>
    intro n hn
    unfold F_xm_text_2
    rw [if_neg (by omega), wE (by omega), stc_ne (by decide), stc_wr]
    refine ⟨by omega, by omega, ?_⟩
    have e : fu (g82 M n) n (M 101 n) = g82 M (n + 1) := by
      funext j
      unfold fu g82
      by_cases q : j = n
      · rw [if_pos q, if_pos (by omega), q]
      · rw [if_neg q]
        by_cases z : 0 ≤ j ∧ j < n
        · rw [if_pos z, if_pos (by omega)]
        · rw [if_neg z, if_neg (by omega)]
    rw [e]
    exact ih (n + 1) (by omega)
theorem X_xm_t2 {Q : Int → cM → Prop} {M : cM} (H : F_xm_token (fun M2 => F_xm_item (fun M5 => ∃ e46, F_xm_text_46 Q e46 1 M5) M2) (wr (wr (stc M 103 (g82 M 82)) 100 14 0) 100 16 0)) : F_xm_text Q M := by
  unfold F_xm_text
  have e : stc M 103 (g82 M 0) = M := by
    have : g82 M 0 = M 103 := by
      funext j
      unfold g82
      rw [if_neg (by omega)]
    rw [this, stc_id]
  have := L_xm_t2 H 82 0 (by decide)
  rw [e] at this
  exact ⟨_, this⟩
theorem mx_stc {A B : cM} {c : Int} {g : Int → Int} (h : 100 ≤ c) : stc (mx A B) c g = mx A (stc B c g) := by
  funext c' j
  by_cases q : c' < 100
  · rw [stc_ne (by omega), mx_lt q, mx_lt q]
  · rw [mx_ge (by omega)]
    unfold stc
    rw [mx_ge (by omega)]
theorem Z_text {P : Int → Int → cM → Prop} {M : cM} (hR : RR M) (H : ∀ r M', RR M' → P r r M') : F_xs_text (fun x M1 => F_xm_text (fun y M2 => P x y M2) M1) M := by
  have hTB : TB M := hR.2.2.2.2.2.2
  have hTP := hR.2.2.2.1
  unfold F_xs_text F_xs_text_42
  refine X_become (by decide) hR.1.hh (fun M1 a1 a2 => ?_)
  have hS0 : SC 50 101 M1 := hR.1.bc a2 (fun j _ _ => a1 _ _ (by decide))
  obtain ⟨L, hL⟩ := Int.eq_ofNat_of_zero_le hTP.1.2.1
  have hL120 : L ≤ 120 := by have := hTP.1.2.2; omega
  -- both readers at the text's first byte
  have hA70 : M1 70 1 = L := by rw [a1 _ _ (by decide), hTP.1.1, hL]
  have tpr : TPR (wr M1 72 5 0) (wr (wr (stc M 103 (g82 M 82)) 100 14 0) 100 16 0) L := by
    refine ⟨⟨by rw [wr_ne (by decide)]; exact hA70, by rw [wr_nj (by decide), wr_nj (by decide), stc_ne (by decide)]; exact hL, hL120⟩, fun k hk => ?_⟩
    rw [wr_ne (by decide), wr_ne (by decide), wr_ne (by decide), stc_ne (by decide), a1 _ _ (by decide)]
    exact hTP.2 k (by omega) (by omega)
  obtain ⟨A1, B1, s1, n1, n2, n3, n4, n5, n6, n7, n8, n9⟩ := J_next (e := 0) tpr wr_eq (by rw [wr_nj (by decide), wr_eq]; rfl) (Nat.zero_le _)
  have hS1 : SC 50 101 (mx A1 B1) := by
    refine SC.fr2 (A := M1) (B := M1) (by rw [mx_self]; exact hS0) (fun c j _ _ => ?_) (fun j => ?_)
    · rw [n6 c j (by omega), wr_ne (by omega)]
    · rw [n7 101 j (by omega), wr_ne (by decide), wr_ne (by decide), stc_ne (by decide), a1 _ _ (by decide)]
  obtain ⟨A2, B2, r, l1, y1, y2, y3, y4, y5⟩ := S_items (L := L) (L + 1) 1 A1 B1 s1 _ (by omega) (by omega) (by omega) n3 (by rw [n8, wr_eq]) hS1
  have eM1 : M1 = mx M1 M := by
    funext c j
    by_cases q : c < 100
    · rw [mx_lt q]
    · rw [mx_ge (by omega)]; exact a1 c j (by omega)
  have cls : ∀ Q : Int → cM → Prop, Q r (mx A2 M) → F_xq_items Q M1 := by
    intro Q G
    unfold F_xq_items
    rw [eM1, mx_wl (by decide)]
    exact n1 M _ hTB ⟨_, y1 M Q hTB G⟩
  have mdl : ∀ (X : cM) (Q : Int → cM → Prop), F_xm_text_96 Q l1 (mx X B2) → F_xm_text Q (mx X M) := by
    intro X Q G
    refine X_xm_t2 ?_
    have eg : g82 (mx X M) 82 = g82 M 82 := by
      funext j
      unfold g82
      rw [mx_ge (by decide), mx_ge (by decide)]
    rw [eg, mx_stc (by decide), mx_wr (by decide), mx_wr (by decide)]
    refine n2 X _ ?_
    exact y2 X Q _ (fun _ h => ⟨_, h⟩) G
  have gA1 : ∀ c j, c ≠ 72 → c ≠ 73 → ¬ (50 ≤ c ∧ c ≤ 62) → c < 100 → A2 c j = M c j := fun c j h1 h2 h3 h4 => by
    rw [y3 c j h1 h2 h3, n6 c j h1, wr_ne h1]; exact a1 c j (by omega)
  have gB1 : ∀ c j, ¬ (c = 100 ∧ 13 ≤ j ∧ j ≤ 16) → c ≠ 101 → c ≠ 103 → B2 c j = M c j := fun c j h1 h2 h3 => by
    rw [y4 c j h1 h2, n7 c j h1, wr_at, if_neg (by omega), wr_at, if_neg (by omega), stc_ne h3]
  have g103 : ∀ j, 0 ≤ j → j < 82 → B2 103 j = M 101 j := fun j j0 j1 => by
    rw [y4 103 j (by omega) (by decide), n7 103 j (by omega), wr_ne (by decide), wr_ne (by decide), stc_at]
    unfold g82
    rw [if_pos (by omega)]
  refine cls _ ?_
  rcases y5 with ⟨r1, r2, r3, r4⟩ | ⟨f, r1, r2, r3, r4⟩
  · -- the text is well
    rw [if_neg (by omega), mx_wl (by decide)]
    have hh : ∀ k, 0 ≤ k → k < 4 → 0 ≤ mx (wr A2 70 1 0) M (50 + 9) k ∧ mx (wr A2 70 1 0) M (50 + 9) k ≤ 6 := fun k k0 k1 => by
      have := r3.hh k k0 k1
      rw [mx_lt (by decide)] at this ⊢
      rw [wr_ne (by decide)]
      exact this
    refine X_become (by decide) hh (fun M3 b1 b2 => ?_)
    have eM3 : M3 = mx M3 M := by
      funext c j
      by_cases q : c < 100
      · rw [mx_lt q]
      · rw [mx_ge (by omega), b1 c j (by omega), mx_ge (by omega)]
    rw [eM3]
    refine mdl M3 _ ?_
    unfold F_xm_text_96
    rw [wr_nj (by decide), mx_ge (by decide), if_pos r4, mx_wr (by decide), r1]
    have hSC : SC 10 101 (mx M3 (wr B2 100 12 0)) := by
      have r3' : SC 50 101 (mx (wr A2 70 1 0) B2) := r3.fr2 (fun c j c1 c2 => wr_ne (by omega)) (fun _ => rfl)
      have b2' : BC 10 50 (mx (wr A2 70 1 0) B2) M3 := by
        obtain ⟨q1, q2, q3, q4, q5⟩ := b2
        have e50 : ∀ c j, c < 100 → mx (wr A2 70 1 0) B2 c j = mx (wr A2 70 1 0) M c j := fun c j hc => by rw [mx_lt hc, mx_lt hc]
        refine ⟨?_, fun j j0 j1 => ?_, fun j j0 j1 => ?_, fun j j0 j1 => ?_, fun k i k0 k1 i0 i1 => ?_⟩
        · rw [e50 _ _ (by decide), e50 _ _ (by decide), e50 _ _ (by decide), e50 _ _ (by decide), e50 _ _ (by decide), e50 _ _ (by decide)]; exact q1
        · rw [e50 _ _ (by decide), e50 _ _ (by decide), e50 _ _ (by decide), e50 _ _ (by decide)]; exact q2 j j0 j1
        · rw [e50 _ _ (by decide), e50 _ _ (by decide)]; exact q3 j j0 j1
        · rw [e50 _ _ (by decide)]; exact q4 j j0 j1
        · rw [e50 _ _ (by decide)] at i1
          rw [e50 _ _ (by omega)]; exact q5 k i k0 k1 i0 i1
      refine r3'.bc (b2'.kp (fun c j c1 c2 => mx_lt (by omega))) (fun j _ _ => ?_)
      rw [mx_ge (by decide), mx_ge (by decide), wr_ne (by decide)]
    refine H _ _ (hR.st2 hSC ⟨⟨?_, ?_, ?_⟩, fun k k0 k1 => ?_⟩ (fun c j hk h1 h2 h3 h4 => ?_))
    · rw [mx_lt (by decide), mx_ge (by decide), wr_eq, b1 _ _ (by decide), mx_lt (by decide), wr_eq]
    · rw [mx_ge (by decide), wr_eq]; exact Int.le_refl _
    · rw [mx_ge (by decide), wr_eq]; decide
    · rw [mx_ge (by decide), wr_eq] at k1
      omega
    · by_cases q : c < 100
      · rw [mx_lt q, b1 c j (by omega), mx_lt q, wr_at, if_neg h3]
        exact gA1 c j (fun z => by unfold keep at hk; omega) (fun z => by unfold keep at hk; omega) (fun z => by unfold keep at hk; omega) q
      · rw [mx_ge (by omega), wr_at, if_neg h4]
        exact gB1 c j (fun z => by unfold keep at hk; omega) h2 (fun z => by unfold keep at hk; omega)
  · -- it is not
    rw [if_pos (by omega), mx_wl (by decide)]
    refine mdl (wr A2 70 1 0) _ ?_
    unfold F_xm_text_96
    rw [wr_nj (by decide), mx_ge (by decide), if_neg (by omega), mx_wr (by decide)]
    refine ⟨_, L_xm_text110 82 0 _ (by decide) (fun M4 d1 _ d3 => ?_)⟩
    have e13 : M4 100 13 = f := by rw [d1 _ _ (by decide), mx_ge (by decide), wr_nj (by decide)]; exact r2
    rw [e13, w32_e (x := -1 - (f : Int)) (by omega) (by omega), ← r1]
    have eL : ∀ c j, c < 100 → c ≠ 72 → c ≠ 73 → ¬ (50 ≤ c ∧ c ≤ 62) → ¬ (c = 70 ∧ j = 1) → M4 c j = M c j := fun c j h0 h1 h2 h3 h4 => by
      rw [d1 c j (by omega), mx_lt h0, wr_at, if_neg h4]; exact gA1 c j h1 h2 h3 h0
    have hSC : SC 10 101 M4 := by
      refine hR.1.bc (b := 10) (c' := 101) ⟨?_, fun j j0 j1 => ?_, fun j j0 j1 => ?_, fun j j0 j1 => ?_, fun k i k0 k1 i0 i1 => ?_⟩ (fun j j0 j1 => ?_)
      · rw [eL 10 0 (by decide) (by decide) (by decide) (by decide) (by decide), eL 10 4 (by decide) (by decide) (by decide) (by decide) (by decide), eL 10 5 (by decide) (by decide) (by decide) (by decide) (by decide), eL 10 6 (by decide) (by decide) (by decide) (by decide) (by decide), eL 10 9 (by decide) (by decide) (by decide) (by decide) (by decide), eL 10 12 (by decide) (by decide) (by decide) (by decide) (by decide)]
        exact ⟨rfl, rfl, rfl, rfl, rfl, rfl⟩
      · rw [eL _ _ (by decide) (by decide) (by decide) (by decide) (by omega), eL _ _ (by decide) (by decide) (by decide) (by decide) (by omega), eL _ _ (by decide) (by decide) (by decide) (by decide) (by omega), eL _ _ (by decide) (by decide) (by decide) (by decide) (by omega)]
        exact ⟨rfl, rfl, rfl, rfl⟩
      · rw [eL _ _ (by decide) (by decide) (by decide) (by decide) (by omega), eL _ _ (by decide) (by decide) (by decide) (by decide) (by omega)]
        exact ⟨rfl, rfl⟩
      · exact eL _ _ (by decide) (by decide) (by decide) (by decide) (by omega)
      · exact eL _ _ (by omega) (by omega) (by omega) (by omega) (by omega)
      · rw [d3 j (by omega) j1, mx_ge (by decide), wr_ne (by decide)]; exact g103 j j0 j1
    have eR : ∀ c j, 100 ≤ c → ¬ (c = 100 ∧ 13 ≤ j ∧ j ≤ 16) → c ≠ 101 → c ≠ 103 → ¬ (c = 100 ∧ j = 12) → M4 c j = M c j := fun c j h0 h1 h2 h3 h4 => by
      rw [d1 c j h2, mx_ge h0, wr_at, if_neg h4]; exact gB1 c j h1 h2 h3
    refine H _ _ (hR.st2 hSC ⟨⟨?_, ?_, ?_⟩, fun k k0 k1 => ?_⟩ (fun c j hk h1 h2 h3 h4 => ?_))
    · rw [d1 _ _ (by decide), mx_lt (by decide), wr_eq, d1 _ _ (by decide), mx_ge (by decide), wr_eq]
    · rw [d1 _ _ (by decide), mx_ge (by decide), wr_eq]; exact Int.le_refl _
    · rw [d1 _ _ (by decide), mx_ge (by decide), wr_eq]; decide
    · rw [d1 _ _ (by decide), mx_ge (by decide), wr_eq] at k1
      omega
    · by_cases q : c < 100
      · exact eL c j q (fun z => by unfold keep at hk; omega) (fun z => by unfold keep at hk; omega) (fun z => by unfold keep at hk; omega) h3
      · exact eR c j (by omega) (fun z => by unfold keep at hk; omega) h2 (fun z => by unfold keep at hk; omega) h4
