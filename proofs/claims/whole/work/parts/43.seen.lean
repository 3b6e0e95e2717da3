/-! What both sides have in common, and the calls 'what is seen'. -/
theorem RR.cos {M : cM} (h : RR M) : cosT M := h.2.2.2.2.2.2.1
theorem SC.sk {M : cM} {c k : Int} {b : Int} (h : SC b c M) (h0 : 0 ≤ k) (h1 : k < M c 0) : shok M b k := by
  obtain ⟨⟨-, -, g0⟩, ⟨g1, g2, g3⟩, -, -, -, -, -, h7, -⟩ := h
  obtain ⟨a1, a2, a3, a4, a5, a6⟩ := h7 k h0 h1
  exact ⟨h0, by omega, by rw [a1]; exact a4, by rw [a2]; exact a5, by rw [a3]; exact a6, by rw [g1]; exact ⟨g2, g3⟩⟩
theorem SC.mk {M : cM} {b k : Int} (h : SC b 101 M) (h0 : 0 ≤ k) (h1 : k < M 101 0) : mok M k := by
  obtain ⟨⟨-, -, g0⟩, ⟨g1, g2, g3⟩, -, -, -, -, -, h7, -⟩ := h
  obtain ⟨a1, a2, a3, a4, a5, a6⟩ := h7 k h0 h1
  exact ⟨h0, by omega, a4, a5, a6, g2, g3⟩
theorem SC.sp {M : cM} {b k bh : Int} (h : SC b 101 M) (h0 : 0 ≤ k) (h1 : k < M 101 0) (l : Int × Int) : xst M b bh k l = mst M bh k l := by
  obtain ⟨-, ⟨g1, -⟩, -, -, -, -, -, h7, -⟩ := h
  obtain ⟨a1, a2, a3, -⟩ := h7 k h0 h1
  unfold xst mst
  rw [a1, a2, a3, g1]
theorem SC.st {M : cM} {b c st : Int} (h : SC b c M) (hs : 0 ≤ st ∧ st < 4) : stok M b st := by
  have h' := h
  obtain ⟨-, -, -, -, -, -, -, -, h8, h9, -⟩ := h
  obtain ⟨a1, a2, a3⟩ := h8 st hs.1 hs.2
  refine ⟨hs, by rw [a1]; exact ⟨a2, a3⟩, fun i i0 i1 => ?_⟩
  rw [a1] at i1
  obtain ⟨b1, b2, b3⟩ := h9 st i hs.1 hs.2 i0 i1
  rw [b1]
  exact SC.sk h' b2 b3
theorem SC.mt {M : cM} {b st : Int} (h : SC b 101 M) (hs : 0 ≤ st ∧ st < 4) : mtok M st := by
  have h' := h
  obtain ⟨-, -, -, -, -, -, -, -, h8, h9, -⟩ := h
  obtain ⟨a1, a2, a3⟩ := h8 st hs.1 hs.2
  refine ⟨hs, ⟨a2, a3⟩, fun i i0 i1 => ?_⟩
  obtain ⟨b1, b2, b3⟩ := h9 st i hs.1 hs.2 i0 i1
  exact SC.mk h' b2 b3
theorem SC.xm {M : cM} {b st : Int} (h : SC b 101 M) (hs : 0 ≤ st ∧ st < 4) (bh : Int) (l : Int × Int) : xth M b st bh l = mth M st bh l := by
  have h' := h
  obtain ⟨-, -, -, -, -, -, -, -, h8, h9, -⟩ := h
  obtain ⟨a1, a2, a3⟩ := h8 st hs.1 hs.2
  unfold xth mth
  rw [a1]
  refine thr_eq _ (fun i hi x => ?_)
  have key : ∀ j, 0 ≤ j → j < M 101 (44 + 7 * st) → xst M b bh (M (b + 5 + st) j) x = mst M bh (M 101 (45 + 7 * st + j)) x := by
    intro j j0 j1
    obtain ⟨b1, b2, b3⟩ := h9 st j hs.1 hs.2 j0 j1
    rw [b1]
    exact SC.sp h' b2 b3 x
  unfold gsx gsm
  split
  · exact key _ (by omega) (by omega)
  · exact key _ (by omega) (by omega)
theorem SC.lk {M : cM} {b c : Int} (h : SC b c M) : lok (M b 5) (M b 6) := by
  obtain ⟨-, -, ⟨a1, a2, a3⟩, ⟨b1, b2, b3⟩, -⟩ := h
  rw [a1, b1]
  exact ⟨a2, a3, b2, b3⟩
theorem SC.lmp {M : cM} {b c : Int} (h : SC b c M) : lampP M b = (M c 2, M c 3) := by
  obtain ⟨-, -, ⟨a1, -⟩, ⟨b1, -⟩, -⟩ := h
  unfold lampP
  rw [a1, b1]
theorem SC.mlok {M : cM} {b c : Int} (h : SC b c M) : lok (M c 2) (M c 3) := by
  obtain ⟨-, -, ⟨a1, a2, a3⟩, ⟨b1, b2, b3⟩, -⟩ := h
  exact ⟨a2, a3, b2, b3⟩
theorem Lt.kp {M M' : cM} (h : Lt M M') : Kp M M' := fun c j hk => h c j (fun q => by unfold keep at hk; omega)
theorem Z_through {P : Int → Int → cM → Prop} {M : cM} {a b w : Int} (hR : RR M) (H : ∀ r M', RR M' → P r r M') : F_xs_through (fun x M1 => F_xm_through (fun y M2 => P x y M2) a b w M1) a b w M := by
  unfold F_xs_through F_xs_through_15
  simp only [E_xs_isStack, E_xs_within, ite01]
  have mdl : ∀ M1 : cM, F_xm_through (fun y M2 => P (-1000001) y M2) a b w M1 = if 0 ≤ a ∧ a < 4 then (if 0 ≤ w ∧ w ≤ 1 then F_xm_lights (fun M12 => F_xm_goesThrough (fun M15 => if w = 0 then P (-1000001) (M15 100 6) M15 else P (-1000001) (M15 100 7) M15) a b M12) M1 else F_xm_finds (fun y M2 => P (-1000001) y M2) (-1000001) M1) else F_xm_finds (fun y M2 => P (-1000001) y M2) (-1000001) M1 := by
    intro M1
    unfold F_xm_through F_xm_through_17
    simp only [E_xm_isStack, E_xm_in, ite01]
  by_cases h1 : 0 ≤ a ∧ a < 4
  · rw [if_pos h1]
    by_cases h2 : 0 ≤ w ∧ w < 2
    · rw [if_pos h2, E_xs_lamp hR.1.lk]
      have hl := xth_ok (bh := b) (hR.1.st h1) (l := lampP M 10) hR.1.lk
      refine X_behindStack (l := lampP M 10) hR.cos (hR.1.st h1) hR.1.lk ?_
      have fin : ∀ r, r = (if w = 0 then (xth M 10 a b (lampP M 10)).1 else (xth M 10 a b (lampP M 10)).2) → F_xm_through (fun y M2 => P r y M2) a b w M := by
        intro r hr
        unfold F_xm_through
        simp only [E_xm_isStack, E_xm_in, ite01]
        rw [if_pos h1, if_pos (by omega)]
        refine Y_lights (fun M1 L1 m1 => ?_)
        have e1 : ∀ j, M1 101 j = M 101 j := fun j => L1.at (by decide) j
        have hl1 : lok (M1 100 6) (M1 100 7) := by
          have q1 : M1 100 6 = M 101 2 := congrArg Prod.fst m1
          have q2 : M1 100 7 = M 101 3 := congrArg Prod.snd m1
          rw [q1, q2]; exact hR.1.mlok
        refine Y_goesThrough (mtok_kp e1 (hR.1.mt h1)) hl1 (fun M2 L2 m2 => ?_)
        rw [m1, mth_kp e1, ← hR.1.lmp, ← hR.1.xm h1] at m2
        have q1 : M2 100 6 = (xth M 10 a b (lampP M 10)).1 := congrArg Prod.fst m2
        have q2 : M2 100 7 = (xth M 10 a b (lampP M 10)).2 := congrArg Prod.snd m2
        rw [q1, q2]
        have hRR := hR.kp (L1.tr L2).kp
        by_cases hw : w = 0
        · rw [if_pos hw] at hr ⊢; rw [hr]; exact H _ _ hRR
        · rw [if_neg hw] at hr ⊢; rw [hr]; exact H _ _ hRR
      unfold encp
      by_cases hw : w = 0
      · rw [if_pos hw, E_xl_share hl]
        exact fin _ (by rw [if_pos hw])
      · rw [if_neg hw, E_xl_slant hl]
        exact fin _ (by rw [if_neg hw])
    · rw [if_neg h2, E_xs_fin 0 (by decide) (by decide), mdl, if_pos h1, if_neg (by omega), E_xm_fin 0 (by decide) (by decide)]
      exact H _ _ (hR.fin (by decide))
  · rw [if_neg h1, E_xs_fin 0 (by decide) (by decide), mdl, if_neg h1, E_xm_fin 0 (by decide) (by decide)]
    exact H _ _ (hR.fin (by decide))
theorem Z_err {Q : Int → cM → Prop} {M : cM} {w : Int} (k : Int) (hk : 0 ≤ k ∧ k < 7) (hw : w = -1000001 - k) (hR : RR M) (h : ∀ M1 : cM, (∀ c j, c ≠ 75 → M1 c j = M c j) → RR (wr M1 104 k (w32 (M1 104 k + 1))) → Q w M1) : F_xs_finding Q w M := by
  rw [E_xs_fin k hk hw]
  exact h _ (fun c j hc => wr_ne hc) (hR.fin hk)
theorem RR.n10 {M : cM} (h : RR M) : M 10 0 = M 101 0 ∧ 0 ≤ M 101 0 ∧ M 101 0 ≤ 10 := h.1.1
theorem RR.h19 {M : cM} (h : RR M) {k : Int} (hk : 0 ≤ k ∧ k < 4) : M 19 k = M 101 (44 + 7 * k) ∧ 0 ≤ M 101 (44 + 7 * k) ∧ M 101 (44 + 7 * k) ≤ 6 := h.1.2.2.2.2.2.2.2.2.1 k hk.1 hk.2
theorem RR.row {M : cM} (h : RR M) {k i : Int} (hk : 0 ≤ k ∧ k < 4) (hi : 0 ≤ i ∧ i < M 101 (44 + 7 * k)) : M (15 + k) i = M 101 (45 + 7 * k + i) ∧ 0 ≤ M 101 (45 + 7 * k + i) ∧ M 101 (45 + 7 * k + i) < M 101 0 := h.1.2.2.2.2.2.2.2.2.2.1 k i hk.1 hk.2 hi.1 hi.2
theorem RR.sheet {M : cM} (h : RR M) {k : Int} (hk : 0 ≤ k ∧ k < M 101 0) : M 11 k = M 101 (14 + 3 * k) ∧ M 12 k = M 101 (15 + 3 * k) ∧ M 13 k = M 101 (16 + 3 * k) ∧ (0 ≤ M 101 (14 + 3 * k) ∧ M 101 (14 + 3 * k) ≤ 6) ∧ (0 ≤ M 101 (15 + 3 * k) ∧ M 101 (15 + 3 * k) ≤ 11) ∧ (0 ≤ M 101 (16 + 3 * k) ∧ M 101 (16 + 3 * k) ≤ 1000) := h.1.2.2.2.2.2.2.2.1 k hk.1 hk.2
theorem RR.ld {M : cM} (h : RR M) : M 10 4 = M 101 1 ∧ 0 ≤ M 101 1 ∧ M 101 1 ≤ 11 := h.1.2.1
/-- the model's light behind the lights and a stack -/
theorem Y_thru {Q : cM → Prop} {k bh : Int} {M : cM} (hs : mtok M k) (hl : lok (M 101 2) (M 101 3)) (H : ∀ M', Lt M M' → ml M' = mth M k bh (M 101 2, M 101 3) → Q M') : F_xm_lights (fun M1 => F_xm_goesThrough Q k bh M1) M := by
  refine Y_lights (fun M1 L1 m1 => ?_)
  have e1 : ∀ j, M1 101 j = M 101 j := fun j => L1.at (by decide) j
  have hl1 : lok (M1 100 6) (M1 100 7) := by
    have q1 : M1 100 6 = M 101 2 := congrArg Prod.fst m1
    have q2 : M1 100 7 = M 101 3 := congrArg Prod.snd m1
    rw [q1, q2]; exact hl
  refine Y_goesThrough (mtok_kp e1 hs) hl1 (fun M2 L2 m2 => ?_)
  rw [m1, mth_kp e1] at m2
  exact H M2 (L1.tr L2) m2
/-- the same with the class's light named -/
theorem RR.thru {Q : cM → Prop} {k bh : Int} {M : cM} (hR : RR M) (hk : 0 ≤ k ∧ k < 4) (H : ∀ M', Lt M M' → M' 100 6 = (xth M 10 k bh (lampP M 10)).1 → M' 100 7 = (xth M 10 k bh (lampP M 10)).2 → Q M') : F_xm_lights (fun M1 => F_xm_goesThrough Q k bh M1) M := by
  refine Y_thru (hR.1.mt hk) hR.1.mlok (fun M' L m => H M' L ?_ ?_)
  · rw [hR.1.xm hk, hR.1.lmp]; exact congrArg Prod.fst m
  · rw [hR.1.xm hk, hR.1.lmp]; exact congrArg Prod.snd m
theorem RR.xok {M : cM} (hR : RR M) {k : Int} (hk : 0 ≤ k ∧ k < 4) (bh : Int) : lok (xth M 10 k bh (lampP M 10)).1 (xth M 10 k bh (lampP M 10)).2 := xth_ok (hR.1.st hk) (l := lampP M 10) hR.1.lk
/-- what is seen behind a stack -/
def sn (M : cM) (k bh t : Int) : Int := zsee (xth M 10 k bh (lampP M 10)).1 (xth M 10 k bh (lampP M 10)).2 t
/-- the best of tilts -/
def bst (f : Int → Int) : Nat → Int
  | 0 => 0
  | n + 1 => if f ((n : Int) + 1) ≤ f (bst f n) then bst f n else (n : Int) + 1
theorem bst_b (f : Int → Int) : ∀ n : Nat, 0 ≤ bst f n ∧ bst f n ≤ n
  | 0 => ⟨Int.le_refl _, Int.le_refl _⟩
  | n + 1 => by
    have := bst_b f n
    unfold bst
    split <;> omega
theorem L_xs_bright {Q : Int → cM → Prop} {l : Int × Int} {M : cM} (hT : cosT M) (h : lok l.1 l.2) (H : Q (bst (zsee l.1 l.2) 11) M) : ∀ (m n : Nat), n + m = 11 → F_xs_bright_37 Q (m + 1) (encp l) (bst (zsee l.1 l.2) n) ((n : Int) + 1) M := by
  intro m
  induction m with
  | zero =>
    intro n hn
    unfold F_xs_bright_37
    rw [if_pos (by omega)]
    have e : n = 11 := by omega
    rw [e]; exact H
  | succ m ih =>
    intro n hn
    have hb := bst_b (zsee l.1 l.2) n
    have hs := ih (n + 1) (by omega)
    unfold F_xs_bright_37
    unfold encp at hs ⊢
    rw [if_neg (by omega), E_xl_seenAt hT h (by omega), E_xl_seenAt hT h (by omega)]
    unfold F_xs_bright_63
    rw [w32_e (by omega) (by omega)]
    rw [show ((n + 1 : Nat) : Int) + 1 = (n : Int) + 1 + 1 by omega] at hs
    unfold bst at hs
    by_cases hc : zsee l.1 l.2 ((n : Int) + 1) ≤ zsee l.1 l.2 (bst (zsee l.1 l.2) n)
    · rw [if_pos hc] at hs ⊢; exact hs
    · rw [if_neg hc] at hs ⊢; exact hs
theorem L_xm_bright {Q : Int → cM → Prop} {M : cM} (h : lok (M 100 6) (M 100 7)) (H : Q (bst (zsee (M 100 6) (M 100 7)) 11) M) : ∀ (m n : Nat), n + m = 11 → F_xm_bright_29 Q (m + 1) (bst (zsee (M 100 6) (M 100 7)) n) ((n : Int) + 1) M := by
  intro m
  induction m with
  | zero =>
    intro n hn
    unfold F_xm_bright_29
    rw [if_pos (by omega)]
    have e : n = 11 := by omega
    rw [e]; exact H
  | succ m ih =>
    intro n hn
    have hb := bst_b (zsee (M 100 6) (M 100 7)) n
    have hs := ih (n + 1) (by omega)
    unfold F_xm_bright_29
    rw [if_neg (by omega), Y_seenAt h (by omega), Y_seenAt h (by omega)]
    unfold F_xm_bright_56
    rw [w32_e (by omega) (by omega)]
    rw [show ((n + 1 : Nat) : Int) + 1 = (n : Int) + 1 + 1 by omega] at hs
    unfold bst at hs
    by_cases hc : zsee (M 100 6) (M 100 7) ((n : Int) + 1) ≤ zsee (M 100 6) (M 100 7) (bst (zsee (M 100 6) (M 100 7)) n)
    · rw [if_pos hc] at hs ⊢; exact hs
    · rw [if_neg hc] at hs ⊢; exact hs
/-- the least of tilts -/
def wst (f : Int → Int) : Nat → Int
  | 0 => 0
  | n + 1 => if f (wst f n) ≤ f ((n : Int) + 1) then wst f n else (n : Int) + 1
theorem wst_b (f : Int → Int) : ∀ n : Nat, 0 ≤ wst f n ∧ wst f n ≤ n
  | 0 => ⟨Int.le_refl _, Int.le_refl _⟩
  | n + 1 => by
    have := wst_b f n
    unfold wst
    split <;> omega
theorem L_xs_dark {Q : Int → cM → Prop} {l : Int × Int} {M : cM} (hT : cosT M) (h : lok l.1 l.2) (H : Q (wst (zsee l.1 l.2) 11) M) : ∀ (m n : Nat), n + m = 11 → F_xs_dark_37 Q (m + 1) (encp l) (wst (zsee l.1 l.2) n) ((n : Int) + 1) M := by
  intro m
  induction m with
  | zero =>
    intro n hn
    unfold F_xs_dark_37
    rw [if_pos (by omega)]
    have e : n = 11 := by omega
    rw [e]; exact H
  | succ m ih =>
    intro n hn
    have hb := wst_b (zsee l.1 l.2) n
    have hs := ih (n + 1) (by omega)
    unfold F_xs_dark_37
    unfold encp at hs ⊢
    rw [if_neg (by omega), E_xl_seenAt hT h (by omega), E_xl_seenAt hT h (by omega)]
    unfold F_xs_dark_63
    rw [w32_e (by omega) (by omega)]
    rw [show ((n + 1 : Nat) : Int) + 1 = (n : Int) + 1 + 1 by omega] at hs
    unfold wst at hs
    by_cases hc : zsee l.1 l.2 (wst (zsee l.1 l.2) n) ≤ zsee l.1 l.2 ((n : Int) + 1)
    · rw [if_pos hc] at hs ⊢; exact hs
    · rw [if_neg hc] at hs ⊢; exact hs
theorem L_xm_dark {Q : Int → cM → Prop} {M : cM} (h : lok (M 100 6) (M 100 7)) (H : Q (wst (zsee (M 100 6) (M 100 7)) 11) M) : ∀ (m n : Nat), n + m = 11 → F_xm_dark_29 Q (m + 1) (wst (zsee (M 100 6) (M 100 7)) n) ((n : Int) + 1) M := by
  intro m
  induction m with
  | zero =>
    intro n hn
    unfold F_xm_dark_29
    rw [if_pos (by omega)]
    have e : n = 11 := by omega
    rw [e]; exact H
  | succ m ih =>
    intro n hn
    have hb := wst_b (zsee (M 100 6) (M 100 7)) n
    have hs := ih (n + 1) (by omega)
    unfold F_xm_dark_29
    rw [if_neg (by omega), Y_seenAt h (by omega), Y_seenAt h (by omega)]
    unfold F_xm_dark_56
    rw [w32_e (by omega) (by omega)]
    rw [show ((n + 1 : Nat) : Int) + 1 = (n : Int) + 1 + 1 by omega] at hs
    unfold wst at hs
    by_cases hc : zsee (M 100 6) (M 100 7) (wst (zsee (M 100 6) (M 100 7)) n) ≤ zsee (M 100 6) (M 100 7) ((n : Int) + 1)
    · rw [if_pos hc] at hs ⊢; exact hs
    · rw [if_neg hc] at hs ⊢; exact hs
