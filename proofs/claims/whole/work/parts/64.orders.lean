/-! Orders on both machines. -/
def stc (M : cM) (c : Int) (g : Int → Int) : cM := fun c' j => if c' = c then g j else M c' j
theorem stc_at {M : cM} {c : Int} {g : Int → Int} {j : Int} : stc M c g c j = g j := if_pos rfl
theorem stc_ne {M : cM} {c c' : Int} {g : Int → Int} {j : Int} (h : c' ≠ c) : stc M c g c' j = M c' j := if_neg h
theorem stc_row {M : cM} {c : Int} {g : Int → Int} : stc M c g c = g := by funext j; exact if_pos rfl
theorem stc_id (M : cM) (c : Int) : stc M c (M c) = M := by
  funext c' j
  unfold stc
  by_cases h : c' = c
  · rw [if_pos h, h]
  · rw [if_neg h]
theorem stc_stc {M : cM} {c : Int} {g p : Int → Int} : stc (stc M c g) c p = stc M c p := by
  funext c' j
  unfold stc
  by_cases h : c' = c
  · rw [if_pos h, if_pos h]
  · rw [if_neg h, if_neg h, if_neg h]
theorem stc_wr {M : cM} {c l v : Int} {g : Int → Int} : wr (stc M c g) c l v = stc M c (fu g l v) := by
  funext c' j
  rw [wr_at]
  unfold stc fu
  by_cases h : c' = c
  · rw [if_pos h]
    by_cases h2 : j = l
    · rw [if_pos ⟨h, h2⟩, if_pos h2, if_pos h]
    · rw [if_neg (fun q => h2 q.2), if_neg h2, if_pos h]
  · rw [if_neg (fun q => h q.1), if_neg h, if_neg h]
theorem ris_lt {g : Int → Int} : ∀ k : Nat, 0 ≤ ris g k → g (ris g k) < g (ris g k + 1)
  | 0, h => absurd h (by show ¬ (0 : Int) ≤ -1; decide)
  | k + 1, h => by
    unfold ris at h ⊢
    by_cases q : g k < g ((k : Int) + 1)
    · rw [if_pos q]; exact q
    · rw [if_neg q] at h ⊢; exact ris_lt k h
theorem X_swap {Q : cM → Prop} {M : cM} {g : Int → Int} {a b : Int} (ha : 0 ≤ a ∧ a < 6) (hb : 0 ≤ b ∧ b < 6) (H : Q (stc M 77 (sw g a b))) : F_xa_swap Q a b (stc M 77 g) := by
  unfold F_xa_swap
  refine ⟨ha, hb, ha, hb, ?_⟩
  rw [stc_at, stc_at, stc_wr, stc_wr]
  exact H
theorem L_adv7 {Q : Int → cM → Prop} {M : cM} {g : Int → Int} : ∀ k : Nat, k ≤ 5 → F_xa_advance_34 Q (ris g k) (stc M 77 g) → F_xa_advance_7 Q (k + 1) ((k : Int) - 1) (stc M 77 g) := by
  intro k
  induction k with
  | zero =>
    intro _ H
    unfold F_xa_advance_7
    rw [if_pos (by omega)]
    exact H
  | succ k ih =>
    intro hk H
    rw [show ((k + 1 : Nat) : Int) - 1 = (k : Int) by omega]
    unfold F_xa_advance_7
    rw [if_neg (by omega), w32_e (x := (k : Int) + 1) (by omega) (by omega), stc_at, stc_at, w32_e (x := (k : Int) + -1) (by omega) (by omega)]
    refine ⟨by omega, by omega, ?_⟩
    unfold ris at H
    by_cases q : g k < g ((k : Int) + 1)
    · rw [if_pos q] at H ⊢; exact H
    · rw [if_neg q] at H ⊢; exact ih (by omega) H
theorem L_adv47 {Q : Int → cM → Prop} {M : cM} {g : Int → Int} {r : Int} (h0 : 0 ≤ r) (hr : g r < g (r + 1)) : ∀ k : Nat, k ≤ 6 → r + 1 < k → F_xa_advance_73 Q r (grt g r k) (stc M 77 g) → F_xa_advance_47 Q k r ((k : Int) - 1) (stc M 77 g) := by
  intro k
  induction k with
  | zero => intro _ h; exact absurd h (by omega)
  | succ k ih =>
    intro hk hrk H
    rw [show ((k + 1 : Nat) : Int) - 1 = (k : Int) by omega]
    unfold F_xa_advance_47
    rw [if_neg (by omega), stc_at, stc_at, w32_e (x := (k : Int) + -1) (by omega) (by omega)]
    refine ⟨by omega, by omega, ?_⟩
    unfold grt at H
    by_cases q : g r < g k
    · rw [if_pos q] at H ⊢; exact H
    · rw [if_neg q] at H ⊢
      have : (k : Int) ≠ r + 1 := fun e => q (by rw [e]; exact hr)
      exact ih (by omega) (by omega) H
theorem L_adv91 {Q : Int → cM → Prop} {M : cM} : ∀ (m : Nat) (l h : Int) (g : Int → Int), 0 ≤ l → l ≤ 100 → h < 6 → h - l ≤ 2 * m → -100 ≤ h → Q 1 (stc M 77 (rvs m l h g)) → F_xa_advance_91 Q (m + 1) l h (stc M 77 g) := by
  intro m
  induction m with
  | zero =>
    intro l h g _ _ _ hd _ H
    unfold F_xa_advance_91
    rw [if_pos (by omega), narK41]
    exact H
  | succ m ih =>
    intro l h g hl hl2 hh hd hh2 H
    unfold F_xa_advance_91
    unfold rvs at H
    by_cases q : h ≤ l
    · rw [if_pos q, narK41]
      rw [if_pos q] at H
      exact H
    · rw [if_neg q] at H ⊢
      refine X_swap (by omega) (by omega) ?_
      rw [w32_e (x := l + 1) (by omega) (by omega), w32_e (x := h + -1) (by omega) (by omega)]
      exact ih _ _ _ (by omega) (by omega) (by omega) (by omega) (by omega) H
theorem X_advance {Q : Int → cM → Prop} {M : cM} {g : Int → Int} {n : Nat} (hn : n ≤ 6) (hm : M 76 1 = n) (H1 : 0 ≤ ris g (n - 1) → Q 1 (stc M 77 (nx n g))) (H0 : ris g (n - 1) < 0 → Q 0 (stc M 77 g)) : F_xa_advance Q (stc M 77 g) := by
  unfold F_xa_advance
  rw [stc_ne (by decide), hm, w32_e (x := (n : Int) - 2) (by omega) (by omega)]
  cases n with
  | zero =>
    refine ⟨1, ?_⟩
    unfold F_xa_advance_7 F_xa_advance_34
    rw [if_pos (by omega), if_neg (by omega), narK40]
    exact H0 (by show (-1 : Int) < 0; decide)
  | succ k =>
    rw [show ((k + 1 : Nat) : Int) - 2 = (k : Int) - 1 by omega]
    refine ⟨k + 1, L_adv7 k (by omega) ?_⟩
    have hb := ris_b g k
    unfold F_xa_advance_34
    by_cases q : 0 ≤ ris g k
    · rw [if_pos q, stc_ne (by decide), hm, w32_e (x := ((k + 1 : Nat) : Int) - 1) (by omega) (by omega)]
      refine ⟨k + 1, L_adv47 q (ris_lt k q) (k + 1) (by omega) (by omega) ?_⟩
      have hg := grt_in g (r := ris g k) (n := k + 1) (by omega) q
      unfold F_xa_advance_73
      refine X_swap (by omega) (by omega) ?_
      rw [stc_ne (by decide), hm, w32_e (x := ((k + 1 : Nat) : Int) - 1) (by omega) (by omega), w32_e (x := ris g k + 1) (by omega) (by omega)]
      exact ⟨_, L_adv91 8 _ _ _ (by omega) (by omega) (by omega) (by omega) (by omega) (H1 q)⟩
    · rw [if_neg q, narK40]
      exact H0 (by show ris g k < 0; omega)
theorem L_nxt4 {Q : Int → cM → Prop} {M : cM} {g : Int → Int} {n : Int} : ∀ k : Nat, k ≤ 5 → F_xm_nextOrder_31 Q n (ris g k) (stc M 105 g) → F_xm_nextOrder_4 Q (k + 1) n ((k : Int) - 1) (stc M 105 g) := by
  intro k
  induction k with
  | zero =>
    intro _ H
    unfold F_xm_nextOrder_4
    rw [if_pos (by omega)]
    exact H
  | succ k ih =>
    intro hk H
    rw [show ((k + 1 : Nat) : Int) - 1 = (k : Int) by omega]
    unfold F_xm_nextOrder_4
    rw [if_neg (by omega), w32_e (x := (k : Int) + 1) (by omega) (by omega), stc_at, stc_at, w32_e (x := (k : Int) + -1) (by omega) (by omega)]
    refine ⟨by omega, by omega, ?_⟩
    unfold ris at H
    by_cases q : g k < g ((k : Int) + 1)
    · rw [if_pos q] at H ⊢; exact H
    · rw [if_neg q] at H ⊢; exact ih (by omega) H
theorem L_nxt100 {Q : Int → cM → Prop} {M : cM} : ∀ (m : Nat) (l h : Int) (g : Int → Int), 0 ≤ l → l ≤ 100 → h < 6 → h - l ≤ 2 * m → -100 ≤ h → Q 1 (stc M 105 (rvs m l h g)) → F_xm_nextOrder_100 Q (m + 1) l h (stc M 105 g) := by
  intro m
  induction m with
  | zero =>
    intro l h g _ _ _ hd _ H
    unfold F_xm_nextOrder_100
    rw [if_pos (by omega), narK41]
    exact H
  | succ m ih =>
    intro l h g hl hl2 hh hd hh2 H
    unfold F_xm_nextOrder_100
    unfold rvs at H
    by_cases q : h ≤ l
    · rw [if_pos q, narK41]
      rw [if_pos q] at H
      exact H
    · rw [if_neg q] at H ⊢
      refine ⟨by omega, by omega, by omega, by omega, ?_⟩
      rw [stc_at, stc_at, stc_wr, stc_wr, w32_e (x := l + 1) (by omega) (by omega), w32_e (x := h + -1) (by omega) (by omega)]
      exact ih _ _ _ (by omega) (by omega) (by omega) (by omega) (by omega) H
theorem L_nxt41 {Q : Int → cM → Prop} {M : cM} {g : Int → Int} {r : Int} {n : Nat} (hn : n ≤ 6) (h0 : 0 ≤ r) (hr1 : r + 1 < n) (hr : g r < g (r + 1)) : ∀ k : Nat, k ≤ n → r + 1 < k → Q 1 (stc M 105 (rvs 8 (r + 1) ((n : Int) - 1) (sw g r (grt g r k)))) → F_xm_nextOrder_41 Q k n r ((k : Int) - 1) (stc M 105 g) := by
  intro k
  induction k with
  | zero => intro _ h; exact absurd h (by omega)
  | succ k ih =>
    intro hk hrk H
    rw [show ((k + 1 : Nat) : Int) - 1 = (k : Int) by omega]
    unfold F_xm_nextOrder_41
    rw [stc_at, stc_at, w32_e (x := (k : Int) + -1) (by omega) (by omega), w32_e (x := r + 1) (by omega) (by omega), w32_e (x := (n : Int) - 1) (by omega) (by omega)]
    refine ⟨by omega, by omega, ?_⟩
    unfold grt at H
    by_cases q : g r < g k
    · rw [if_pos q] at H ⊢
      refine ⟨by omega, by omega, by omega, by omega, ?_⟩
      rw [stc_wr, stc_wr]
      exact ⟨_, L_nxt100 8 _ _ _ (by omega) (by omega) (by omega) (by omega) (by omega) H⟩
    · rw [if_neg q] at H ⊢
      have : (k : Int) ≠ r + 1 := fun e => q (by rw [e]; exact hr)
      exact ih (by omega) (by omega) H
theorem Y_nextOrder {Q : Int → cM → Prop} {M : cM} {g : Int → Int} {n : Nat} (hn : n ≤ 6) (H1 : 0 ≤ ris g (n - 1) → Q 1 (stc M 105 (nx n g))) (H0 : ris g (n - 1) < 0 → Q 0 (stc M 105 g)) : F_xm_nextOrder Q n (stc M 105 g) := by
  unfold F_xm_nextOrder
  rw [w32_e (x := (n : Int) - 2) (by omega) (by omega)]
  cases n with
  | zero =>
    refine ⟨1, ?_⟩
    unfold F_xm_nextOrder_4 F_xm_nextOrder_31
    rw [if_pos (by omega), if_neg (by omega), narK40]
    exact H0 (by show (-1 : Int) < 0; decide)
  | succ k =>
    rw [show ((k + 1 : Nat) : Int) - 2 = (k : Int) - 1 by omega]
    refine ⟨k + 1, L_nxt4 k (by omega) ?_⟩
    have hb := ris_b g k
    unfold F_xm_nextOrder_31
    by_cases q : 0 ≤ ris g k
    · rw [if_pos q, w32_e (x := ((k + 1 : Nat) : Int) - 1) (by omega) (by omega)]
      exact ⟨k + 1, L_nxt41 hn q (by omega) (ris_lt k q) (k + 1) (by omega) (by omega) (H1 q)⟩
    · rw [if_neg q, narK40]
      exact H0 (by show ris g k < 0; omega)
/-- the first order -/
theorem L_xa_ins {Q : cM → Prop} {k7 : Int → Int → cM → Prop} {r0 h : Int} {M : cM} {i : Nat} (hi : i < 6) (hr : r0 ≠ 77) : ∀ (k : Nat) (g : Int → Int), k ≤ i → k7 h ((i + 1 : Nat) : Int) (stc M 77 (ins (M r0 i) k g)) → F_xa_start_15 Q k7 r0 6 (k + 1) h i k (stc M 77 g) := by
  intro k
  induction k with
  | zero =>
    intro g _ H
    unfold F_xa_start_15 F_xa_start_57
    rw [if_pos (by omega), stc_ne hr, stc_wr, wE (by omega)]
    exact ⟨by omega, by omega, H⟩
  | succ k ih =>
    intro g hk H
    unfold F_xa_start_15 F_xa_start_57
    unfold ins at H
    rw [show ((k + 1 : Nat) : Int) = (k : Int) + 1 from rfl, if_neg (by omega), w32_e (x := (k : Int) + 1 - 1) (by omega) (by omega), show (k : Int) + 1 - 1 = k by omega, stc_at, stc_ne hr, wE (by omega), stc_wr, stc_wr, w32_e (x := (k : Int) + 1 + -1) (by omega) (by omega), show (k : Int) + 1 + -1 = k by omega]
    refine ⟨by omega, by omega, ?_⟩
    by_cases q : g k ≤ M r0 i
    · rw [if_pos q] at H ⊢
      exact ⟨by omega, by omega, H⟩
    · rw [if_neg q] at H ⊢
      exact ⟨by omega, by omega, ih _ (by omega) H⟩
theorem L_xa_start {Q : cM → Prop} {r0 : Int} {M : cM} {n : Nat} {g : Int → Int} (hn : n ≤ 6) (hr : r0 ≠ 77) (H : Q (stc M 77 (srt (M r0) g n))) : ∀ (m i : Nat), i + m = n → F_xa_start_7 Q r0 6 (m + 1) n i (stc M 77 (srt (M r0) g i)) := by
  intro m
  induction m with
  | zero =>
    intro i hi
    unfold F_xa_start_7
    rw [if_pos (by omega)]
    rw [show n = i by omega] at H; exact H
  | succ m ih =>
    intro i hi
    unfold F_xa_start_7
    rw [if_neg (by omega)]
    exact ⟨_, L_xa_ins (by omega) hr i _ (Nat.le_refl _) (ih (i + 1) (by omega))⟩
theorem X_start {Q : cM → Prop} {r0 : Int} {M : cM} {n : Nat} (hn : n ≤ 6) (hr : r0 ≠ 77) (H : Q (stc (wr M 76 1 n) 77 (srt ((wr M 76 1 n) r0) ((wr M 76 1 n) 77) n))) : F_xa_start Q r0 6 n M := by
  unfold F_xa_start
  have := L_xa_start hn hr H n 0 (by omega)
  rw [show srt ((wr M 76 1 n) r0) ((wr M 76 1 n) 77) 0 = (wr M 76 1 n) 77 from rfl, stc_id] at this
  exact ⟨_, this⟩
theorem L_xm_ins {Q : cM → Prop} {k8 : Int → Int → Int → cM → Prop} {a h : Int} {M : cM} {i : Nat} (hi : i < 6) (ha : 0 ≤ a ∧ a < 4) : ∀ (k : Nat) (g : Int → Int), k ≤ i → k8 a h ((i + 1 : Nat) : Int) (stc M 105 (ins (M 101 (45 + 7 * a + i)) k g)) → F_xm_firstOrder_16 Q k8 (k + 1) a h i k (stc M 105 g) := by
  intro k
  induction k with
  | zero =>
    intro g _ H
    unfold F_xm_firstOrder_16 F_xm_firstOrder_61
    rw [if_pos (by omega), E_xm_sheetIn ha (by omega), stc_ne (by decide), stc_wr, wE (by omega)]
    exact ⟨by omega, H⟩
  | succ k ih =>
    intro g hk H
    unfold F_xm_firstOrder_16 F_xm_firstOrder_61
    unfold ins at H
    rw [show ((k + 1 : Nat) : Int) = (k : Int) + 1 from rfl, if_neg (by omega), w32_e (x := (k : Int) + 1 - 1) (by omega) (by omega), show (k : Int) + 1 - 1 = k by omega, E_xm_sheetIn ha (by omega), E_xm_sheetIn ha (by omega), stc_at, stc_ne (by decide), wE (by omega), stc_wr, stc_wr, w32_e (x := (k : Int) + 1 + -1) (by omega) (by omega), show (k : Int) + 1 + -1 = k by omega]
    refine ⟨by omega, ?_⟩
    by_cases q : g k ≤ M 101 (45 + 7 * a + i)
    · rw [if_pos q] at H ⊢
      exact ⟨by omega, H⟩
    · rw [if_neg q] at H ⊢
      exact ⟨by omega, by omega, ih _ (by omega) H⟩
def msr (M : cM) (a : Int) : Int → Int := fun i => M 101 (45 + 7 * a + i)
theorem L_xm_first {Q : cM → Prop} {a : Int} {M : cM} {n : Nat} {g : Int → Int} (hn : n ≤ 6) (ha : 0 ≤ a ∧ a < 4) (H : Q (stc M 105 (srt (msr M a) g n))) : ∀ (m i : Nat), i + m = n → F_xm_firstOrder_8 Q (m + 1) a n i (stc M 105 (srt (msr M a) g i)) := by
  intro m
  induction m with
  | zero =>
    intro i hi
    unfold F_xm_firstOrder_8
    rw [if_pos (by omega)]
    rw [show n = i by omega] at H; exact H
  | succ m ih =>
    intro i hi
    unfold F_xm_firstOrder_8
    rw [if_neg (by omega)]
    exact ⟨_, L_xm_ins (by omega) ha i _ (Nat.le_refl _) (ih (i + 1) (by omega))⟩
theorem Y_firstOrder {Q : cM → Prop} {a : Int} {M : cM} {n : Nat} (ha : 0 ≤ a ∧ a < 4) (hn : n ≤ 6) (hh : M 101 (44 + 7 * a) = n) (H : Q (stc M 105 (srt (msr M a) (M 105) n))) : F_xm_firstOrder Q a M := by
  unfold F_xm_firstOrder
  rw [E_xm_manyIn ha, hh]
  have := L_xm_first hn ha H n 0 (by omega)
  rw [show srt (msr M a) (M 105) 0 = M 105 from rfl, stc_id] at this
  exact ⟨_, this⟩
/-- the light behind an order -/
def olt (B : cM) (n : Nat) (g : Int → Int) : Int × Int := thr (fun i => mst B 0 (g i)) n (B 101 2, B 101 3)
theorem olt_kp {M M' : cM} {n : Nat} {g p : Int → Int} (h : ∀ j, M' 101 j = M 101 j) (hg : agr n g p) : olt M' n g = olt M n p := by
  unfold olt
  rw [h, h]
  refine thr_eq n (fun i hi x => ?_)
  rw [mst_kp h, hg i (by omega) (by omega)]
def rvl (M : cM) (n : Nat) (g : Int → Int) : Prop := ∀ i : Int, 0 ≤ i → i < n → 0 ≤ g i ∧ g i < M 101 0
theorem olt_ok {M : cM} (hR : RR M) {n : Nat} {g : Int → Int} (hg : rvl M n g) : lok (olt M n g).1 (olt M n g).2 :=
  thr_ok (l := (M 101 2, M 101 3)) hR.1.mlok n (fun i hi x hx => mst_ok hx (hR.1.mk (hg i (by omega) (by omega)).1 (hg i (by omega) (by omega)).2))
theorem L_behindRow {Q : Int → cM → Prop} {M : cM} {n : Nat} (hR : RR M) (hn : n ≤ 6) (hg : rvl M n (M 77)) (H : Q (encp (olt M n (M 77))) M) : ∀ (m i : Nat), i + m = n → F_xg_behindRow_8 Q 10 77 6 (m + 1) n (encp (olt M i (M 77))) i M := by
  intro m
  induction m with
  | zero =>
    intro i hi
    unfold F_xg_behindRow_8
    rw [if_pos (by omega)]
    rw [show n = i by omega] at H; exact H
  | succ m ih =>
    intro i hi
    have := ih (i + 1) (by omega)
    have hv := hg i (by omega) (by omega)
    unfold F_xg_behindRow_8
    rw [if_neg (by omega), wE (by omega)]
    refine ⟨by omega, ?_⟩
    have hl := olt_ok hR (n := i) (g := M 77) (fun j j0 j1 => hg j j0 (by omega))
    have e : xst M 10 0 (M 77 i) (olt M i (M 77)) = olt M (i + 1) (M 77) := hR.1.sp hv.1 hv.2 _
    unfold encp at this ⊢
    rw [E_bS hR.cos hl (hR.1.sk hv.1 hv.2), e]
    exact this
theorem X_behindRow {Q : Int → cM → Prop} {M : cM} {n : Nat} (hR : RR M) (hn : n ≤ 6) (hg : rvl M n (M 77)) (H : Q (encp (olt M n (M 77))) M) : F_xg_behindRow Q 10 77 6 n M := by
  unfold F_xg_behindRow
  rw [E_xs_lamp hR.1.lk]
  have := L_behindRow hR hn hg H n 0 (by omega)
  rw [show olt M 0 (M 77) = (M 101 2, M 101 3) from rfl, ← hR.1.lmp] at this
  exact ⟨_, this⟩
/-- only the model's light and its row have changed -/
def Lo (M M' : cM) : Prop := ∀ c j, ¬ (c = 100 ∧ (j = 6 ∨ j = 7)) → c ≠ 105 → M' c j = M c j
theorem Lo.rf (M : cM) : Lo M M := fun _ _ _ _ => rfl
theorem Lo.tr {M M1 M2 : cM} (h : Lo M M1) (h' : Lo M1 M2) : Lo M M2 := fun c j a b => (h' c j a b).trans (h c j a b)
theorem Lt.lo {M M' : cM} (h : Lt M M') : Lo M M' := fun c j a _ => h c j a
theorem Lo.st {M M1 : cM} {g : Int → Int} (h : Lo M M1) : Lo M (stc M1 105 g) := fun c j a b => by rw [stc_ne b]; exact h c j a b
theorem Lo.kp {M M' : cM} (h : Lo M M') : Kp M M' := fun c j hk => h c j (fun q => by unfold keep at hk; omega) (fun q => by unfold keep at hk; omega)
theorem Lo.m {M M1 : cM} (h : Lo M M1) (j : Int) : M1 101 j = M 101 j := h 101 j (by omega) (by decide)
theorem L_goesOrder {Q : cM → Prop} {M N : cM} {n : Nat} (hR : RR N) (eN : ∀ j, M 101 j = N 101 j) (hn : n ≤ 6) (hg : rvl N n (M 105)) (H : ∀ M', Lt M M' → ml M' = olt N n (M 105) → Q M') : ∀ (m i : Nat) (M1 : cM), i + m = n → Lt M M1 → ml M1 = olt N i (M 105) → F_xm_goesOrder_6 Q (m + 1) n i M1 := by
  intro m
  induction m with
  | zero =>
    intro i M1 hi hL hm
    unfold F_xm_goesOrder_6
    rw [if_pos (by omega)]
    rw [show n = i by omega] at H; exact H M1 hL hm
  | succ m ih =>
    intro i M1 hi hL hm
    have hv := hg i (by omega) (by omega)
    have e101 : ∀ j, M1 101 j = N 101 j := fun j => by rw [hL.at (by decide) j, eN]
    unfold F_xm_goesOrder_6
    rw [if_neg (by omega), wE (by omega), hL.at (by decide)]
    refine ⟨by omega, ?_⟩
    have hl := olt_ok hR (n := i) (g := M 105) (fun j j0 j1 => hg j j0 (by omega))
    have hl1 : lok (M1 100 6) (M1 100 7) := by rw [← hm] at hl; exact hl
    refine Y_goes hl1 (mok_kp e101 (hR.1.mk hv.1 hv.2)) (fun M2 L2 m2 => ?_)
    refine ih (i + 1) M2 (by omega) (hL.tr L2) ?_
    rw [m2, mst_kp e101, hm]
    rfl
theorem Y_goesOrder {Q : cM → Prop} {M N : cM} {n : Nat} (hR : RR N) (eN : ∀ j, M 101 j = N 101 j) (hn : n ≤ 6) (hg : rvl N n (M 105)) (H : ∀ M', Lt M M' → ml M' = olt N n (M 105) → Q M') : F_xm_goesOrder Q n M := by
  unfold F_xm_goesOrder
  exact Y_lights (fun M1 L1 m1 => ⟨_, L_goesOrder hR eN hn hg H n 0 M1 (by omega) L1 (by rw [m1, eN, eN]; rfl)⟩)
/-- whether a light fits the looks -/
def flk (B : cM) (l : Int × Int) (i : Nat) : Bool := decide (zsee l.1 l.2 (B 101 (6 + 2 * i)) = B 101 (7 + 2 * i))
def fpb (B : cM) (l : Int × Int) : Bool := alN (flk B l) (B 101 5).toNat
theorem RR.lks {M : cM} (h : RR M) : M 10 9 = M 101 5 ∧ 0 ≤ M 101 5 ∧ M 101 5 ≤ 4 := h.1.2.2.2.2.2.1
theorem RR.lok1 {M : cM} (h : RR M) {k : Int} (hk : 0 ≤ k ∧ k < M 101 5) : M (10 + 10) k = M 101 (6 + 2 * k) ∧ M (10 + 11) k = M 101 (7 + 2 * k) ∧ (0 ≤ M 101 (6 + 2 * k) ∧ M 101 (6 + 2 * k) ≤ 11) ∧ (0 ≤ M 101 (7 + 2 * k) ∧ M 101 (7 + 2 * k) ≤ 1000) := h.1.2.2.2.2.2.2.1 k hk.1 hk.2
theorem L_fits {Q : Int → cM → Prop} {M : cM} {l : Int × Int} (hR : RR M) (hl : lok l.1 l.2) (H : Q (if fpb M l = true then 1 else 0) M) : ∀ (m i : Nat), (i : Int) + m = M 101 5 → alN (flk M l) i = true → F_xg_fitsLooks_2 Q 10 (m + 1) (encp l) i M := by
  have hk := hR.lks
  intro m
  induction m with
  | zero =>
    intro i hi ha
    unfold F_xg_fitsLooks_2
    rw [if_pos (by omega), narK41]
    unfold fpb at H
    rw [show (M 101 5).toNat = i by omega, ha] at H
    exact H
  | succ m ih =>
    intro i hi ha
    have hlk := hR.lok1 (k := i) (by omega)
    unfold F_xg_fitsLooks_2
    unfold encp at ih ⊢
    rw [if_neg (by omega), wE (by omega), hlk.1, E_xl_seenAt hR.cos hl hlk.2.2.1, hlk.2.1]
    refine ⟨by omega, by omega, ?_⟩
    by_cases q : zsee l.1 l.2 (M 101 (6 + 2 * i)) = M 101 (7 + 2 * i)
    · rw [if_pos q]
      refine ih (i + 1) (by omega) ?_
      show (alN (flk M l) i && flk M l i) = true
      rw [ha, Bool.true_and]
      exact decide_eq_true q
    · rw [if_neg q, narK40]
      unfold fpb at H
      rw [alN_f (i := i) (decide_eq_false q) _ (by omega)] at H
      exact H
theorem X_fits {Q : Int → cM → Prop} {M : cM} {l : Int × Int} (hR : RR M) (hl : lok l.1 l.2) (H : Q (if fpb M l = true then 1 else 0) M) : F_xg_fitsLooks Q 10 (encp l) M := by
  have hk := hR.lks
  unfold F_xg_fitsLooks
  exact ⟨_, L_fits hR hl H (M 101 5).toNat 0 (by omega) rfl⟩
theorem L_isFit {Q : Int → cM → Prop} {M M' : cM} {l : Int × Int} (hR : RR M) (e101 : ∀ j, M' 101 j = M 101 j) (hm : ml M' = l) (hl : lok l.1 l.2) (H : Q (if fpb M l = true then 1 else 0) M') : ∀ (m i : Nat), (i : Int) + m = M 101 5 → F_xm_isFit_9 Q (m + 1) (if alN (flk M l) i = true then 1 else 0) i M' := by
  have hk := hR.lks
  intro m
  induction m with
  | zero =>
    intro i hi
    unfold F_xm_isFit_9
    rw [e101, if_pos (by omega), nar_ite]
    unfold fpb at H
    rw [show (M 101 5).toNat = i by omega] at H
    exact H
  | succ m ih =>
    intro i hi
    have hlk := hR.lok1 (k := i) (by omega)
    have ih1 := ih (i + 1) (by omega)
    have hl1 : lok (M' 100 6) (M' 100 7) := by rw [← hm] at hl; exact hl
    have m6 : M' 100 6 = l.1 := congrArg Prod.fst hm
    have m7 : M' 100 7 = l.2 := congrArg Prod.snd hm
    unfold F_xm_isFit_9 F_xm_isFit_58 F_xm_isFit_59
    rw [e101, if_neg (by omega), wE (by omega), ite01, w32_e (x := 2 * (i : Int)) (by omega) (by omega), w32_e (x := 6 + 2 * (i : Int)) (by omega) (by omega), w32_e (x := 6 + 2 * (i : Int) + 1) (by omega) (by omega), show 6 + 2 * (i : Int) + 1 = 7 + 2 * i by omega, e101, Y_seenAt hl1 hlk.2.2.1, e101, m6, m7]
    have e : alN (flk M l) (i + 1) = (alN (flk M l) i && flk M l i) := rfl
    rw [e] at ih1
    by_cases ha : alN (flk M l) i = true
    · rw [if_pos ha]
      rw [ha, Bool.true_and] at ih1
      refine ⟨by omega, by omega, ?_⟩
      by_cases q : zsee l.1 l.2 (M 101 (6 + 2 * i)) = M 101 (7 + 2 * i)
      · rw [if_pos q]
        rw [show flk M l i = true from decide_eq_true q, if_pos rfl] at ih1
        exact ih1
      · rw [if_neg q]
        rw [if_neg (by show ¬ flk M l i = true; rw [show flk M l i = false from decide_eq_false q]; decide)] at ih1
        exact ih1
    · rw [if_neg ha]
      rw [Bool.eq_false_iff.mpr ha, Bool.false_and, if_neg (by decide)] at ih1
      exact ih1
theorem Y_isFit {Q : Int → cM → Prop} {M N : cM} {n : Nat} (hR : RR N) (eN : ∀ j, M 101 j = N 101 j) (hn : n ≤ 6) (hg : rvl N n (M 105)) (H : ∀ M', Lt M M' → Q (if fpb N (olt N n (M 105)) = true then 1 else 0) M') : F_xm_isFit Q n M := by
  have hk := hR.lks
  unfold F_xm_isFit
  exact Y_goesOrder hR eN hn hg (fun M1 L1 m1 => ⟨_, L_isFit hR (fun j => by rw [L1.at (by decide) j, eN]) m1 (olt_ok hR hg) (H M1 L1) (N 101 5).toNat 0 (by omega)⟩)
