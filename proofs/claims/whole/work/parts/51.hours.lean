/-! hours, loads, turnFor. -/
def hoy (f : Int → Int × Int) (t v : Int) (h : Nat) : Bool := decide (zsee (f h).1 (f h).2 t = v)
theorem L_xs_hours {Q : Int → cM → Prop} {a t v : Int} {M : cM} (hT : cosT M) (ha : stok M 10 a) (ht : 0 ≤ t ∧ t ≤ 11) (H : Q ((zset (hoy (fun h => xth M 10 a 0 (skyP h)) t v) 24 : Nat) : Int) M) : ∀ (m n : Nat), n + m = 24 → F_xs_hours_36 Q (m + 1) a t v ((zset (hoy (fun h => xth M 10 a 0 (skyP h)) t v) n : Nat) : Int) n M := by
  intro m
  induction m with
  | zero =>
    intro n hn
    unfold F_xs_hours_36
    rw [if_pos (by omega)]
    rw [show n = 24 by omega]; exact H
  | succ m ih =>
    intro n hn
    have hs := ih (n + 1) (by omega)
    have so := sky_ok (h := n) (by omega)
    unfold F_xs_hours_36
    rw [if_neg (by omega), E_xl_ofSky (by omega)]
    refine X_behindStack hT ha so ?_
    have o1 := xth_ok (bh := 0) (l := skyP n) ha so
    unfold encp
    rw [E_xl_seenAt hT o1 ht]
    unfold F_xs_hours_78
    rw [w32_e (x := (n : Int) + 1) (by omega) (by omega)]
    rw [show ((n + 1 : Nat) : Int) = (n : Int) + 1 from rfl] at hs
    unfold zset at hs
    by_cases hc : zsee (xth M 10 a 0 (skyP n)).1 (xth M 10 a 0 (skyP n)).2 t = v
    · rw [if_pos hc, zset_or _ (by omega)]
      rw [if_pos (by unfold hoy; simp; omega)] at hs
      exact hs
    · rw [if_neg hc]
      rw [if_neg (by unfold hoy; simp; omega)] at hs
      exact hs
theorem L_xm_hours {Q : Int → cM → Prop} {a t v : Int} {M : cM} (ha : mtok M a) (ht : 0 ≤ t ∧ t ≤ 11) (H : ∀ M', Lt M M' → Q ((zset (hoy (fun h => mth M a 0 (skyP h)) t v) 24 : Nat) : Int) M') : ∀ (m n : Nat), n + m = 24 → ∀ M', Lt M M' → F_xm_hours_34 Q (m + 1) a t v ((zset (hoy (fun h => mth M a 0 (skyP h)) t v) n : Nat) : Int) n M' := by
  intro m
  induction m with
  | zero =>
    intro n hn M' L
    unfold F_xm_hours_34
    rw [if_pos (by omega)]
    rw [show n = 24 by omega]; exact H M' L
  | succ m ih =>
    intro n hn M' L
    have so := sky_ok (h := n) (by omega)
    have o1 := mth_ok (bh := 0) (l := skyP n) ha so
    unfold F_xm_hours_34
    rw [if_neg (by omega)]
    refine Y_shines (by omega) (fun M1 L1 m1 => ?_)
    have L1' := L.tr L1
    have e1 : ∀ j, M1 101 j = M 101 j := fun j => L1'.at (by decide) j
    have q1 : M1 100 6 = (skyP n).1 := congrArg Prod.fst m1
    have q2 : M1 100 7 = (skyP n).2 := congrArg Prod.snd m1
    refine Y_goesThrough (mtok_kp e1 ha) (by rw [q1, q2]; exact so) (fun M2 L2 m2 => ?_)
    have hs := ih (n + 1) (by omega) M2 (L1'.tr L2)
    rw [m1, mth_kp e1] at m2
    have r1 : M2 100 6 = (mth M a 0 (skyP n)).1 := congrArg Prod.fst m2
    have r2 : M2 100 7 = (mth M a 0 (skyP n)).2 := congrArg Prod.snd m2
    rw [Y_seenAt (by rw [r1, r2]; exact o1) ht, r1, r2]
    unfold F_xm_hours_72
    rw [w32_e (x := (n : Int) + 1) (by omega) (by omega)]
    rw [show ((n + 1 : Nat) : Int) = (n : Int) + 1 from rfl] at hs
    unfold zset at hs
    by_cases hc : zsee (mth M a 0 (skyP n)).1 (mth M a 0 (skyP n)).2 t = v
    · rw [if_pos hc, zset_or _ (by omega)]
      rw [if_pos (by unfold hoy; simp; omega)] at hs
      exact hs
    · rw [if_neg hc, zset_or0 _ (by omega)]
      rw [if_neg (by unfold hoy; simp; omega)] at hs
      exact hs
theorem Z_hours {P : Int → Int → cM → Prop} {M : cM} {a t v : Int} (hR : RR M) (H : ∀ r M', RR M' → P r r M') : F_xs_hours (fun x M1 => F_xm_hours (fun y M2 => P x y M2) a t v M1) a t v M := by
  unfold F_xs_hours F_xs_hours_23
  simp only [E_xs_isStack, E_xs_isSheet, E_xs_isShare, E_xs_within, ite01]
  by_cases h1 : 0 ≤ a ∧ a < 4
  rotate_left
  · rw [if_neg h1]
    refine Z_err 0 (by decide) (by decide) hR (fun M1 e1 hR1 => ?_)
    have e101 := fun j => e1 101 j (by decide)
    unfold F_xm_hours F_xm_hours_21
    simp only [E_xm_isStack, E_xm_isSlant, E_xm_isShare, E_xm_in, E_xm_isOne, ite01, e101]
    rw [if_neg (by omega), E_xm_fin 0 (by decide) (by decide)]
    exact H _ _ hR1
  rw [if_pos h1]
  by_cases h2 : 0 ≤ t ∧ t < 12
  rotate_left
  · rw [if_neg h2]
    refine Z_err 0 (by decide) (by decide) hR (fun M1 e1 hR1 => ?_)
    have e101 := fun j => e1 101 j (by decide)
    unfold F_xm_hours F_xm_hours_21
    simp only [E_xm_isStack, E_xm_isSlant, E_xm_isShare, E_xm_in, E_xm_isOne, ite01, e101]
    rw [if_pos (by omega), if_neg (by omega), E_xm_fin 0 (by decide) (by decide)]
    exact H _ _ hR1
  rw [if_pos h2]
  by_cases h3 : 0 ≤ v ∧ v < 1001
  rotate_left
  · rw [if_neg h3]
    refine Z_err 0 (by decide) (by decide) hR (fun M1 e1 hR1 => ?_)
    have e101 := fun j => e1 101 j (by decide)
    unfold F_xm_hours F_xm_hours_21
    simp only [E_xm_isStack, E_xm_isSlant, E_xm_isShare, E_xm_in, E_xm_isOne, ite01, e101]
    rw [if_pos (by omega), if_pos (by omega), if_neg (by omega), E_xm_fin 0 (by decide) (by decide)]
    exact H _ _ hR1
  rw [if_pos h3]

  refine ⟨_, L_xs_hours hR.cos (hR.1.st h1) (by omega) ?_ 24 0 (by omega)⟩
  unfold F_xm_hours 
  simp only [E_xm_isStack, E_xm_isSlant, E_xm_isShare, E_xm_in, E_xm_isOne, ite01]
  rw [if_pos (by omega), if_pos (by omega), if_pos (by omega)]
  refine ⟨_, L_xm_hours (hR.1.mt h1) (by omega) (fun M' L => ?_) 24 0 (by omega) M (Lt.rf M)⟩
  rw [zset_eq 24 (q := hoy (fun h => mth M a 0 (skyP h)) t v) (fun i hi => by unfold hoy; simp only [hR.1.xm h1])]
  exact H _ _ (hR.kp L.kp)

/-- one place written again -/
theorem wr_wr (M : cM) (c j v v' : Int) : wr (wr M c j v) c j v' = wr M c j v' := by
  funext c' j'
  rw [wr_at, wr_at, wr_at]
  split <;> rfl
theorem wr_id (M : cM) (c j : Int) : wr M c j (M c j) = M := by
  funext c' j'
  rw [wr_at]
  split
  · rename_i h; rw [h.1, h.2]
  · rfl
theorem wr_sw (M : cM) {c j c' j' : Int} (v v' : Int) (h : c ≠ c') : wr (wr M c j v) c' j' v' = wr (wr M c' j' v') c j v := by
  funext a b
  rw [wr_at, wr_at, wr_at, wr_at]
  by_cases h1 : a = c
  · have h2 : ¬ (a = c' ∧ b = j') := fun q => h (h1.symm.trans q.1)
    simp only [if_neg h2]
  · rw [if_neg (c := a = c ∧ b = j) (fun q => h1 q.1), if_neg (c := a = c ∧ b = j) (fun q => h1 q.1)]
theorem Lt.wr {M M' : cM} (h : Lt M M') (c j v : Int) : Lt (wr M c j v) (wr M' c j v) := by
  intro c' j' hn
  rw [wr_at, wr_at, h c' j' hn]
theorem xth_kp {M M' : cM} {b : Int} (hb : 0 ≤ b ∧ b ≤ 50) (h : ∀ c j, b ≤ c → c ≤ b + 9 → M' c j = M c j) {st : Int} (hs : 0 ≤ st ∧ st < 4) (bh : Int) (l : Int × Int) : xth M' b st bh l = xth M b st bh l := by
  unfold xth
  rw [h (b + 9) _ (by omega) (by omega)]
  refine thr_eq _ (fun i _ x => ?_)
  unfold xst gsx
  rw [h (b + 5 + st) _ (by omega) (by omega), h (b + 5 + st) _ (by omega) (by omega), h (b + 1) _ (by omega) (by omega), h (b + 2) _ (by omega) (by omega), h (b + 3) _ (by omega) (by omega), h b 4 (by omega) (by omega)]
/-- what is seen of stack a at t with the load k, on both sides -/
def xld (M : cM) (a t : Int) (k : Int) : Int := zsee (xth (wr M 10 4 k) 10 a 0 (lampP M 10)).1 (xth (wr M 10 4 k) 10 a 0 (lampP M 10)).2 t
def mld (M : cM) (a t : Int) (k : Int) : Int := zsee (mth (wr M 101 1 k) a 0 (M 101 2, M 101 3)).1 (mth (wr M 101 1 k) a 0 (M 101 2, M 101 3)).2 t
theorem ld_eq {M : cM} (h : SC 10 101 M) {a t k : Int} (ha : 0 ≤ a ∧ a < 4) (hk : 0 ≤ k ∧ k ≤ 11) : xld M a t k = mld M a t k := by
  have hs := U_load (v := k) (by decide) h hk
  unfold xld mld
  have e1 : xth (wr M 10 4 k) 10 a 0 (lampP M 10) = xth (wr (wr M 10 4 k) 101 1 k) 10 a 0 (lampP M 10) := (xth_kp (by decide) (fun c j h1 h2 => wr_ne (by omega)) ha 0 _).symm
  have e2 : mth (wr (wr M 10 4 k) 101 1 k) a 0 (lampP M 10) = mth (wr M 101 1 k) a 0 (lampP M 10) := by
    rw [wr_sw _ _ _ (by decide)]
    exact mth_kp (fun j => wr_ne (by decide)) a 0 _
  rw [e1, hs.xm ha, e2, h.lmp]
def ldy (f : Int → Int) (v : Int) (h : Nat) : Bool := decide (f h = v)
theorem L_xs_loads {Q : Int → cM → Prop} {a t v : Int} {M : cM} (hT : cosT M) (hS : SC 10 101 M) (ha : 0 ≤ a ∧ a < 4) (ht : 0 ≤ t ∧ t ≤ 11) (H : Q ((zset (ldy (xld M a t) v) 12 : Nat) : Int) M) : ∀ (m n : Nat), n + m = 12 → ∀ M', (∀ k, wr M' 10 4 k = wr M 10 4 k) → F_xs_loads_45 Q (m + 1) a t v (M 10 4) ((zset (ldy (xld M a t) v) n : Nat) : Int) n M' := by
  intro m
  induction m with
  | zero =>
    intro n hn M' hM
    unfold F_xs_loads_45
    rw [if_pos (by omega), hM, wr_id]
    rw [show n = 12 by omega]; exact H
  | succ m ih =>
    intro n hn M' hM
    have hs := ih (n + 1) (by omega) (wr M 10 4 n) (fun k => wr_wr _ _ _ _ _)
    have hS' := U_load (v := n) (by decide) hS (by omega)
    have st : stok (wr M 10 4 n) 10 a := by
      have := hS'.st ha
      unfold stok shok at this ⊢
      simp (disch := omega) only [wr_ne] at this ⊢
      exact this
    have hl : lok (wr M 10 4 n 10 5) (wr M 10 4 n 10 6) := by
      rw [wr_nj (by decide), wr_nj (by decide)]; exact hS.lk
    unfold F_xs_loads_45
    rw [if_neg (by omega), hM]
    have hT' : cosT (wr M 10 4 n) := ⟨hT.1, hT.2⟩
    refine X_frontLight hT' st hl ?_
    have e : lampP (wr M 10 4 n) 10 = lampP M 10 := by
      unfold lampP
      rw [wr_nj (by decide), wr_nj (by decide)]
    rw [e]
    have o1 := xth_ok (bh := 0) (l := lampP M 10) st hS.lk
    unfold encp
    rw [E_xl_seenAt hT' o1 ht]
    unfold F_xs_loads_86
    rw [w32_e (x := (n : Int) + 1) (by omega) (by omega)]
    rw [show ((n + 1 : Nat) : Int) = (n : Int) + 1 from rfl] at hs
    unfold zset at hs
    rw [show zsee (xth (wr M 10 4 n) 10 a 0 (lampP M 10)).1 (xth (wr M 10 4 n) 10 a 0 (lampP M 10)).2 t = xld M a t n from rfl]
    by_cases hc : xld M a t n = v
    · rw [if_pos hc, zset_or _ (by omega)]
      rw [if_pos (by unfold ldy; simp; omega)] at hs
      exact hs
    · rw [if_neg hc]
      rw [if_neg (by unfold ldy; simp; omega)] at hs
      exact hs
theorem L_xm_loads {Q : Int → cM → Prop} {a t v : Int} {M : cM} (hS : SC 10 101 M) (ha : 0 ≤ a ∧ a < 4) (ht : 0 ≤ t ∧ t ≤ 11) (H : ∀ M', Lt M M' → Q ((zset (ldy (mld M a t) v) 12 : Nat) : Int) M') : ∀ (m n : Nat), n + m = 12 → ∀ M', (∀ k, Lt (wr M 101 1 k) (wr M' 101 1 k)) → F_xm_loads_42 Q (m + 1) a t v (M 101 1) ((zset (ldy (mld M a t) v) n : Nat) : Int) n M' := by
  intro m
  induction m with
  | zero =>
    intro n hn M' hM
    have h0 := hM (M 101 1)
    rw [wr_id] at h0
    unfold F_xm_loads_42
    rw [if_pos (by omega)]
    rw [show n = 12 by omega]; exact H _ h0
  | succ m ih =>
    intro n hn M' hM
    have hS' := U_load (v := n) (by decide) hS (by omega)
    have h0 := hM n
    have e0 : ∀ j, wr M' 101 1 n 101 j = wr M 101 1 n 101 j := fun j => h0.at (by decide) j
    have mt : mtok (wr M 101 1 n) a := by
      have := hS'.mt ha
      rw [wr_sw _ _ _ (by decide)] at this
      exact mtok_kp (M := wr (wr M 101 1 n) 10 4 n) (fun j => by rw [wr_ne (c := 10) (by decide)]) this
    unfold F_xm_loads_42
    rw [if_neg (by omega)]
    have el : wr M 101 1 n 101 2 = M 101 2 ∧ wr M 101 1 n 101 3 = M 101 3 := ⟨wr_nj (by decide), wr_nj (by decide)⟩
    refine Y_seenThrough (mtok_kp e0 mt) (by rw [e0, e0, el.1, el.2]; exact hS.mlok) (by omega) (fun M2 L2 => ?_)
    rw [mth_kp e0, e0, e0, el.1, el.2]
    have hs := ih (n + 1) (by omega) M2 (fun k => by
      have := (h0.tr L2).wr 101 1 k
      rw [wr_wr] at this
      exact this)
    unfold F_xm_loads_77
    rw [w32_e (x := (n : Int) + 1) (by omega) (by omega)]
    rw [show ((n + 1 : Nat) : Int) = (n : Int) + 1 from rfl] at hs
    unfold zset at hs
    rw [show zsee (mth (wr M 101 1 n) a 0 (M 101 2, M 101 3)).1 (mth (wr M 101 1 n) a 0 (M 101 2, M 101 3)).2 t = mld M a t n from rfl]
    by_cases hc : mld M a t n = v
    · rw [if_pos hc, zset_or _ (by omega)]
      rw [if_pos (by unfold ldy; simp; omega)] at hs
      exact hs
    · rw [if_neg hc, zset_or0 _ (by omega)]
      rw [if_neg (by unfold ldy; simp; omega)] at hs
      exact hs
theorem Z_loads {P : Int → Int → cM → Prop} {M : cM} {a t v : Int} (hR : RR M) (H : ∀ r M', RR M' → P r r M') : F_xs_loads (fun x M1 => F_xm_loads (fun y M2 => P x y M2) a t v M1) a t v M := by
  unfold F_xs_loads F_xs_loads_23
  simp only [E_xs_isStack, E_xs_isSheet, E_xs_isShare, E_xs_within, ite01]
  by_cases h1 : 0 ≤ a ∧ a < 4
  rotate_left
  · rw [if_neg h1]
    refine Z_err 0 (by decide) (by decide) hR (fun M1 e1 hR1 => ?_)
    have e101 := fun j => e1 101 j (by decide)
    unfold F_xm_loads F_xm_loads_21
    simp only [E_xm_isStack, E_xm_isSlant, E_xm_isShare, E_xm_in, E_xm_isOne, ite01, e101]
    rw [if_neg (by omega), E_xm_fin 0 (by decide) (by decide)]
    exact H _ _ hR1
  rw [if_pos h1]
  by_cases h2 : 0 ≤ t ∧ t < 12
  rotate_left
  · rw [if_neg h2]
    refine Z_err 0 (by decide) (by decide) hR (fun M1 e1 hR1 => ?_)
    have e101 := fun j => e1 101 j (by decide)
    unfold F_xm_loads F_xm_loads_21
    simp only [E_xm_isStack, E_xm_isSlant, E_xm_isShare, E_xm_in, E_xm_isOne, ite01, e101]
    rw [if_pos (by omega), if_neg (by omega), E_xm_fin 0 (by decide) (by decide)]
    exact H _ _ hR1
  rw [if_pos h2]
  by_cases h3 : 0 ≤ v ∧ v < 1001
  rotate_left
  · rw [if_neg h3]
    refine Z_err 0 (by decide) (by decide) hR (fun M1 e1 hR1 => ?_)
    have e101 := fun j => e1 101 j (by decide)
    unfold F_xm_loads F_xm_loads_21
    simp only [E_xm_isStack, E_xm_isSlant, E_xm_isShare, E_xm_in, E_xm_isOne, ite01, e101]
    rw [if_pos (by omega), if_pos (by omega), if_neg (by omega), E_xm_fin 0 (by decide) (by decide)]
    exact H _ _ hR1
  rw [if_pos h3]

  refine ⟨_, L_xs_loads hR.cos hR.1 h1 (by omega) ?_ 12 0 (by omega) M (fun k => rfl)⟩
  unfold F_xm_loads 
  simp only [E_xm_isStack, E_xm_isSlant, E_xm_isShare, E_xm_in, E_xm_isOne, ite01]
  rw [if_pos (by omega), if_pos (by omega), if_pos (by omega)]
  refine ⟨_, L_xm_loads hR.1 h1 (by omega) (fun M' L => ?_) 12 0 (by omega) M (fun k => Lt.rf _)⟩
  rw [zset_eq 12 (q := ldy (mld M a t) v) (fun i hi => by unfold ldy; rw [ld_eq hR.1 h1 (by omega)])]
  exact H _ _ (hR.kp L.kp)

