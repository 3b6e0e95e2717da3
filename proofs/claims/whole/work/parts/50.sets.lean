/-! Sets of tilts and hours: alike, sky, hours. -/
def zabs (x : Int) : Int := if 0 ≤ x then x else -x
theorem zabs_b {x n : Int} (h1 : -n ≤ x) (h2 : x ≤ n) : 0 ≤ zabs x ∧ zabs x ≤ n := by unfold zabs; split <;> omega
theorem E_xj_abs {Q : Int → cM → Prop} {x : Int} {M : cM} (h : -100000 ≤ x ∧ x ≤ 100000) : F_xj_Math_abs Q x M = Q (zabs x) M := by
  unfold F_xj_Math_abs zabs
  by_cases h0 : 0 ≤ x
  · rw [if_pos h0, if_pos h0]
  · rw [if_neg h0, if_neg h0, w32_e (by omega) (by omega)]
theorem E_xm_size {Q : Int → cM → Prop} {x : Int} {M : cM} (h : -100000 ≤ x ∧ x ≤ 100000) : F_xm_size Q x M = Q (zabs x) M := by
  unfold F_xm_size zabs
  by_cases h0 : 0 ≤ x
  · rw [if_pos h0, if_pos h0]
  · rw [if_neg h0, if_neg h0, w32_e (by omega) (by omega), Int.zero_sub]
def zset (p : Nat → Bool) : Nat → Nat
  | 0 => 0
  | n + 1 => zset p n + if p n = true then 2 ^ n else 0
theorem zset_lt (p : Nat → Bool) : ∀ n, zset p n < 2 ^ n
  | 0 => Nat.zero_lt_one
  | n + 1 => by
    have := zset_lt p n
    unfold zset
    rw [Nat.pow_succ]
    split <;> omega
theorem pow_le30 {n : Nat} (h : n ≤ 30) : 2 ^ n ≤ 2 ^ 30 := Nat.pow_le_pow_right (by decide) h
theorem zshl1 {n : Nat} (h : n < 31) : zshl 1 (n : Int) = ((2 ^ n : Nat) : Int) := by
  have h1 := pow_le30 (n := n) (by omega)
  rw [show (1 : Int) = ((1 : Nat) : Int) from rfl, zshl_n (by omega) (by omega), Nat.one_mul]
theorem zset_or (p : Nat → Bool) {n : Nat} (h : n < 31) : zor ((zset p n : Nat) : Int) (zshl 1 (n : Int)) = ((zset p n + 2 ^ n : Nat) : Int) := by
  have h1 := pow_le30 (n := n) (by omega)
  have h2 := zset_lt p n
  rw [zshl1 h, zor_n (by omega) (by omega), Nat.or_comm, show 2 ^ n = 1 <<< n from by rw [Nat.shiftLeft_eq, Nat.one_mul], ← Nat.shiftLeft_add_eq_or_of_lt h2, Nat.add_comm]
theorem zset_or0 (p : Nat → Bool) {n : Nat} (h : n < 31) : zor ((zset p n : Nat) : Int) 0 = ((zset p n : Nat) : Int) := by
  have h1 := pow_le30 (n := n) (by omega)
  have h2 := zset_lt p n
  rw [show (0 : Int) = ((0 : Nat) : Int) from rfl, zor_n (by omega) (by omega), Nat.or_zero]
theorem zset_not (p : Nat → Bool) : ∀ n, zset p n + zset (fun i => !p i) n = 2 ^ n - 1
  | 0 => rfl
  | n + 1 => by
    have h := zset_not p n
    have h2 : 0 < 2 ^ n := Nat.pow_pos (by decide)
    unfold zset
    rw [Nat.pow_succ]
    cases hp : p n <;> simp <;> omega
theorem zset_eq {p q : Nat → Bool} : ∀ n, (∀ i, i < n → p i = q i) → zset p n = zset q n
  | 0, _ => rfl
  | n + 1, h => by
    unfold zset
    rw [zset_eq n (fun i hi => h i (Nat.lt_succ_of_lt hi)), h n (Nat.lt_succ_self n)]
theorem znot_n {x : Nat} (h : x < 2 ^ 31) : (Int32.ofInt (zxor (x : Int) (-1))).toBitVec.toNat = 4294967295 - x := by
  unfold zxor
  rw [oI_of, Int32.toBitVec_xor, show (Int32.ofInt (-1)).toBitVec = BitVec.allOnes 32 from by decide, BitVec.xor_allOnes, BitVec.toNat_not, ofN, bvN h]
theorem zand_not {x : Nat} (h : x < 4096) : zand 4095 (zxor (x : Int) (-1)) = ((4095 - x : Nat) : Int) := by
  have e : (Int32.ofInt 4095 &&& Int32.ofInt (zxor (x : Int) (-1))).toBitVec.toNat = 4095 - x := by
    rw [Int32.toBitVec_and, BitVec.toNat_and, znot_n (by omega), show (Int32.ofInt 4095).toBitVec.toNat = 2 ^ 12 - 1 from rfl, Nat.and_comm, Nat.and_two_pow_sub_one_eq_mod]
    omega
  have e2 : zand 4095 (zxor (x : Int) (-1)) = (Int32.ofInt 4095 &&& Int32.ofInt (zxor (x : Int) (-1))).toBitVec.toInt := rfl
  rw [e2, BitVec.toInt_eq_toNat_of_lt (by rw [e]; omega), e]
/-- at tilt t two lights differ by more than the haze -/
def tap (l1 l2 : Int × Int) (hz : Int) (t : Nat) : Bool := decide (hz < zabs (zsee l1.1 l1.2 t - zsee l2.1 l2.2 t))
theorem L_xs_tiltsApart {Q : Int → cM → Prop} {l1 l2 : Int × Int} {hz : Int} {M : cM} (hT : cosT M) (h1 : lok l1.1 l1.2) (h2 : lok l2.1 l2.2) (H : Q ((zset (tap l1 l2 hz) 12 : Nat) : Int) M) : ∀ (m n : Nat), n + m = 12 → F_xs_tiltsApart_5 Q (m + 1) (encp l1) (encp l2) hz ((zset (tap l1 l2 hz) n : Nat) : Int) n M := by
  intro m
  induction m with
  | zero =>
    intro n hn
    unfold F_xs_tiltsApart_5
    rw [if_pos (by omega)]
    rw [show n = 12 by omega]; exact H
  | succ m ih =>
    intro n hn
    have hs := ih (n + 1) (by omega)
    have b1 := zsee_b (t := n) h1
    have b2 := zsee_b (t := n) h2
    have c1 := h1.2.1
    have c2 := h2.2.1
    unfold F_xs_tiltsApart_5
    unfold encp at hs ⊢
    rw [if_neg (by omega), E_xl_seenAt hT h1 (by omega), E_xl_seenAt hT h2 (by omega), w32_e (by omega) (by omega), E_xj_abs (by omega)]
    unfold F_xs_tiltsApart_39
    rw [w32_e (x := (n : Int) + 1) (by omega) (by omega)]
    unfold zset tap at hs
    by_cases hc : zabs (zsee l1.1 l1.2 n - zsee l2.1 l2.2 n) ≤ hz
    · rw [if_pos hc]
      rw [if_neg (by simp; omega)] at hs
      exact hs
    · rw [if_neg hc, zset_or _ (by omega)]
      rw [if_pos (by simp; omega)] at hs
      exact hs
theorem L_xm_alike {Q : Int → cM → Prop} {a b hz : Int} {M : cM} (ha : mtok M a) (hb : mtok M b) (hl : lok (M 101 2) (M 101 3)) (H : ∀ M', Lt M M' → Q ((zset (fun t => !tap (mth M a 0 (M 101 2, M 101 3)) (mth M b 0 (M 101 2, M 101 3)) hz t) 12 : Nat) : Int) M') : ∀ (m n : Nat), n + m = 12 → ∀ M', Lt M M' → F_xm_alike_34 Q (m + 1) a b hz ((zset (fun t => !tap (mth M a 0 (M 101 2, M 101 3)) (mth M b 0 (M 101 2, M 101 3)) hz t) n : Nat) : Int) n M' := by
  intro m
  induction m with
  | zero =>
    intro n hn M' L
    unfold F_xm_alike_34
    rw [if_pos (by omega)]
    rw [show n = 12 by omega]; exact H M' L
  | succ m ih =>
    intro n hn M' L
    have e1 : ∀ j, M' 101 j = M 101 j := fun j => L.at (by decide) j
    have o1 := mth_ok (bh := 0) (l := (M 101 2, M 101 3)) ha hl
    have o2 := mth_ok (bh := 0) (l := (M 101 2, M 101 3)) hb hl
    have b1 := zsee_b (t := n) o1
    have b2 := zsee_b (t := n) o2
    have c1 := o1.2.1
    have c2 := o2.2.1
    unfold F_xm_alike_34
    rw [if_neg (by omega)]
    refine Y_seenThrough (mtok_kp e1 ha) (by rw [e1, e1]; exact hl) (by omega) (fun M2 L2 => ?_)
    have L2' := L.tr L2
    have e2 : ∀ j, M2 101 j = M 101 j := fun j => L2'.at (by decide) j
    refine Y_seenThrough (mtok_kp e2 hb) (by rw [e2, e2]; exact hl) (by omega) (fun M3 L3 => ?_)
    have hs := ih (n + 1) (by omega) M3 (L2'.tr L3)
    rw [mth_kp e1, mth_kp e2, e1, e1, e2, e2, w32_e (x := _ - _) (by omega) (by omega), E_xm_size (by omega)]
    unfold F_xm_alike_73
    rw [w32_e (x := (n : Int) + 1) (by omega) (by omega)]
    rw [show ((n + 1 : Nat) : Int) = (n : Int) + 1 from rfl] at hs
    unfold zset at hs
    by_cases hc : hz < zabs (zsee (mth M a 0 (M 101 2, M 101 3)).1 (mth M a 0 (M 101 2, M 101 3)).2 n - zsee (mth M b 0 (M 101 2, M 101 3)).1 (mth M b 0 (M 101 2, M 101 3)).2 n)
    · rw [if_pos hc, zset_or0 _ (by omega)]
      rw [if_neg (by unfold tap; simp; omega)] at hs
      exact hs
    · rw [if_neg hc, zset_or _ (by omega)]
      rw [if_pos (by unfold tap; simp; omega)] at hs
      exact hs
theorem Z_alike {P : Int → Int → cM → Prop} {M : cM} {a b v : Int} (hR : RR M) (H : ∀ r M', RR M' → P r r M') : F_xs_alike (fun x M1 => F_xm_alike (fun y M2 => P x y M2) a b v M1) a b v M := by
  unfold F_xs_alike F_xs_alike_21
  simp only [E_xs_isStack, E_xs_isSheet, E_xs_isShare, E_xs_within, ite01]
  by_cases h1 : 0 ≤ a ∧ a < 4
  rotate_left
  · rw [if_neg h1]
    refine Z_err 0 (by decide) (by decide) hR (fun M1 e1 hR1 => ?_)
    have e101 := fun j => e1 101 j (by decide)
    unfold F_xm_alike F_xm_alike_21
    simp only [E_xm_isStack, E_xm_isSlant, E_xm_isShare, E_xm_in, E_xm_isOne, ite01, e101]
    rw [if_neg (by omega), E_xm_fin 0 (by decide) (by decide)]
    exact H _ _ hR1
  rw [if_pos h1]
  by_cases h2 : 0 ≤ b ∧ b < 4
  rotate_left
  · rw [if_neg h2]
    refine Z_err 0 (by decide) (by decide) hR (fun M1 e1 hR1 => ?_)
    have e101 := fun j => e1 101 j (by decide)
    unfold F_xm_alike F_xm_alike_21
    simp only [E_xm_isStack, E_xm_isSlant, E_xm_isShare, E_xm_in, E_xm_isOne, ite01, e101]
    rw [if_pos (by omega), if_neg (by omega), E_xm_fin 0 (by decide) (by decide)]
    exact H _ _ hR1
  rw [if_pos h2]
  by_cases h3 : 0 ≤ v ∧ v < 1001
  rotate_left
  · rw [if_neg h3]
    refine Z_err 0 (by decide) (by decide) hR (fun M1 e1 hR1 => ?_)
    have e101 := fun j => e1 101 j (by decide)
    unfold F_xm_alike F_xm_alike_21
    simp only [E_xm_isStack, E_xm_isSlant, E_xm_isShare, E_xm_in, E_xm_isOne, ite01, e101]
    rw [if_pos (by omega), if_pos (by omega), if_neg (by omega), E_xm_fin 0 (by decide) (by decide)]
    exact H _ _ hR1
  rw [if_pos h3]

  have s1 := hR.1.st h1
  have s2 := hR.1.st h2
  refine X_frontLight hR.cos s1 hR.1.lk (X_frontLight hR.cos s2 hR.1.lk ⟨_, L_xs_tiltsApart hR.cos (hR.xok h1 0) (hR.xok h2 0) ?_ 12 0 (by omega)⟩)
  have hlt := zset_lt (tap (xth M 10 a 0 (lampP M 10)) (xth M 10 b 0 (lampP M 10)) v) 12
  have hno := zset_not (tap (xth M 10 a 0 (lampP M 10)) (xth M 10 b 0 (lampP M 10)) v) 12
  rw [zand_not (by omega)]
  unfold F_xm_alike 
  simp only [E_xm_isStack, E_xm_isSlant, E_xm_isShare, E_xm_in, E_xm_isOne, ite01]
  rw [if_pos (by omega), if_pos (by omega), if_pos (by omega)]
  refine ⟨_, L_xm_alike (hR.1.mt h1) (hR.1.mt h2) hR.1.mlok (fun M' L => ?_) 12 0 (by omega) M (Lt.rf M)⟩
  rw [← hR.1.lmp, ← hR.1.xm h1, ← hR.1.xm h2]
  rw [show 4095 - zset (tap (xth M 10 a 0 (lampP M 10)) (xth M 10 b 0 (lampP M 10)) v) 12 = zset (fun i => !tap (xth M 10 a 0 (lampP M 10)) (xth M 10 b 0 (lampP M 10)) v i) 12 by omega]
  exact H _ _ (hR.kp L.kp)

/-- the sky's light -/
def skyP (h : Int) : Int × Int := if 6 ≤ h ∧ h ≤ 17 then (1000, (h - 3) % 12) else (100, -1)
theorem sky_ok {h : Int} (hh : 0 ≤ h ∧ h < 24) : lok (skyP h).1 (skyP h).2 := by
  unfold skyP lok
  split <;> simp <;> omega
theorem E_xl_ofSky {Q : Int → cM → Prop} {h : Int} {M : cM} (hh : 0 ≤ h ∧ h < 24) : F_xl_ofSky Q h M = Q (encp (skyP h)) M := by
  have hl := sky_ok hh
  unfold F_xl_ofSky F_xl_ofSky_12 encp
  by_cases h1 : h < 6
  · rw [if_pos h1]
    have e : skyP h = (100, -1) := by unfold skyP; rw [if_neg (by omega)]
    rw [e] at hl ⊢
    rw [E_xl_of hl]
  · rw [if_neg h1]
    by_cases h2 : h ≤ 17
    · rw [if_pos h2, w32_e (by omega) (by omega), E_fmod (by omega)]
      have e : skyP h = (1000, (h - 3) % 12) := by unfold skyP; rw [if_pos (by omega)]
      rw [e] at hl ⊢
      rw [E_xl_of hl]
    · rw [if_neg h2]
      have e : skyP h = (100, -1) := by unfold skyP; rw [if_neg (by omega)]
      rw [e] at hl ⊢
      rw [E_xl_of hl]
theorem Y_shines {Q : cM → Prop} {h : Int} {M : cM} (hh : 0 ≤ h ∧ h < 24) (H : ∀ M', Lt M M' → ml M' = skyP h → Q M') : F_xm_shines Q h M := by
  unfold F_xm_shines F_xm_shines_25 F_xm_shines_43
  rw [E_xm_in]
  by_cases h1 : 6 ≤ h ∧ h ≤ 17
  · simp only [if_pos h1, show ¬ ((1 : Int) = 0) by decide, if_false]
    refine H _ (Lt.rf M).w6.w7 ?_
    unfold ml skyP
    rw [wr_eq, wr_nj (by decide), wr_eq, if_pos h1, w32_e (by omega) (by omega), tmn (by omega)]
  · simp only [if_neg h1, if_true]
    refine H _ (Lt.rf M).w6.w7 ?_
    unfold ml skyP
    rw [wr_eq, wr_nj (by decide), wr_eq, if_neg h1]
theorem Z_sky {P : Int → Int → cM → Prop} {M : cM} {a w : Int} (hR : RR M) (H : ∀ r M', RR M' → P r r M') : F_xs_sky (fun x M1 => F_xm_sky (fun y M2 => P x y M2) a w M1) a w M := by
  unfold F_xs_sky F_xs_sky_17
  simp only [E_xs_isStack, E_xs_isSheet, E_xs_isShare, E_xs_within, ite01]
  by_cases h1 : 0 ≤ a ∧ a < 24
  rotate_left
  · rw [if_neg h1]
    refine Z_err 0 (by decide) (by decide) hR (fun M1 e1 hR1 => ?_)
    have e101 := fun j => e1 101 j (by decide)
    unfold F_xm_sky F_xm_sky_22
    simp only [E_xm_isStack, E_xm_isSlant, E_xm_isShare, E_xm_in, E_xm_isOne, ite01, e101]
    rw [if_neg (by omega), E_xm_fin 0 (by decide) (by decide)]
    exact H _ _ hR1
  rw [if_pos h1]
  by_cases h2 : 0 ≤ w ∧ w < 2
  rotate_left
  · rw [if_neg h2]
    refine Z_err 0 (by decide) (by decide) hR (fun M1 e1 hR1 => ?_)
    have e101 := fun j => e1 101 j (by decide)
    unfold F_xm_sky F_xm_sky_22
    simp only [E_xm_isStack, E_xm_isSlant, E_xm_isShare, E_xm_in, E_xm_isOne, ite01, e101]
    rw [if_pos (by omega), if_neg (by omega), E_xm_fin 0 (by decide) (by decide)]
    exact H _ _ hR1
  rw [if_pos h2]

  have hl := sky_ok h1
  rw [E_xl_ofSky h1]
  have fin : ∀ r, r = (if w = 0 then (skyP a).1 else (skyP a).2) → F_xm_sky (fun y M2 => P r y M2) a w M := by
    intro r hr
    unfold F_xm_sky 
    simp only [E_xm_isStack, E_xm_isSlant, E_xm_isShare, E_xm_in, E_xm_isOne, ite01]
    rw [if_pos (by omega), if_pos (by omega)]
    refine Y_shines h1 (fun M2 L m2 => ?_)
    have q1 : M2 100 6 = (skyP a).1 := congrArg Prod.fst m2
    have q2 : M2 100 7 = (skyP a).2 := congrArg Prod.snd m2
    rw [q1, q2]
    by_cases hw : w = 0
    · rw [if_pos hw] at hr ⊢; rw [hr]; exact H _ _ (hR.kp L.kp)
    · rw [if_neg hw] at hr ⊢; rw [hr]; exact H _ _ (hR.kp L.kp)
  unfold encp
  by_cases hw : w = 0
  · rw [if_pos hw, E_xl_share hl]
    exact fin _ (by rw [if_pos hw])
  · rw [if_neg hw, E_xl_slant hl]
    exact fin _ (by rw [if_neg hw])

