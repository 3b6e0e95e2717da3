/-! Bytes of an int. -/
theorem oI_bvN (a : Int) : ((Int32.ofInt a).toBitVec.toNat : Int) = a % 4294967296 := by
  rw [show (Int32.ofInt a).toBitVec = BitVec.ofInt 32 a from rfl, BitVec.toNat_ofInt]
  rw [show ((2 ^ 32 : Nat) : Int) = 4294967296 from rfl]
  omega
theorem zshr_v {k : Nat} (hk : k < 32) (a : Int) : zshr a (k : Int) = w32 a / ((2 ^ k : Nat) : Int) := by
  have e : zshr a (k : Int) = ((Int32.ofInt a).toBitVec.sshiftRight' ((Int32.ofInt (k : Int) &&& 31).toBitVec.smod 32)).toInt := rfl
  rw [e, BitVec.toInt_sshiftRight', ofN, and31 k hk, Int.shiftRight_eq_div_pow]
  congr 1
  exact oI_toInt a
theorem zand255 (a : Int) : zand a 255 = w32 a % 256 := by
  have e : (Int32.ofInt a &&& Int32.ofInt 255).toBitVec.toNat = (Int32.ofInt a).toBitVec.toNat % 256 := by
    rw [Int32.toBitVec_and, BitVec.toNat_and, show (Int32.ofInt 255).toBitVec.toNat = 2 ^ 8 - 1 from rfl, Nat.and_two_pow_sub_one_eq_mod]
  have e2 : zand a 255 = (Int32.ofInt a &&& Int32.ofInt 255).toBitVec.toInt := rfl
  rw [e2, BitVec.toInt_eq_toNat_of_lt (by rw [e]; omega), e]
  have e3 := oI_bvN a
  unfold w32
  omega
theorem zi2b_v (a : Int) : zi2b a = (w32 a).bmod 256 := by
  unfold zi2b
  rw [Int8.toInt_toInt32, Int32.toInt_toInt8, oI_toInt]
theorem nar5_v (a : Int) : narK 5 a = (w32 a).bmod 256 := zi2b_v a
theorem zushr_m (v s : Int) (k : Nat) (hs : ((Int32.ofInt s).toUInt32 &&& Int32.toUInt32 31).toNat = k) (hk : k < 32) : zushr v s % 256 = v % 4294967296 / ((2 ^ k : Nat) : Int) % 256 := by
  have e : zushr v s = (((Int32.ofInt v).toUInt32 >>> ((Int32.ofInt s).toUInt32 &&& Int32.toUInt32 31)).toInt32).toBitVec.toInt := rfl
  have e1 : ((((Int32.ofInt v).toUInt32 >>> ((Int32.ofInt s).toUInt32 &&& Int32.toUInt32 31)).toInt32).toBitVec.toNat : Int) = v % 4294967296 / ((2 ^ k : Nat) : Int) := by
    have e2 : (((Int32.ofInt v).toUInt32 >>> ((Int32.ofInt s).toUInt32 &&& Int32.toUInt32 31)).toInt32).toBitVec.toNat = ((Int32.ofInt v).toUInt32 >>> ((Int32.ofInt s).toUInt32 &&& Int32.toUInt32 31)).toNat := rfl
    rw [e2, UInt32.toNat_shiftRight, hs, Nat.mod_eq_of_lt hk, Nat.shiftRight_eq_div_pow]
    rw [show (Int32.ofInt v).toUInt32.toNat = (Int32.ofInt v).toBitVec.toNat from rfl]
    rw [Int.natCast_ediv, oI_bvN]
  rw [e, BitVec.toInt_eq_toNat_bmod, e1, Int.bmod_def]
  rw [show ((2 ^ 32 : Nat) : Int) = 4294967296 from rfl]
  generalize v % 4294967296 / ((2 ^ k : Nat) : Int) = q
  split <;> omega
/-- the i-th byte from the end, as the class and as the model keep it -/
def bxs (v i : Int) : Int := narK 5 (zi2b (zushr v (8 * i)))
def bxm (v i : Int) : Int := zand (zshr v (8 * i)) 255
theorem bx_rel (v : Int) {i : Int} (hi : 0 ≤ i ∧ i < 4) : bxs v i % 256 = bxm v i ∧ -128 ≤ bxs v i ∧ bxs v i < 128 ∧ 0 ≤ bxm v i ∧ bxm v i < 256 := by
  have key : ∀ (k : Nat) (s : Int), s = (k : Int) → ((Int32.ofInt s).toUInt32 &&& Int32.toUInt32 31).toNat = k → k < 32 → v % 4294967296 / ((2 ^ k : Nat) : Int) % 256 = w32 v / ((2 ^ k : Nat) : Int) % 256 → (w32 v / ((2 ^ k : Nat) : Int) ≤ 2147483647 ∧ -2147483648 ≤ w32 v / ((2 ^ k : Nat) : Int)) → narK 5 (zi2b (zushr v s)) % 256 = zand (zshr v s) 255 ∧ -128 ≤ narK 5 (zi2b (zushr v s)) ∧ narK 5 (zi2b (zushr v s)) < 128 ∧ 0 ≤ zand (zshr v s) 255 ∧ zand (zshr v s) 255 < 256 := by
    intro k s hs h1 h2 h3 h4
    have e := zushr_m v s k h1 h2
    have e2 := zshr_v h2 v
    rw [← hs] at e2
    rw [h3, ← e2] at e
    rw [← e2] at h4
    rw [zand255, nar5_v, zi2b_v]
    generalize zushr v s = A at *
    generalize zshr v s = B at *
    rw [Int.bmod_def, Int.bmod_def]
    rw [show ((256 : Nat) : Int) = 256 from rfl] at *
    unfold w32
    split <;> split <;> omega
  have hw : -2147483648 ≤ w32 v ∧ w32 v < 2147483648 := w32_R v
  have hv : w32 v = (v + 2147483648) % 4294967296 - 2147483648 := rfl
  unfold bxs bxm
  have : i = 0 ∨ i = 1 ∨ i = 2 ∨ i = 3 := by omega
  rcases this with rfl | rfl | rfl | rfl
  · exact key 0 _ rfl (by decide) (by decide) (by rw [show ((2 ^ 0 : Nat) : Int) = 1 from rfl]; omega) (by rw [show ((2 ^ 0 : Nat) : Int) = 1 from rfl]; omega)
  · exact key 8 _ rfl (by decide) (by decide) (by rw [show ((2 ^ 8 : Nat) : Int) = 256 from rfl]; omega) (by rw [show ((2 ^ 8 : Nat) : Int) = 256 from rfl]; omega)
  · exact key 16 _ rfl (by decide) (by decide) (by rw [show ((2 ^ 16 : Nat) : Int) = 65536 from rfl]; omega) (by rw [show ((2 ^ 16 : Nat) : Int) = 65536 from rfl]; omega)
  · exact key 24 _ rfl (by decide) (by decide) (by rw [show ((2 ^ 24 : Nat) : Int) = 16777216 from rfl]; omega) (by rw [show ((2 ^ 24 : Nat) : Int) = 16777216 from rfl]; omega)
theorem RR.tp {M M' : cM} (h : RR M) (hs : TP M') (hk : ∀ c j, keep c j → c ≠ 70 → c ≠ 71 → c ≠ 109 → ¬ (c = 100 ∧ j = 12) → M' c j = M c j) : RR M' := by
  obtain ⟨h1, h2, h3, h4, h5, h6, h7⟩ := h
  unfold keep at hk
  refine ⟨SC.kp (fun x j _ _ => hk _ _ (by omega) (by omega) (by omega) (by omega) (by omega)) (fun j => hk _ _ (by omega) (by omega) (by omega) (by omega) (by omega)) h1, ?_, fun z => ?_, hs, ?_, fun x x0 x1 => ?_, ?_⟩
  · rw [hk 0 2 (by omega) (by omega) (by omega) (by omega) (by omega), hk 100 4 (by omega) (by omega) (by omega) (by omega) (by omega)]; exact h2
  · rw [hk 0 2 (by omega) (by omega) (by omega) (by omega) (by omega)] at z
    exact SC.kp (fun x j _ _ => hk _ _ (by omega) (by omega) (by omega) (by omega) (by omega)) (fun j => hk _ _ (by omega) (by omega) (by omega) (by omega) (by omega)) (h3 z)
  · exact RO.kp (fun c j _ _ => hk _ _ (by omega) (by omega) (by omega) (by omega) (by omega)) (fun c j _ _ => hk _ _ (by omega) (by omega) (by omega) (by omega) (by omega)) h5
  · rw [hk 75 x (by omega) (by omega) (by omega) (by omega) (by omega), hk 104 x (by omega) (by omega) (by omega) (by omega) (by omega)]; exact h6 x x0 x1
  · exact TB.kp (fun c j _ => hk _ _ (by omega) (by omega) (by omega) (by omega) (by omega)) h7
theorem RR.fl {M M' : cM} (h : RR M) (h2 : M' 0 2 = M' 100 4 ∧ (M' 0 2 = 0 ∨ M' 0 2 = 1)) (h3 : M' 0 2 = 1 → SC 30 102 M') (hk : ∀ c j, keep c j → c ≠ 0 → ¬ (30 ≤ c ∧ c ≤ 42) → c ≠ 102 → ¬ (c = 100 ∧ j = 4) → M' c j = M c j) : RR M' := by
  obtain ⟨h1, -, -, h4, h5, h6, h7⟩ := h
  unfold keep at hk
  refine ⟨SC.kp (fun x j _ _ => hk _ _ (by omega) (by omega) (by omega) (by omega) (by omega)) (fun j => hk _ _ (by omega) (by omega) (by omega) (by omega) (by omega)) h1, h2, h3, ?_, ?_, fun x x0 x1 => ?_, ?_⟩
  · exact TP.kp (hk _ _ (by omega) (by omega) (by omega) (by omega) (by omega)) (hk _ _ (by omega) (by omega) (by omega) (by omega) (by omega)) (fun j => hk _ _ (by omega) (by omega) (by omega) (by omega) (by omega)) (fun j => hk _ _ (by omega) (by omega) (by omega) (by omega) (by omega)) h4
  · exact RO.kp (fun c j _ _ => hk _ _ (by omega) (by omega) (by omega) (by omega) (by omega)) (fun c j _ _ => hk _ _ (by omega) (by omega) (by omega) (by omega) (by omega)) h5
  · rw [hk 75 x (by omega) (by omega) (by omega) (by omega) (by omega), hk 104 x (by omega) (by omega) (by omega) (by omega) (by omega)]; exact h6 x x0 x1
  · exact TB.kp (fun c j _ => hk _ _ (by omega) (by omega) (by omega) (by omega) (by omega)) h7
theorem RR.ro {M M' : cM} (h : RR M) (hs : RO M') (hk : ∀ c j, keep c j → ¬ (90 ≤ c ∧ c ≤ 97) → ¬ (110 ≤ c ∧ c ≤ 112) → M' c j = M c j) : RR M' := by
  obtain ⟨h1, h2, h3, h4, h5, h6, h7⟩ := h
  unfold keep at hk
  refine ⟨SC.kp (fun x j _ _ => hk _ _ (by omega) (by omega) (by omega)) (fun j => hk _ _ (by omega) (by omega) (by omega)) h1, ?_, fun z => ?_, ?_, hs, fun x x0 x1 => ?_, ?_⟩
  · rw [hk 0 2 (by omega) (by omega) (by omega), hk 100 4 (by omega) (by omega) (by omega)]; exact h2
  · rw [hk 0 2 (by omega) (by omega) (by omega)] at z
    exact SC.kp (fun x j _ _ => hk _ _ (by omega) (by omega) (by omega)) (fun j => hk _ _ (by omega) (by omega) (by omega)) (h3 z)
  · exact TP.kp (hk _ _ (by omega) (by omega) (by omega)) (hk _ _ (by omega) (by omega) (by omega)) (fun j => hk _ _ (by omega) (by omega) (by omega)) (fun j => hk _ _ (by omega) (by omega) (by omega)) h4
  · rw [hk 75 x (by omega) (by omega) (by omega), hk 104 x (by omega) (by omega) (by omega)]; exact h6 x x0 x1
  · exact TB.kp (fun c j _ => hk _ _ (by omega) (by omega) (by omega)) h7
theorem Z_wipe {P : Int → Int → cM → Prop} {M : cM} (hR : RR M) (H : ∀ r M', RR M' → P r r M') : F_xs_wipe (fun x M1 => F_xm_wipe (fun y M2 => P x y M2) M1) M := by
  have hT := hR.2.2.2.1.1
  unfold F_xs_wipe F_xm_wipe
  simp (disch := omega) only [wr_ne, wr_nj, wr_eq, w32_e]
  rw [hT.1]
  refine H _ _ (hR.tp ⟨⟨by simp (disch := omega) only [wr_ne, wr_nj, wr_eq, w32_e], by simp (disch := omega) only [wr_ne, wr_nj, wr_eq, w32_e]; omega, by simp (disch := omega) only [wr_ne, wr_nj, wr_eq, w32_e]; omega⟩, fun k k0 k1 => ?_⟩ (fun c j _ h1 h2 h3 h4 => ?_))
  · simp (disch := omega) only [wr_ne, wr_nj, wr_eq, w32_e] at k1
    omega
  · rw [wr_at, if_neg h4, wr_ne h1]
theorem Z_tear {P : Int → Int → cM → Prop} {M : cM} (hR : RR M) (H : ∀ r M', RR M' → P r r M') : F_xs_tear (fun x M1 => F_xm_tear (fun y M2 => P x y M2) M1) M := by
  have h2 := hR.2.1
  have fin : RR (wr (wr M 0 2 0) 100 4 0) := by
    refine hR.fl ⟨by simp (disch := omega) only [wr_ne, wr_nj, wr_eq, w32_e], Or.inl (by simp (disch := omega) only [wr_ne, wr_nj, wr_eq, w32_e])⟩ (fun z => ?_) (fun c j _ h1 h2 h3 h4 => ?_)
    · simp (disch := omega) only [wr_ne, wr_nj, wr_eq, w32_e] at z
      omega
    · rw [wr_at, if_neg h4, wr_ne h1]
  unfold F_xs_tear F_xm_tear F_xs_tear_12 F_xm_tear_12
  simp (disch := omega) only [wr_ne, wr_nj, wr_eq, w32_e]
  rw [← h2.1]
  by_cases h : M 0 2 = 0
  · simp only [if_pos h]; exact H _ _ fin
  · simp only [if_neg h]; exact H _ _ fin
