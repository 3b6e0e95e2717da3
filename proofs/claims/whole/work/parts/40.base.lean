/-! The mathematics: numbers and bits, the invariant, what a call may change. No machine from here on. -/
theorem narK40 : narK 4 0 = 0 := by decide +kernel
theorem narK41 : narK 4 1 = 1 := by decide +kernel
theorem w32_lit_0 : w32 0 = 0 := rfl
theorem ofN (n : Nat) : Int32.ofInt (n : Int) = nI n := Int32.ofInt_eq_ofNat
theorem nI_t {n : Nat} (h : n < 2 ^ 31) : (nI n).toInt = (n : Int) := nI_toInt h
theorem and31 : ∀ k, k < 32 → ((nI k &&& 31).toBitVec.smod 32).toNat = k := by decide +kernel
theorem zshl_n {n k : Nat} (hk : k < 32) (h : n * 2 ^ k < 2 ^ 31) : zshl (n : Int) (k : Int) = ((n * 2 ^ k : Nat) : Int) := by
  unfold zshl
  rw [ofN, ofN, pk_shlN _ k (and31 k hk) (by omega), nI_t h]
theorem zshr_n {n k : Nat} (hk : k < 32) (h : n < 2 ^ 31) : zshr (n : Int) (k : Int) = ((n / 2 ^ k : Nat) : Int) := by
  unfold zshr
  rw [ofN, ofN, pk_shrN h _ k (and31 k hk), nI_t (Nat.lt_of_le_of_lt (Nat.div_le_self _ _) h)]
theorem bvN {n : Nat} (h : n < 2 ^ 31) : (nI n).toBitVec.toNat = n := pk_tn (by omega)
theorem zor_n {a b : Nat} (ha : a < 2 ^ 31) (hb : b < 2 ^ 31) : zor (a : Int) (b : Int) = ((a ||| b : Nat) : Int) := by
  unfold zor
  have h : a ||| b < 2 ^ 31 := Nat.or_lt_two_pow ha hb
  have e : nI a ||| nI b = nI (a ||| b) := by
    apply Int32.toBitVec_inj.mp
    apply BitVec.eq_of_toNat_eq
    rw [Int32.toBitVec_or, BitVec.toNat_or, bvN ha, bvN hb, bvN h]
  rw [ofN, ofN, e, nI_t h]
theorem zand_n {a b : Nat} (ha : a < 2 ^ 31) (hb : b < 2 ^ 31) : zand (a : Int) (b : Int) = ((a &&& b : Nat) : Int) := by
  unfold zand
  have h : a &&& b < 2 ^ 31 := Nat.lt_of_le_of_lt Nat.and_le_left ha
  have e : nI a &&& nI b = nI (a &&& b) := by
    apply Int32.toBitVec_inj.mp
    apply BitVec.eq_of_toNat_eq
    rw [Int32.toBitVec_and, BitVec.toNat_and, bvN ha, bvN hb, bvN h]
  rw [ofN, ofN, e, nI_t h]
/-- a light as one int -/
def enc (sh sl : Int) : Int := sh * 16 + (sl + 1)
def lok (sh sl : Int) : Prop := 0 ≤ sh ∧ sh ≤ 1000 ∧ -1 ≤ sl ∧ sl ≤ 11
theorem enc_of {sh sl : Int} (h : lok sh sl) : zor (zshl sh 4) (w32 (sl + 1)) = enc sh sl := by
  obtain ⟨h1, h2, h3, h4⟩ := h
  obtain ⟨n, rfl⟩ := Int.eq_ofNat_of_zero_le h1
  obtain ⟨m, hm⟩ := Int.eq_ofNat_of_zero_le (show 0 ≤ sl + 1 by omega)
  have hn : n ≤ 1000 := by omega
  rw [w32_e (by omega) (by omega), hm, show (4 : Int) = ((4 : Nat) : Int) from rfl, zshl_n (by omega) (by omega), zor_n (by omega) (by omega)]
  unfold enc
  rw [hm, show n * 2 ^ 4 = n <<< 4 from (Nat.shiftLeft_eq n 4).symm, ← Nat.shiftLeft_add_eq_or_of_lt (show m < 2 ^ 4 by omega), Nat.shiftLeft_eq]
  omega
theorem enc_sh {sh sl : Int} (h : lok sh sl) : zshr (enc sh sl) 4 = sh := by
  obtain ⟨h1, h2, h3, h4⟩ := h
  obtain ⟨n, hn⟩ := Int.eq_ofNat_of_zero_le (show 0 ≤ enc sh sl by unfold enc; omega)
  have hlt : n < 2 ^ 31 := by unfold enc at hn; omega
  rw [hn, show (4 : Int) = ((4 : Nat) : Int) from rfl, zshr_n (by omega) hlt]
  unfold enc at hn
  omega
theorem enc_sl {sh sl : Int} (h : lok sh sl) : w32 ((zand (enc sh sl) 15) - 1) = sl := by
  obtain ⟨h1, h2, h3, h4⟩ := h
  obtain ⟨n, hn⟩ := Int.eq_ofNat_of_zero_le (show 0 ≤ enc sh sl by unfold enc; omega)
  have hlt : n < 2 ^ 31 := by unfold enc at hn; omega
  rw [hn, show (15 : Int) = ((15 : Nat) : Int) from rfl, zand_n hlt (by omega), show (15 : Nat) = 2 ^ 4 - 1 from rfl, Nat.and_two_pow_sub_one_eq_mod]
  unfold enc at hn
  rw [w32_e (by omega) (by omega)]
  omega
/-- cosines of differences, and what an eye sees -/
def zcs (d : Int) : Int := if d = 0 then 1000 else if d = 1 then 933 else if d = 2 then 750 else if d = 3 then 500 else if d = 4 then 250 else if d = 5 then 67 else 0
def zdi (a b : Int) : Int := if 6 < (a - b + 12) % 12 then 12 - (a - b + 12) % 12 else (a - b + 12) % 12
def zsee (sh sl t : Int) : Int := if sl = -1 then sh / 2 else sh * zcs (zdi sl t) / 1000
theorem zcs_b (d : Int) : 0 ≤ zcs d ∧ zcs d ≤ 1000 := by
  unfold zcs
  repeat' split
  all_goals omega
theorem mul_b {a b : Int} (h1 : 0 ≤ a) (h2 : a ≤ 1000) (h3 : 0 ≤ b) (h4 : b ≤ 1000) : 0 ≤ a * b ∧ a * b ≤ 1000000 := by
  have e1 : 0 ≤ a * b := Int.mul_nonneg h1 h3
  have e2 : a * b ≤ 1000 * b := Int.mul_le_mul_of_nonneg_right h2 h3
  omega
theorem mul_d {a b : Int} (h1 : 0 ≤ a) (h2 : a ≤ 1000) (h3 : 0 ≤ b) (h4 : b ≤ 1000) : 0 ≤ a * b / 1000 ∧ a * b / 1000 ≤ a := by
  have e1 : 0 ≤ a * b := Int.mul_nonneg h1 h3
  have e2 : a * b ≤ a * 1000 := Int.mul_le_mul_of_nonneg_left h4 h1
  omega
theorem zsee_b {sh sl t : Int} (h : lok sh sl) : 0 ≤ zsee sh sl t ∧ zsee sh sl t ≤ sh := by
  obtain ⟨h1, h2, h3, h4⟩ := h
  unfold zsee
  split
  · omega
  · exact mul_d h1 h2 (zcs_b _).1 (zcs_b _).2
theorem tdn {a b : Int} (h : 0 ≤ a) : Int.tdiv a b = a / b := Int.tdiv_eq_ediv_of_nonneg h
theorem tmn {a b : Int} (h : 0 ≤ a) : Int.tmod a b = a % b := Int.tmod_eq_emod_of_nonneg h
/-- places that are kept from call to call -/
def keep (c j : Int) : Prop := (10 ≤ c ∧ c ≤ 22) ∨ (30 ≤ c ∧ c ≤ 42) ∨ c = 70 ∨ c = 71 ∨ c = 75 ∨ (90 ≤ c ∧ c ≤ 97) ∨ c = 101 ∨ c = 102 ∨ c = 104 ∨ (109 ≤ c ∧ c ≤ 112) ∨ 1000 ≤ c ∨ c = 0 ∨ (c = 100 ∧ (j = 4 ∨ j = 12))
/-- nothing that is kept has changed -/
def Kp (M M' : cM) : Prop := ∀ c j, keep c j → M' c j = M c j
theorem Kp.rf (M : cM) : Kp M M := fun _ _ _ => rfl
theorem Kp.tr {M M1 M2 : cM} (h : Kp M M1) (h' : Kp M1 M2) : Kp M M2 := fun c j hk => (h' c j hk).trans (h c j hk)
theorem Kp.w {M M1 : cM} {c j v : Int} (h : Kp M M1) (hn : ¬ keep c j) : Kp M (wr M1 c j v) := fun c' j' hk => by
  rw [show wr M1 c j v c' j' = if c' = c ∧ j' = j then v else M1 c' j' from rfl]
  rw [if_neg (fun q => hn (by rw [← q.1, ← q.2]; exact hk))]
  exact h c' j' hk
theorem wr_at (M : cM) (c j v c' j' : Int) : wr M c j v c' j' = if c' = c ∧ j' = j then v else M c' j' := rfl
/-- a scene at base b and a row of ints at cell c tell the same -/
def SC (b c : Int) (M : cM) : Prop :=
  (M b 0 = M c 0 ∧ 0 ≤ M c 0 ∧ M c 0 ≤ 10) ∧ (M b 4 = M c 1 ∧ 0 ≤ M c 1 ∧ M c 1 ≤ 11) ∧ (M b 5 = M c 2 ∧ 0 ≤ M c 2 ∧ M c 2 ≤ 1000) ∧ (M b 6 = M c 3 ∧ -1 ≤ M c 3 ∧ M c 3 ≤ 11) ∧ M b 12 = M c 4 ∧ (M b 9 = M c 5 ∧ 0 ≤ M c 5 ∧ M c 5 ≤ 4) ∧
  (∀ k, 0 ≤ k → k < M c 5 → M (b + 10) k = M c (6 + 2 * k) ∧ M (b + 11) k = M c (7 + 2 * k) ∧ (0 ≤ M c (6 + 2 * k) ∧ M c (6 + 2 * k) ≤ 11) ∧ (0 ≤ M c (7 + 2 * k) ∧ M c (7 + 2 * k) ≤ 1000)) ∧
  (∀ k, 0 ≤ k → k < M c 0 → M (b + 1) k = M c (14 + 3 * k) ∧ M (b + 2) k = M c (15 + 3 * k) ∧ M (b + 3) k = M c (16 + 3 * k) ∧ (0 ≤ M c (14 + 3 * k) ∧ M c (14 + 3 * k) ≤ 6) ∧ (0 ≤ M c (15 + 3 * k) ∧ M c (15 + 3 * k) ≤ 11) ∧ (0 ≤ M c (16 + 3 * k) ∧ M c (16 + 3 * k) ≤ 1000)) ∧
  (∀ k, 0 ≤ k → k < 4 → M (b + 9) k = M c (44 + 7 * k) ∧ 0 ≤ M c (44 + 7 * k) ∧ M c (44 + 7 * k) ≤ 6) ∧
  (∀ k i, 0 ≤ k → k < 4 → 0 ≤ i → i < M c (44 + 7 * k) → M (b + 5 + k) i = M c (45 + 7 * k + i) ∧ 0 ≤ M c (45 + 7 * k + i) ∧ M c (45 + 7 * k + i) < M c 0) ∧
  (∀ k, 0 ≤ k → k < 10 → M (b + 12) k = M c (72 + k) ∧ -1 ≤ M c (72 + k) ∧ M c (72 + k) < M c 0)
/-- the tape -/
def TP (M : cM) : Prop := (M 70 1 = M 100 12 ∧ 0 ≤ M 100 12 ∧ M 100 12 ≤ 120) ∧ ∀ k, 0 ≤ k → k < M 100 12 → (M 71 k) % 256 = M 109 k ∧ -128 ≤ M 71 k ∧ M 71 k < 128 ∧ 0 ≤ M 109 k ∧ M 109 k < 256
/-- the rows -/
def RO (M : cM) : Prop := ∀ s, 0 ≤ s → s < 4 → (M (90 + 2 * s) 0 = M 110 s ∧ (M 110 s = 0 ∨ M 110 s = 8 ∨ M 110 s = 16 ∨ M 110 s = 32)) ∧ (M (90 + 2 * s) 1 = M 111 s ∧ 0 ≤ M 111 s ∧ M 111 s ≤ 40) ∧ ∀ i, 0 ≤ i → i < M 111 s → M (91 + 2 * s) i = M 112 (40 * s + i)
/-- the constant cells -/
def TB (M : cM) : Prop := (M 1000 (-1) = 7 ∧ ∀ d, 0 ≤ d → d ≤ 6 → M 1000 d = zcs d) ∧ (M 1001 (-1) = 7 ∧ M 1001 0 = -1 ∧ M 1001 1 = 0 ∧ M 1001 2 = 0 ∧ M 1001 3 = 2 ∧ M 1001 4 = 0 ∧ M 1001 5 = 1 ∧ M 1001 6 = 2) ∧ (∀ j, iR (M 1002 j)) ∧
  (∀ i : Nat, i < 14 → M (2000 + (i : Nat)) (-1) = (clen.getD i 0 : Nat) ∧ ∀ j : Nat, j < clen.getD i 0 → M (2000 + (i : Nat)) j = ((cbyt.getD i []).getD j 0).toInt)
def RR (M : cM) : Prop := SC 10 101 M ∧ (M 0 2 = M 100 4 ∧ (M 0 2 = 0 ∨ M 0 2 = 1)) ∧ (M 0 2 = 1 → SC 30 102 M) ∧ TP M ∧ RO M ∧ (∀ k, 0 ≤ k → k < 7 → M 75 k = M 104 k ∧ iR (M 104 k)) ∧ TB M
theorem SC.kp {b c : Int} {M M' : cM} (hb : ∀ k j, 0 ≤ k → k ≤ 12 → M' (b + k) j = M (b + k) j) (hc : ∀ j, M' c j = M c j) (h : SC b c M) : SC b c M' := by
  have e0 : ∀ j, M' b j = M b j := fun j => by have := hb 0 j (by omega) (by omega); rwa [Int.add_zero] at this
  have e1 := fun j => hb 1 j (by omega) (by omega)
  have e2 := fun j => hb 2 j (by omega) (by omega)
  have e3 := fun j => hb 3 j (by omega) (by omega)
  have e9 := fun j => hb 9 j (by omega) (by omega)
  have e10 := fun j => hb 10 j (by omega) (by omega)
  have e11 := fun j => hb 11 j (by omega) (by omega)
  have e12 := fun j => hb 12 j (by omega) (by omega)
  obtain ⟨h0, h1, h2, h3, h4, h5, h6, h7, h8, h9, h10⟩ := h
  refine ⟨by rw [e0, hc]; exact h0, by rw [e0, hc]; exact h1, by rw [e0, hc]; exact h2, by rw [e0, hc]; exact h3, by rw [e0, hc]; exact h4, by rw [e0, hc]; exact h5, fun k k0 k1 => ?_, fun k k0 k1 => ?_, fun k k0 k1 => ?_, fun k i k0 k1 i0 i1 => ?_, fun k k0 k1 => ?_⟩
  · rw [hc] at k1; rw [e10, e11, hc, hc]; exact h6 k k0 k1
  · rw [hc] at k1; rw [e1, e2, e3, hc, hc, hc]; exact h7 k k0 k1
  · rw [e9, hc]; exact h8 k k0 k1
  · have e := hb (5 + k) i (by omega) (by omega)
    rw [← Int.add_assoc] at e
    rw [hc] at i1; rw [e, hc, hc]; exact h9 k i k0 k1 i0 i1
  · rw [e12, hc, hc]; exact h10 k k0 k1
theorem TB.kp {M M' : cM} (h : ∀ c j, 1000 ≤ c → M' c j = M c j) (hT : TB M) : TB M' := by
  obtain ⟨⟨h1, h2⟩, ⟨h3, h4, h5, h6, h7, h8, h9, h10⟩, h11, h12⟩ := hT
  have e0 := fun j => h 1000 j (by omega)
  have e1 := fun j => h 1001 j (by omega)
  have e2 := fun j => h 1002 j (by omega)
  refine ⟨⟨by rw [e0]; exact h1, fun d d0 d1 => by rw [e0]; exact h2 d d0 d1⟩, ⟨by rw [e1]; exact h3, by rw [e1]; exact h4, by rw [e1]; exact h5, by rw [e1]; exact h6, by rw [e1]; exact h7, by rw [e1]; exact h8, by rw [e1]; exact h9, by rw [e1]; exact h10⟩, fun j => by rw [e2]; exact h11 j, fun i hi => ?_⟩
  have e3 := fun j => h (2000 + (i : Nat)) j (by omega)
  exact ⟨by rw [e3]; exact (h12 i hi).1, fun j hj => by rw [e3]; exact (h12 i hi).2 j hj⟩
theorem TP.kp {M M' : cM} (h1 : M' 70 1 = M 70 1) (h2 : M' 100 12 = M 100 12) (h3 : ∀ j, M' 71 j = M 71 j) (h4 : ∀ j, M' 109 j = M 109 j) (h : TP M) : TP M' := by
  obtain ⟨g1, g2⟩ := h
  refine ⟨by rw [h1, h2]; exact g1, fun k k0 k1 => ?_⟩
  rw [h2] at k1
  rw [h3, h4]
  exact g2 k k0 k1
theorem RO.kp {M M' : cM} (h1 : ∀ c j, 90 ≤ c → c ≤ 97 → M' c j = M c j) (h2 : ∀ c j, 110 ≤ c → c ≤ 112 → M' c j = M c j) (h : RO M) : RO M' := by
  intro s s0 s1
  obtain ⟨g1, g2, g3⟩ := h s s0 s1
  have a1 := fun j => h1 (90 + 2 * s) j (by omega) (by omega)
  have a2 := fun j => h1 (91 + 2 * s) j (by omega) (by omega)
  have b1 := fun j => h2 110 j (by omega) (by omega)
  have b2 := fun j => h2 111 j (by omega) (by omega)
  have b3 := fun j => h2 112 j (by omega) (by omega)
  rw [a1, a1, b1, b2]
  exact ⟨g1, g2, fun i i0 i1 => by rw [a2, b3]; exact g3 i i0 i1⟩
theorem RR.kp {M M' : cM} (hk : Kp M M') (h : RR M) : RR M' := by
  obtain ⟨h1, h2, h3, h4, h5, h6, h7⟩ := h
  have k : ∀ c j, keep c j → M' c j = M c j := hk
  unfold keep at k
  refine ⟨SC.kp (fun x j _ _ => k _ _ (by omega)) (fun j => k _ _ (by omega)) h1, ?_, fun z => ?_, ?_, ?_, fun x x0 x1 => ?_, ?_⟩
  · rw [k 0 2 (by omega), k 100 4 (by omega)]; exact h2
  · rw [k 0 2 (by omega)] at z
    exact SC.kp (fun x j _ _ => k _ _ (by omega)) (fun j => k _ _ (by omega)) (h3 z)
  · exact TP.kp (k _ _ (by omega)) (k _ _ (by omega)) (fun j => k _ _ (by omega)) (fun j => k _ _ (by omega)) h4
  · exact RO.kp (fun c j _ _ => k _ _ (by omega)) (fun c j _ _ => k _ _ (by omega)) h5
  · rw [k 75 x (by omega), k 104 x (by omega)]; exact h6 x x0 x1
  · exact TB.kp (fun c j _ => k _ _ (by omega)) h7
theorem ite01 {c : Prop} {i : Decidable c} {A B : Prop} : (if (if c then (1 : Int) else 0) = 0 then A else B) = (if c then B else A) := by
  by_cases h : c
  · rw [if_pos h, if_pos h, if_neg (by decide)]
  · rw [if_neg h, if_neg h, if_pos rfl]
theorem nar_ite {c : Prop} {i : Decidable c} : narK 4 (if c then (1 : Int) else 0) = if c then 1 else 0 := by
  split
  · exact narK41
  · exact narK40
