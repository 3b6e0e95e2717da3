/-! Bits counted; sets as bits. No machine but small methods. -/
def bc1 (a : Int) : Int := w32 (a - (zand (zushr a 1) 1431655765))
def bc2 (x : Int) : Int := w32 ((zand x 858993459) + (zand (zushr x 2) 858993459))
def bc3 (x : Int) : Int := zand (w32 (x + (zushr x 4))) 252645135
def bc4 (x : Int) : Int := w32 (x + (zushr x 8))
def bc5 (x : Int) : Int := w32 (x + (zushr x 16))
def bci (a : Int) : Int := zand (bc5 (bc4 (bc3 (bc2 (bc1 a))))) 63
theorem E_bitCount0 {Q : Int → cM → Prop} {a : Int} {M : cM} : F_xj_Integer_bitCount Q a M = Q (bci a) M := rfl
def bsm (n : Nat) : Nat → Nat
  | 0 => 0
  | k + 1 => bsm n k + (n.testBit k).toNat
def onc : Nat → Nat → Nat
  | 0, _ => 100
  | f + 1, n => if n = 0 then 0 else 1 + onc f (n &&& (n - 1))
theorem bci_d : ∀ a : Nat, a < 64 → ∀ b : Nat, b < 64 → bci ((64 * a + b : Nat) : Int) = ((bsm (64 * a + b) 12 : Nat) : Int) := by decide +kernel
theorem onc_d : ∀ a : Nat, a < 64 → ∀ b : Nat, b < 64 → onc 13 (64 * a + b) = bsm (64 * a + b) 12 := by decide +kernel
theorem E_bitCount {Q : Int → cM → Prop} {n : Nat} {M : cM} (h : n < 4096) : F_xj_Integer_bitCount Q n M = Q (bsm n 12 : Nat) M := by
  have := bci_d (n / 64) (by omega) (n % 64) (by omega)
  rw [show 64 * (n / 64) + n % 64 = n by omega] at this
  rw [E_bitCount0, this]
theorem bsm_le (n : Nat) : ∀ k : Nat, bsm n k ≤ k
  | 0 => Nat.le_refl _
  | k + 1 => by
    have := bsm_le n k
    have h2 : (n.testBit k).toNat ≤ 1 := Bool.toNat_le _
    unfold bsm
    omega
theorem L_ones {Q : Int → cM → Prop} {M : cM} : ∀ (f n c : Nat), n < 2147483648 → c + f < 1000 → onc f n < 100 → Q ((c + onc f n : Nat) : Int) M → F_xm_ones_4 Q f c n M := by
  intro f
  induction f with
  | zero => intro n c _ _ h; exact absurd h (by show ¬ 100 < 100; decide)
  | succ f ih =>
    intro n c hn hc h H
    unfold F_xm_ones_4
    unfold onc at h H
    by_cases q : n = 0
    · rw [if_pos (by omega)]
      rw [if_pos q] at H
      exact H
    · rw [if_neg (by omega)]
      rw [if_neg q] at h H
      have hl : n &&& (n - 1) ≤ n := Nat.and_le_left
      rw [wE (by omega), w32_e (x := (n : Int) - 1) (by omega) (by omega), show (n : Int) - 1 = ((n - 1 : Nat) : Int) by omega, zand_n (by omega) (by omega)]
      refine ih _ (c + 1) (by omega) (by omega) (by omega) ?_
      rw [show c + 1 + onc f (n &&& (n - 1)) = c + (1 + onc f (n &&& (n - 1))) by omega]
      exact H
theorem X_ones {Q : Int → cM → Prop} {n : Nat} {M : cM} (h : n < 4096) (H : Q (bsm n 12 : Nat) M) : F_xm_ones Q n M := by
  have e := onc_d (n / 64) (by omega) (n % 64) (by omega)
  rw [show 64 * (n / 64) + n % 64 = n by omega] at e
  have := bsm_le n 12
  unfold F_xm_ones
  exact ⟨13, L_ones 13 n 0 (by omega) (by decide) (by omega) (by rw [e, Nat.zero_add]; exact H)⟩
theorem zset_bit (p : Nat → Bool) (i : Nat) : ∀ n : Nat, (zset p n).testBit i = (decide (i < n) && p i)
  | 0 => by
    show Nat.testBit 0 i = _
    rw [Nat.zero_testBit]
    simp
  | n + 1 => by
    have ih := zset_bit p i n
    have hl := zset_lt p n
    unfold zset
    by_cases hp : p n = true
    · rw [if_pos hp, Nat.add_comm]
      by_cases h1 : i < n
      · rw [Nat.testBit_two_pow_add_gt h1, ih]
        simp [h1, Nat.lt_succ_of_lt h1]
      · by_cases h2 : i = n
        · subst h2
          rw [Nat.testBit_two_pow_add_eq, Nat.testBit_lt_two_pow hl]
          simp [hp]
        · rw [Nat.testBit_lt_two_pow (Nat.lt_of_lt_of_le (show 2 ^ n + zset p n < 2 ^ (n + 1) by rw [Nat.pow_succ]; omega) (Nat.pow_le_pow_right (by decide) (by omega)))]
          have h3 : ¬ i < n + 1 := by omega
          simp [h3]
    · rw [if_neg hp, Nat.add_zero, ih]
      by_cases h1 : i < n
      · simp [h1, Nat.lt_succ_of_lt h1]
      · by_cases h2 : i = n
        · subst h2
          simp [hp]
        · have h3 : ¬ i < n + 1 := by omega
          simp [h1, h3]
theorem bsm_cnb (x : Nat) : ∀ k : Nat, bsm x k = cnb (fun i => x.testBit i) k
  | 0 => rfl
  | k + 1 => by
    show bsm x k + (x.testBit k).toNat = cnb _ k + (if x.testBit k = true then 1 else 0)
    rw [bsm_cnb x k]
    cases x.testBit k <;> rfl
theorem cnb_cut (p : Nat → Bool) (n : Nat) : ∀ d : Nat, cnb (fun i => decide (i < n) && p i) (n + d) = cnb p n
  | 0 => cnb_eq n (fun i hi => by simp [hi])
  | d + 1 => by
    show cnb _ (n + d) + (if (decide (n + d < n) && p (n + d)) = true then 1 else 0) = _
    rw [cnb_cut p n d, show decide (n + d < n) = false from decide_eq_false (by omega)]
    rfl
theorem bsm_zset (p : Nat → Bool) {n : Nat} (h : n ≤ 12) : bsm (zset p n) 12 = cnb p n := by
  rw [bsm_cnb, cnb_eq 12 (q := fun i => decide (i < n) && p i) (fun i _ => zset_bit p i n), show 12 = n + (12 - n) by omega]
  exact cnb_cut p n (12 - n)
def nan (a b : Nat) : Nat := a ^^^ (a &&& b)
theorem nan_bit (a b i : Nat) : (nan a b).testBit i = (a.testBit i && !b.testBit i) := by
  unfold nan
  rw [Nat.testBit_xor, Nat.testBit_and]
  cases a.testBit i <;> cases b.testBit i <;> rfl
theorem nan_le (a b : Nat) (n : Nat) (h : a < 2 ^ n) : nan a b < 2 ^ n := Nat.xor_lt_two_pow h (Nat.lt_of_le_of_lt Nat.and_le_left h)
theorem zand_nan {a b : Nat} (ha : a < 2 ^ 31) (hb : b < 2 ^ 31) : zand (a : Int) (zxor (b : Int) (-1)) = ((nan a b : Nat) : Int) := by
  have hn := nan_le a b 31 ha
  have e : nI a &&& Int32.ofInt (zxor (b : Int) (-1)) = nI (nan a b) := by
    apply Int32.toBitVec_inj.mp
    apply BitVec.eq_of_getLsbD_eq
    intro i hi
    have hx : (Int32.ofInt (zxor (b : Int) (-1))).toBitVec = ~~~ (nI b).toBitVec := by
      unfold zxor
      rw [oI_of, Int32.toBitVec_xor, show (Int32.ofInt (-1)).toBitVec = BitVec.allOnes 32 from by decide, BitVec.xor_allOnes, ofN]
    have g : ∀ x : Nat, x < 2 ^ 31 → ∀ k : Nat, (nI x).toBitVec.getLsbD k = x.testBit k := fun x hx k => by
      rw [← BitVec.testBit_toNat, bvN hx]
    rw [Int32.toBitVec_and, BitVec.getLsbD_and, hx, BitVec.getLsbD_not, g a ha, g b hb, g _ hn, nan_bit]
    simp [hi]
  unfold zand
  rw [ofN, e, nI_t hn]
theorem nan_self {s : Nat} {k : Nat} : nan s (2 ^ k) = s ↔ s.testBit k = false := by
  constructor
  · intro h
    have := nan_bit s (2 ^ k) k
    rw [h, Nat.testBit_two_pow_self, Bool.not_true, Bool.and_false] at this
    exact this
  · intro h
    apply Nat.eq_of_testBit_eq
    intro i
    rw [nan_bit, Nat.testBit_two_pow]
    by_cases e : k = i
    · subst e; rw [h]; rfl
    · simp [e]
theorem nan_0 {s k b : Nat} : nan (nan s (2 ^ k)) b = 0 ↔ ∀ i, s.testBit i = true → i ≠ k → b.testBit i = true := by
  constructor
  · intro h i hi hk
    have := nan_bit (nan s (2 ^ k)) b i
    rw [h, Nat.zero_testBit, nan_bit, hi, Nat.testBit_two_pow, show decide (k = i) = false from decide_eq_false (fun q => hk q.symm)] at this
    cases hb : b.testBit i
    · rw [hb] at this; cases this
    · rfl
  · intro h
    apply Nat.eq_of_testBit_eq
    intro i
    rw [nan_bit, nan_bit, Nat.zero_testBit, Nat.testBit_two_pow]
    cases hs : s.testBit i
    · rfl
    · by_cases e : k = i
      · subst e; simp
      · rw [h i hs (fun q => e q.symm)]; simp
theorem E_has {Q : Int → cM → Prop} {s k : Nat} {M : cM} (hs : s < 2 ^ 31) (hk : k < 32) : F_xm_has Q s k M = Q (if s.testBit k = true then 1 else 0) M := by
  unfold F_xm_has
  rw [zshr_n hk hs, show (1 : Int) = ((1 : Nat) : Int) from rfl, zand_n (Nat.lt_of_le_of_lt (Nat.div_le_self _ _) hs) (by decide), narK40]
  have e : s.testBit k = true ↔ s / 2 ^ k &&& 1 = 1 := by
    rw [Nat.and_one_is_mod, Nat.testBit_eq_decide_div_mod_eq, decide_eq_true_eq]
  by_cases q : s.testBit k = true
  · rw [if_pos q, if_pos (by rw [e.mp q]), show narK 4 ((1 : Nat) : Int) = 1 from narK41]; rfl
  · rw [if_neg q, if_neg (fun z => q (e.mpr (by omega)))]
