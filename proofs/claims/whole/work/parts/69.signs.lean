/-! signs. -/
def alq (set : Nat) (part : Nat → Nat) (s : Nat) : Bool := decide (nan set (2 ^ s) = set) || decide (nan (nan set (2 ^ s)) (part s) = 0)
def sgq (v : Nat → Int) (hz : Int) (set a b : Nat) : Bool := !(set.testBit a && set.testBit b) || apb v hz a b
def sgk (v : Nat → Int) (hz : Int) (N set : Nat) : Bool := alN (fun a => alN (sgq v hz set a) a) N
theorem sg_eq {v : Nat → Int} {hz : Int} {N set : Nat} (hs : set < 2 ^ N) : alN (alq set (fun j => zset (apb v hz j) N)) N = sgk v hz N set := by
  rw [Bool.eq_iff_iff]
  unfold sgk
  rw [alN_iff, alN_iff]
  have hbit : ∀ i, set.testBit i = true → i < N := fun i hi => by
    apply Nat.lt_of_not_le
    intro h
    rw [Nat.testBit_lt_two_pow (Nat.lt_of_lt_of_le hs (Nat.pow_le_pow_right (by decide) h))] at hi
    cases hi
  constructor
  · intro h a ha
    rw [alN_iff]
    intro b hb
    have h1 := h a ha
    unfold alq at h1
    rw [Bool.or_eq_true, decide_eq_true_eq, decide_eq_true_eq, nan_self, nan_0] at h1
    unfold sgq
    cases ta : set.testBit a
    · rfl
    · cases tb : set.testBit b
      · rfl
      · rcases h1 with h1 | h1
        · rw [ta] at h1; cases h1
        · have := h1 b tb (by omega)
          rw [zset_bit, Bool.and_eq_true] at this
          rw [this.2]; rfl
  · intro h s hs1
    unfold alq
    rw [Bool.or_eq_true, decide_eq_true_eq, decide_eq_true_eq, nan_self, nan_0]
    cases ts : set.testBit s
    · exact Or.inl rfl
    · refine Or.inr (fun i ti hi => ?_)
      have hiN := hbit i ti
      rw [zset_bit, Bool.and_eq_true]
      refine ⟨decide_eq_true hiN, ?_⟩
      by_cases hlt : i < s
      · have h1 := (alN_iff s).mp (h s hs1) i hlt
        unfold sgq at h1
        rw [ts, ti] at h1
        exact h1
      · have h1 := (alN_iff i).mp (h i hiN) s (by omega)
        unfold sgq at h1
        rw [ts, ti] at h1
        rw [apb_s]
        exact h1
theorem L_areAll {Q : Int → cM → Prop} {M1 : cM} {part : Nat → Nat} {N set : Nat} (hN : N ≤ 10) (e10 : M1 10 0 = N) (h81 : ∀ j : Nat, j < N → M1 81 j = (part j : Nat)) (hpb : ∀ j, j < N → part j < 1024) (hs : set < 1024) (H : Q (if alN (alq set part) N = true then 1 else 0) M1) : ∀ (m i : Nat), i + m = N → alN (alq set part) i = true → F_xs_areAllPartners_2 Q (m + 1) set i M1 := by
  intro m
  induction m with
  | zero =>
    intro i hi ha
    unfold F_xs_areAllPartners_2
    rw [e10, if_pos (by omega), narK41]
    rw [show N = i by omega, ha] at H
    exact H
  | succ m ih =>
    intro i hi ha
    have h10 : 2 ^ i ≤ 2 ^ 10 := Nat.pow_le_pow_right (by decide) (by omega)
    have hnl := nan_le set (2 ^ i) 10 hs
    unfold F_xs_areAllPartners_2 F_xs_areAllPartners_41
    rw [e10, if_neg (by omega), zshl1 (by omega), zand_nan (by omega) (by omega), wE (by omega), h81 i (by omega), zand_nan (by omega) (by have := hpb i (by omega); omega), narK40]
    have e : alN (alq set part) (i + 1) = (alN (alq set part) i && alq set part i) := rfl
    by_cases q1 : nan set (2 ^ i) = set
    · rw [if_pos (by omega)]
      refine ih (i + 1) (by omega) ?_
      rw [e, ha, Bool.true_and]
      unfold alq
      rw [decide_eq_true q1, Bool.true_or]
    · rw [if_neg (by omega)]
      refine ⟨by omega, ?_⟩
      by_cases q2 : nan (nan set (2 ^ i)) (part i) = 0
      · rw [if_pos (by omega)]
        refine ih (i + 1) (by omega) ?_
        rw [e, ha, Bool.true_and]
        unfold alq
        rw [decide_eq_true q2, Bool.or_true]
      · rw [if_neg (by omega)]
        rw [alN_f (i := i) (by unfold alq; rw [decide_eq_false q1, decide_eq_false q2]; rfl) N (by omega)] at H
        exact H
def sgf (ok : Nat → Bool) : Nat → Nat
  | 0 => 0
  | n + 1 => if bsm (n + 1) 12 ≤ bsm (sgf ok n) 12 then sgf ok n else if ok (n + 1) = true then n + 1 else sgf ok n
theorem sgf_le (ok : Nat → Bool) : ∀ n, sgf ok n ≤ n
  | 0 => Nat.le_refl _
  | n + 1 => by
    have := sgf_le ok n
    unfold sgf
    repeat' split
    all_goals omega
theorem sgf_eq {ok ok' : Nat → Bool} {B : Nat} (h : ∀ s, s < B → ok s = ok' s) : ∀ n, n < B → sgf ok n = sgf ok' n
  | 0, _ => rfl
  | n + 1, hn => by
    unfold sgf
    rw [sgf_eq h n (by omega), h (n + 1) hn]
theorem L_xs_signs {Q : Int → cM → Prop} {M1 : cM} {part : Nat → Nat} {N : Nat} (hN : N ≤ 10) (e10 : M1 10 0 = N) (h81 : ∀ j : Nat, j < N → M1 81 j = (part j : Nat)) (hpb : ∀ j, j < N → part j < 1024) (H : Q ((sgf (fun s => alN (alq s part) N) (2 ^ N - 1) : Nat) : Int) M1) : ∀ (m n : Nat), n + 1 + m = 2 ^ N → F_xs_signs_34 Q (m + 1) ((sgf (fun s => alN (alq s part) N) n : Nat) : Int) ((n + 1 : Nat) : Int) M1 := by
  have h10 : 2 ^ N ≤ 2 ^ 10 := Nat.pow_le_pow_right (by decide) (by omega)
  intro m
  induction m with
  | zero =>
    intro n hn
    unfold F_xs_signs_34
    rw [e10, zshl1 (by omega), if_pos (by omega)]
    rw [show 2 ^ N - 1 = n by omega] at H; exact H
  | succ m ih =>
    intro n hn
    have ih1 := ih (n + 1) (by omega)
    have hl := sgf_le (fun s => alN (alq s part) N) n
    unfold F_xs_signs_34 F_xs_signs_72
    rw [e10, zshl1 (by omega), if_neg (by omega), E_bitCount (by omega), E_bitCount (by omega), w32_e (x := ((n + 1 : Nat) : Int) + 1) (by omega) (by omega), show ((n + 1 : Nat) : Int) + 1 = ((n + 1 + 1 : Nat) : Int) from rfl]
    have e : sgf (fun s => alN (alq s part) N) (n + 1) = if bsm (n + 1) 12 ≤ bsm (sgf (fun s => alN (alq s part) N) n) 12 then sgf (fun s => alN (alq s part) N) n else if alN (alq (n + 1) part) N = true then n + 1 else sgf (fun s => alN (alq s part) N) n := rfl
    rw [e] at ih1
    by_cases q1 : bsm (n + 1) 12 ≤ bsm (sgf (fun s => alN (alq s part) N) n) 12
    · rw [if_pos q1] at ih1
      rw [if_pos (by omega)]
      exact ih1
    · rw [if_neg q1] at ih1
      rw [if_neg (by omega)]
      unfold F_xs_areAllPartners
      refine ⟨_, L_areAll (set := n + 1) hN e10 h81 hpb (by omega) ?_ N 0 (by omega) rfl⟩
      rw [ite01]
      by_cases q2 : alN (alq (n + 1) part) N = true
      · rw [if_pos q2] at ih1 ⊢; exact ih1
      · rw [if_neg q2] at ih1 ⊢; exact ih1
theorem L_xm_aS19 {Q : Int → cM → Prop} {k5 : Int → Int → Int → Int → cM → Prop} {M1 : cM} {v : Nat → Int} {hz : Int} {N a set : Nat} {f : Bool} (hN : N ≤ 10) (ha : a < N) (hs : set < 1024) (h107 : ∀ j : Nat, j < N → M1 107 j = v j) (hv : ∀ j : Nat, j < N → 0 ≤ v j ∧ v j ≤ 1000) (H : k5 set hz (if (f && alN (sgq v hz set a) a) = true then 1 else 0) ((a + 1 : Nat) : Int) M1) : ∀ (m b : Nat), b + m = a → F_xm_areSigns_19 Q k5 (m + 1) set hz (if (f && alN (sgq v hz set a) b) = true then 1 else 0) a b M1 := by
  intro m
  induction m with
  | zero =>
    intro b hb
    unfold F_xm_areSigns_19
    rw [if_pos (by omega), wE (n := a) (by omega)]
    have e : a = b := by omega
    rw [e] at H ⊢; exact H
  | succ m ih =>
    intro b hb
    have ih1 := ih (b + 1) (by omega)
    unfold F_xm_areSigns_19 F_xm_areSigns_64 F_xm_areSigns_60 F_xm_areSigns_65
    rw [if_neg (by omega), ite01, wE (n := b) (by omega)]
    have e : alN (sgq v hz set a) (b + 1) = (alN (sgq v hz set a) b && sgq v hz set a b) := rfl
    rw [e, ← Bool.and_assoc] at ih1
    by_cases q : (f && alN (sgq v hz set a) b) = true
    · rw [if_pos q, E_has (by omega) (by omega), ite01]
      rw [q, Bool.true_and] at ih1
      unfold sgq at ih1
      by_cases ta : set.testBit a = true
      · rw [if_pos ta, E_has (by omega) (by omega), ite01]
        rw [ta, Bool.true_and] at ih1
        by_cases tb : set.testBit b = true
        · rw [if_pos tb, E_areApart (v := v) (by omega) (by omega) (h107 a (by omega)) (h107 b (by omega)) (hv a (by omega)) (hv b (by omega)), ite01]
          rw [tb, Bool.not_true, Bool.false_or] at ih1
          by_cases z : apb v hz a b = true
          · rw [if_pos z] at ih1 ⊢; exact ih1
          · rw [if_neg z] at ih1 ⊢; exact ih1
        · rw [if_neg tb]
          rw [Bool.eq_false_iff.mpr tb, Bool.not_false, Bool.true_or, if_pos rfl] at ih1
          exact ih1
      · rw [if_neg ta]
        rw [Bool.eq_false_iff.mpr ta, Bool.false_and, Bool.not_false, Bool.true_or, if_pos rfl] at ih1
        exact ih1
    · rw [if_neg q]
      rw [Bool.eq_false_iff.mpr q, Bool.false_and, if_neg (by decide)] at ih1
      exact ih1
theorem L_xm_aS5 {Q : Int → cM → Prop} {M1 : cM} {v : Nat → Int} {hz : Int} {N set : Nat} (hN : N ≤ 10) (e0 : M1 101 0 = N) (hs : set < 1024) (h107 : ∀ j : Nat, j < N → M1 107 j = v j) (hv : ∀ j : Nat, j < N → 0 ≤ v j ∧ v j ≤ 1000) (H : Q (if sgk v hz N set = true then 1 else 0) M1) : ∀ (m a : Nat), a + m = N → F_xm_areSigns_5 Q (m + 1) set hz (if alN (fun a => alN (sgq v hz set a) a) a = true then 1 else 0) a M1 := by
  intro m
  induction m with
  | zero =>
    intro a ha
    unfold F_xm_areSigns_5
    rw [e0, if_pos (by omega), nar_ite]
    unfold sgk at H
    rw [show N = a by omega] at H; exact H
  | succ m ih =>
    intro a ha
    unfold F_xm_areSigns_5
    rw [e0, if_neg (by omega)]
    have := L_xm_aS19 (Q := Q) (f := alN (fun a => alN (sgq v hz set a) a) a) hN (show a < N by omega) hs h107 hv (ih (a + 1) (by omega)) a 0 (by omega)
    rw [show alN (sgq v hz set a) 0 = true from rfl, Bool.and_true] at this
    exact ⟨_, this⟩
theorem L_xm_signs {Q : Int → cM → Prop} {M1 : cM} {v : Nat → Int} {hz : Int} {N : Nat} (hN : N ≤ 10) (e0 : M1 101 0 = N) (h107 : ∀ j : Nat, j < N → M1 107 j = v j) (hv : ∀ j : Nat, j < N → 0 ≤ v j ∧ v j ≤ 1000) (H : Q ((sgf (sgk v hz N) (2 ^ N - 1) : Nat) : Int) M1) : ∀ (m n : Nat), n + 1 + m = 2 ^ N → F_xm_signs_31 Q (m + 1) hz ((sgf (sgk v hz N) n : Nat) : Int) ((n + 1 : Nat) : Int) M1 := by
  have h10 : 2 ^ N ≤ 2 ^ 10 := Nat.pow_le_pow_right (by decide) (by omega)
  intro m
  induction m with
  | zero =>
    intro n hn
    unfold F_xm_signs_31
    rw [e0, zshl1 (by omega), if_pos (by omega)]
    rw [show 2 ^ N - 1 = n by omega] at H; exact H
  | succ m ih =>
    intro n hn
    have ih1 := ih (n + 1) (by omega)
    have hl := sgf_le (sgk v hz N) n
    unfold F_xm_signs_31 F_xm_signs_71 F_xm_signs_72
    rw [e0, zshl1 (by omega), if_neg (by omega), w32_e (x := ((n + 1 : Nat) : Int) + 1) (by omega) (by omega), show ((n + 1 : Nat) : Int) + 1 = ((n + 1 + 1 : Nat) : Int) from rfl]
    refine X_ones (by omega) (X_ones (by omega) ?_)
    have e : sgf (sgk v hz N) (n + 1) = if bsm (n + 1) 12 ≤ bsm (sgf (sgk v hz N) n) 12 then sgf (sgk v hz N) n else if sgk v hz N (n + 1) = true then n + 1 else sgf (sgk v hz N) n := rfl
    rw [e] at ih1
    by_cases q1 : bsm (n + 1) 12 ≤ bsm (sgf (sgk v hz N) n) 12
    · rw [if_pos q1] at ih1
      rw [if_pos (by omega)]
      exact ih1
    · rw [if_neg q1] at ih1
      rw [if_neg (by omega)]
      unfold F_xm_areSigns
      refine ⟨_, L_xm_aS5 (set := n + 1) hN e0 (by omega) h107 hv ?_ N 0 (by omega)⟩
      rw [ite01]
      by_cases q2 : sgk v hz N (n + 1) = true
      · rw [if_pos q2] at ih1 ⊢; exact ih1
      · rw [if_neg q2] at ih1 ⊢; exact ih1
theorem Z_signs {P : Int → Int → cM → Prop} {M : cM} {t hz : Int} (hR : RR M) (H : ∀ r M', RR M' → P r r M') : F_xs_signs (fun x M1 => F_xm_signs (fun y M2 => P x y M2) t hz M1) t hz M := by
  unfold F_xs_signs F_xs_signs_16
  rw [E_xs_within, ite01]
  by_cases h1 : 0 ≤ t ∧ t < 12
  rotate_left
  · rw [if_neg h1]
    refine Z_err 0 (by decide) (by decide) hR (fun M1 e1 hR1 => ?_)
    unfold F_xm_signs F_xm_signs_14
    try dsimp only
    rw [E_xm_isSlant, ite01, if_neg h1, E_xm_fin 0 (by decide) (by decide)]
    exact H _ _ hR1
  rw [if_pos h1, E_xs_isShare, ite01]
  by_cases h2 : 0 ≤ hz ∧ hz < 1001
  rotate_left
  · rw [if_neg h2]
    refine Z_err 0 (by decide) (by decide) hR (fun M1 e1 hR1 => ?_)
    unfold F_xm_signs F_xm_signs_14
    try dsimp only
    rw [E_xm_isSlant, ite01, if_pos h1, E_xm_isShare, ite01, if_neg h2, E_xm_fin 0 (by decide) (by decide)]
    exact H _ _ hR1
  obtain ⟨N, hN10, hN⟩ := hR.N
  have h10 : 2 ^ N ≤ 2 ^ 10 := Nat.pow_le_pow_right (by decide) (by omega)
  have hpos : 0 < 2 ^ N := Nat.pow_pos (by decide)
  rw [if_pos h2]
  refine X_partners hR hN (by omega) (fun M1 hp h81 => ?_)
  have e10 : M1 10 0 = N := by rw [hp 10 0 (by unfold keep; omega), hR.n10.1, hN]
  refine ⟨_, L_xs_signs (part := fun j => zset (apb (vie M t) hz j) N) hN10 e10 h81 (fun j _ => Nat.lt_of_lt_of_le (zset_lt _ N) h10) ?_ (2 ^ N - 1) 0 (by omega)⟩
  rw [sgf_eq (B := 2 ^ N) (ok' := sgk (vie M t) hz N) (fun s hs => sg_eq hs) _ (by omega)]
  unfold F_xm_signs
  try dsimp only
  rw [E_xm_isSlant, ite01, if_pos h1, E_xm_isShare, ite01, if_pos h2]
  refine Y_findSigns hR hp.m hN (by omega) (fun M2 hs h107 => ?_)
  refine ⟨_, L_xm_signs hN10 (by rw [hs.kp.m, hp.m, hN]) h107 (fun j hj => vie_b hR t (by omega)) (H _ _ (hR.kp (hp.tr hs.kp))) (2 ^ N - 1) 0 (by omega)⟩
