/-! eyes. -/
def tri : Nat → Nat
  | 0 => 0
  | k + 1 => tri k + k
theorem tri_le : ∀ k : Nat, k < 11 → tri k ≤ 45 := by decide
/-- the tilts that tell two sheets apart -/
def TT (M : cM) (hz : Int) (a b : Nat) : Nat := zset (tap (sol M a) (sol M b) hz) 12
theorem TT_s (M : cM) (hz : Int) (a b : Nat) : TT M hz a b = TT M hz b a := by
  unfold TT
  refine zset_eq 12 (fun i _ => ?_)
  unfold tap
  rw [zabs_s]
theorem TT_lt (M : cM) (hz : Int) (a b : Nat) : TT M hz a b < 4096 := zset_lt _ 12
def TI (M : cM) (hz : Int) (N c one o : Nat) (M1 : cM) : Prop := (∀ i : Nat, i < c → ∃ a b : Nat, a < b ∧ b < N ∧ M1 82 i = (TT M hz a b : Nat)) ∧ ∀ a b : Nat, a < b → b < N → (a < one ∨ (a = one ∧ b < o)) → ∃ i : Nat, i < c ∧ M1 82 i = (TT M hz a b : Nat)
theorem L_tt24 {Q : Int → cM → Prop} {k8 : Int → Int → Int → cM → Prop} {M Mr : cM} {hz : Int} {N one : Nat} (hR : RR M) (hN : N ≤ 10) (hp : Kp M Mr) (e10 : Mr 10 0 = N) (hN0 : M 101 0 = N) (h80 : ∀ j : Nat, j < N → Mr 80 j = encp (sol M j)) (ho : one < N) (H : ∀ (c : Nat) (M' : cM), (∀ c' j, c' ≠ 82 → M' c' j = Mr c' j) → c + tri (N - one - 1) = tri N → TI M hz N c one N M' → k8 hz c ((one + 1 : Nat) : Int) M') : ∀ (m o c : Nat) (M1 : cM), o + m = N → one < o → c + m + tri (N - one - 1) = tri N → (∀ c' j, c' ≠ 82 → M1 c' j = Mr c' j) → TI M hz N c one o M1 → F_xs_reckonTellingTilts_24 Q k8 (m + 1) hz c one o M1 := by
  have hcos : cosT Mr := (hR.kp hp).cos
  have ht := tri_le N (by omega)
  intro m
  induction m with
  | zero =>
    intro o c M1 hm h1 h2 e1 hi
    unfold F_xs_reckonTellingTilts_24 F_xs_reckonTellingTilts_74
    rw [e1 _ _ (by decide), e10, if_pos (by omega), wE (n := one) (by omega)]
    rw [show o = N by omega] at hi
    exact H c M1 e1 (by omega) hi
  | succ m ih =>
    intro o c M1 hm h1 h2 e1 hi
    have hc1 : cosT M1 := ⟨by rw [e1 _ _ (by decide)]; exact hcos.1, fun d d0 d1 => by rw [e1 _ _ (by decide)]; exact hcos.2 d d0 d1⟩
    unfold F_xs_reckonTellingTilts_24
    rw [e1 10 _ (by decide), e10, if_neg (by omega), if_neg (by omega), e1 80 _ (by decide), h80 one ho, e1 80 _ (by decide), h80 o (by omega), wE (n := c) (by omega), wE (n := o) (by omega)]
    refine ⟨by omega, by omega, _, L_xs_tiltsApart hc1 (sol_ok hR (by omega)) (sol_ok hR (by omega)) ?_ 12 0 (by decide)⟩
    refine ⟨by omega, ih (o + 1) (c + 1) _ (by omega) (by omega) (by omega) (fun c' j hc => by rw [wr_ne hc]; exact e1 c' j hc) ⟨fun i hic => ?_, fun a b hab hb hcase => ?_⟩⟩
    · by_cases e : i = c
      · subst e
        exact ⟨one, o, h1, by omega, wr_eq⟩
      · obtain ⟨a, b, q1, q2, q3⟩ := hi.1 i (by omega)
        exact ⟨a, b, q1, q2, by rw [wr_nj (by omega)]; exact q3⟩
    · by_cases e : a = one ∧ b = o
      · obtain ⟨rfl, rfl⟩ := e
        exact ⟨c, by omega, wr_eq⟩
      · obtain ⟨i, q1, q2⟩ := hi.2 a b hab hb (by omega)
        exact ⟨i, by omega, by rw [wr_nj (by omega)]; exact q2⟩
theorem L_tt8 {Q : Int → cM → Prop} {M Mr : cM} {hz : Int} {N : Nat} (hR : RR M) (hN : N ≤ 10) (hp : Kp M Mr) (e10 : Mr 10 0 = N) (hN0 : M 101 0 = N) (h80 : ∀ j : Nat, j < N → Mr 80 j = encp (sol M j)) (H : ∀ (c : Nat) (M' : cM), (∀ c' j, c' ≠ 82 → M' c' j = Mr c' j) → c ≤ 45 → TI M hz N c N N M' → Q c M') : ∀ (m one c : Nat) (M1 : cM), one + m = N → c + tri (N - one) = tri N → (∀ c' j, c' ≠ 82 → M1 c' j = Mr c' j) → TI M hz N c one (one + 1) M1 → F_xs_reckonTellingTilts_8 Q (m + 1) hz c one M1 := by
  have ht := tri_le N (by omega)
  intro m
  induction m with
  | zero =>
    intro one c M1 hm h2 e1 hi
    unfold F_xs_reckonTellingTilts_8
    rw [e1 _ _ (by decide), e10, if_pos (by omega)]
    refine H c M1 e1 (by omega) ⟨hi.1, fun a b hab hb _ => hi.2 a b hab hb (by omega)⟩
  | succ m ih =>
    intro one c M1 hm h2 e1 hi
    unfold F_xs_reckonTellingTilts_8
    rw [e1 _ _ (by decide), e10, if_neg (by omega), wE (n := one) (by omega)]
    have et : tri (N - one) = tri (N - one - 1) + (N - one - 1) := by
      rw [show N - one = (N - one - 1) + 1 by omega]
      rfl
    refine ⟨_, L_tt24 hR hN hp e10 hN0 h80 (by omega) (fun c' M' f1 f2 f3 => ?_) (N - one - 1) (one + 1) c M1 (by omega) (by omega) (by omega) e1 hi⟩
    refine ih (one + 1) c' M' (by omega) (by rw [show N - (one + 1) = N - one - 1 by omega]; exact f2) f1 ⟨f3.1, fun a b hab hb hcase => f3.2 a b hab hb (by omega)⟩
theorem L_tells {Q : Int → cM → Prop} {M1 : cM} {x : Nat → Nat} {c set : Nat} (hc : c ≤ 45) (hx : ∀ i : Nat, i < c → M1 82 i = (x i : Nat) ∧ x i < 4096) (hs : set < 4096) (H : Q (if alN (fun i => decide (¬ (x i &&& set = 0))) c = true then 1 else 0) M1) : ∀ (m i : Nat), i + m = c → alN (fun i => decide (¬ (x i &&& set = 0))) i = true → F_xs_tellsAll_2 Q (m + 1) set c i M1 := by
  intro m
  induction m with
  | zero =>
    intro i hi ha
    unfold F_xs_tellsAll_2
    rw [if_pos (by omega), narK41]
    rw [show c = i by omega, ha] at H
    exact H
  | succ m ih =>
    intro i hi ha
    have h := hx i (by omega)
    unfold F_xs_tellsAll_2
    rw [if_neg (by omega), h.1, zand_n (by omega) (by omega), wE (by omega), narK40]
    refine ⟨by omega, ?_⟩
    by_cases q : x i &&& set = 0
    · rw [if_pos (by omega)]
      rw [alN_f (i := i) (decide_eq_false (fun z => z q)) c (by omega)] at H
      exact H
    · rw [if_neg (by omega)]
      refine ih (i + 1) (by omega) ?_
      show (alN (fun i => decide (¬ (x i &&& set = 0))) i && decide (¬ (x i &&& set = 0))) = true
      rw [ha, Bool.true_and]
      exact decide_eq_true q
def eyq (M : cM) (hz : Int) (set a b : Nat) : Bool := decide (¬ (TT M hz a b &&& set = 0))
def eyk (M : cM) (hz : Int) (N set : Nat) : Bool := alN (fun a => alN (eyq M hz set a) a) N
theorem eyk_eq {M M1 : cM} {hz : Int} {N c set : Nat} {x : Nat → Nat} (hx : ∀ i : Nat, i < c → M1 82 i = (x i : Nat)) (hi : TI M hz N c N N M1) : alN (fun i => decide (¬ (x i &&& set = 0))) c = eyk M hz N set := by
  rw [Bool.eq_iff_iff]
  unfold eyk
  rw [alN_iff, alN_iff]
  constructor
  · intro h a ha
    rw [alN_iff]
    intro b hb
    obtain ⟨i, q1, q2⟩ := hi.2 b a hb ha (by omega)
    have h1 := h i q1
    rw [hx i q1] at q2
    have : x i = TT M hz b a := by omega
    unfold eyq
    rw [TT_s, ← this]
    exact h1
  · intro h i hic
    obtain ⟨a, b, q1, q2, q3⟩ := hi.1 i hic
    rw [hx i hic] at q3
    have h1 := (alN_iff b).mp (h b q2) a q1
    unfold eyq at h1
    rw [TT_s] at h1
    have : x i = TT M hz a b := by omega
    rw [this]
    exact h1
def eyf (ok : Nat → Bool) : Nat → Int
  | 0 => -1
  | n + 1 => if eyf ok n < 0 then (if ok n = true then (n : Int) else eyf ok n) else if bsm (eyf ok n).toNat 12 ≤ bsm n 12 then eyf ok n else if ok n = true then (n : Int) else eyf ok n
theorem eyf_b (ok : Nat → Bool) : ∀ n : Nat, -1 ≤ eyf ok n ∧ eyf ok n < n
  | 0 => ⟨Int.le_refl _, by show (-1 : Int) < 0; decide⟩
  | n + 1 => by
    have := eyf_b ok n
    unfold eyf
    repeat' split
    all_goals omega
theorem eyf_eq {ok ok' : Nat → Bool} (h : ∀ s, ok s = ok' s) : ∀ n, eyf ok n = eyf ok' n
  | 0 => rfl
  | n + 1 => by
    unfold eyf
    rw [eyf_eq h n, h n]
theorem L_xs_eyes {Q : Int → cM → Prop} {M1 : cM} {ok : Nat → Bool} {c : Nat} (hok : ∀ (set : Nat) (Q2 : Int → cM → Prop), set < 4096 → Q2 (if ok set = true then 1 else 0) M1 → F_xs_tellsAll Q2 set c M1) (H : 0 ≤ eyf ok 4096 → Q (eyf ok 4096) M1) (H0 : eyf ok 4096 < 0 → F_xs_finding (fun x11 M10 => Q x11 M10) (-1000004) M1) : ∀ (m n : Nat), n + m = 4096 → F_xs_eyes_25 Q (m + 1) c (eyf ok n) n M1 := by
  intro m
  induction m with
  | zero =>
    intro n hn
    unfold F_xs_eyes_25
    rw [if_pos (by omega)]
    rw [show 4096 = n by omega] at H H0
    by_cases q : 0 ≤ eyf ok n
    · rw [if_pos q]; exact H q
    · rw [if_neg q]; exact H0 (by omega)
  | succ m ih =>
    intro n hn
    have ih1 := ih (n + 1) (by omega)
    have hb := eyf_b ok n
    have key : (if ok n = true then (n : Int) else eyf ok n) = eyf ok (n + 1) → F_xs_eyes_49 Q (F_xs_eyes_25 Q (m + 1)) c (eyf ok n) n M1 := by
      intro e
      unfold F_xs_eyes_49 F_xs_eyes_54 F_xs_eyes_74
      rw [if_neg (by decide), w32_e (x := (n : Int) + 1) (by omega) (by omega), show (n : Int) + 1 = ((n + 1 : Nat) : Int) from rfl]
      refine hok n _ (by omega) ?_
      rw [ite01]
      rw [← e] at ih1
      by_cases q : ok n = true
      · rw [if_pos q] at ih1 ⊢; exact ih1
      · rw [if_neg q] at ih1 ⊢; exact ih1
    have e : eyf ok (n + 1) = if eyf ok n < 0 then (if ok n = true then (n : Int) else eyf ok n) else if bsm (eyf ok n).toNat 12 ≤ bsm n 12 then eyf ok n else if ok n = true then (n : Int) else eyf ok n := rfl
    unfold F_xs_eyes_25
    rw [if_neg (by omega)]
    by_cases q : eyf ok n < 0
    · rw [if_pos q] at e ⊢
      exact key e.symm
    · rw [if_neg q] at e ⊢
      have ek : eyf ok n = (((eyf ok n).toNat : Nat) : Int) := by omega
      rw [E_bitCount (by omega)]
      generalize hz : (eyf ok n).toNat = z at *
      rw [show F_xj_Integer_bitCount _ (eyf ok n) M1 = F_xj_Integer_bitCount _ (z : Int) M1 from by rw [← ek], E_bitCount (by omega)]
      by_cases q2 : bsm z 12 ≤ bsm n 12
      · rw [if_pos (by omega)]
        rw [if_pos q2] at e
        unfold F_xs_eyes_54 F_xs_eyes_74
        rw [if_pos rfl, w32_e (x := (n : Int) + 1) (by omega) (by omega), show (n : Int) + 1 = ((n + 1 : Nat) : Int) from rfl]
        rw [e] at ih1
        exact ih1
      · rw [if_neg (by omega)]
        rw [if_neg q2] at e
        exact key e.symm
/-- only what the model reckons in for eyes has changed -/
def Ly (M M' : cM) : Prop := ∀ c j, ¬ (c = 100 ∧ (j = 6 ∨ j = 7)) → c ≠ 107 → c ≠ 108 → M' c j = M c j
theorem Ly.kp {M M' : cM} (h : Ly M M') : Kp M M' := fun c j hk => h c j (fun q => by unfold keep at hk; omega) (fun q => by unfold keep at hk; omega) (fun q => by unfold keep at hk; omega)
theorem Ly.w {M M1 : cM} {j v : Int} (h : Ly M M1) : Ly M (wr M1 108 j v) := fun c j a b d => by rw [wr_ne d]; exact h c j a b d
theorem Ly.ls {M M1 M2 : cM} (h : Ly M M1) (h' : Ls M1 M2) : Ly M M2 := fun c j a b d => (h' c j a b).trans (h c j a b d)
/-- tilts up to t, and t itself for the pairs before A B -/
def EJ (M : cM) (hz : Int) (N t A B : Nat) (M1 : cM) : Prop := ∀ a b : Nat, a < N → b < a → M1 108 (10 * (a : Int) + b) = ((zset (tap (sol M a) (sol M b) hz) (if a < A ∨ (a = A ∧ b < B) then t + 1 else t) : Nat) : Int)
theorem L_ey63 {Q : Int → cM → Prop} {k37 : Int → Int → cM → Prop} {k50 : Int → Int → Int → cM → Prop} {M M0 : cM} {hz : Int} {N t A : Nat} (hR : RR M) (hN : N ≤ 10) (hN0 : M 101 0 = N) (ht : t < 12) (hA : A < N) (H : ∀ M', Ly M0 M' → (∀ j : Nat, j < N → M' 107 j = vie M t j) → EJ M hz N t (A + 1) 0 M' → k50 hz t ((A + 1 : Nat) : Int) M') : ∀ (m B : Nat) (M1 : cM), B + m = A → Ly M0 M1 → (∀ j : Nat, j < N → M1 107 j = vie M t j) → EJ M hz N t A B M1 → F_xm_eyes_63 Q k37 k50 (m + 1) hz t A B M1 := by
  intro m
  induction m with
  | zero =>
    intro B M1 hB hp h107 hj
    unfold F_xm_eyes_63
    rw [if_pos (by omega), wE (n := A) (by omega)]
    refine H M1 hp h107 (fun a b ha hb => ?_)
    rw [hj a b ha hb]
    by_cases q : a < A ∨ (a = A ∧ b < B)
    · rw [if_pos q, if_pos (by omega)]
    · rw [if_neg q, if_neg (by omega)]
  | succ m ih =>
    intro B M1 hB hp h107 hj
    unfold F_xm_eyes_63 F_xm_eyes_100
    rw [if_neg (by omega), w32_e (x := 10 * (A : Int)) (by omega) (by omega), w32_e (x := 10 * (A : Int) + (B : Int)) (by omega) (by omega), E_areApart (v := vie M t) (by omega) (by omega) (h107 A (by omega)) (h107 B (by omega)) (vie_b hR t (by omega)) (vie_b hR t (by omega)), ite01, wE (n := B) (by omega), hj A B hA (by omega), if_neg (show ¬ (A < A ∨ (A = A ∧ B < B)) by omega)]
    refine ⟨by omega, ?_⟩
    have fin : ∀ w : Int, w = ((zset (tap (sol M A) (sol M B) hz) (t + 1) : Nat) : Int) → ((0 : Int) ≤ 10 * (A : Int) + (B : Int) ∧ 10 * (A : Int) + (B : Int) < 100) ∧ F_xm_eyes_63 Q k37 k50 (m + 1) hz t A ((B + 1 : Nat) : Int) (wr M1 108 (10 * (A : Int) + (B : Int)) w) := by
      intro w hw
      refine ⟨by omega, ih (B + 1) _ (by omega) hp.w (fun j hj2 => by rw [wr_ne (by decide)]; exact h107 j hj2) (fun a b ha hb => ?_)⟩
      by_cases e : a = A ∧ b = B
      · obtain ⟨rfl, rfl⟩ := e
        rw [wr_eq, hw, if_pos (by omega)]
      · rw [wr_nj (by omega), hj a b ha hb]
        by_cases q : a < A ∨ (a = A ∧ b < B)
        · rw [if_pos q, if_pos (by omega)]
        · rw [if_neg q, if_neg (by omega)]
    have e : zset (tap (sol M A) (sol M B) hz) (t + 1) = zset (tap (sol M A) (sol M B) hz) t + if apb (vie M t) hz A B = true then 2 ^ t else 0 := rfl
    by_cases q : apb (vie M t) hz A B = true
    · rw [if_pos q] at e ⊢
      rw [zset_or _ (by omega)]
      exact fin _ (by rw [e])
    · rw [if_neg q] at e ⊢
      rw [zset_or0 _ (by omega)]
      exact fin _ (by rw [e, Nat.add_zero])
theorem L_ey50 {Q : Int → cM → Prop} {k37 : Int → Int → cM → Prop} {M M0 : cM} {hz : Int} {N t : Nat} (hR : RR M) (hN : N ≤ 10) (hN0 : M 101 0 = N) (e0 : M0 101 0 = N) (ht : t < 12) (H : ∀ M', Ly M0 M' → EJ M hz N (t + 1) 0 0 M' → k37 hz ((t + 1 : Nat) : Int) M') : ∀ (m A : Nat) (M1 : cM), A + m = N → Ly M0 M1 → (∀ j : Nat, j < N → M1 107 j = vie M t j) → EJ M hz N t A 0 M1 → F_xm_eyes_50 Q k37 (m + 1) hz t A M1 := by
  intro m
  induction m with
  | zero =>
    intro A M1 hA hp h107 hj
    unfold F_xm_eyes_50
    rw [hp 101 0 (by omega) (by decide) (by decide), e0, if_pos (by omega), wE (n := t) (by omega)]
    refine H M1 hp (fun a b ha hb => ?_)
    rw [hj a b ha hb, if_pos (by omega), if_neg (by omega)]
  | succ m ih =>
    intro A M1 hA hp h107 hj
    unfold F_xm_eyes_50
    rw [hp 101 0 (by omega) (by decide) (by decide), e0, if_neg (by omega)]
    exact ⟨_, L_ey63 hR hN hN0 ht (by omega) (fun M' f1 f2 f3 => ih (A + 1) M' (by omega) f1 f2 f3) A 0 M1 (by omega) hp h107 hj⟩
theorem L_ey37 {Q : Int → cM → Prop} {M M0 : cM} {hz : Int} {N : Nat} (hR : RR M) (hN : N ≤ 10) (hN0 : M 101 0 = N) (hp0 : ∀ j, M0 101 j = M 101 j) (H : ∀ M', Ly M0 M' → (∀ a b : Nat, a < N → b < a → M' 108 (10 * (a : Int) + b) = (TT M hz a b : Nat)) → ∃ e124, F_xm_eyes_124 Q e124 (-1) 0 M') : ∀ (m t : Nat) (M1 : cM), t + m = 12 → Ly M0 M1 → EJ M hz N t 0 0 M1 → F_xm_eyes_37 Q (m + 1) hz t M1 := by
  intro m
  induction m with
  | zero =>
    intro t M1 ht hp hj
    unfold F_xm_eyes_37
    rw [if_pos (by omega)]
    refine H M1 hp (fun a b ha hb => ?_)
    rw [hj a b ha hb, if_neg (by omega), show t = 12 by omega]
    rfl
  | succ m ih =>
    intro t M1 ht hp hj
    unfold F_xm_eyes_37
    rw [if_neg (by omega)]
    refine Y_findSigns hR (fun j => by rw [hp.kp.m, hp0]) hN0 (by omega) (fun M2 hs h107 => ?_)
    refine ⟨_, L_ey50 hR hN hN0 (M0 := M0) (by rw [hp0, hN0]) (by omega) (fun M' f1 f2 => ih (t + 1) M' (by omega) f1 f2) N 0 M2 (by omega) (hp.ls hs) h107 (fun a b ha hb => ?_)⟩
    rw [hs 108 _ (by omega) (by decide)]
    exact hj a b ha hb
theorem L_ey16 {Q : Int → cM → Prop} {M0 : cM} {hz : Int} (H : ∀ M', Ly M0 M' → (∀ j : Int, 0 ≤ j → j < 100 → M' 108 j = 0) → ∃ e37, F_xm_eyes_37 Q e37 hz 0 M') : ∀ (m i : Nat) (M1 : cM), i + m = 100 → Ly M0 M1 → (∀ j : Int, 0 ≤ j → j < i → M1 108 j = 0) → F_xm_eyes_16 Q (m + 1) hz i M1 := by
  intro m
  induction m with
  | zero =>
    intro i M1 hi hp h
    unfold F_xm_eyes_16
    rw [if_pos (by omega)]
    exact H M1 hp (fun j j0 j1 => h j j0 (by omega))
  | succ m ih =>
    intro i M1 hi hp h
    unfold F_xm_eyes_16
    rw [if_neg (by omega), wE (by omega)]
    refine ⟨by omega, ih (i + 1) _ (by omega) hp.w (fun j j0 j1 => ?_)⟩
    by_cases e : j = i
    · rw [e, wr_eq]
    · rw [wr_nj e]; exact h j j0 (by omega)
theorem L_ey166 {Q : Int → cM → Prop} {k124 : Int → Int → cM → Prop} {k152 : Int → Int → Int → Int → cM → Prop} {M M1 : cM} {hz best : Int} {N a set : Nat} {f : Bool} (hN : N ≤ 10) (ha : a < N) (hs : set < 4096) (h108 : ∀ a b : Nat, a < N → b < a → M1 108 (10 * (a : Int) + b) = (TT M hz a b : Nat)) (H : k152 best set (if (f && alN (eyq M hz set a) a) = true then 1 else 0) ((a + 1 : Nat) : Int) M1) : ∀ (m b : Nat), b + m = a → F_xm_eyes_166 Q k124 k152 (m + 1) best set (if (f && alN (eyq M hz set a) b) = true then 1 else 0) a b M1 := by
  intro m
  induction m with
  | zero =>
    intro b hb
    unfold F_xm_eyes_166
    rw [if_pos (by omega), wE (n := a) (by omega)]
    have e : a = b := by omega
    rw [e] at H ⊢; exact H
  | succ m ih =>
    intro b hb
    have ih1 := ih (b + 1) (by omega)
    have hl := TT_lt M hz a b
    unfold F_xm_eyes_166 F_xm_eyes_200 F_xm_eyes_201
    rw [if_neg (by omega), ite01, wE (n := b) (by omega), w32_e (x := 10 * (a : Int)) (by omega) (by omega), w32_e (x := 10 * (a : Int) + (b : Int)) (by omega) (by omega), h108 a b ha (by omega), zand_n (by omega) (by omega)]
    have e : alN (eyq M hz set a) (b + 1) = (alN (eyq M hz set a) b && eyq M hz set a b) := rfl
    rw [e, ← Bool.and_assoc] at ih1
    by_cases q : (f && alN (eyq M hz set a) b) = true
    · rw [if_pos q]
      rw [q, Bool.true_and] at ih1
      refine ⟨by omega, ?_⟩
      unfold eyq at ih1
      by_cases z : TT M hz a b &&& set = 0
      · rw [if_pos (by omega)]
        rw [if_neg (by rw [decide_eq_true_eq]; exact fun y => y z)] at ih1
        exact ih1
      · rw [if_neg (by omega)]
        rw [if_pos (decide_eq_true z)] at ih1
        exact ih1
    · rw [if_neg q]
      rw [Bool.eq_false_iff.mpr q, Bool.false_and, if_neg (by decide)] at ih1
      exact ih1
theorem L_ey152 {Q : Int → cM → Prop} {k124 : Int → Int → cM → Prop} {M M1 : cM} {hz best : Int} {N set : Nat} (hN : N ≤ 10) (e0 : M1 101 0 = N) (hs : set < 4096) (h108 : ∀ a b : Nat, a < N → b < a → M1 108 (10 * (a : Int) + b) = (TT M hz a b : Nat)) (H : k124 (if eyk M hz N set = true then (set : Int) else best) ((set + 1 : Nat) : Int) M1) : ∀ (m a : Nat), a + m = N → F_xm_eyes_152 Q k124 (m + 1) best set (if alN (fun a => alN (eyq M hz set a) a) a = true then 1 else 0) a M1 := by
  intro m
  induction m with
  | zero =>
    intro a ha
    unfold F_xm_eyes_152 F_xm_eyes_225 F_xm_eyes_226
    rw [e0, if_pos (by omega), ite01, w32_e (x := (set : Int) + 1) (by omega) (by omega), show (set : Int) + 1 = ((set + 1 : Nat) : Int) from rfl]
    unfold eyk at H
    rw [show N = a by omega] at H
    by_cases q : alN (fun a => alN (eyq M hz set a) a) a = true
    · rw [if_pos q] at H ⊢; exact H
    · rw [if_neg q] at H ⊢; exact H
  | succ m ih =>
    intro a ha
    unfold F_xm_eyes_152
    rw [e0, if_neg (by omega)]
    have := L_ey166 (Q := Q) (k124 := k124) (f := alN (fun a => alN (eyq M hz set a) a) a) hN (show a < N by omega) hs h108 (ih (a + 1) (by omega)) a 0 (by omega)
    rw [show alN (eyq M hz set a) 0 = true from rfl, Bool.and_true] at this
    exact ⟨_, this⟩
theorem L_ey124 {Q : Int → cM → Prop} {M M1 : cM} {hz : Int} {N : Nat} (hN : N ≤ 10) (e0 : M1 101 0 = N) (h108 : ∀ a b : Nat, a < N → b < a → M1 108 (10 * (a : Int) + b) = (TT M hz a b : Nat)) (H : 0 ≤ eyf (eyk M hz N) 4096 → Q (eyf (eyk M hz N) 4096) M1) (H0 : eyf (eyk M hz N) 4096 < 0 → F_xm_finds (fun x11 M10 => Q x11 M10) (-1000004) M1) : ∀ (m n : Nat), n + m = 4096 → F_xm_eyes_124 Q (m + 1) (eyf (eyk M hz N) n) n M1 := by
  intro m
  induction m with
  | zero =>
    intro n hn
    unfold F_xm_eyes_124
    rw [if_pos (by omega)]
    rw [show 4096 = n by omega] at H H0
    by_cases q : 0 ≤ eyf (eyk M hz N) n
    · rw [if_pos q]; exact H q
    · rw [if_neg q]; exact H0 (by omega)
  | succ m ih =>
    intro n hn
    have ih1 := ih (n + 1) (by omega)
    have hb := eyf_b (eyk M hz N) n
    have key : (if eyk M hz N n = true then (n : Int) else eyf (eyk M hz N) n) = eyf (eyk M hz N) (n + 1) → F_xm_eyes_146 Q (F_xm_eyes_124 Q (m + 1)) (eyf (eyk M hz N) n) n M1 := by
      intro e
      unfold F_xm_eyes_146
      refine ⟨_, L_ey152 (set := n) hN e0 (by omega) h108 ?_ N 0 (by omega)⟩
      rw [e]
      exact ih1
    have e : eyf (eyk M hz N) (n + 1) = if eyf (eyk M hz N) n < 0 then (if eyk M hz N n = true then (n : Int) else eyf (eyk M hz N) n) else if bsm (eyf (eyk M hz N) n).toNat 12 ≤ bsm n 12 then eyf (eyk M hz N) n else if eyk M hz N n = true then (n : Int) else eyf (eyk M hz N) n := rfl
    unfold F_xm_eyes_124
    rw [if_neg (by omega)]
    by_cases q : eyf (eyk M hz N) n < 0
    · rw [if_pos q] at e ⊢
      exact key e.symm
    · rw [if_neg q] at e ⊢
      have ek : eyf (eyk M hz N) n = (((eyf (eyk M hz N) n).toNat : Nat) : Int) := by omega
      refine X_ones (by omega) ?_
      rw [show ∀ (Q2 : Int → cM → Prop), F_xm_ones Q2 (eyf (eyk M hz N) n) M1 = F_xm_ones Q2 (((eyf (eyk M hz N) n).toNat : Nat) : Int) M1 from fun Q2 => by rw [← ek]]
      refine X_ones (by omega) ?_
      by_cases q2 : bsm (eyf (eyk M hz N) n).toNat 12 ≤ bsm n 12
      · rw [if_pos (by omega)]
        rw [if_pos q2] at e
        unfold F_xm_eyes_226
        rw [w32_e (x := (n : Int) + 1) (by omega) (by omega), show (n : Int) + 1 = ((n + 1 : Nat) : Int) from rfl]
        rw [e] at ih1
        exact ih1
      · rw [if_neg (by omega)]
        rw [if_neg q2] at e
        exact key e.symm
theorem Z_eyes {P : Int → Int → cM → Prop} {M : cM} {hz : Int} (hR : RR M) (H : ∀ r M', RR M' → P r r M') : F_xs_eyes (fun x M1 => F_xm_eyes (fun y M2 => P x y M2) hz M1) hz M := by
  unfold F_xs_eyes
  rw [E_xs_isShare, ite01]
  by_cases h2 : 0 ≤ hz ∧ hz < 1001
  rotate_left
  · rw [if_neg h2]
    refine Z_err 0 (by decide) (by decide) hR (fun M1 e1 hR1 => ?_)
    unfold F_xm_eyes
    try dsimp only
    rw [E_xm_isShare, ite01, if_neg h2, E_xm_fin 0 (by decide) (by decide)]
    exact H _ _ hR1
  obtain ⟨N, hN10, hN⟩ := hR.N
  have e10 : M 10 0 = N := by rw [hR.n10.1, hN]
  rw [if_pos h2]
  unfold F_xs_reckonTellingTilts
  refine X_sole hR hN (fun Mr r1 r2 => ?_)
  have hpr : Kp M Mr := fun c j hk => r1 c j (fun q => nk80 j (by rw [← q]; exact hk))
  refine ⟨_, L_tt8 (hz := hz) hR hN10 hpr (by rw [r1 _ _ (by decide), e10]) hN r2 (fun c M1 f1 hc hi => ?_) N 0 0 Mr (by omega) (by rw [Nat.zero_add, Nat.sub_zero]) (fun _ _ _ => rfl) ⟨fun i hi => by omega, fun a b hab hb hcase => by omega⟩⟩
  have hp : Kp M M1 := fun c j hk => by rw [f1 c j (fun q => nk82 j (by rw [← q]; exact hk))]; exact hpr c j hk
  have hx : ∀ i : Nat, i < c → M1 82 i = (((M1 82 i).toNat : Nat) : Int) ∧ (M1 82 i).toNat < 4096 := fun i hic => by
    obtain ⟨a, b, _, _, q⟩ := hi.1 i hic
    have := TT_lt M hz a b
    omega
  have mdl : ∀ (Q : Int → cM → Prop) (M2 : cM), (∀ j, M2 101 j = M 101 j) → (∀ M3, Ly M2 M3 → (0 ≤ eyf (eyk M hz N) 4096 → Q (eyf (eyk M hz N) 4096) M3) ∧ (eyf (eyk M hz N) 4096 < 0 → F_xm_finds (fun x11 M10 => Q x11 M10) (-1000004) M3)) → F_xm_eyes Q hz M2 := by
    intro Q M2 hp2 G
    unfold F_xm_eyes
    rw [E_xm_isShare, ite01, if_pos h2]
    refine ⟨_, L_ey16 (M0 := M2) (fun M3 f3 z3 => ?_) 100 0 M2 (by decide) (fun _ _ _ _ _ => rfl) (fun j j0 j1 => absurd j1 (by omega))⟩
    refine ⟨_, L_ey37 hR hN10 hN hp2 (fun M4 f4 z4 => ?_) 12 0 M3 (by decide) f3 (fun a b ha hb => ?_)⟩
    · have g := G M4 f4
      exact ⟨_, L_ey124 hN10 (by rw [f4 101 0 (by omega) (by decide) (by decide), hp2, hN]) z4 g.1 g.2 4096 0 (by decide)⟩
    · rw [z3 _ (by omega) (by omega), if_neg (by omega)]
      rfl
  have hok : ∀ set, alN (fun i : Nat => decide (¬ ((M1 82 i).toNat &&& set = 0))) c = eyk M hz N set := fun set => eyk_eq (M1 := M1) (x := fun i : Nat => (M1 82 i).toNat) (fun i hic => (hx i hic).1) hi
  refine ⟨_, L_xs_eyes (ok := eyk M hz N) (fun set Q2 hs hq => ?_) (fun q => ?_) (fun q => ?_) 4096 0 (by decide)⟩
  · unfold F_xs_tellsAll
    refine ⟨_, L_tells (x := fun i : Nat => (M1 82 i).toNat) hc hx hs ?_ c 0 (by omega) rfl⟩
    rw [hok]
    exact hq
  · exact mdl _ M1 hp.m (fun M3 h3 => ⟨fun _ => H _ _ (hR.kp (hp.tr h3.kp)), fun z => absurd z (by omega)⟩)
  · refine Z_err 3 (by decide) (by decide) (hR.kp hp) (fun M2 e2 hR2 => ?_)
    refine mdl _ M2 (fun j => by rw [e2 _ _ (by decide), hp.m]) (fun M3 h3 => ⟨fun z => absurd z (by omega), fun _ => ?_⟩)
    rw [E_xm_fin 3 (by decide) (by decide)]
    exact H _ _ (hR2.kp (h3.kp.fin (by decide)))
