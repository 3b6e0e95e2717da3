/-! Tokens on both machines. -/
def skp (p : Nat → Bool) : Nat → Nat → Nat
  | 0, k => k
  | m + 1, k => if p k = true then skp p m (k + 1) else k
theorem skp_b (p : Nat → Bool) : ∀ m k : Nat, k ≤ skp p m k ∧ skp p m k ≤ k + m
  | 0, k => ⟨Nat.le_refl _, Nat.le_refl _⟩
  | m + 1, k => by
    have := skp_b p m (k + 1)
    unfold skp
    split <;> omega
theorem skp_all (p : Nat → Bool) : ∀ m k j : Nat, k ≤ j → j < skp p m k → p j = true
  | 0, k, j, h1, h2 => by
    have : skp p 0 k = k := rfl
    omega
  | m + 1, k, j, h1, h2 => by
    unfold skp at h2
    by_cases q : p k = true
    · rw [if_pos q] at h2
      by_cases e : j = k
      · rw [e]; exact q
      · exact skp_all p m (k + 1) j (by omega) h2
    · rw [if_neg q] at h2
      omega
theorem skp_eq {p q : Nat → Bool} : ∀ m k : Nat, (∀ j, k ≤ j → j < k + m → p j = q j) → skp p m k = skp q m k
  | 0, _, _ => rfl
  | m + 1, k, h => by
    unfold skp
    rw [h k (Nat.le_refl _) (by omega), skp_eq m (k + 1) (fun j h1 h2 => h j (by omega) (by omega))]
/-- what a byte begins -/
def tyo (b : Int) : Int := if 97 ≤ b ∧ b ≤ 122 then 1 else if 48 ≤ b ∧ b ≤ 57 then 2 else if b = 59 then 3 else 4
theorem E_typeOf {Q : Int → cM → Prop} {b : Int} {M : cM} : F_xq_typeOf Q b M = Q (tyo b) M := by
  unfold F_xq_typeOf F_xq_typeOf_14 F_xq_typeOf_28 tyo
  by_cases h1 : b < 97
  · rw [if_pos h1, if_neg (show ¬ (97 ≤ b ∧ b ≤ 122) by omega)]
    by_cases h2 : b < 48
    · rw [if_pos h2, if_neg (show ¬ (48 ≤ b ∧ b ≤ 57) by omega)]
      by_cases h3 : b = 59
      · rw [if_pos h3, if_pos h3]
      · rw [if_neg h3, if_neg h3]
    · rw [if_neg h2]
      by_cases h4 : 57 < b
      · rw [if_pos h4, if_neg (show ¬ (48 ≤ b ∧ b ≤ 57) by omega)]
        by_cases h3 : b = 59
        · rw [if_pos h3, if_pos h3]
        · rw [if_neg h3, if_neg h3]
      · rw [if_neg h4, if_pos (show 48 ≤ b ∧ b ≤ 57 by omega)]
  · rw [if_neg h1]
    by_cases h2 : 122 < b
    · rw [if_pos h2, if_neg (show ¬ b < 48 by omega), if_pos (show 57 < b by omega), if_neg (show ¬ (97 ≤ b ∧ b ≤ 122) by omega), if_neg (show ¬ (48 ≤ b ∧ b ≤ 57) by omega)]
      by_cases h3 : b = 59
      · omega
      · rw [if_neg h3, if_neg h3]
    · rw [if_neg h2, if_pos (show 97 ≤ b ∧ b ≤ 122 by omega)]
theorem tyo_s {a b : Int} (h : a % 256 = b) (h1 : -128 ≤ a) (h2 : a < 128) : tyo a = tyo b := by
  unfold tyo
  repeat' split
  all_goals omega
theorem tyo_b (b : Int) : 1 ≤ tyo b ∧ tyo b ≤ 4 := by
  unfold tyo
  repeat' split
  all_goals omega
/-- the class's reader at a token -/
def t3 (M : cM) (t s e : Int) : cM := fun c j => if c = 72 then (if j = 3 then t else if j = 4 then s else if j = 5 then e else M 72 j) else M c j
theorem t3_3 {M : cM} {t s e : Int} : t3 M t s e 72 3 = t := rfl
theorem t3_4 {M : cM} {t s e : Int} : t3 M t s e 72 4 = s := rfl
theorem t3_5 {M : cM} {t s e : Int} : t3 M t s e 72 5 = e := rfl
theorem t3_ne {M : cM} {t s e c j : Int} (h : c ≠ 72) : t3 M t s e c j = M c j := if_neg h
theorem t3_w3 {M : cM} {t s e v : Int} : wr (t3 M t s e) 72 3 v = t3 M v s e := by
  funext c j
  rw [wr_at]
  unfold t3
  by_cases h : c = 72
  · by_cases h3 : j = 3
    · rw [if_pos ⟨h, h3⟩, if_pos h, if_pos h3]
    · rw [if_neg (fun q => h3 q.2), if_pos h, if_pos h, if_neg h3, if_neg h3]
  · rw [if_neg (fun q => h q.1), if_neg h, if_neg h]
theorem t3_w4 {M : cM} {t s e v : Int} : wr (t3 M t s e) 72 4 v = t3 M t v e := by
  funext c j
  rw [wr_at]
  unfold t3
  by_cases h : c = 72
  · by_cases h4 : j = 4
    · rw [if_pos ⟨h, h4⟩, if_pos h, h4]; rfl
    · rw [if_neg (fun q => h4 q.2), if_pos h, if_pos h, if_neg h4, if_neg h4]
  · rw [if_neg (fun q => h q.1), if_neg h, if_neg h]
theorem t3_w5 {M : cM} {t s e v : Int} : wr (t3 M t s e) 72 5 v = t3 M t s v := by
  funext c j
  rw [wr_at]
  unfold t3
  by_cases h : c = 72
  · by_cases h5 : j = 5
    · rw [if_pos ⟨h, h5⟩, if_pos h, h5]; rfl
    · rw [if_neg (fun q => h5 q.2), if_pos h, if_pos h, if_neg h5, if_neg h5]
  · rw [if_neg (fun q => h q.1), if_neg h, if_neg h]
theorem t3_id (M : cM) : t3 M (M 72 3) (M 72 4) (M 72 5) = M := by
  funext c j
  unfold t3
  by_cases h : c = 72
  · subst h
    by_cases h3 : j = 3
    · subst h3; rfl
    · by_cases h4 : j = 4
      · subst h4; rfl
      · by_cases h5 : j = 5
        · subst h5; rfl
        · rw [if_pos rfl, if_neg h3, if_neg h4, if_neg h5]
  · rw [if_neg h]
/-- where a token ends that begins at k, by its type -/
def tke (ty : Nat → Int) (L k : Nat) : Nat := if k < L then (if ty k = 1 ∨ ty k = 2 then skp (fun j => decide (ty j = ty k)) (L - (k + 1)) (k + 1) else k + 1) else k
def tkt (ty : Nat → Int) (L k : Nat) : Int := if k < L then ty k else 0
theorem L_n108 {Q : cM → Prop} {M : cM} {t s : Int} {L : Nat} (h70 : M 70 1 = L) (hL : L ≤ 120) (ht : t = 1 ∨ t = 2) : ∀ (m k : Nat), k + m = L → Q (t3 M t s ((skp (fun j : Nat => decide (tyo (M 71 j) = t)) m k : Nat) : Int)) → F_xq_next_108 Q (m + 1) (t3 M t s k) := by
  intro m
  induction m with
  | zero =>
    intro k hk H
    unfold F_xq_next_108
    rw [t3_ne (by decide), h70, t3_5, if_pos (by omega)]
    exact H
  | succ m ih =>
    intro k hk H
    unfold F_xq_next_108 F_xq_next_138
    rw [t3_ne (by decide), h70, t3_5, if_neg (by omega), t3_3, t3_ne (by decide), E_typeOf, t3_3, t3_5, t3_w5, wE (by omega)]
    have key : (((0 : Int) ≤ (k : Int) ∧ (k : Int) < 120) ∧ (if tyo (M 71 k) = t then F_xq_next_108 Q (m + 1) (t3 M t s ((k + 1 : Nat) : Int)) else Q (t3 M t s k))) := by
      refine ⟨by omega, ?_⟩
      unfold skp at H
      by_cases q : tyo (M 71 k) = t
      · rw [if_pos q]
        rw [if_pos (decide_eq_true q)] at H
        exact ih (k + 1) (by omega) H
      · rw [if_neg q]
        rw [if_neg (by rw [decide_eq_true_eq]; exact q)] at H
        exact H
    rcases ht with h | h
    · rw [if_pos h]; exact key
    · rw [if_neg (by omega), if_pos h]; exact key
theorem X_next {Q : cM → Prop} {M : cM} {L e : Nat} (h70 : M 70 1 = L) (hL : L ≤ 120) (h5 : M 72 5 = e) (he : e ≤ L) (H : Q (t3 M (tkt (fun j : Nat => tyo (M 71 j)) L (skp (fun j : Nat => decide (M 71 j = 32)) (L - e) e)) ((skp (fun j : Nat => decide (M 71 j = 32)) (L - e) e : Nat) : Int) ((tke (fun j : Nat => tyo (M 71 j)) L (skp (fun j : Nat => decide (M 71 j = 32)) (L - e) e) : Nat) : Int))) : F_xq_next Q M := by
  have hend : ∀ (s : Nat) (t0 e0 : Int), s ≤ L → Q (t3 M (tkt (fun j : Nat => tyo (M 71 j)) L s) s ((tke (fun j : Nat => tyo (M 71 j)) L s : Nat) : Int)) → F_xq_next_52 Q (t3 M t0 s e0) := by
    intro s t0 e0 hs G
    unfold F_xq_next_52
    rw [t3_4, t3_w5, t3_w3, t3_ne (by decide), h70, t3_4]
    unfold tkt tke at G
    by_cases q : (L : Int) ≤ s
    · rw [if_pos q]
      rw [if_neg (by omega), if_neg (by omega)] at G
      refine ⟨1, ?_⟩
      unfold F_xq_next_108
      rw [t3_ne (by decide), h70, t3_5, if_pos q]
      exact G
    · rw [if_neg q, t3_ne (by decide), E_typeOf, t3_w3, t3_5, t3_w5, wE (by omega)]
      rw [if_pos (by omega), if_pos (by omega)] at G
      refine ⟨by omega, ?_⟩
      by_cases ht : tyo (M 71 s) = 1 ∨ tyo (M 71 s) = 2
      · rw [if_pos ht] at G
        exact ⟨_, L_n108 h70 hL ht (L - (s + 1)) (s + 1) (by omega) G⟩
      · rw [if_neg ht] at G
        refine ⟨1, ?_⟩
        unfold F_xq_next_108
        rw [t3_ne (by decide), h70, t3_5, t3_3]
        by_cases q2 : (L : Int) ≤ ((s + 1 : Nat) : Int)
        · rw [if_pos q2]; exact G
        · rw [if_neg q2, if_neg (fun z => ht (Or.inl z)), if_neg (fun z => ht (Or.inr z))]; exact G
  have hskip : ∀ (m k : Nat), k + m = L → F_xq_next_52 Q (t3 M (M 72 3) ((skp (fun j : Nat => decide (M 71 j = 32)) m k : Nat) : Int) e) → F_xq_next_8 Q (m + 1) (t3 M (M 72 3) k e) := by
    intro m
    induction m with
    | zero =>
      intro k hk G
      unfold F_xq_next_8
      rw [t3_ne (by decide), h70, t3_4, if_pos (by omega)]
      exact G
    | succ m ih =>
      intro k hk G
      unfold F_xq_next_8
      rw [t3_ne (by decide), h70, t3_4, if_neg (by omega), t3_ne (by decide), t3_w4, wE (by omega)]
      refine ⟨by omega, ?_⟩
      unfold skp at G
      by_cases q : M 71 k = 32
      · rw [if_pos q]
        rw [if_pos (decide_eq_true q)] at G
        exact ih (k + 1) (by omega) G
      · rw [if_neg q]
        rw [if_neg (by rw [decide_eq_true_eq]; exact q)] at G
        exact G
  have hb := skp_b (fun j : Nat => decide (M 71 j = 32)) (L - e) e
  unfold F_xq_next
  have e0 : wr M 72 4 (M 72 5) = t3 M (M 72 3) e e := by
    have z : wr M 72 4 (M 72 5) = wr (t3 M (M 72 3) (M 72 4) (M 72 5)) 72 4 (M 72 5) := by rw [t3_id]
    rw [z, t3_w4, h5]
  rw [e0]
  exact ⟨_, hskip (L - e) e (by omega) (hend _ _ _ (by omega) H)⟩
/-- the model's reader at a token -/
def m2 (M : cM) (s e : Int) : cM := fun c j => if c = 100 then (if j = 13 then s else if j = 14 then e else M 100 j) else M c j
theorem m2_13 {M : cM} {s e : Int} : m2 M s e 100 13 = s := rfl
theorem m2_14 {M : cM} {s e : Int} : m2 M s e 100 14 = e := rfl
theorem m2_ne {M : cM} {s e c j : Int} (h : c ≠ 100) : m2 M s e c j = M c j := if_neg h
theorem m2_nj {M : cM} {s e j : Int} (h : j ≠ 13) (h2 : j ≠ 14) : m2 M s e 100 j = M 100 j := by
  unfold m2
  rw [if_pos rfl, if_neg h, if_neg h2]
theorem m2_w13 {M : cM} {s e v : Int} : wr (m2 M s e) 100 13 v = m2 M v e := by
  funext c j
  rw [wr_at]
  unfold m2
  by_cases h : c = 100
  · by_cases h3 : j = 13
    · rw [if_pos ⟨h, h3⟩, if_pos h, if_pos h3]
    · rw [if_neg (fun q => h3 q.2), if_pos h, if_pos h, if_neg h3, if_neg h3]
  · rw [if_neg (fun q => h q.1), if_neg h, if_neg h]
theorem m2_w14 {M : cM} {s e v : Int} : wr (m2 M s e) 100 14 v = m2 M s v := by
  funext c j
  rw [wr_at]
  unfold m2
  by_cases h : c = 100
  · by_cases h4 : j = 14
    · rw [if_pos ⟨h, h4⟩, if_pos h, h4]; rfl
    · rw [if_neg (fun q => h4 q.2), if_pos h, if_pos h, if_neg h4, if_neg h4]
  · rw [if_neg (fun q => h q.1), if_neg h, if_neg h]
theorem m2_id (M : cM) : m2 M (M 100 13) (M 100 14) = M := by
  funext c j
  unfold m2
  by_cases h : c = 100
  · subst h
    by_cases h3 : j = 13
    · subst h3; rfl
    · by_cases h4 : j = 14
      · subst h4; rfl
      · rw [if_pos rfl, if_neg h3, if_neg h4]
  · rw [if_neg h]
/-- the byte at a place, or -1 -/
def bya (M : cM) (L k : Nat) : Int := if k < L then M 109 k else -1
theorem E_byteAt {Q : Int → cM → Prop} {M : cM} {L k : Nat} (h : M 100 12 = L) (hL : L ≤ 120) : F_xm_byteAt Q k M = Q (bya M L k) M := by
  unfold F_xm_byteAt bya
  rw [h]
  by_cases q : k < L
  · rw [if_neg (by omega), if_pos q, eq_true (show (0 : Int) ≤ (k : Int) ∧ (k : Int) < 120 by omega), true_and]
  · rw [if_pos (by omega), if_neg q]
theorem E_isLetter {Q : Int → cM → Prop} {b : Int} {M : cM} : F_xm_isLetter Q b M = Q (if tyo b = 1 then 1 else 0) M := by
  unfold F_xm_isLetter
  rw [E_xm_in, nar_ite, if_iff (d := tyo b = 1)]
  unfold tyo
  repeat' split
  all_goals omega
theorem E_isDigit {Q : Int → cM → Prop} {b : Int} {M : cM} : F_xm_isDigit Q b M = Q (if tyo b = 2 then 1 else 0) M := by
  unfold F_xm_isDigit
  rw [E_xm_in, nar_ite, if_iff (d := tyo b = 2)]
  unfold tyo
  repeat' split
  all_goals omega
theorem L_t86 {Q : cM → Prop} {M : cM} {s : Int} {t : Int} {L : Nat} (h12 : M 100 12 = L) (hL : L ≤ 120) (ht : t = 1 ∨ t = 2) : ∀ (m k : Nat), k + m = L → Q (m2 M s ((skp (fun j : Nat => decide (tyo (M 109 j) = t)) m k : Nat) : Int)) → F_xm_token_86 Q (m + 1) (if t = 1 then 1 else 0) (if t = 2 then 1 else 0) (m2 M s k) := by
  have h12' : ∀ a b : Int, m2 M a b 100 12 = L := fun a b => by rw [m2_nj (by decide) (by decide)]; exact h12
  have hby : ∀ (a b : Int) (k : Nat), bya (m2 M a b) L k = bya M L k := fun a b k => by unfold bya; rw [m2_ne (by decide)]
  have ht4 : ∀ k, tyo (bya M L k) = if k < L then tyo (M 109 k) else 4 := fun k => by
    unfold bya
    by_cases q : k < L
    · rw [if_pos q, if_pos q]
    · rw [if_neg q, if_neg q]; decide
  intro m
  induction m with
  | zero =>
    intro k hk H
    have e4 : tyo (bya M L k) = 4 := by rw [ht4, if_neg (by omega)]
    rcases ht with h | h
    · subst h
      show F_xm_token_86 Q 1 1 0 (m2 M s k)
      unfold F_xm_token_86 F_xm_token_104
      rw [if_neg (by decide), m2_14, E_byteAt (h12' _ _) hL, hby, E_isLetter, e4, ite01, if_neg (show ¬ (4 : Int) = 1 by decide), if_pos rfl]
      exact H
    · subst h
      show F_xm_token_86 Q 1 0 1 (m2 M s k)
      unfold F_xm_token_86 F_xm_token_104
      rw [if_pos rfl, if_neg (by decide), m2_14, E_byteAt (h12' _ _) hL, hby, E_isDigit, e4, ite01, if_neg (show ¬ (4 : Int) = 2 by decide)]
      exact H
  | succ m ih =>
    intro k hk H
    have e4 : tyo (bya M L k) = tyo (M 109 k) := by rw [ht4, if_pos (by omega)]
    unfold skp at H
    rcases ht with h | h
    · subst h
      show F_xm_token_86 Q (m + 1 + 1) 1 0 (m2 M s k)
      unfold F_xm_token_86 F_xm_token_104 F_xm_token_122
      rw [if_neg (by decide), m2_14, E_byteAt (h12' _ _) hL, hby, E_isLetter, e4, m2_14, m2_w14, wE (by omega)]
      by_cases q : tyo (M 109 k) = 1
      · rw [if_pos (decide_eq_true q)] at H
        rw [if_pos q, if_neg (by decide)]
        exact ih (k + 1) (by omega) H
      · rw [if_neg (by rw [decide_eq_true_eq]; exact q)] at H
        rw [if_neg q, if_pos rfl, if_pos rfl]
        exact H
    · subst h
      show F_xm_token_86 Q (m + 1 + 1) 0 1 (m2 M s k)
      unfold F_xm_token_86 F_xm_token_104 F_xm_token_122
      rw [if_pos rfl, if_neg (by decide), m2_14, E_byteAt (h12' _ _) hL, hby, E_isDigit, e4, m2_14, m2_w14, wE (by omega)]
      by_cases q : tyo (M 109 k) = 2
      · rw [if_pos (decide_eq_true q)] at H
        rw [if_pos q, if_neg (by decide)]
        exact ih (k + 1) (by omega) H
      · rw [if_neg (by rw [decide_eq_true_eq]; exact q)] at H
        rw [if_neg q, if_pos rfl]
        exact H
theorem Y_token {Q : cM → Prop} {M : cM} {L e : Nat} (h12 : M 100 12 = L) (hL : L ≤ 120) (h14 : M 100 14 = e) (he : e ≤ L) (H : Q (m2 M ((skp (fun j : Nat => decide (M 109 j = 32)) (L - e) e : Nat) : Int) ((tke (fun j : Nat => tyo (M 109 j)) L (skp (fun j : Nat => decide (M 109 j = 32)) (L - e) e) : Nat) : Int))) : F_xm_token Q M := by
  have h12' : ∀ a b : Int, m2 M a b 100 12 = L := fun a b => by rw [m2_nj (by decide) (by decide)]; exact h12
  have hby : ∀ (a b : Int) (k : Nat), bya (m2 M a b) L k = bya M L k := fun a b k => by unfold bya; rw [m2_ne (by decide)]
  have hend : ∀ s : Nat, s ≤ L → bya M L s ≠ 32 → Q (m2 M s ((tke (fun j : Nat => tyo (M 109 j)) L s : Nat) : Int)) → F_xm_token_8 Q 1 (m2 M s e) := by
    intro s hs hsp G
    unfold F_xm_token_8 F_xm_token_83
    rw [m2_13, E_byteAt (h12' _ _) hL, hby, if_neg hsp, m2_13, E_byteAt (h12' _ _) hL, hby, E_isLetter, m2_13, E_byteAt (h12' _ _) hL, hby, E_isDigit, h12', m2_13, m2_w14, wE (by omega), m2_w14]
    unfold tke at G
    by_cases q : (L : Int) ≤ s
    · rw [if_pos q]
      rw [if_neg (by omega)] at G
      have e4 : tyo (bya M L s) = 4 := by unfold bya; rw [if_neg (by omega)]; decide
      refine ⟨1, ?_⟩
      unfold F_xm_token_86 F_xm_token_104
      rw [e4]
      exact G
    · rw [if_neg q]
      rw [if_pos (by omega)] at G
      have e4 : tyo (bya M L s) = tyo (M 109 s) := by unfold bya; rw [if_pos (by omega)]
      rw [e4]
      by_cases ht : tyo (M 109 s) = 1 ∨ tyo (M 109 s) = 2
      · rw [if_pos ht] at G
        exact ⟨_, L_t86 h12 hL ht (L - (s + 1)) (s + 1) (by omega) G⟩
      · rw [if_neg ht] at G
        refine ⟨1, ?_⟩
        unfold F_xm_token_86 F_xm_token_104
        rw [if_neg (fun z => ht (Or.inl z)), if_neg (fun z => ht (Or.inr z))]
        exact G
  have hskip : ∀ (m k : Nat), k + m = L → (skp (fun j : Nat => decide (M 109 j = 32)) m k ≤ L → bya M L (skp (fun j : Nat => decide (M 109 j = 32)) m k) ≠ 32 → F_xm_token_8 Q 1 (m2 M ((skp (fun j : Nat => decide (M 109 j = 32)) m k : Nat) : Int) e)) → ∃ f, F_xm_token_8 Q f (m2 M k e) := by
    intro m
    induction m with
    | zero =>
      intro k hk G
      refine ⟨1, G (by show k ≤ L; omega) ?_⟩
      show bya M L k ≠ 32
      unfold bya
      rw [if_neg (by omega)]
      decide
    | succ m ih =>
      intro k hk G
      unfold skp at G
      have eb : bya M L k = M 109 k := by unfold bya; rw [if_pos (by omega)]
      by_cases q : M 109 k = 32
      · rw [if_pos (decide_eq_true q)] at G
        obtain ⟨f, hf⟩ := ih (k + 1) (by omega) G
        refine ⟨f + 1, ?_⟩
        unfold F_xm_token_8
        rw [m2_13, E_byteAt (h12' _ _) hL, hby, eb, if_pos q, m2_13, m2_w13, wE (by omega)]
        exact hf
      · rw [if_neg (by rw [decide_eq_true_eq]; exact q)] at G
        exact ⟨1, G (by omega) (by rw [eb]; exact q)⟩
  unfold F_xm_token
  have e0 : wr M 100 13 (M 100 14) = m2 M e e := by
    have z : wr M 100 13 (M 100 14) = wr (m2 M (M 100 13) (M 100 14)) 100 13 (M 100 14) := by rw [m2_id]
    rw [z, m2_w13, h14]
  rw [e0]
  exact hskip (L - e) e (by omega) (fun h1 h2 => hend _ h1 h2 H)
