/-! Both readers together: tokens, words, numbers. -/
def xr (F : (Int → cM → Prop) → cM → Prop) (A A' : cM) (r : Int) : Prop := ∀ (X : cM) (Q : Int → cM → Prop), TB X → Q r (mx A' X) → F Q (mx A X)
def xq (F : (cM → Prop) → cM → Prop) (A A' : cM) : Prop := ∀ (X : cM) (Q : cM → Prop), TB X → Q (mx A' X) → F Q (mx A X)
def yr (F : (Int → cM → Prop) → cM → Prop) (B B' : cM) (r : Int) : Prop := ∀ (X : cM) (Q : Int → cM → Prop), Q r (mx X B') → F Q (mx X B)
def yq (F : (cM → Prop) → cM → Prop) (B B' : cM) : Prop := ∀ (X : cM) (Q : cM → Prop), Q (mx X B') → F Q (mx X B)
theorem t3_at {M : cM} {t s e j : Int} : t3 M t s e 72 j = if j = 3 then t else if j = 4 then s else if j = 5 then e else M 72 j := rfl
theorem m2_at {M : cM} {s e j : Int} : m2 M s e 100 j = if j = 13 then s else if j = 14 then e else M 100 j := rfl
theorem mx_t3 {A X : cM} {t s e : Int} : t3 (mx A X) t s e = mx (t3 A t s e) X := by
  funext c j
  by_cases h : c = 72
  · subst h
    rw [mx_lt (by decide), t3_at, t3_at, mx_lt (by decide)]
  · rw [t3_ne h]
    unfold mx
    by_cases g : c < 100
    · rw [if_pos g, if_pos g, t3_ne h]
    · rw [if_neg g, if_neg g]
theorem mx_m2 {B X : cM} {s e : Int} : m2 (mx X B) s e = mx X (m2 B s e) := by
  funext c j
  by_cases h : c = 100
  · subst h
    rw [mx_ge (by decide), m2_at, m2_at, mx_ge (by decide)]
  · rw [m2_ne h]
    unfold mx
    by_cases g : c < 100
    · rw [if_pos g, if_pos g]
    · rw [if_neg g, if_neg g, m2_ne h]
def TPR (A B : cM) (L : Nat) : Prop := (A 70 1 = L ∧ B 100 12 = L ∧ L ≤ 120) ∧ ∀ k : Nat, k < L → A 71 k % 256 = B 109 k ∧ -128 ≤ A 71 k ∧ A 71 k < 128 ∧ 0 ≤ B 109 k ∧ B 109 k < 256
def tyB (B : cM) (j : Nat) : Int := tyo (B 109 j)
def TKR (A B : cM) (L s e : Nat) : Prop := TPR A B L ∧ (A 72 4 = s ∧ A 72 5 = e ∧ B 100 13 = s ∧ B 100 14 = e) ∧ A 72 3 = tkt (tyB B) L s ∧ s ≤ L ∧ e = tke (tyB B) L s
theorem tke_b (ty : Nat → Int) {L k : Nat} (h : k ≤ L) : k ≤ tke ty L k ∧ tke ty L k ≤ L ∧ (k < L → k < tke ty L k) := by
  unfold tke
  have := skp_b (fun j => decide (ty j = ty k)) (L - (k + 1)) (k + 1)
  repeat' split
  all_goals omega
theorem tke_all (ty : Nat → Int) {L k j : Nat} (hk : k < L) (ht : ty k = 1 ∨ ty k = 2) (h1 : k ≤ j) (h2 : j < tke ty L k) : ty j = ty k := by
  unfold tke at h2
  rw [if_pos hk, if_pos ht] at h2
  by_cases e : j = k
  · rw [e]
  · exact of_decide_eq_true (skp_all (fun j => decide (ty j = ty k)) _ _ j (by omega) h2)
theorem tke_eq {ty ty' : Nat → Int} {L k : Nat} (h : ∀ j, j < L → ty j = ty' j) : tke ty L k = tke ty' L k := by
  unfold tke
  by_cases q : k < L
  · rw [if_pos q, if_pos q, h k q, skp_eq (q := fun j => decide (ty' j = ty' k)) (L - (k + 1)) (k + 1) (fun j h1 h2 => by rw [h j (by omega)])]
  · rw [if_neg q, if_neg q]
theorem tkt_eq {ty ty' : Nat → Int} {L k : Nat} (h : ∀ j, j < L → ty j = ty' j) : tkt ty L k = tkt ty' L k := by
  unfold tkt
  by_cases q : k < L
  · rw [if_pos q, if_pos q, h k q]
  · rw [if_neg q, if_neg q]
theorem TPR.ty {A B : cM} {L : Nat} (h : TPR A B L) : ∀ j : Nat, j < L → tyo (A 71 j) = tyB B j := fun j hj => by
  obtain ⟨a1, a2, a3, -⟩ := h.2 j hj
  exact tyo_s a1 a2 a3
theorem TPR.kp {A B A' B' : cM} {L : Nat} (h : TPR A B L) (h1 : ∀ j, A' 70 j = A 70 j) (h2 : ∀ j, A' 71 j = A 71 j) (h3 : B' 100 12 = B 100 12) (h4 : ∀ j, B' 109 j = B 109 j) : TPR A' B' L := by
  unfold TPR
  rw [h1, h3]
  refine ⟨h.1, fun k hk => ?_⟩
  rw [h2, h4]
  exact h.2 k hk
theorem tyB_kp {B B' : cM} (h4 : ∀ j, B' 109 j = B 109 j) : tyB B' = tyB B := by
  funext j
  unfold tyB
  rw [h4]
theorem TKR.kpB {A B B' : cM} {L s e : Nat} (h : TKR A B L s e) (h4 : ∀ j, B' 109 j = B 109 j) (h5 : ∀ j, j = 12 ∨ j = 13 ∨ j = 14 → B' 100 j = B 100 j) : TKR A B' L s e := by
  obtain ⟨a1, a2, a3, a4, a5⟩ := h
  unfold TKR
  rw [tyB_kp h4, h5 13 (by decide), h5 14 (by decide)]
  exact ⟨a1.kp (fun _ => rfl) (fun _ => rfl) (h5 12 (by decide)) h4, a2, a3, a4, a5⟩
theorem TKR.kpA {A A' B : cM} {L s e : Nat} (h : TKR A B L s e) (hc : ∀ c j, 70 ≤ c → c ≤ 72 → A' c j = A c j) : TKR A' B L s e := by
  obtain ⟨a1, a2, a3, a4, a5⟩ := h
  unfold TKR
  rw [hc 72 4 (by decide) (by decide), hc 72 5 (by decide) (by decide), hc 72 3 (by decide) (by decide)]
  exact ⟨a1.kp (fun _ => hc _ _ (by decide) (by decide)) (fun _ => hc _ _ (by decide) (by decide)) rfl (fun _ => rfl), a2, a3, a4, a5⟩
/-- what next and token leave alone -/
def fA (A A' : cM) : Prop := ∀ c j, c ≠ 72 → A' c j = A c j
def fB (B B' : cM) : Prop := ∀ c j, ¬ (c = 100 ∧ 13 ≤ j ∧ j ≤ 16) → B' c j = B c j
theorem fA.rf (A : cM) : fA A A := fun _ _ _ => rfl
theorem fB.rf (A : cM) : fB A A := fun _ _ _ => rfl
theorem fA.tr {A A1 A2 : cM} (h : fA A A1) (h' : fA A1 A2) : fA A A2 := fun c j hc => (h' c j hc).trans (h c j hc)
theorem fB.tr {A A1 A2 : cM} (h : fB A A1) (h' : fB A1 A2) : fB A A2 := fun c j hc => (h' c j hc).trans (h c j hc)
theorem fB.w {A A1 : cM} {j v : Int} (h : fB A A1) (hj : 13 ≤ j ∧ j ≤ 16) : fB A (wr A1 100 j v) := fun c j' hc => by
  rw [wr_at, if_neg (fun q => hc ⟨q.1, by omega⟩)]
  exact h c j' hc
theorem J_next {A B : cM} {L e : Nat} (hT : TPR A B L) (h5 : A 72 5 = e) (h14 : B 100 14 = e) (he : e ≤ L) : ∃ (A' B' : cM) (s' : Nat), xq F_xq_next A A' ∧ yq F_xm_token B B' ∧ TKR A' B' L s' (tke (tyB B) L s') ∧ e ≤ s' ∧ s' ≤ L ∧ fA A A' ∧ fB B B' ∧ B' 100 16 = B 100 16 ∧ B' 100 15 = B 100 15 := by
  have hb := skp_b (fun j : Nat => decide (B 109 j = 32)) (L - e) e
  have es : skp (fun j : Nat => decide (A 71 j = 32)) (L - e) e = skp (fun j : Nat => decide (B 109 j = 32)) (L - e) e := skp_eq _ _ (fun j h1 h2 => by
    obtain ⟨a1, a2, a3, a4, a5⟩ := hT.2 j (by omega)
    rw [decide_eq_decide]
    omega)
  generalize hs : skp (fun j : Nat => decide (B 109 j = 32)) (L - e) e = s' at hb es
  have ee : tke (fun j : Nat => tyo (A 71 j)) L s' = tke (tyB B) L s' := tke_eq hT.ty
  have et : tkt (fun j : Nat => tyo (A 71 j)) L s' = tkt (tyB B) L s' := tkt_eq hT.ty
  refine ⟨t3 A (tkt (tyB B) L s') s' (tke (tyB B) L s' : Nat), m2 B s' (tke (tyB B) L s' : Nat), s', fun X Q _ H => ?_, fun X Q H => ?_, ?_, hb.1, by omega, fun c j hc => t3_ne hc, fun c j hc => ?_, m2_nj (by decide) (by decide), m2_nj (by decide) (by decide)⟩
  · have e71 : ∀ j, mx A X 71 j = A 71 j := fun j => mx_lt (by decide)
    refine X_next (L := L) (e := e) (by rw [mx_lt (by decide)]; exact hT.1.1) hT.1.2.2 (by rw [mx_lt (by decide)]; exact h5) he ?_
    simp only [e71]
    rw [es, ee, et, mx_t3]
    exact H
  · have e109 : ∀ j, mx X B 109 j = B 109 j := fun j => mx_ge (by decide)
    refine Y_token (L := L) (e := e) (by rw [mx_ge (by decide)]; exact hT.1.2.1) hT.1.2.2 (by rw [mx_ge (by decide)]; exact h14) he ?_
    simp only [e109]
    rw [hs, mx_m2]
    exact H
  · refine ⟨hT.kp (fun _ => t3_ne (by decide)) (fun _ => t3_ne (by decide)) (m2_nj (by decide) (by decide)) (fun _ => m2_ne (by decide)), ⟨rfl, rfl, rfl, rfl⟩, ?_, by omega, ?_⟩
    · rw [tyB_kp (fun _ => m2_ne (by decide))]; rfl
    · rw [tyB_kp (fun _ => m2_ne (by decide))]
  · unfold m2
    by_cases h : c = 100
    · rw [if_pos h, if_neg (by omega), if_neg (by omega), h]
    · rw [if_neg h]
theorem TKR.b {A B : cM} {L s e : Nat} (h : TKR A B L s e) : s ≤ e ∧ e ≤ L ∧ L ≤ 120 ∧ (s < L → s < e) := by
  obtain ⟨a1, a2, a3, a4, a5⟩ := h
  have := tke_b (tyB B) a4
  rw [a5]
  exact ⟨this.1, this.2.1, a1.1.2.2, this.2.2⟩
/-- needs -/
theorem Y_needs1 {B B' : cM} (h : B 100 16 = 0) (ht : yq F_xm_token B B') : yq (fun Q M => F_xm_needs Q 1 M) B B' := fun X Q H => by
  show F_xm_needs Q 1 (mx X B)
  have e : wr (mx X B) 100 16 0 = mx X B := by
    have := wr_id (mx X B) 100 16
    rw [show mx X B 100 16 = 0 by rw [mx_ge (by decide)]; exact h] at this
    exact this
  unfold F_xm_needs F_xm_needs_17
  rw [e, show mx X B 100 16 = 0 by rw [mx_ge (by decide)]; exact h, if_pos rfl, if_neg (by decide), if_pos rfl]
  exact ⟨Or.inl rfl, ht X Q H⟩
theorem Y_needs0 {B : cM} (h : B 100 16 = 0) : yq (fun Q M => F_xm_needs Q 0 M) B (wr B 100 16 1) := fun X Q H => by
  show F_xm_needs Q 0 (mx X B)
  unfold F_xm_needs F_xm_needs_12 F_xm_needs_17
  rw [show mx X B 100 16 = 0 by rw [mx_ge (by decide)]; exact h, if_pos rfl, if_pos rfl, wr_eq, if_neg (by decide), mx_wr (by decide)]
  exact ⟨Or.inr rfl, H⟩
theorem Y_needsW {B : cM} (h : B 100 16 = 1) (x : Int) : yq (fun Q M => F_xm_needs Q x M) B B := fun X Q H => by
  show F_xm_needs Q x (mx X B)
  have e : wr (mx X B) 100 16 1 = mx X B := by
    have := wr_id (mx X B) 100 16
    rw [show mx X B 100 16 = 1 by rw [mx_ge (by decide)]; exact h] at this
    exact this
  unfold F_xm_needs F_xm_needs_12 F_xm_needs_17
  rw [e, show mx X B 100 16 = 1 by rw [mx_ge (by decide)]; exact h, if_neg (by decide), if_neg (by decide)]
  exact ⟨Or.inr rfl, H⟩
/-- words -/
def wln (k : Nat) : Nat := clen.getD k 0
def wch (k j : Nat) : Int := ((cbyt.getD k []).getD j 0).toInt
theorem wln_b : ∀ k : Nat, k < 14 → 4 ≤ wln k ∧ wln k ≤ 6 := by decide
theorem wch_b : ∀ k : Nat, k < 14 → ∀ j : Nat, j < 6 → j < wln k → 97 ≤ wch k j ∧ wch k j ≤ 122 := by decide +kernel
theorem narK50 : narK 5 0 = 0 := by decide +kernel
theorem chv : ∀ b : Nat, b < 128 → narK 6 (narK 6 (zi2c (zand (b : Int) 255))) = b := by decide +kernel
theorem E_strlen {Q : Int → cM → Prop} {k : Nat} {M : cM} (hT : TB M) (hk : k < 14) : F_xj_String_length Q k M = Q (wln k : Nat) M := by
  unfold F_xj_String_length F_xj_String_coder
  rw [if_neg (by decide), (hT.2.2.2 k hk).1, narK50]
  show Q (zshr ((wln k : Nat) : Int) ((0 : Nat) : Int)) M = _
  rw [zshr_n (by decide) (by have := wln_b k hk; omega), Nat.pow_zero, Nat.div_one]
theorem E_charAt {Q : Int → cM → Prop} {k i : Nat} {M : cM} (hT : TB M) (hk : k < 14) (hi : i < wln k) : F_xj_String_charAt Q k i M = Q (wch k i) M := by
  obtain ⟨e1, e2⟩ := hT.2.2.2 k hk
  have hb := wch_b k hk i (by have := wln_b k hk; omega) hi
  have e2i := e2 i hi
  obtain ⟨n, hn⟩ := Int.eq_ofNat_of_zero_le (show 0 ≤ wch k i by omega)
  have hc := chv n (by omega)
  unfold F_xj_String_charAt F_xj_String_isLatin1
  rw [if_neg (by decide), if_pos rfl, narK41]
  show (if (1 : Int) = 0 then False else F_xj_StringLatin1_charAt (fun x6 M5 => Q (narK 6 x6) M5) k i M) = _
  rw [if_neg (by decide)]
  unfold F_xj_StringLatin1_charAt F_xj_String_checkIndex F_xj_Preconditions_checkIndex
  have hl : (i : Int) < M (2000 + (k : Nat)) (-1) := by rw [e1]; exact Int.ofNat_lt.mpr hi
  rw [if_neg (by omega), if_pos hl]
  show ((0 ≤ (i : Int) ∧ (i : Int) < M (2000 + (k : Nat)) (-1)) ∧ Q (narK 6 (narK 6 (zi2c (zand (M (2000 + (k : Nat)) i) 255)))) M) = _
  rw [eq_true (show (0 : Int) ≤ (i : Int) ∧ (i : Int) < M (2000 + (k : Nat)) (-1) from ⟨by omega, hl⟩), true_and, e2i, show ((cbyt.getD k []).getD i 0).toInt = wch k i from rfl, hn, hc]
def isW (B : cM) (L s e k0 : Nat) : Bool := (decide (tkt (tyB B) L s = 1) && decide (e = s + wln k0)) && alN (fun i => decide (B 109 ((s + i : Nat) : Int) = wch k0 i)) (wln k0)
theorem L_isWord {k0 : Nat} {Q : Int → cM → Prop} {F : Nat → Int → cM → Prop} (hF : F = F_xq_isWord_28 Q k0) {A B X : cM} {L s e : Nat} (hX : TB X) (hK : TKR A B L s e) (hk : k0 < 14) {n : Nat} (hn : wln k0 = n) (hn6 : n ≤ 6) (he : e = s + n) (H : Q (if alN (fun i => decide (B 109 ((s + i : Nat) : Int) = wch k0 i)) n = true then 1 else 0) (mx A X)) : ∀ (m i : Nat), i + m = n → alN (fun i => decide (B 109 ((s + i : Nat) : Int) = wch k0 i)) i = true → F (m + 1) i (mx A X) := by
  have hT : TB (mx A X) := TB.kp (fun c j hc => mx_ge (by omega)) hX
  have hb := hK.b
  intro m
  induction m with
  | zero =>
    intro i hi ha
    rw [hF]
    unfold F_xq_isWord_28
    rw [E_strlen hT hk, hn, if_pos (by omega), narK41]
    rw [show n = i by omega, ha] at H
    exact H
  | succ m ih =>
    intro i hi ha
    have hw := wch_b k0 hk i (by omega) (by rw [hn]; omega)
    have hsi : s + i < L := by omega
    have hq := hK.1.2 (s + i) hsi
    have a1 := hq.1
    have a4 := hq.2.2.2
    have a2 := hq.2.1
    have a3 := hq.2.2.1
    rw [hF]
    unfold F_xq_isWord_28
    rw [E_strlen hT hk, hn, if_neg (by omega), mx_lt (by decide), hK.2.1.1, w32_e (x := (s : Int) + (i : Int)) (by omega) (by omega), E_charAt hT hk (by rw [hn]; omega), mx_lt (by decide), wE (by omega), narK40, show (s : Int) + (i : Int) = ((s + i : Nat) : Int) from rfl, ← hF]
    refine ⟨by omega, ?_⟩
    by_cases q : A 71 ((s + i : Nat) : Int) = wch k0 i
    · rw [if_pos q]
      refine ih (i + 1) (by omega) ?_
      show (alN _ i && decide (B 109 ((s + i : Nat) : Int) = wch k0 i)) = true
      rw [ha, Bool.true_and]
      exact decide_eq_true (by omega)
    · rw [if_neg q]
      rw [alN_f (i := i) (decide_eq_false (by omega)) n (by omega)] at H
      exact H
theorem X_isWord {Q : Int → cM → Prop} {A B X : cM} {L s e k0 : Nat} (hX : TB X) (hK : TKR A B L s e) (hk : k0 < 14) (H : Q (if isW B L s e k0 = true then 1 else 0) (mx A X)) : F_xq_isWord Q k0 (mx A X) := by
  have hT : TB (mx A X) := TB.kp (fun c j hc => mx_ge (by omega)) hX
  have hb := hK.b
  unfold isW at H
  unfold F_xq_isWord F_xq_isWord_24
  rw [mx_lt (by decide), hK.2.2.1, narK40]
  by_cases q1 : tkt (tyB B) L s = 1
  · rw [if_pos q1, E_strlen hT hk, mx_lt (by decide), hK.2.1.2.1, mx_lt (by decide), hK.2.1.1, w32_e (x := (e : Int) - (s : Int)) (by omega) (by omega)]
    rw [decide_eq_true q1, Bool.true_and] at H
    by_cases q2 : e = s + wln k0
    · rw [if_pos (by omega)]
      rw [decide_eq_true q2, Bool.true_and] at H
      obtain ⟨F, hF⟩ : ∃ F, F = F_xq_isWord_28 Q k0 := ⟨_, rfl⟩
      rw [← hF]
      exact ⟨_, L_isWord hF hX hK hk rfl (wln_b k0 hk).2 q2 H (wln k0) 0 (Nat.zero_add _) rfl⟩
    · rw [if_neg (by omega)]
      rw [decide_eq_false q2, Bool.false_and] at H
      exact H
  · rw [if_neg q1]
    rw [decide_eq_false q1, Bool.false_and, Bool.false_and] at H
    exact H
/-- words as numbers -/
def cdf (d : Nat → Int) : Nat → Int
  | 0 => 0
  | k + 1 => if cdf d k ≤ 36028797018963967 then w64 (w64 (32 * cdf d k) + d k) else cdf d k
def wcd (B : cM) (L s e : Nat) : Int := if B 100 16 = 0 ∧ tyo (bya B L s) = 1 then cdf (fun i => B 109 ((s + i : Nat) : Int) - 96) (e - s) else 0
theorem L_word {Q : Int → cM → Prop} {B X : cM} {L s e : Nat} (h12 : B 100 12 = L) (hL : L ≤ 120) (h13 : B 100 13 = s) (h14 : B 100 14 = e) (hse : s ≤ e) (heL : e ≤ L) (hby : ∀ k : Nat, k < L → 0 ≤ B 109 k ∧ B 109 k < 256) (H : Q (wcd B L s e) (mx X B)) : ∀ (m k : Nat), s + k + m = e → F_xm_word_7 Q (m + 1) (cdf (fun i => B 109 ((s + i : Nat) : Int) - 96) k) ((s + k : Nat) : Int) (mx X B) := by
  intro m
  induction m with
  | zero =>
    intro k hk
    unfold F_xm_word_7 F_xm_word_71
    rw [mx_ge (by decide), h14, if_pos (by omega), mx_ge (by decide), mx_ge (by decide), h13, E_byteAt (L := L) (by rw [mx_ge (by decide)]; exact h12) hL, E_isLetter, ite01, show bya (mx X B) L s = bya B L s by unfold bya; rw [mx_ge (by decide)]]
    unfold wcd at H
    rw [show e - s = k by omega] at H
    by_cases q1 : B 100 16 = 0
    · rw [if_pos q1]
      by_cases q2 : tyo (bya B L s) = 1
      · rw [if_pos q2]; rw [if_pos ⟨q1, q2⟩] at H; exact H
      · rw [if_neg q2]; rw [if_neg (fun z => q2 z.2)] at H; exact H
    · rw [if_neg q1]; rw [if_neg (fun z => q1 z.1)] at H; exact H
  | succ m ih =>
    intro k hk
    have hb := hby (s + k) (by omega)
    have ih1 := ih (k + 1) (by omega)
    unfold F_xm_word_7 F_xm_word_43
    rw [mx_ge (by decide), h14, if_neg (by omega), mx_ge (by decide), w32_e (x := B 109 ((s + k : Nat) : Int) - 96) (by omega) (by omega), wE (by omega)]
    have e : cdf (fun i => B 109 ((s + i : Nat) : Int) - 96) (k + 1) = if cdf (fun i => B 109 ((s + i : Nat) : Int) - 96) k ≤ 36028797018963967 then w64 (w64 (32 * cdf (fun i => B 109 ((s + i : Nat) : Int) - 96) k) + (B 109 ((s + k : Nat) : Int) - 96)) else cdf (fun i => B 109 ((s + i : Nat) : Int) - 96) k := rfl
    rw [e] at ih1
    by_cases q : cdf (fun i => B 109 ((s + i : Nat) : Int) - 96) k ≤ 36028797018963967
    · rw [if_pos q] at ih1
      rw [if_pos (by
        have := zl_gt (a := cdf (fun i => B 109 ((s + i : Nat) : Int) - 96) k) (b := 36028797018963967)
        omega)]
      exact ⟨by omega, ih1⟩
    · rw [if_neg q] at ih1
      rw [if_neg (by
        have := zl_gt (a := cdf (fun i => B 109 ((s + i : Nat) : Int) - 96) k) (b := 36028797018963967)
        omega)]
      exact ih1
theorem Y_word {Q : Int → cM → Prop} {B X : cM} {L s e : Nat} (h12 : B 100 12 = L) (hL : L ≤ 120) (h13 : B 100 13 = s) (h14 : B 100 14 = e) (hse : s ≤ e) (heL : e ≤ L) (hby : ∀ k : Nat, k < L → 0 ≤ B 109 k ∧ B 109 k < 256) (H : Q (wcd B L s e) (mx X B)) : F_xm_word Q (mx X B) := by
  unfold F_xm_word
  rw [mx_ge (by decide), h13]
  exact ⟨_, L_word h12 hL h13 h14 hse heL hby H (e - s) 0 (by omega)⟩
def ldg (d : Nat → Int) (n : Nat) : Prop := ∀ i, i < n → 1 ≤ d i ∧ d i ≤ 26
theorem cdf_s {d : Nat → Int} {k : Nat} (h0 : 0 ≤ cdf d k) (h1 : cdf d k ≤ 36028797018963967) (hd : 1 ≤ d k ∧ d k ≤ 26) : cdf d (k + 1) = 32 * cdf d k + d k := by
  show (if cdf d k ≤ 36028797018963967 then w64 (w64 (32 * cdf d k) + d k) else cdf d k) = _
  rw [if_pos h1, w64_e (x := 32 * cdf d k) (by omega) (by omega), w64_e (by omega) (by omega)]
theorem cdf_lt {d : Nat → Int} : ∀ n : Nat, n ≤ 10 → ldg d n → 0 ≤ cdf d n ∧ cdf d n < 32 ^ n
  | 0, _, _ => ⟨Int.le_refl _, by show (0 : Int) < 32 ^ 0; decide⟩
  | n + 1, hn, hd => by
    have ih := cdf_lt n (by omega) (fun i hi => hd i (by omega))
    have hp : (32 : Int) ^ n ≤ 32 ^ 10 := by
      have := Nat.pow_le_pow_right (show 0 < 32 by decide) (show n ≤ 10 by omega)
      exact_mod_cast this
    have hk := hd n (by omega)
    rw [cdf_s ih.1 (by have : (32 : Int) ^ 10 = 1125899906842624 := by decide
                       omega) hk, Int.pow_succ]
    omega
theorem cdf_inj {d c : Nat → Int} : ∀ n l : Nat, n ≤ 10 → l ≤ 10 → ldg d n → ldg c l → cdf d n = cdf c l → n = l ∧ ∀ i, i < n → d i = c i
  | 0, 0, _, _, _, _, _ => ⟨rfl, fun i hi => by omega⟩
  | 0, l + 1, _, hl, _, hc, h => by
    have a := cdf_lt l (by omega) (fun i hi => hc i (by omega))
    have b := hc l (by omega)
    have hp : (32 : Int) ^ l ≤ 32 ^ 10 := by
      have := Nat.pow_le_pow_right (show 0 < 32 by decide) (show l ≤ 10 by omega)
      exact_mod_cast this
    rw [cdf_s a.1 (by have : (32 : Int) ^ 10 = 1125899906842624 := by decide
                      omega) b] at h
    have : cdf d 0 = 0 := rfl
    omega
  | n + 1, 0, hn, _, hd, _, h => by
    have a := cdf_lt n (by omega) (fun i hi => hd i (by omega))
    have b := hd n (by omega)
    have hp : (32 : Int) ^ n ≤ 32 ^ 10 := by
      have := Nat.pow_le_pow_right (show 0 < 32 by decide) (show n ≤ 10 by omega)
      exact_mod_cast this
    rw [cdf_s a.1 (by have : (32 : Int) ^ 10 = 1125899906842624 := by decide
                      omega) b] at h
    have : cdf c 0 = 0 := rfl
    omega
  | n + 1, l + 1, hn, hl, hd, hc, h => by
    have a1 := cdf_lt n (by omega) (fun i hi => hd i (by omega))
    have b1 := hd n (by omega)
    have a2 := cdf_lt l (by omega) (fun i hi => hc i (by omega))
    have b2 := hc l (by omega)
    have hp : (32 : Int) ^ n ≤ 32 ^ 10 := by
      have := Nat.pow_le_pow_right (show 0 < 32 by decide) (show n ≤ 10 by omega)
      exact_mod_cast this
    have hq : (32 : Int) ^ l ≤ 32 ^ 10 := by
      have := Nat.pow_le_pow_right (show 0 < 32 by decide) (show l ≤ 10 by omega)
      exact_mod_cast this
    have h10 : (32 : Int) ^ 10 = 1125899906842624 := by decide
    rw [cdf_s a1.1 (by omega) b1, cdf_s a2.1 (by omega) b2] at h
    obtain ⟨r1, r2⟩ := cdf_inj n l (by omega) (by omega) (fun i hi => hd i (by omega)) (fun i hi => hc i (by omega)) (by omega)
    subst r1
    refine ⟨rfl, fun i hi => ?_⟩
    by_cases e : i = n
    · subst e; omega
    · exact r2 i (by omega)
theorem cdf_big {d : Nat → Int} : ∀ n : Nat, 7 ≤ n → ldg d n → 1073741824 ≤ cdf d n
  | 0, h, _ => by omega
  | n + 1, h, hd => by
    by_cases e : n = 6
    · subst e
      have a := cdf_lt 6 (by omega) (fun i hi => hd i (by omega))
      have b0 := hd 0 (by omega)
      have b1 := hd 1 (by omega)
      have b2 := hd 2 (by omega)
      have b3 := hd 3 (by omega)
      have b4 := hd 4 (by omega)
      have b5 := hd 5 (by omega)
      have b6 := hd 6 (by omega)
      have c0 : cdf d 0 = 0 := rfl
      have c1 : cdf d 1 = 32 * cdf d 0 + d 0 := cdf_s (d := d) (k := 0) (by omega) (by omega) b0
      have c2 : cdf d 2 = 32 * cdf d 1 + d 1 := cdf_s (d := d) (k := 1) (by omega) (by omega) b1
      have c3 : cdf d 3 = 32 * cdf d 2 + d 2 := cdf_s (d := d) (k := 2) (by omega) (by omega) b2
      have c4 : cdf d 4 = 32 * cdf d 3 + d 3 := cdf_s (d := d) (k := 3) (by omega) (by omega) b3
      have c5 : cdf d 5 = 32 * cdf d 4 + d 4 := cdf_s (d := d) (k := 4) (by omega) (by omega) b4
      have c6 : cdf d 6 = 32 * cdf d 5 + d 5 := cdf_s (d := d) (k := 5) (by omega) (by omega) b5
      have c7 : cdf d 7 = 32 * cdf d 6 + d 6 := cdf_s (d := d) (k := 6) (by omega) (by omega) b6
      show 1073741824 ≤ cdf d 7
      omega
    · have ih := cdf_big n (by omega) (fun i hi => hd i (by omega))
      have b := hd n (by omega)
      by_cases q : cdf d n ≤ 36028797018963967
      · rw [cdf_s (by omega) q b]
        omega
      · show 1073741824 ≤ (if cdf d n ≤ 36028797018963967 then w64 (w64 (32 * cdf d n) + d n) else cdf d n)
        rw [if_neg q]
        exact ih
def wco (k : Nat) : Int := cdf (fun i => wch k i - 96) (wln k)
theorem wdl {k : Nat} (hk : k < 14) : ldg (fun i => wch k i - 96) (wln k) := fun i hi => by
  have h1 := wln_b k hk
  have := wch_b k hk i (by omega) hi
  show 1 ≤ wch k i - 96 ∧ wch k i - 96 ≤ 26
  omega
theorem wco_b {k : Nat} (hk : k < 14) : 0 < wco k ∧ wco k < 1073741824 := by
  have h1 := wln_b k hk
  have a := cdf_lt (wln k) (by omega) (wdl hk)
  have hp : (32 : Int) ^ (wln k) ≤ 32 ^ 6 := by
    have := Nat.pow_le_pow_right (show 0 < 32 by decide) (show wln k ≤ 6 by omega)
    exact_mod_cast this
  have h6 : (32 : Int) ^ 6 = 1073741824 := by decide
  unfold wco
  refine ⟨?_, by omega⟩
  rcases Int.lt_or_eq_of_le a.1 with h | h
  · exact h
  · have := (cdf_inj (d := fun i => wch k i - 96) (c := fun i => wch k i - 96) (wln k) 0 (by omega) (by omega) (wdl hk) (fun i hi => by omega) h.symm).1
    omega
theorem J_word {A B : cM} {L s e k0 : Nat} (hK : TKR A B L s e) (hw : B 100 16 = 0) (hk : k0 < 14) : wcd B L s e = wco k0 ↔ isW B L s e k0 = true := by
  have hb := hK.b
  have hwb := wco_b hk
  have hln := wln_b k0 hk
  unfold wcd isW
  by_cases q : tkt (tyB B) L s = 1
  · have hsL : s < L := by
      by_cases z : s < L
      · exact z
      · unfold tkt at q; rw [if_neg z] at q; cases q
    have ht : tyB B s = 1 := by unfold tkt at q; rw [if_pos hsL] at q; exact q
    have eb : bya B L s = B 109 s := by unfold bya; rw [if_pos hsL]
    have hall : ∀ i, i < e - s → 97 ≤ B 109 ((s + i : Nat) : Int) ∧ B 109 ((s + i : Nat) : Int) ≤ 122 := fun i hi => by
      have h1 := hK.2.2.2.2
      have h2 := tke_all (tyB B) hsL (Or.inl ht) (show s ≤ s + i by omega) (by omega)
      rw [ht] at h2
      unfold tyB tyo at h2
      by_cases z : 97 ≤ B 109 ((s + i : Nat) : Int) ∧ B 109 ((s + i : Nat) : Int) ≤ 122
      · exact z
      · rw [if_neg z] at h2
        split at h2
        · cases h2
        · split at h2 <;> cases h2
    have hd : ldg (fun i => B 109 ((s + i : Nat) : Int) - 96) (e - s) := fun i hi => by
      have := hall i hi
      show 1 ≤ B 109 ((s + i : Nat) : Int) - 96 ∧ B 109 ((s + i : Nat) : Int) - 96 ≤ 26
      omega
    rw [if_pos ⟨hw, by rw [eb]; exact ht⟩, decide_eq_true q, Bool.true_and, Bool.and_eq_true, decide_eq_true_eq, alN_iff]
    constructor
    · intro h
      by_cases n7 : e - s ≤ 10
      · obtain ⟨r1, r2⟩ := cdf_inj (e - s) (wln k0) n7 (by omega) hd (wdl hk) h
        refine ⟨by omega, fun i hi => decide_eq_true ?_⟩
        have := r2 i (by omega)
        omega
      · have := cdf_big (e - s) (by omega) hd
        omega
    · intro h
      have e1 : e - s = wln k0 := by omega
      rw [e1]
      unfold wco
      have : ∀ n, n ≤ wln k0 → cdf (fun i => B 109 ((s + i : Nat) : Int) - 96) n = cdf (fun i => wch k0 i - 96) n := by
        intro n
        induction n with
        | zero => intro _; rfl
        | succ n ih =>
          intro hn
          unfold cdf
          rw [ih (by omega), of_decide_eq_true (h.2 n (by omega))]
      exact this _ (Nat.le_refl _)
  · rw [decide_eq_false q, Bool.false_and, Bool.false_and]
    have : ¬ (B 100 16 = 0 ∧ tyo (bya B L s) = 1) := fun z => by
      have z2 := z.2
      unfold bya at z2
      by_cases y : s < L
      · rw [if_pos y] at z2
        exact q (by unfold tkt; rw [if_pos y]; exact z2)
      · rw [if_neg y] at z2
        exact absurd z2 (by decide)
    rw [if_neg this]
    constructor
    · intro h; omega
    · intro h; cases h
