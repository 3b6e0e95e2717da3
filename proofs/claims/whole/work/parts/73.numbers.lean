/-! Numbers on both readers; taking words. -/
def nvc (b : Nat → Int) : Nat → Int
  | 0 => 0
  | k + 1 => if nvc b k * 10 + b k - 48 < 10000 then nvc b k * 10 + b k - 48 else 10000
def nvm (b : Nat → Int) : Nat → Int
  | 0 => 0
  | k + 1 => if nvm b k ≤ 9999 then 10 * nvm b k + b k - 48 else nvm b k
def dig (b : Nat → Int) (n : Nat) : Prop := ∀ i, i < n → 48 ≤ b i ∧ b i ≤ 57
theorem nv_rel {b : Nat → Int} : ∀ n : Nat, dig b n → (0 ≤ nvm b n ∧ nvm b n ≤ 9999 ∧ nvc b n = nvm b n) ∨ (10000 ≤ nvm b n ∧ nvm b n ≤ 100000 ∧ nvc b n = 10000)
  | 0, _ => Or.inl ⟨Int.le_refl _, by show (0 : Int) ≤ 9999; decide, rfl⟩
  | n + 1, h => by
    have ih := nv_rel n (fun i hi => h i (by omega))
    have hb := h n (by omega)
    have e1 : nvc b (n + 1) = if nvc b n * 10 + b n - 48 < 10000 then nvc b n * 10 + b n - 48 else 10000 := rfl
    have e2 : nvm b (n + 1) = if nvm b n ≤ 9999 then 10 * nvm b n + b n - 48 else nvm b n := rfl
    rw [e1, e2]
    rcases ih with ⟨a1, a2, a3⟩ | ⟨a1, a2, a3⟩
    · rw [if_pos a2]
      by_cases q : nvc b n * 10 + b n - 48 < 10000
      · rw [if_pos q]; omega
      · rw [if_neg q]; omega
    · rw [if_neg (show ¬ nvm b n ≤ 9999 by omega), if_neg (by omega)]
      omega
def byf (B : cM) (s : Nat) (i : Nat) : Int := B 109 ((s + i : Nat) : Int)
theorem L_numH {Q : Int → cM → Prop} {A B X : cM} {L s e : Nat} (hK : TKR A B L s e) (hd : dig (byf B s) (e - s)) (H : Q (nvc (byf B s) (e - s)) (mx A X)) : ∀ (m k : Nat), s + k + m = e → F_xq_numberAtHand_7 Q (m + 1) (nvc (byf B s) k) ((s + k : Nat) : Int) (mx A X) := by
  have hb := hK.b
  intro m
  induction m with
  | zero =>
    intro k hk
    unfold F_xq_numberAtHand_7
    rw [mx_lt (by decide), hK.2.1.2.1, if_pos (by omega)]
    rw [show e - s = k by omega] at H; exact H
  | succ m ih =>
    intro k hk
    have ih1 := ih (k + 1) (by omega)
    have hr := nv_rel k (fun i hi => hd i (by omega))
    have hdk := hd k (by omega)
    have ea : A 71 ((s + k : Nat) : Int) = byf B s k := by
      have h1 := hK.1.2 (s + k) (by omega)
      unfold byf at hdk ⊢
      omega
    have e1 : nvc (byf B s) (k + 1) = if nvc (byf B s) k * 10 + byf B s k - 48 < 10000 then nvc (byf B s) k * 10 + byf B s k - 48 else 10000 := rfl
    unfold F_xq_numberAtHand_7 F_xj_Math_min
    rw [mx_lt (by decide), hK.2.1.2.1, if_neg (by omega), mx_lt (by decide), ea, wE (by omega), w32_e (x := nvc (byf B s) k * 10) (by omega) (by omega), w32_e (x := nvc (byf B s) k * 10 + byf B s k) (by omega) (by omega), w32_e (x := nvc (byf B s) k * 10 + byf B s k - 48) (by omega) (by omega)]
    refine ⟨by omega, ?_⟩
    rw [e1] at ih1
    by_cases q : nvc (byf B s) k * 10 + byf B s k - 48 < 10000
    · rw [if_pos q] at ih1 ⊢; exact ih1
    · rw [if_neg q] at ih1 ⊢; exact ih1
theorem L_numM {Q : cM → Prop} {B X : cM} {lo hi : Int} {L s e : Nat} (h12 : B 100 12 = L) (hL : L ≤ 120) (h14 : B 100 14 = e) (hse : s ≤ e) (heL : e ≤ L) (hd : dig (byf B s) (e - s)) (H : F_xm_number_79 Q lo hi 1 (nvm (byf B s) (e - s)) (mx X B)) : ∀ (m k : Nat), s + k + m = e → F_xm_number_29 Q (m + 1) lo hi 1 (nvm (byf B s) k) ((s + k : Nat) : Int) (mx X B) := by
  intro m
  induction m with
  | zero =>
    intro k hk
    unfold F_xm_number_29
    rw [mx_ge (by decide), h14, if_pos (by omega)]
    rw [show e - s = k by omega] at H; exact H
  | succ m ih =>
    intro k hk
    have ih1 := ih (k + 1) (by omega)
    have hr := nv_rel k (fun i hi => hd i (by omega))
    have hdk := hd k (by omega)
    have e1 : nvm (byf B s) (k + 1) = if nvm (byf B s) k ≤ 9999 then 10 * nvm (byf B s) k + byf B s k - 48 else nvm (byf B s) k := rfl
    unfold F_xm_number_29 F_xm_number_71
    rw [mx_ge (by decide), h14, if_neg (by omega), if_neg (by decide), mx_ge (by decide), show B 109 ((s + k : Nat) : Int) = byf B s k from rfl, wE (by omega)]
    rw [e1] at ih1
    by_cases q : nvm (byf B s) k ≤ 9999
    · rw [if_pos q] at ih1
      rw [if_pos q, w32_e (x := 10 * nvm (byf B s) k) (by omega) (by omega), w32_e (x := 10 * nvm (byf B s) k + byf B s k) (by omega) (by omega), w32_e (x := 10 * nvm (byf B s) k + byf B s k - 48) (by omega) (by omega)]
      exact ⟨by omega, ih1⟩
    · rw [if_neg q] at ih1 ⊢; exact ih1
theorem TKR.wB {A B : cM} {L s e : Nat} {j v : Int} (h : TKR A B L s e) (hj : j = 15 ∨ j = 16) : TKR A (wr B 100 j v) L s e :=
  h.kpB (fun j' => wr_ne (by decide)) (fun j' hj' => wr_nj (by omega))
theorem J_number {A B : cM} {L s e : Nat} {most : Int} (hK : TKR A B L s e) (hw : B 100 16 = 0) (hm : -1 ≤ most ∧ most ≤ 1000) :
    (∃ (A' B' : cM) (r : Int) (s' e' : Nat), 0 ≤ r ∧ r ≤ most ∧ xr (fun Q M => F_xq_takeNumber Q most M) A A' r ∧ yq (fun Q M => F_xm_number Q 0 most M) B B' ∧ TKR A' B' L s' e' ∧ s < s' ∧ fA A A' ∧ fB B B' ∧ B' 100 15 = r ∧ B' 100 16 = 0) ∨
    (xr (fun Q M => F_xq_takeNumber Q most M) A A (-1) ∧ ∃ B' : cM, yq (fun Q M => F_xm_number Q 0 most M) B B' ∧ B' 100 13 = s ∧ B' 100 14 = e ∧ B' 100 16 = 1 ∧ fB B B') := by
  have hb := hK.b
  obtain ⟨hT, ⟨k4, k5, k13, k14⟩, k3, hsL, he⟩ := id hK
  have ebya : tyo (bya B L s) = 2 ↔ tkt (tyB B) L s = 2 := by
    unfold bya tkt
    by_cases z : s < L
    · rw [if_pos z, if_pos z]; exact Iff.rfl
    · rw [if_neg z, if_neg z]
      constructor
      · intro h; exact absurd h (by decide)
      · intro h; exact absurd h (by decide)
  by_cases q : tkt (tyB B) L s = 2
  rotate_left
  · right
    refine ⟨fun X Q hX H => ?_, wr (wr B 100 15 0) 100 16 1, fun X Q H => ?_, ?_, ?_, wr_eq, ((fB.rf B).w (by decide)).w (by decide)⟩
    · show F_xq_takeNumber Q most (mx A X)
      unfold F_xq_takeNumber F_xq_takeNumber_16 F_xq_takeNumber_26
      rw [mx_lt (by decide), k3, if_neg q, if_pos (by decide)]
      exact H
    · show F_xm_number Q 0 most (mx X B)
      unfold F_xm_number
      rw [mx_ge (by decide), if_pos hw, mx_ge (by decide), k13, E_byteAt (L := L) (by rw [mx_ge (by decide)]; exact hT.1.2.1) hT.1.2.2, E_isDigit, show bya (mx X B) L s = bya B L s by unfold bya; rw [mx_ge (by decide)], if_neg (fun z => q (ebya.mp z)), mx_ge (by decide), k13]
      refine ⟨1, ?_⟩
      have e79 : F_xm_number_79 Q 0 most 0 0 (mx X B) := by
        unfold F_xm_number_79 F_xm_number_107 F_xm_number_108
        rw [if_pos rfl, mx_wr (by decide)]
        exact Y_needs0 (B := wr B 100 15 0) (by rw [wr_nj (by decide)]; exact hw) X Q H
      unfold F_xm_number_29
      rw [mx_ge (by decide), k14]
      by_cases z : (e : Int) ≤ (s : Int)
      · rw [if_pos z]; exact e79
      · rw [if_neg z, if_pos rfl]; exact e79
    · rw [wr_nj (by decide), wr_nj (by decide)]; exact k13
    · rw [wr_nj (by decide), wr_nj (by decide)]; exact k14
  have hs1 : s < L := by
    by_cases z : s < L
    · exact z
    · unfold tkt at q; rw [if_neg z] at q; cases q
  have ht : tyB B s = 2 := by unfold tkt at q; rw [if_pos hs1] at q; exact q
  have hd : dig (byf B s) (e - s) := fun i hi => by
    have h2 := tke_all (tyB B) hs1 (Or.inr ht) (show s ≤ s + i by omega) (by omega)
    rw [ht] at h2
    unfold tyB tyo at h2
    unfold byf
    by_cases z : 97 ≤ B 109 ((s + i : Nat) : Int) ∧ B 109 ((s + i : Nat) : Int) ≤ 122
    · rw [if_pos z] at h2; cases h2
    · rw [if_neg z] at h2
      by_cases y : 48 ≤ B 109 ((s + i : Nat) : Int) ∧ B 109 ((s + i : Nat) : Int) ≤ 57
      · exact y
      · rw [if_neg y] at h2
        split at h2 <;> cases h2
  have hr := nv_rel (e - s) hd
  have cls : ∀ (X : cM) (Q : Int → cM → Prop), F_xq_takeNumber_16 Q most (nvc (byf B s) (e - s)) (mx A X) → F_xq_takeNumber Q most (mx A X) := by
    intro X Q H
    unfold F_xq_takeNumber F_xq_numberAtHand
    rw [mx_lt (by decide), k3, if_pos q, mx_lt (by decide), k4]
    exact ⟨_, L_numH (Q := fun x8 M7 => F_xq_takeNumber_16 Q most x8 M7) hK hd H (e - s) 0 (by omega)⟩
  have mdl : ∀ (X : cM) (Q : cM → Prop), F_xm_number_79 Q 0 most 1 (nvm (byf B s) (e - s)) (mx X B) → F_xm_number Q 0 most (mx X B) := by
    intro X Q H
    unfold F_xm_number
    rw [mx_ge (by decide), if_pos hw, mx_ge (by decide), k13, E_byteAt (L := L) (by rw [mx_ge (by decide)]; exact hT.1.2.1) hT.1.2.2, E_isDigit, show bya (mx X B) L s = bya B L s by unfold bya; rw [mx_ge (by decide)], if_pos (ebya.mpr q), mx_ge (by decide), k13]
    exact ⟨_, L_numM hT.1.2.1 hT.1.2.2 k14 hb.1 hb.2.1 hd H (e - s) 0 (by omega)⟩
  by_cases hm2 : nvm (byf B s) (e - s) ≤ most
  · left
    have ec : nvc (byf B s) (e - s) = nvm (byf B s) (e - s) := by omega
    have hK1 : TKR A (wr B 100 15 (nvm (byf B s) (e - s))) L s e := hK.wB (Or.inl rfl)
    obtain ⟨A', B', s', n1, n2, n3, n4, n5, n6, n7, n8, n9⟩ := J_next hK1.1 k5 (by rw [wr_nj (by decide)]; exact k14) hb.2.1
    refine ⟨A', B', nvm (byf B s) (e - s), s', _, by omega, hm2, fun X Q hX H => ?_, fun X Q H => ?_, n3, by have := hb.2.2.2 hs1; omega, n6, ((fB.rf B).w (by decide)).tr n7, by rw [n9, wr_eq], by rw [n8, wr_nj (by decide)]; exact hw⟩
    · refine cls X Q ?_
      unfold F_xq_takeNumber_16
      rw [ec, if_neg (by omega), if_pos hm2]
      exact n1 X _ hX H
    · refine mdl X Q ?_
      unfold F_xm_number_79 F_xm_number_108
      rw [if_neg (by decide), E_xm_in, ite01, if_pos ⟨by omega, hm2⟩, mx_wr (by decide)]
      exact Y_needs1 (B := wr B 100 15 (nvm (byf B s) (e - s))) (by rw [wr_nj (by decide)]; exact hw) n2 X _ H
  · right
    refine ⟨fun X Q hX H => ?_, wr (wr B 100 15 (nvm (byf B s) (e - s))) 100 16 1, fun X Q H => ?_, ?_, ?_, wr_eq, ((fB.rf B).w (by decide)).w (by decide)⟩
    · refine cls X Q ?_
      unfold F_xq_takeNumber_16 F_xq_takeNumber_26
      rw [if_neg (by omega), if_neg (by omega)]
      exact H
    · refine mdl X Q ?_
      unfold F_xm_number_79 F_xm_number_107 F_xm_number_108
      rw [if_neg (by decide), E_xm_in, ite01, if_neg (fun z => hm2 z.2), mx_wr (by decide)]
      exact Y_needs0 (B := wr B 100 15 (nvm (byf B s) (e - s))) (by rw [wr_nj (by decide)]; exact hw) X _ H
    · rw [wr_nj (by decide), wr_nj (by decide)]; exact k13
    · rw [wr_nj (by decide), wr_nj (by decide)]; exact k14
theorem Y_numberW {B : cM} (h : B 100 16 = 1) (lo hi : Int) : yq (fun Q M => F_xm_number Q lo hi M) B B := fun X Q H => by
  show F_xm_number Q lo hi (mx X B)
  unfold F_xm_number
  rw [mx_ge (by decide), if_neg (by omega)]
  exact H
/-- the model's word where its reader stands well -/
theorem K_word {Q : Int → cM → Prop} {A B X : cM} {L s e : Nat} (hK : TKR A B L s e) (H : Q (wcd B L s e) (mx X B)) : F_xm_word Q (mx X B) := by
  have hb := hK.b
  refine Y_word hK.1.1.2.1 hK.1.1.2.2 hK.2.1.2.2.1 hK.2.1.2.2.2 hb.1 hb.2.1 (fun k hk => ?_) H
  have h1 := hK.1.2 k hk
  exact h1.2.2.2
/-- where the model's reader stands, the text being wrong -/
def BW (B : cM) (L f e : Nat) : Prop := B 100 12 = L ∧ L ≤ 120 ∧ B 100 13 = f ∧ B 100 14 = e ∧ f ≤ e ∧ e ≤ L ∧ (∀ k : Nat, k < L → 0 ≤ B 109 k ∧ B 109 k < 256) ∧ B 100 16 = 1
theorem W_word {Q : Int → cM → Prop} {B X : cM} {L f e : Nat} (hK : BW B L f e) (H : Q 0 (mx X B)) : F_xm_word Q (mx X B) := by
  obtain ⟨a1, a2, a3, a4, a5, a6, a7, a8⟩ := hK
  refine Y_word a1 a2 a3 a4 a5 a6 a7 ?_
  unfold wcd
  rw [if_neg (fun z => by have := z.1; omega)]
  exact H
theorem TKR.bw {A B B' : cM} {L s e : Nat} (hK : TKR A B L s e) (hf : fB B B') (h13 : B' 100 13 = s) (h14 : B' 100 14 = e) (h16 : B' 100 16 = 1) : BW B' L s e := by
  have hb := hK.b
  refine ⟨by rw [hf 100 12 (by omega)]; exact hK.1.1.2.1, hb.2.2.1, h13, h14, hb.1, hb.2.1, fun k hk => ?_, h16⟩
  rw [hf 109 _ (by omega)]
  have h1 := hK.1.2 k hk
  exact h1.2.2.2
theorem E_wcmp {x : Int} {k : Nat} {c : Int} (hc : wco k = c) : zlcmp x c = 0 ↔ x = wco k := by
  unfold zlcmp
  rw [hc]
  by_cases h1 : c < x
  · rw [if_pos h1]; omega
  · rw [if_neg h1]
    by_cases h2 : x = c
    · rw [if_pos h2]; omega
    · rw [if_neg h2]; omega
theorem X_tWy {A A' B : cM} {L s e k0 : Nat} (hK : TKR A B L s e) (hk : k0 < 14) (h : isW B L s e k0 = true) (hn : xq F_xq_next A A') : xr (fun Q M => F_xq_takeWord Q k0 M) A A' 1 := fun X Q hX H => by
  show F_xq_takeWord Q k0 (mx A X)
  unfold F_xq_takeWord
  refine X_isWord hX hK hk ?_
  rw [ite01, if_pos h]
  refine hn X _ hX ?_
  rw [narK41]
  exact H
theorem X_tWn {A B : cM} {L s e k0 : Nat} (hK : TKR A B L s e) (hk : k0 < 14) (h : ¬ isW B L s e k0 = true) : xr (fun Q M => F_xq_takeWord Q k0 M) A A 0 := fun X Q hX H => by
  show F_xq_takeWord Q k0 (mx A X)
  unfold F_xq_takeWord
  refine X_isWord hX hK hk ?_
  rw [ite01, if_neg h, narK40]
  exact H
