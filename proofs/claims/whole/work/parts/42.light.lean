/-! Light through rows of sheets, on both sides. -/
def thr (f : Nat → Int × Int → Int × Int) : Nat → Int × Int → Int × Int
  | 0, l => l
  | n + 1, l => f n (thr f n l)
theorem thr_ok {f : Nat → Int × Int → Int × Int} {l : Int × Int} (h0 : lok l.1 l.2) : ∀ n : Nat, (∀ i, i < n → ∀ x : Int × Int, lok x.1 x.2 → lok (f i x).1 (f i x).2) → lok (thr f n l).1 (thr f n l).2
  | 0, _ => h0
  | n + 1, h => h n (Nat.lt_succ_self n) _ (thr_ok h0 n (fun i hi => h i (Nat.lt_succ_of_lt hi)))
theorem thr_eq {f g : Nat → Int × Int → Int × Int} {l : Int × Int} : ∀ n : Nat, (∀ i, i < n → ∀ x : Int × Int, f i x = g i x) → thr f n l = thr g n l
  | 0, _ => rfl
  | n + 1, h => by
    show f n (thr f n l) = g n (thr g n l)
    rw [thr_eq n (fun i hi => h i (Nat.lt_succ_of_lt hi)), h n (Nat.lt_succ_self n)]
/-- one sheet, by its data -/
def stp (kd tn ps ld bh : Int) (l : Int × Int) : Int × Int := (goS kd (goT kd tn ld bh) ps l.1 l.2, goL kd (goT kd tn ld bh) l.2)
theorem stp_ok {kd tn ps ld bh : Int} {l : Int × Int} (h : lok l.1 l.2) (ht : 0 ≤ tn ∧ tn ≤ 11) (hp : 0 ≤ ps ∧ ps ≤ 1000) : lok (stp kd tn ps ld bh l).1 (stp kd tn ps ld bh l).2 := go_ok h (goT_b ht) hp
def xst (M : cM) (b bh k : Int) (l : Int × Int) : Int × Int := stp (M (b + 1) k) (M (b + 2) k) (M (b + 3) k) (M b 4) bh l
theorem xst_ok {M : cM} {b bh k : Int} {l : Int × Int} (h : lok l.1 l.2) (hk : shok M b k) : lok (xst M b bh k l).1 (xst M b bh k l).2 := stp_ok h hk.2.2.2.1 hk.2.2.2.2.1
theorem E_bS {Q : Int → cM → Prop} {b k bh : Int} {l : Int × Int} {M : cM} (hT : cosT M) (h : lok l.1 l.2) (hk : shok M b k) : F_xg_behindSheet Q b k bh (enc l.1 l.2) M = Q (enc (xst M b bh k l).1 (xst M b bh k l).2) M := E_behindSheet hT h hk
def encp (l : Int × Int) : Int := enc l.1 l.2
/-- the sheet that comes i-th -/
def gsx (M : cM) (c ht bh : Int) (i : Nat) : Int := if bh = 0 then M c i else M c (ht - 1 - i)
theorem L_behindStack {Q : Int → cM → Prop} {b st bh ht : Int} {l : Int × Int} {M : cM} (hT : cosT M) (hst : 0 ≤ st ∧ st < 4) (hht : 0 ≤ ht ∧ ht ≤ 6) (hsh : ∀ i, 0 ≤ i → i < ht → shok M b (M (b + 5 + st) i)) (h : lok l.1 l.2)
    (H : Q (encp (thr (fun i => xst M b bh (gsx M (b + 5 + st) ht bh i)) ht.toNat l)) M) : ∀ (m n : Nat), (n : Int) + m = ht → F_xg_behindStack_14 Q b (m + 1) st bh ht (encp (thr (fun i => xst M b bh (gsx M (b + 5 + st) ht bh i)) n l)) n M := by
  have hg : ∀ i : Nat, (i : Int) < ht → shok M b (gsx M (b + 5 + st) ht bh i) := by
    intro i hi
    unfold gsx
    split
    · exact hsh _ (by omega) hi
    · exact hsh _ (by omega) (by omega)
  have hok : ∀ n : Nat, (n : Int) ≤ ht → lok (thr (fun i => xst M b bh (gsx M (b + 5 + st) ht bh i)) n l).1 (thr (fun i => xst M b bh (gsx M (b + 5 + st) ht bh i)) n l).2 := fun n hn => thr_ok h n (fun i hi x hx => xst_ok hx (hg i (by omega)))
  intro m
  induction m with
  | zero =>
    intro n hn
    unfold F_xg_behindStack_14
    rw [if_pos (by omega)]
    have e : ht.toNat = n := by omega
    rw [e] at H
    exact H
  | succ m ih =>
    intro n hn
    unfold F_xg_behindStack_14
    rw [if_neg (by omega)]
    refine ⟨hst, ?_⟩
    have key : ∀ s, M (b + 5 + st) s = gsx M (b + 5 + st) ht bh n → 0 ≤ s ∧ s < 6 → F_xg_behindStack_44 Q (F_xg_behindStack_14 Q b (m + 1)) b st bh ht (encp (thr (fun i => xst M b bh (gsx M (b + 5 + st) ht bh i)) n l)) n s (b + 5 + st) M := by
      intro s hs hs6
      unfold F_xg_behindStack_44
      refine ⟨hs6, ?_⟩
      rw [hs]
      unfold encp
      rw [E_bS hT (hok n (by omega)) (hg n (by omega)), w32_e (by omega) (by omega)]
      exact ih (n + 1) (by omega)
    by_cases hb : bh = 0
    · rw [if_pos hb]
      exact key _ (by unfold gsx; rw [if_pos hb]) (by omega)
    · rw [if_neg hb, w32_e (x := ht - 1) (by omega) (by omega), w32_e (by omega) (by omega)]
      exact key _ (by unfold gsx; rw [if_neg hb]) (by omega)
/-- a stack of a scene is in range -/
def stok (M : cM) (b st : Int) : Prop := (0 ≤ st ∧ st < 4) ∧ (0 ≤ M (b + 9) st ∧ M (b + 9) st ≤ 6) ∧ ∀ i, 0 ≤ i → i < M (b + 9) st → shok M b (M (b + 5 + st) i)
/-- the light behind a stack -/
def xth (M : cM) (b st bh : Int) (l : Int × Int) : Int × Int := thr (fun i => xst M b bh (gsx M (b + 5 + st) (M (b + 9) st) bh i)) (M (b + 9) st).toNat l
theorem xth_ok {M : cM} {b st bh : Int} {l : Int × Int} (hs : stok M b st) (h : lok l.1 l.2) : lok (xth M b st bh l).1 (xth M b st bh l).2 := by
  refine thr_ok h _ (fun i hi x hx => xst_ok hx ?_)
  unfold gsx
  obtain ⟨-, h2, h3⟩ := hs
  split
  · exact h3 _ (by omega) (by omega)
  · exact h3 _ (by omega) (by omega)
theorem X_behindStack {Q : Int → cM → Prop} {b st bh : Int} {l : Int × Int} {M : cM} (hT : cosT M) (hs : stok M b st) (h : lok l.1 l.2) (H : Q (encp (xth M b st bh l)) M) : F_xg_behindStack Q b st bh (encp l) M := by
  unfold F_xg_behindStack
  obtain ⟨h1, h2, h3⟩ := hs
  exact ⟨h1, _, L_behindStack hT h1 h2 h3 h H (M (b + 9) st).toNat 0 (by omega)⟩
def lampP (M : cM) (b : Int) : Int × Int := (M b 5, M b 6)
theorem X_frontLight {Q : Int → cM → Prop} {b st : Int} {M : cM} (hT : cosT M) (hs : stok M b st) (h : lok (M b 5) (M b 6)) (H : Q (encp (xth M b st 0 (lampP M b))) M) : F_xg_frontLight Q b st M := by
  unfold F_xg_frontLight
  rw [E_xs_lamp h]
  exact X_behindStack (l := lampP M b) hT hs h H
/-- the model's light: only the two fields change -/
def Lt (M M' : cM) : Prop := ∀ c j, ¬ (c = 100 ∧ (j = 6 ∨ j = 7)) → M' c j = M c j
theorem Lt.rf (M : cM) : Lt M M := fun _ _ _ => rfl
theorem Lt.tr {M M1 M2 : cM} (h : Lt M M1) (h' : Lt M1 M2) : Lt M M2 := fun c j hn => (h' c j hn).trans (h c j hn)
theorem Lt.w6 {M M1 : cM} {v : Int} (h : Lt M M1) : Lt M (wr M1 100 6 v) := fun c j hn => by rw [wr_at, if_neg (fun q => hn ⟨q.1, Or.inl q.2⟩)]; exact h c j hn
theorem Lt.w7 {M M1 : cM} {v : Int} (h : Lt M M1) : Lt M (wr M1 100 7 v) := fun c j hn => by rw [wr_at, if_neg (fun q => hn ⟨q.1, Or.inr q.2⟩)]; exact h c j hn
theorem Lt.at {M M1 : cM} (h : Lt M M1) {c : Int} (hc : c ≠ 100) (j : Int) : M1 c j = M c j := h c j (fun q => hc q.1)
/-- the model's light now -/
def ml (M : cM) : Int × Int := (M 100 6, M 100 7)
theorem E_xm_cos {Q : Int → cM → Prop} {a b : Int} {M : cM} (ha : 0 ≤ a ∧ a ≤ 11) (hb : 0 ≤ b ∧ b ≤ 11) : F_xm_cos Q a b M = Q (zcs (zdi a b)) M := by
  have key : ∀ s, F_xm_cos_24 Q s M = Q (zcs s) M := by
    intro s
    unfold F_xm_cos_24 zcs
    repeat' split
    all_goals rfl
  unfold F_xm_cos
  rw [w32_e (x := a - b) (by omega) (by omega), w32_e (by omega) (by omega), tmn (by omega)]
  unfold zdi
  by_cases h : (a - b + 12) % 12 ≤ 6
  · rw [if_pos h, if_neg (by omega), key]
  · rw [if_neg h, if_pos (by omega), key, w32_e (by omega) (by omega)]
theorem zsee_m {sh sl t : Int} (h : lok sh sl) : (if 0 ≤ sl then sh * zcs (zdi sl t) / 1000 else sh / 2) = zsee sh sl t := by
  unfold zsee
  obtain ⟨-, -, h3, -⟩ := h
  by_cases hm : sl = -1
  · rw [if_pos hm, if_neg (by omega)]
  · rw [if_neg hm, if_pos (by omega)]
theorem Y_seenAt {Q : Int → cM → Prop} {t : Int} {M : cM} (h : lok (M 100 6) (M 100 7)) (ht : 0 ≤ t ∧ t ≤ 11) : F_xm_seenAt Q t M = Q (zsee (M 100 6) (M 100 7) t) M := by
  unfold F_xm_seenAt
  rw [← zsee_m h]
  obtain ⟨h1, h2, h3, h4⟩ := h
  by_cases hm : 0 ≤ M 100 7
  · have hz := zcs_b (zdi (M 100 7) t)
    obtain ⟨e1, e2⟩ := mul_b h1 h2 hz.1 hz.2
    rw [if_pos hm, if_pos hm, E_xm_cos ⟨hm, h4⟩ ht, w32_e (x := M 100 6 * _) (by omega) (by omega), tdn e1, w32_e (by omega) (by omega)]
  · rw [if_neg hm, if_neg hm, tdn h1, w32_e (by omega) (by omega)]
theorem Y_filters {Q : cM → Prop} {t : Int} {M : cM} (h : lok (M 100 6) (M 100 7)) (ht : 0 ≤ t ∧ t ≤ 11) (H : ∀ M', Lt M M' → ml M' = (zsee (M 100 6) (M 100 7) t, t) → Q M') : F_xm_filters Q t M := by
  have key : ∀ v, v = zsee (M 100 6) (M 100 7) t → F_xm_filters_34 Q t v M := by
    intro v hv
    unfold F_xm_filters_34
    refine H _ (Lt.rf M).w6.w7 ?_
    unfold ml
    rw [wr_eq, wr_nj (by decide), wr_eq, hv]
  unfold F_xm_filters
  rw [← zsee_m h] at key
  obtain ⟨h1, h2, h3, h4⟩ := h
  by_cases hm : 0 ≤ M 100 7
  · have hz := zcs_b (zdi (M 100 7) t)
    obtain ⟨e1, e2⟩ := mul_b h1 h2 hz.1 hz.2
    rw [if_pos hm, E_xm_cos ⟨hm, h4⟩ ht, w32_e (x := M 100 6 * _) (by omega) (by omega), tdn e1, w32_e (by omega) (by omega)]
    exact key _ (by rw [if_pos hm])
  · rw [if_neg hm, tdn h1, w32_e (by omega) (by omega)]
    exact key _ (by rw [if_neg hm])
theorem Y_turns {Q : cM → Prop} {t : Int} {M : cM} (h : lok (M 100 6) (M 100 7)) (ht : 0 ≤ t ∧ t ≤ 30) (H : ∀ M', Lt M M' → ml M' = (M 100 6, if M 100 7 = -1 then -1 else (M 100 7 + t) % 12) → Q M') : F_xm_turns Q t M := by
  unfold F_xm_turns F_xm_turns_21
  obtain ⟨h1, h2, h3, h4⟩ := h
  have key : ∀ v, v = (if M 100 7 = -1 then -1 else (M 100 7 + t) % 12) → Q (wr M 100 7 v) := by
    intro v hv
    refine H _ (Lt.rf M).w7 ?_
    unfold ml
    rw [wr_eq, wr_nj (by decide), hv]
  by_cases hm : 0 ≤ M 100 7
  · rw [if_pos hm, w32_e (by omega) (by omega), tmn (by omega)]
    exact key _ (by rw [if_neg (by omega)])
  · rw [if_neg hm]
    exact key _ (by rw [if_pos (by omega)])
/-- the model's sheet k is in range -/
def mok (M : cM) (k : Int) : Prop := 0 ≤ k ∧ k < 10 ∧ (0 ≤ M 101 (14 + 3 * k) ∧ M 101 (14 + 3 * k) ≤ 6) ∧ (0 ≤ M 101 (15 + 3 * k) ∧ M 101 (15 + 3 * k) ≤ 11) ∧ (0 ≤ M 101 (16 + 3 * k) ∧ M 101 (16 + 3 * k) ≤ 1000) ∧ (0 ≤ M 101 1 ∧ M 101 1 ≤ 11)
def mst (M : cM) (bh k : Int) (l : Int × Int) : Int × Int := stp (M 101 (14 + 3 * k)) (M 101 (15 + 3 * k)) (M 101 (16 + 3 * k)) (M 101 1) bh l
theorem Y_goes {Q : cM → Prop} {k bh : Int} {M : cM} (h : lok (M 100 6) (M 100 7)) (hk : mok M k) (H : ∀ M', Lt M M' → ml M' = mst M bh k (ml M) → Q M') : F_xm_goes Q k bh M := by
  obtain ⟨k0, k1, kd, tn, ps, ld⟩ := hk
  obtain ⟨h1, h2, h3, h4⟩ := id h
  have key : ∀ t, t = (if bh = 0 then M 101 (15 + 3 * k) else (12 - M 101 (15 + 3 * k)) % 12) → F_xm_goes_44 Q k bh (M 101 (16 + 3 * k)) t M := by
    intro t ht
    have htb : 0 ≤ t ∧ t ≤ 11 := by rw [ht]; split <;> omega
    unfold mst stp ml at H
    unfold F_xm_goes_44
    rw [w32_e (x := 3 * k) (by omega) (by omega), w32_e (x := 14 + 3 * k) (by omega) (by omega)]
    refine ⟨by omega, ?_⟩
    have hz := zsee_b (t := t) h
    have gt : ∀ kd : Int, kd ≠ 6 → goT kd (M 101 (15 + 3 * k)) (M 101 1) bh = t := by
      intro kd hkd
      unfold goT
      rw [if_neg hkd]
      exact ht.symm
    by_cases e1 : M 101 (14 + 3 * k) = 1
    · rw [if_pos e1]
      refine Y_filters h htb (fun M' hL hm => H M' hL ?_)
      unfold ml at hm
      rw [hm, e1, gt 1 (by decide)]
      unfold goS goL
      simp
    rw [if_neg e1]
    by_cases e2 : M 101 (14 + 3 * k) = 2
    · rw [if_pos e2]
      refine Y_turns h (by omega) (fun M' hL hm => H M' hL ?_)
      unfold ml at hm
      rw [hm, e2, gt 2 (by decide)]
      unfold goS goL
      simp
    rw [if_neg e2]
    by_cases e3 : M 101 (14 + 3 * k) = 3
    · rw [if_pos e3]
      have key3 : ∀ v, v = (if M 100 7 = -1 then -1 else (2 * t - M 100 7) % 12) → F_xm_goes_138 Q v M := by
        intro v hv
        unfold F_xm_goes_138
        refine H _ (Lt.rf M).w7 ?_
        rw [wr_eq, wr_nj (by decide), hv, e3, gt 3 (by decide)]
        unfold goS goL
        simp
      by_cases hm : 0 ≤ M 100 7
      · rw [if_pos hm, w32_e (x := 2 * t) (by omega) (by omega), w32_e (x := 2 * t - M 100 7) (by omega) (by omega), w32_e (by omega) (by omega), tmn (by omega)]
        exact key3 _ (by rw [if_neg (by omega)]; omega)
      · rw [if_neg hm]
        exact key3 _ (by rw [if_pos (by omega)])
    rw [if_neg e3]
    by_cases e4 : M 101 (14 + 3 * k) = 4
    · rw [if_pos e4]
      obtain ⟨q1, q2⟩ := mul_b h1 h2 ps.1 ps.2
      refine H _ (Lt.rf M).w6 ?_
      rw [wr_eq, wr_nj (by decide), w32_e (x := M 100 6 * _) (by omega) (by omega), tdn q1, w32_e (by omega) (by omega), e4]
      unfold goS goL
      simp
    rw [if_neg e4]
    by_cases e5 : M 101 (14 + 3 * k) = 5
    · rw [if_pos e5]
      refine Y_filters h htb (fun M' hL hm => ?_)
      unfold ml at hm
      have m6 : M' 100 6 = zsee (M 100 6) (M 100 7) t := congrArg Prod.fst hm
      have m7 : M' 100 7 = t := congrArg Prod.snd hm
      obtain ⟨q1, q2⟩ := mul_b hz.1 (by omega) ps.1 ps.2
      refine H _ hL.w6 ?_
      rw [wr_eq, wr_nj (by decide), m6, m7, w32_e (x := zsee _ _ _ * _) (by omega) (by omega), tdn q1, w32_e (by omega) (by omega), e5, gt 5 (by decide)]
      unfold goS goL
      simp
    rw [if_neg e5]
    by_cases e6 : M 101 (14 + 3 * k) = 6
    · rw [if_pos e6]
      have key6 : ∀ v, 0 ≤ v ∧ v ≤ 30 → (∀ s : Int, (s + v) % 12 = (s + goT 6 (M 101 (15 + 3 * k)) (M 101 1) bh) % 12) → F_xm_turns (fun M19 => Q M19) v M := by
        intro v hv hmod
        refine Y_turns h hv (fun M' hL hm => H M' hL ?_)
        unfold ml at hm
        rw [hm, e6, hmod]
        unfold goS goL
        simp
      unfold F_xm_goes_209
      by_cases hb : bh = 0
      · rw [if_pos hb] at ht ⊢
        rw [w32_e (by omega) (by omega)]
        refine key6 _ (by omega) (fun s => ?_)
        unfold goT
        rw [if_pos hb, if_pos rfl, ht]
        omega
      · rw [if_neg hb] at ht ⊢
        rw [w32_e (x := 12 - M 101 1) (by omega) (by omega), w32_e (by omega) (by omega)]
        refine key6 _ (by omega) (fun s => ?_)
        unfold goT
        rw [if_neg hb, if_pos rfl, ht]
        omega
    rw [if_neg e6]
    refine H _ (Lt.rf M) ?_
    unfold goS goL
    simp [e1, e2, e3, e4, e5, e6]
  unfold F_xm_goes
  rw [w32_e (x := 3 * k) (by omega) (by omega), w32_e (x := 14 + 3 * k) (by omega) (by omega), w32_e (x := 14 + 3 * k + 1) (by omega) (by omega), w32_e (x := 14 + 3 * k + 2) (by omega) (by omega)]
  refine ⟨by omega, by omega, ?_⟩
  rw [show 14 + 3 * k + 1 = 15 + 3 * k by omega, show 14 + 3 * k + 2 = 16 + 3 * k by omega]
  by_cases hb : bh = 0
  · rw [if_pos hb]
    exact key _ (by rw [if_pos hb])
  · rw [if_neg hb, w32_e (by omega) (by omega), tmn (by omega)]
    exact key _ (by rw [if_neg hb])
theorem mst_ok {M : cM} {bh k : Int} {l : Int × Int} (h : lok l.1 l.2) (hk : mok M k) : lok (mst M bh k l).1 (mst M bh k l).2 := stp_ok h hk.2.2.2.1 hk.2.2.2.2.1
theorem mst_kp {M M' : cM} (h : ∀ j, M' 101 j = M 101 j) (bh k : Int) (l : Int × Int) : mst M' bh k l = mst M bh k l := by unfold mst; rw [h, h, h, h]
theorem mok_kp {M M' : cM} (h : ∀ j, M' 101 j = M 101 j) {k : Int} (hk : mok M k) : mok M' k := by unfold mok at *; rw [h, h, h, h]; exact hk
theorem E_xm_manyIn {Q : Int → cM → Prop} {k : Int} {M : cM} (h : 0 ≤ k ∧ k < 4) : F_xm_manyIn Q k M = Q (M 101 (44 + 7 * k)) M := by
  unfold F_xm_manyIn
  rw [w32_e (x := 7 * k) (by omega) (by omega), w32_e (by omega) (by omega)]
  simp only [show 0 ≤ 44 + 7 * k ∧ 44 + 7 * k < 82 from by omega, and_self, true_and]
theorem E_xm_sheetIn {Q : Int → cM → Prop} {k i : Int} {M : cM} (h : 0 ≤ k ∧ k < 4) (hi : 0 ≤ i ∧ i < 6) : F_xm_sheetIn Q k i M = Q (M 101 (45 + 7 * k + i)) M := by
  unfold F_xm_sheetIn
  rw [w32_e (x := 7 * k) (by omega) (by omega), w32_e (x := 44 + 7 * k) (by omega) (by omega), w32_e (x := 44 + 7 * k + 1) (by omega) (by omega), w32_e (by omega) (by omega), show 44 + 7 * k + 1 + i = 45 + 7 * k + i by omega]
  simp only [show 0 ≤ 45 + 7 * k + i ∧ 45 + 7 * k + i < 82 from by omega, and_self, true_and]
/-- the sheet that comes i-th, in the model -/
def gsm (M : cM) (k ht bh : Int) (i : Nat) : Int := if bh = 0 then M 101 (45 + 7 * k + i) else M 101 (45 + 7 * k + (ht - 1 - i))
def mtok (M : cM) (k : Int) : Prop := (0 ≤ k ∧ k < 4) ∧ (0 ≤ M 101 (44 + 7 * k) ∧ M 101 (44 + 7 * k) ≤ 6) ∧ ∀ i, 0 ≤ i → i < M 101 (44 + 7 * k) → mok M (M 101 (45 + 7 * k + i))
theorem L_goesThrough {Q : cM → Prop} {k bh ht : Int} {l : Int × Int} {M : cM} (hk : 0 ≤ k ∧ k < 4) (hht : 0 ≤ ht ∧ ht ≤ 6) (hsh : ∀ i, 0 ≤ i → i < ht → mok M (M 101 (45 + 7 * k + i))) (h : lok l.1 l.2)
    (H : ∀ M', Lt M M' → ml M' = thr (fun i => mst M bh (gsm M k ht bh i)) ht.toNat l → Q M') : ∀ (m n : Nat), (n : Int) + m = ht → ∀ M1, Lt M M1 → ml M1 = thr (fun i => mst M bh (gsm M k ht bh i)) n l → F_xm_goesThrough_9 Q (m + 1) k bh ht n M1 := by
  have hg : ∀ i : Nat, (i : Int) < ht → mok M (gsm M k ht bh i) := by
    intro i hi
    unfold gsm
    split
    · exact hsh _ (by omega) hi
    · exact hsh _ (by omega) (by omega)
  have hok : ∀ n : Nat, (n : Int) ≤ ht → lok (thr (fun i => mst M bh (gsm M k ht bh i)) n l).1 (thr (fun i => mst M bh (gsm M k ht bh i)) n l).2 := fun n hn => thr_ok h n (fun i hi x hx => mst_ok hx (hg i (by omega)))
  intro m
  induction m with
  | zero =>
    intro n hn M1 hL hm
    unfold F_xm_goesThrough_9
    rw [if_pos (by omega)]
    have e : ht.toNat = n := by omega
    rw [e] at H
    exact H M1 hL hm
  | succ m ih =>
    intro n hn M1 hL hm
    unfold F_xm_goesThrough_9
    rw [if_neg (by omega)]
    have e101 : ∀ j, M1 101 j = M 101 j := fun j => hL.at (by decide) j
    have key : ∀ s, 0 ≤ s ∧ s < 6 → M 101 (45 + 7 * k + s) = gsm M k ht bh n → F_xm_goesThrough_33 Q (F_xm_goesThrough_9 Q (m + 1)) k bh ht n s k M1 := by
      intro s hs hv
      unfold F_xm_goesThrough_33
      rw [E_xm_sheetIn hk hs, e101, hv]
      have hl := hok n (by omega)
      rw [← hm] at hl
      refine Y_goes hl (mok_kp e101 (hg n (by omega))) (fun M2 hL2 hm2 => ?_)
      rw [w32_e (by omega) (by omega)]
      refine ih (n + 1) (by omega) M2 (hL.tr hL2) ?_
      rw [hm2, mst_kp e101, hm]
      rfl
    by_cases hb : bh = 0
    · rw [if_pos hb]
      exact key _ (by omega) (by unfold gsm; rw [if_pos hb])
    · rw [if_neg hb, w32_e (x := ht - 1) (by omega) (by omega), w32_e (by omega) (by omega)]
      exact key _ (by omega) (by unfold gsm; rw [if_neg hb])
def mth (M : cM) (k bh : Int) (l : Int × Int) : Int × Int := thr (fun i => mst M bh (gsm M k (M 101 (44 + 7 * k)) bh i)) (M 101 (44 + 7 * k)).toNat l
theorem mth_ok {M : cM} {k bh : Int} {l : Int × Int} (hs : mtok M k) (h : lok l.1 l.2) : lok (mth M k bh l).1 (mth M k bh l).2 := by
  refine thr_ok h _ (fun i hi x hx => mst_ok hx ?_)
  unfold gsm
  obtain ⟨-, h2, h3⟩ := hs
  split
  · exact h3 _ (by omega) (by omega)
  · exact h3 _ (by omega) (by omega)
theorem Y_goesThrough {Q : cM → Prop} {k bh : Int} {M : cM} (hs : mtok M k) (h : lok (M 100 6) (M 100 7)) (H : ∀ M', Lt M M' → ml M' = mth M k bh (ml M) → Q M') : F_xm_goesThrough Q k bh M := by
  unfold F_xm_goesThrough
  obtain ⟨h1, h2, h3⟩ := hs
  rw [E_xm_manyIn h1]
  exact ⟨_, L_goesThrough (l := ml M) h1 h2 h3 h H (M 101 (44 + 7 * k)).toNat 0 (by omega) M (Lt.rf M) rfl⟩
theorem Y_lights {Q : cM → Prop} {M : cM} (H : ∀ M', Lt M M' → ml M' = (M 101 2, M 101 3) → Q M') : F_xm_lights Q M := by
  unfold F_xm_lights
  refine H _ (Lt.rf M).w6.w7 ?_
  unfold ml
  rw [wr_eq, wr_nj (by decide), wr_eq, wr_ne (by decide)]
theorem mtok_kp {M M' : cM} (h : ∀ j, M' 101 j = M 101 j) {k : Int} (hk : mtok M k) : mtok M' k := by
  obtain ⟨h1, h2, h3⟩ := hk
  exact ⟨h1, by rw [h]; exact h2, fun i i0 i1 => by rw [h] at i1 ⊢; exact mok_kp h (h3 i i0 i1)⟩
theorem mth_kp {M M' : cM} (h : ∀ j, M' 101 j = M 101 j) (k bh : Int) (l : Int × Int) : mth M' k bh l = mth M k bh l := by
  unfold mth
  rw [h]
  refine thr_eq _ (fun i _ x => ?_)
  rw [mst_kp h]
  unfold gsm
  rw [h, h]
theorem Y_seenThrough {Q : Int → cM → Prop} {k t : Int} {M : cM} (hs : mtok M k) (hl : lok (M 101 2) (M 101 3)) (ht : 0 ≤ t ∧ t ≤ 11) (H : ∀ M', Lt M M' → Q (zsee (mth M k 0 (M 101 2, M 101 3)).1 (mth M k 0 (M 101 2, M 101 3)).2 t) M') : F_xm_seenThrough Q k t M := by
  unfold F_xm_seenThrough
  refine Y_lights (fun M1 L1 m1 => ?_)
  have e1 : ∀ j, M1 101 j = M 101 j := fun j => L1.at (by decide) j
  have hl1 : lok (M1 100 6) (M1 100 7) := by
    have a : M1 100 6 = M 101 2 := congrArg Prod.fst m1
    have b : M1 100 7 = M 101 3 := congrArg Prod.snd m1
    rw [a, b]; exact hl
  refine Y_goesThrough (mtok_kp e1 hs) hl1 (fun M2 L2 m2 => ?_)
  rw [m1, mth_kp e1] at m2
  have ho := mth_ok (bh := 0) (l := (M 101 2, M 101 3)) hs hl
  rw [← m2] at ho
  rw [Y_seenAt ho ht]
  have := H M2 (L1.tr L2)
  rw [← m2] at this
  exact this
