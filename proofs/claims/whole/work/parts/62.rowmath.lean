/-! Orders of a row: insertion, the next order, how many there are. No machine. -/
def fu (g : Int → Int) (l v : Int) : Int → Int := fun j => if j = l then v else g j
def sw (g : Int → Int) (a b : Int) : Int → Int := fu (fu g a (g b)) b (g a)
theorem fu_eq (g : Int → Int) (l v : Int) : fu g l v l = v := if_pos rfl
theorem fu_ne (g : Int → Int) {l j : Int} (v : Int) (h : j ≠ l) : fu g l v j = g j := if_neg h
theorem sw_at (g : Int → Int) (a b i : Int) : sw g a b i = if i = b then g a else if i = a then g b else g i := rfl
/-- the last rise below a place, or -1 -/
def ris (g : Int → Int) : Nat → Int
  | 0 => -1
  | k + 1 => if g k < g ((k : Int) + 1) then k else ris g k
/-- the last place with more than at r -/
def grt (g : Int → Int) (r : Int) : Nat → Int
  | 0 => r
  | k + 1 => if g r < g k then k else grt g r k
def rvs : Nat → Int → Int → (Int → Int) → (Int → Int)
  | 0, _, _, g => g
  | m + 1, l, h, g => if h ≤ l then g else rvs m (l + 1) (h - 1) (sw g l h)
def nxr (n : Nat) (r : Int) (g : Int → Int) : Int → Int := rvs 8 (r + 1) ((n : Int) - 1) (sw g r (grt g r n))
def nx (n : Nat) (g : Int → Int) : Int → Int := nxr n (ris g (n - 1)) g
theorem ris_b (g : Int → Int) : ∀ k : Nat, -1 ≤ ris g k ∧ ris g k < k
  | 0 => ⟨Int.le_refl _, by show (-1 : Int) < 0; decide⟩
  | k + 1 => by
    have := ris_b g k
    unfold ris
    split <;> omega
theorem grt_b (g : Int → Int) {r : Int} : ∀ k : Nat, r < k → 0 ≤ r → 0 ≤ grt g r k ∧ grt g r k < k ∨ grt g r k = r
  | 0, h, h0 => by omega
  | k + 1, h, h0 => by
    unfold grt
    split
    · omega
    · by_cases e : r < k
      · have := grt_b g k e h0
        omega
      · have : ∀ j : Nat, (j : Int) ≤ r → grt g r j = r ∨ 0 ≤ grt g r j ∧ grt g r j < j := by
          intro j
          induction j with
          | zero => intro _; exact Or.inl rfl
          | succ j ih =>
            intro hj
            have := ih (by omega)
            unfold grt
            split <;> omega
        have := this k (by omega)
        omega
theorem grt_in (g : Int → Int) {r : Int} {n : Nat} (h : r < n) (h0 : 0 ≤ r) : 0 ≤ grt g r n ∧ grt g r n < n := by
  have := grt_b g n h h0
  omega
/-- two rows tell the same of less and more -/
def Rel (n : Nat) (g p : Int → Int) : Prop := ∀ i j : Int, 0 ≤ i → i < n → 0 ≤ j → j < n → (g i < g j ↔ p i < p j)
def agr (n : Nat) (g p : Int → Int) : Prop := ∀ i : Int, 0 ≤ i → i < n → g i = p i
theorem agr.rel {n : Nat} {g p : Int → Int} (h : agr n g p) : Rel n g p := fun i j i0 i1 j0 j1 => by rw [h i i0 i1, h j j0 j1]
theorem Rel.r1 {n : Nat} {g p : Int → Int} (h : Rel n g p) : ∀ k : Nat, k + 1 ≤ n → ris g k = ris p k
  | 0, _ => rfl
  | k + 1, hk => by
    have e := h k ((k : Int) + 1) (by omega) (by omega) (by omega) (by omega)
    have ih := h.r1 k (by omega)
    show (if g k < g ((k : Int) + 1) then (k : Int) else _) = (if p k < p ((k : Int) + 1) then (k : Int) else _)
    rw [ih]
    by_cases q : g k < g ((k : Int) + 1)
    · rw [if_pos q, if_pos (e.mp q)]
    · rw [if_neg q, if_neg (fun z => q (e.mpr z))]
theorem Rel.g1 {n : Nat} {g p : Int → Int} {r : Int} (h : Rel n g p) (h0 : 0 ≤ r) (h1 : r < n) : ∀ k : Nat, k ≤ n → grt g r k = grt p r k
  | 0, _ => rfl
  | k + 1, hk => by
    have e := h r k h0 h1 (by omega) (by omega)
    have ih := h.g1 h0 h1 k (by omega)
    show (if g r < g k then (k : Int) else _) = (if p r < p k then (k : Int) else _)
    rw [ih]
    by_cases q : g r < g k
    · rw [if_pos q, if_pos (e.mp q)]
    · rw [if_neg q, if_neg (fun z => q (e.mpr z))]
/-- where a swap takes a place -/
def tau (a b i : Int) : Int := if i = b then a else if i = a then b else i
theorem sw_tau (g : Int → Int) (a b i : Int) : sw g a b i = g (tau a b i) := by
  rw [sw_at]
  unfold tau
  by_cases h1 : i = b
  · rw [if_pos h1, if_pos h1]
  · rw [if_neg h1, if_neg h1]
    by_cases h2 : i = a
    · rw [if_pos h2, if_pos h2]
    · rw [if_neg h2, if_neg h2]
theorem tau_b {a b i : Int} {n : Nat} (ha : 0 ≤ a ∧ a < n) (hb : 0 ≤ b ∧ b < n) (hi : 0 ≤ i ∧ i < n) : 0 ≤ tau a b i ∧ tau a b i < n := by
  unfold tau
  repeat' split
  all_goals omega
theorem Rel.s1 {n : Nat} {g p : Int → Int} {a b : Int} (h : Rel n g p) (ha : 0 ≤ a ∧ a < n) (hb : 0 ≤ b ∧ b < n) : Rel n (sw g a b) (sw p a b) := fun i j i0 i1 j0 j1 => by
  have h1 := tau_b ha hb ⟨i0, i1⟩
  have h2 := tau_b ha hb ⟨j0, j1⟩
  rw [sw_tau, sw_tau, sw_tau, sw_tau]
  exact h _ _ h1.1 h1.2 h2.1 h2.2
theorem agr.s1 {n : Nat} {g p : Int → Int} {a b : Int} (h : agr n g p) (ha : 0 ≤ a ∧ a < n) (hb : 0 ≤ b ∧ b < n) : agr n (sw g a b) (sw p a b) := fun i i0 i1 => by
  have h1 := tau_b ha hb ⟨i0, i1⟩
  rw [sw_tau, sw_tau]
  exact h _ h1.1 h1.2
theorem Rel.v1 {n : Nat} : ∀ (m : Nat) (l h : Int) (g p : Int → Int), 0 ≤ l → h < n → Rel n g p → Rel n (rvs m l h g) (rvs m l h p)
  | 0, _, _, _, _, _, _, hr => hr
  | m + 1, l, h, g, p, hl, hh, hr => by
    show Rel n (if h ≤ l then g else _) (if h ≤ l then p else _)
    by_cases q : h ≤ l
    · rw [if_pos q, if_pos q]; exact hr
    · rw [if_neg q, if_neg q]
      exact Rel.v1 m _ _ _ _ (by omega) (by omega) (hr.s1 (by omega) (by omega))
theorem agr.v1 {n : Nat} : ∀ (m : Nat) (l h : Int) (g p : Int → Int), 0 ≤ l → h < n → agr n g p → agr n (rvs m l h g) (rvs m l h p)
  | 0, _, _, _, _, _, _, hr => hr
  | m + 1, l, h, g, p, hl, hh, hr => by
    show agr n (if h ≤ l then g else _) (if h ≤ l then p else _)
    by_cases q : h ≤ l
    · rw [if_pos q, if_pos q]; exact hr
    · rw [if_neg q, if_neg q]
      exact agr.v1 m _ _ _ _ (by omega) (by omega) (hr.s1 (by omega) (by omega))
theorem rvs_P {n : Nat} {P : Int → Prop} : ∀ (m : Nat) (l h : Int) (g : Int → Int), 0 ≤ l → h < n → (∀ i : Int, 0 ≤ i → i < n → P (g i)) → ∀ i : Int, 0 ≤ i → i < n → P (rvs m l h g i)
  | 0, _, _, _, _, _, hr => hr
  | m + 1, l, h, g, hl, hh, hr => by
    show ∀ i : Int, 0 ≤ i → i < n → P ((if h ≤ l then g else _) i)
    by_cases q : h ≤ l
    · rw [if_pos q]; exact hr
    · rw [if_neg q]
      refine rvs_P m _ _ _ (by omega) (by omega) (fun i i0 i1 => ?_)
      have h1 := tau_b (n := n) (a := l) (b := h) (by omega) (by omega) ⟨i0, i1⟩
      rw [sw_tau]
      exact hr _ h1.1 h1.2
theorem ris_n {g : Int → Int} {n : Nat} (h : 0 ≤ ris g (n - 1)) : ris g (n - 1) + 1 < n := by
  have := ris_b g (n - 1)
  omega
theorem Rel.r2 {n : Nat} {g p : Int → Int} (h : Rel n g p) : ris g (n - 1) = ris p (n - 1) := by
  cases n with
  | zero => rfl
  | succ n => exact h.r1 (n + 1 - 1) (by omega)
theorem Rel.n1 {n : Nat} {g p : Int → Int} (h : Rel n g p) (h0 : 0 ≤ ris g (n - 1)) : Rel n (nx n g) (nx n p) := by
  have h1 := ris_n h0
  have e := h.r2
  unfold nx nxr
  rw [← e, ← h.g1 h0 (by omega) n (Nat.le_refl _)]
  exact Rel.v1 8 _ _ _ _ (by omega) (by omega) (h.s1 ⟨h0, by omega⟩ (grt_in g (by omega) h0))
theorem agr.n1 {n : Nat} {g p : Int → Int} (h : agr n g p) (h0 : 0 ≤ ris g (n - 1)) : agr n (nx n g) (nx n p) := by
  have h1 := ris_n h0
  have e := h.rel.r2
  unfold nx nxr
  rw [← e, ← h.rel.g1 h0 (by omega) n (Nat.le_refl _)]
  exact agr.v1 8 _ _ _ _ (by omega) (by omega) (h.s1 ⟨h0, by omega⟩ (grt_in g (by omega) h0))
theorem nx_P {n : Nat} {g : Int → Int} {P : Int → Prop} (h0 : 0 ≤ ris g (n - 1)) (h : ∀ i : Int, 0 ≤ i → i < n → P (g i)) : ∀ i : Int, 0 ≤ i → i < n → P (nx n g i) := by
  have h1 := ris_n h0
  unfold nx nxr
  refine rvs_P 8 _ _ _ (by omega) (by omega) (fun i i0 i1 => ?_)
  have h1 := tau_b (n := n) (a := ris g (n - 1)) (b := grt g (ris g (n - 1)) n) ⟨h0, by omega⟩ (grt_in g (by omega) h0) ⟨i0, i1⟩
  rw [sw_tau]
  exact h _ h1.1 h1.2
/-- within m orders the last one comes -/
def ends (n : Nat) : Nat → (Int → Int) → Prop
  | 0, _ => False
  | m + 1, g => ris g (n - 1) < 0 ∨ ends n m (nx n g)
theorem Rel.e1 {n : Nat} : ∀ (m : Nat) (g p : Int → Int), Rel n g p → ends n m p → ends n m g
  | 0, _, _, _, h => h
  | m + 1, g, p, hr, h => by
    have e := hr.r2
    by_cases q : ris g (n - 1) < 0
    · exact Or.inl q
    · rcases h with h | h
      · exact Or.inl (by rw [e]; exact h)
      · exact Or.inr (Rel.e1 m _ _ (hr.n1 (by omega)) h)
/-- rows of six digits to the base 8 -/
def dgt (s : Nat) : Int → Int := fun i => ((s / 8 ^ i.toNat % 8 : Nat) : Int)
def enr (g : Int → Int) : Nat := (g 0).toNat + 8 * (g 1).toNat + 64 * (g 2).toNat + 512 * (g 3).toNat + 4096 * (g 4).toNat + 32768 * (g 5).toNat
def stq (n : Nat) (r : Int) (s : Nat) : Nat := if r < 0 then 0 else 1 + enr (nxr n r (dgt s))
def chn (n : Nat) : Nat → Nat → Bool
  | 0, _ => false
  | m + 1, s => match stq n (ris (dgt s) (n - 1)) s with
    | 0 => true
    | s' + 1 => chn n m s'
theorem dgt_enr {g : Int → Int} (h : ∀ i : Int, 0 ≤ i → i < 6 → 0 ≤ g i ∧ g i < 8) : agr 6 g (dgt (enr g)) := by
  have h0 := h 0 (by decide) (by decide)
  have h1 := h 1 (by decide) (by decide)
  have h2 := h 2 (by decide) (by decide)
  have h3 := h 3 (by decide) (by decide)
  have h4 := h 4 (by decide) (by decide)
  have h5 := h 5 (by decide) (by decide)
  intro i i0 i1
  have hc : i = 0 ∨ i = 1 ∨ i = 2 ∨ i = 3 ∨ i = 4 ∨ i = 5 := by omega
  unfold dgt enr
  rcases hc with rfl | rfl | rfl | rfl | rfl | rfl
  · rw [show 8 ^ (0 : Int).toNat = 1 from rfl]; omega
  · rw [show 8 ^ (1 : Int).toNat = 8 from rfl]; omega
  · rw [show 8 ^ (2 : Int).toNat = 64 from rfl]; omega
  · rw [show 8 ^ (3 : Int).toNat = 512 from rfl]; omega
  · rw [show 8 ^ (4 : Int).toNat = 4096 from rfl]; omega
  · rw [show 8 ^ (5 : Int).toNat = 32768 from rfl]; omega
theorem dgt_b (s : Nat) (i : Int) : 0 ≤ dgt s i ∧ dgt s i < 8 := by
  unfold dgt
  omega
theorem agr.le {n m : Nat} {g p : Int → Int} (h : agr m g p) (hn : n ≤ m) : agr n g p := fun i i0 i1 => h i i0 (by omega)
theorem chn_ends {n : Nat} (hn : n ≤ 6) : ∀ (m s : Nat), chn n m s = true → ends n m (dgt s)
  | 0, _, h => by cases h
  | m + 1, s, h => by
    unfold chn at h
    by_cases q : ris (dgt s) (n - 1) < 0
    · exact Or.inl q
    · refine Or.inr ?_
      unfold stq at h
      rw [if_neg q, Nat.add_comm] at h
      have ih := chn_ends hn m _ h
      have e : agr 6 (nx n (dgt s)) (dgt (enr (nx n (dgt s)))) := dgt_enr (fun i i0 i1 => by
        have key : ∀ (k : Nat) (l h : Int) (g : Int → Int), (∀ i : Int, 0 ≤ g i ∧ g i < 8) → ∀ i : Int, 0 ≤ rvs k l h g i ∧ rvs k l h g i < 8 := by
          intro k
          induction k with
          | zero => intro l h g hg; exact hg
          | succ k ih =>
            intro l h g hg i
            unfold rvs
            split
            · exact hg i
            · exact ih _ _ _ (fun i => by rw [sw_tau]; exact hg _) i
        unfold nx nxr
        exact key 8 _ _ _ (fun i => by rw [sw_tau]; exact dgt_b s _) i)
      exact Rel.e1 m _ _ (e.le hn).rel ih
/-- a sorted row's steps -/
def pat (g : Int → Int) : Nat → Nat
  | 0 => 0
  | k + 1 => pat g k + (if g k < g ((k : Int) + 1) then 1 else 0)
theorem pat_rel {g : Int → Int} {n : Nat} (h : ∀ i : Int, 0 ≤ i → i + 1 < n → g i ≤ g (i + 1)) (i : Nat) : ∀ d : Nat, i + d < n → g i ≤ g ((i : Int) + d) ∧ pat g i ≤ pat g (i + d) ∧ (g i < g ((i : Int) + d) ↔ pat g i < pat g (i + d))
  | 0, _ => by
    rw [show ((i : Int) + ((0 : Nat) : Int)) = i by omega, Nat.add_zero]
    exact ⟨Int.le_refl _, Nat.le_refl _, by omega⟩
  | d + 1, hd => by
    obtain ⟨a1, a2, a3⟩ := pat_rel h i d (by omega)
    have b := h ((i : Int) + d) (by omega) (by omega)
    rw [show (i : Int) + ((d + 1 : Nat) : Int) = (i : Int) + d + 1 by omega, show i + (d + 1) = (i + d) + 1 by omega]
    have e : pat g ((i + d) + 1) = pat g (i + d) + (if g ((i : Int) + d) < g ((i : Int) + d + 1) then 1 else 0) := by
      show pat g (i + d) + (if g (((i + d : Nat) : Int)) < g (((i + d : Nat) : Int) + 1) then 1 else 0) = _
      rw [show (((i + d : Nat) : Int)) = (i : Int) + d by omega]
    rw [e]
    split <;> omega
def pS (a b c d e : Nat) : Nat := 8 * a + 64 * (a + b) + 512 * (a + b + c) + 4096 * (a + b + c + d) + 32768 * (a + b + c + d + e)
theorem oct6 {p q r s t : Nat} (hp : p < 8) (hq : q < 8) (hr : r < 8) (hs : s < 8) (ht : t < 8) : (8 * p + 64 * q + 512 * r + 4096 * s + 32768 * t) / 512 % 8 = r ∧ (8 * p + 64 * q + 512 * r + 4096 * s + 32768 * t) / 4096 % 8 = s ∧ (8 * p + 64 * q + 512 * r + 4096 * s + 32768 * t) / 32768 % 8 = t := by
  omega
theorem pat_dgt (g : Int → Int) : ∃ a b c d e : Nat, a < 2 ∧ b < 2 ∧ c < 2 ∧ d < 2 ∧ e < 2 ∧ ∀ i : Nat, i < 6 → dgt (pS a b c d e) i = pat g i := by
  have key : ∀ k : Nat, ∃ a : Nat, a < 2 ∧ pat g (k + 1) = pat g k + a := fun k => by
    refine ⟨_, ?_, rfl⟩
    split <;> omega
  obtain ⟨a, ha, ea⟩ := key 0
  obtain ⟨b, hb, eb⟩ := key 1
  obtain ⟨c, hc, ec⟩ := key 2
  obtain ⟨d, hd, ed⟩ := key 3
  obtain ⟨e, he, ee⟩ := key 4
  have e0 : pat g 0 = 0 := rfl
  have ea : pat g 1 = pat g 0 + a := ea
  have eb : pat g 2 = pat g 1 + b := eb
  have ec : pat g 3 = pat g 2 + c := ec
  have ed : pat g 4 = pat g 3 + d := ed
  have ee : pat g 5 = pat g 4 + e := ee
  refine ⟨a, b, c, d, e, ha, hb, hc, hd, he, fun i hi => ?_⟩
  have hc6 : i = 0 ∨ i = 1 ∨ i = 2 ∨ i = 3 ∨ i = 4 ∨ i = 5 := by omega
  unfold dgt pS
  rcases hc6 with rfl | rfl | rfl | rfl | rfl | rfl
  · rw [show 8 ^ ((0 : Nat) : Int).toNat = 1 from rfl]; omega
  · rw [show 8 ^ ((1 : Nat) : Int).toNat = 8 from rfl]; omega
  · rw [show 8 ^ ((2 : Nat) : Int).toNat = 64 from rfl]; omega
  · rw [show 8 ^ ((3 : Nat) : Int).toNat = 512 from rfl, (oct6 (p := a) (q := a + b) (r := a + b + c) (s := a + b + c + d) (t := a + b + c + d + e) (by omega) (by omega) (by omega) (by omega) (by omega)).1]; omega
  · rw [show 8 ^ ((4 : Nat) : Int).toNat = 4096 from rfl, (oct6 (p := a) (q := a + b) (r := a + b + c) (s := a + b + c + d) (t := a + b + c + d + e) (by omega) (by omega) (by omega) (by omega) (by omega)).2.1]; omega
  · rw [show 8 ^ ((5 : Nat) : Int).toNat = 32768 from rfl, (oct6 (p := a) (q := a + b) (r := a + b + c) (s := a + b + c + d) (t := a + b + c + d + e) (by omega) (by omega) (by omega) (by omega) (by omega)).2.2]; omega
theorem chn_4 : ∀ n : Nat, n < 5 → ∀ a : Nat, a < 2 → ∀ b : Nat, b < 2 → ∀ c : Nat, c < 2 → ∀ d : Nat, d < 2 → ∀ e : Nat, e < 2 → chn n 720 (pS a b c d e) = true := by decide +kernel
theorem chn_5 : ∀ a : Nat, a < 2 → ∀ b : Nat, b < 2 → ∀ c : Nat, c < 2 → ∀ d : Nat, d < 2 → ∀ e : Nat, e < 2 → chn 5 720 (pS a b c d e) = true := by decide +kernel
