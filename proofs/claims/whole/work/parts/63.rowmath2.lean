/-! Orders of six; sorting by insertion; the k-th order. No machine. -/
theorem chn_6 : ∀ a : Nat, a < 2 → ∀ b : Nat, b < 2 → ∀ c : Nat, c < 2 → ∀ d : Nat, d < 2 → ∀ e : Nat, e < 2 → chn 6 720 (pS a b c d e) = true := by decide +kernel
def srd (n : Nat) (g : Int → Int) : Prop := ∀ i : Int, 0 ≤ i → i + 1 < n → g i ≤ g (i + 1)
theorem srd_ends {n : Nat} {g : Int → Int} (hn : n ≤ 6) (h : srd n g) : ends n 720 g := by
  obtain ⟨a, b, c, d, e, ha, hb, hc, hd, he, hp⟩ := pat_dgt g
  have hch : chn n 720 (pS a b c d e) = true := by
    by_cases h6 : n = 6
    · rw [h6]; exact chn_6 a ha b hb c hc d hd e he
    · by_cases h5 : n = 5
      · rw [h5]; exact chn_5 a ha b hb c hc d hd e he
      · exact chn_4 n (by omega) a ha b hb c hc d hd e he
  refine Rel.e1 720 g _ (fun i j i0 i1 j0 j1 => ?_) (chn_ends hn 720 _ hch)
  obtain ⟨x, rfl⟩ := Int.eq_ofNat_of_zero_le i0
  obtain ⟨y, rfl⟩ := Int.eq_ofNat_of_zero_le j0
  rw [hp x (by omega), hp y (by omega)]
  by_cases hxy : x ≤ y
  · have q := pat_rel h x (y - x) (by omega)
    rw [show x + (y - x) = y by omega, show ((x : Int) + ((y - x : Nat) : Int)) = y by omega] at q
    omega
  · have q := pat_rel h y (x - y) (by omega)
    rw [show y + (x - y) = x by omega, show ((y : Int) + ((x - y : Nat) : Int)) = x by omega] at q
    omega
def orb (n : Nat) (g : Int → Int) : Nat → (Int → Int)
  | 0 => g
  | k + 1 => nx n (orb n g k)
theorem orb_s (n : Nat) (g : Int → Int) : ∀ k : Nat, orb n g (k + 1) = orb n (nx n g) k
  | 0 => rfl
  | k + 1 => by
    show nx n (orb n g (k + 1)) = nx n (orb n (nx n g) k)
    rw [orb_s n g k]
/-- there are just K orders -/
def ordK (n : Nat) (g : Int → Int) (K : Nat) : Prop := 1 ≤ K ∧ (∀ k : Nat, k + 1 < K → 0 ≤ ris (orb n g k) (n - 1)) ∧ ris (orb n g (K - 1)) (n - 1) < 0
theorem ends_K {n : Nat} : ∀ (m : Nat) (g : Int → Int), ends n m g → ∃ K : Nat, K ≤ m ∧ ordK n g K
  | 0, _, h => h.elim
  | m + 1, g, h => by
    by_cases q : ris g (n - 1) < 0
    · exact ⟨1, by omega, Nat.le_refl _, fun k hk => by omega, q⟩
    · rcases h with h | h
      · exact absurd h q
      · obtain ⟨K, hK, h1, h2, h3⟩ := ends_K m _ h
        refine ⟨K + 1, by omega, by omega, fun k hk => ?_, ?_⟩
        · cases k with
          | zero => exact (by omega : 0 ≤ ris g (n - 1))
          | succ k => rw [orb_s]; exact h2 k (by omega)
        · rw [show K + 1 - 1 = (K - 1) + 1 by omega, orb_s]
          exact h3
theorem orb_agr {n K : Nat} {g p : Int → Int} (h : agr n g p) (hK : ∀ k : Nat, k + 1 < K → 0 ≤ ris (orb n g k) (n - 1)) : ∀ k : Nat, k < K → agr n (orb n g k) (orb n p k)
  | 0, _ => h
  | k + 1, hk => (orb_agr h hK k (by omega)).n1 (hK k hk)
theorem ordK_agr {n K : Nat} {g p : Int → Int} (h : agr n g p) (hK : ordK n g K) : ordK n p K := by
  obtain ⟨h1, h2, h3⟩ := hK
  refine ⟨h1, fun k hk => ?_, ?_⟩
  · rw [← (orb_agr h h2 k (by omega)).rel.r2]; exact h2 k hk
  · rw [← (orb_agr h h2 (K - 1) (by omega)).rel.r2]; exact h3
theorem orb_P {n K : Nat} {g : Int → Int} {P : Int → Prop} (h : ∀ i : Int, 0 ≤ i → i < n → P (g i)) (hK : ∀ k : Nat, k + 1 < K → 0 ≤ ris (orb n g k) (n - 1)) : ∀ k : Nat, k < K → ∀ i : Int, 0 ≤ i → i < n → P (orb n g k i)
  | 0, _ => h
  | k + 1, hk => nx_P (hK k hk) (orb_P h hK k (by omega))
/-- insertion -/
def ins (x : Int) : Nat → (Int → Int) → (Int → Int)
  | 0, g => fu g 0 x
  | k + 1, g => if g k ≤ x then fu g ((k : Int) + 1) x else ins x k (fu g ((k : Int) + 1) (g k))
def srt (s : Int → Int) (g : Int → Int) : Nat → (Int → Int)
  | 0 => g
  | i + 1 => ins (s i) i (srt s g i)
theorem ins_hi (x : Int) : ∀ (k : Nat) (g : Int → Int) (j : Int), (k : Int) < j → ins x k g j = g j
  | 0, g, j, hj => fu_ne g x (by omega)
  | k + 1, g, j, hj => by
    unfold ins
    by_cases q : g k ≤ x
    · rw [if_pos q]; exact fu_ne g x (by omega)
    · rw [if_neg q, ins_hi x k _ j (by omega)]; exact fu_ne g _ (by omega)
theorem ins_P {P : Int → Prop} {x : Int} (hx : P x) : ∀ (k : Nat) (g : Int → Int), (∀ i : Int, 0 ≤ i → i < k → P (g i)) → ∀ i : Int, 0 ≤ i → i < k + 1 → P (ins x k g i)
  | 0, g, h, i, i0, i1 => by
    rw [show i = 0 by omega]
    show P (fu g 0 x 0)
    rw [fu_eq]; exact hx
  | k + 1, g, h, i, i0, i1 => by
    unfold ins
    by_cases q : g k ≤ x
    · rw [if_pos q]
      by_cases e : i = (k : Int) + 1
      · rw [e, fu_eq]; exact hx
      · rw [fu_ne _ _ e]; exact h i i0 (by omega)
    · rw [if_neg q]
      by_cases e : i = (k : Int) + 1
      · rw [e, ins_hi x k _ _ (by omega), fu_eq]; exact h k (by omega) (by omega)
      · exact ins_P hx k _ (fun j j0 j1 => by rw [fu_ne _ _ (by omega)]; exact h j j0 (by omega)) i i0 (by omega)
theorem ins_srd {x : Int} : ∀ (k : Nat) (g : Int → Int), srd k g → srd (k + 1) (ins x k g)
  | 0, g, h, i, i0, i1 => by omega
  | k + 1, g, h, i, i0, i1 => by
    unfold ins
    by_cases q : g k ≤ x
    · rw [if_pos q]
      by_cases e : i + 1 = (k : Int) + 1
      · rw [e, fu_eq, fu_ne _ _ (by omega), show i = k by omega]; exact q
      · rw [fu_ne _ _ (by omega), fu_ne _ _ e]; exact h i i0 (by omega)
    · rw [if_neg q]
      by_cases e : i + 1 = (k : Int) + 1
      · rw [e, ins_hi x k _ ((k : Int) + 1) (by omega), fu_eq]
        refine ins_P (P := fun z => z ≤ g k) (by omega) k _ (fun j j0 j1 => ?_) i i0 (by omega)
        rw [fu_ne _ _ (by omega)]
        have : ∀ d : Nat, (j : Int) + d ≤ k → g j ≤ g (j + d) := by
          intro d
          induction d with
          | zero => intro _; rw [show j + ((0 : Nat) : Int) = j by omega]; exact Int.le_refl _
          | succ d ih =>
            intro hd
            have a := ih (by omega)
            have b := h (j + d) (by omega) (by omega)
            rw [show j + ((d + 1 : Nat) : Int) = j + d + 1 by omega]
            exact Int.le_trans a b
        have z := this (k - j).toNat (by omega)
        rw [show j + (((k : Int) - j).toNat : Int) = k by omega] at z
        exact z
      · refine ins_srd k _ (fun j j0 j1 => ?_) i i0 (by omega)
        rw [fu_ne _ _ (by omega), fu_ne _ _ (by omega)]
        exact h j j0 (by omega)
theorem ins_agr {x : Int} : ∀ (k : Nat) (g p : Int → Int), agr k g p → agr (k + 1) (ins x k g) (ins x k p)
  | 0, g, p, h, i, i0, i1 => by
    rw [show i = 0 by omega]
    show fu g 0 x 0 = fu p 0 x 0
    rw [fu_eq, fu_eq]
  | k + 1, g, p, h, i, i0, i1 => by
    have e := h k (by omega) (by omega)
    unfold ins
    rw [← e]
    by_cases q : g k ≤ x
    · rw [if_pos q, if_pos q]
      by_cases e : i = (k : Int) + 1
      · rw [e, fu_eq, fu_eq]
      · rw [fu_ne _ _ e, fu_ne _ _ e]; exact h i i0 (by omega)
    · rw [if_neg q, if_neg q]
      by_cases e : i = (k : Int) + 1
      · rw [e, ins_hi x k _ _ (by omega), ins_hi x k _ _ (by omega), fu_eq, fu_eq]
      · refine ins_agr k _ _ (fun j j0 j1 => ?_) i i0 (by omega)
        rw [fu_ne _ _ (by omega), fu_ne _ _ (by omega)]; exact h j j0 (by omega)
theorem srt_agr {s s' g p : Int → Int} : ∀ n : Nat, agr n s s' → agr n (srt s g n) (srt s' p n)
  | 0, _ => fun i i0 i1 => by omega
  | n + 1, h => by
    have ih := srt_agr (g := g) (p := p) n (h.le (by omega))
    show agr (n + 1) (ins (s n) n (srt s g n)) (ins (s' n) n (srt s' p n))
    rw [h n (by omega) (by omega)]
    exact ins_agr n _ _ ih
theorem srt_srd (s g : Int → Int) : ∀ n : Nat, srd n (srt s g n)
  | 0 => fun i i0 i1 => by omega
  | n + 1 => ins_srd n _ (srt_srd s g n)
theorem srt_P {P : Int → Prop} {s g : Int → Int} : ∀ n : Nat, (∀ i : Int, 0 ≤ i → i < n → P (s i)) → ∀ i : Int, 0 ≤ i → i < n → P (srt s g n i)
  | 0, _, i, i0, i1 => by omega
  | n + 1, h, i, i0, i1 => ins_P (h n (by omega) (by omega)) n _ (srt_P n (fun j j0 j1 => h j j0 (by omega))) i i0 (by omega)
/-- the orders of a row of source s, from whatever lay in the row before -/
theorem srt_ordK (s g : Int → Int) {n : Nat} (hn : n ≤ 6) : ∃ K : Nat, K ≤ 720 ∧ ∀ s' p : Int → Int, agr n s s' → ordK n (srt s' p n) K := by
  obtain ⟨K, h1, h2⟩ := ends_K 720 _ (srd_ends hn (srt_srd s g n))
  exact ⟨K, h1, fun s' p h => ordK_agr (srt_agr n h) h2⟩
/-- all, none, how many -/
def alN (p : Nat → Bool) : Nat → Bool
  | 0 => true
  | n + 1 => alN p n && p n
theorem alN_f {p : Nat → Bool} {i : Nat} (h : p i = false) : ∀ n : Nat, i < n → alN p n = false
  | 0, hi => by omega
  | n + 1, hi => by
    unfold alN
    by_cases e : i = n
    · subst e; rw [h, Bool.and_false]
    · rw [alN_f h n (by omega), Bool.false_and]
theorem alN_eq {p q : Nat → Bool} : ∀ n : Nat, (∀ i, i < n → p i = q i) → alN p n = alN q n
  | 0, _ => rfl
  | n + 1, h => by
    unfold alN
    rw [alN_eq n (fun i hi => h i (by omega)), h n (by omega)]
theorem alN_iff {p : Nat → Bool} : ∀ n : Nat, alN p n = true ↔ ∀ i, i < n → p i = true
  | 0 => ⟨fun _ i hi => by omega, fun _ => rfl⟩
  | n + 1 => by
    unfold alN
    rw [Bool.and_eq_true, alN_iff n]
    constructor
    · intro h i hi
      by_cases e : i = n
      · subst e; exact h.2
      · exact h.1 i (by omega)
    · intro h
      exact ⟨fun i hi => h i (by omega), h n (by omega)⟩
def cnb (p : Nat → Bool) : Nat → Nat
  | 0 => 0
  | n + 1 => cnb p n + if p n = true then 1 else 0
theorem cnb_le (p : Nat → Bool) : ∀ n : Nat, cnb p n ≤ n
  | 0 => Nat.le_refl _
  | n + 1 => by
    have := cnb_le p n
    unfold cnb
    split <;> omega
theorem cnb_eq {p q : Nat → Bool} : ∀ n : Nat, (∀ i, i < n → p i = q i) → cnb p n = cnb q n
  | 0, _ => rfl
  | n + 1, h => by
    unfold cnb
    rw [cnb_eq n (fun i hi => h i (by omega)), h n (by omega)]
theorem lst (p : Nat → Bool) : ∀ K : Nat, (∃ k, k < K ∧ p k = true ∧ ∀ j, j < k → p j = false) ∨ ∀ k, k < K → p k = false
  | 0 => Or.inr (fun k hk => by omega)
  | K + 1 => by
    rcases lst p K with ⟨k, h1, h2, h3⟩ | h
    · exact Or.inl ⟨k, by omega, h2, h3⟩
    · by_cases q : p K = true
      · exact Or.inl ⟨K, by omega, q, h⟩
      · refine Or.inr (fun k hk => ?_)
        by_cases e : k = K
        · subst e; exact Bool.eq_false_iff.mpr q
        · exact h k (by omega)
