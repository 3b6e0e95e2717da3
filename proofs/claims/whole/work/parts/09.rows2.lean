theorem s_taldz {μ : cMi} {d : Nat} {Q : cV → cM → Prop} {pc : Nat} {L st : List cV} {M : cM} {k kz i : Int} (hd : decode μ.2.1 pc = .ok (.iaload, 1)) (hk : 0 ≤ k ∧ k < 3) (hz : 1000 + k = kz) (hi : 0 ≤ i ∧ i < M kz (-1)) (h : Wa μ d Q (pc + 1) L (vI (M kz i) :: st) M) : Wa μ d Q pc L (vI i :: vT k :: st) M := by
  subst hz
  exact s_tald hd hk hi h
theorem s_tlenz {μ : cMi} {d : Nat} {Q : cV → cM → Prop} {pc : Nat} {L st : List cV} {M : cM} {k kz : Int} (hd : decode μ.2.1 pc = .ok (.arraylength, 1)) (hk : 0 ≤ k ∧ k < 3) (hz : 1000 + k = kz) (h : Wa μ d Q (pc + 1) L (vI (M kz (-1)) :: st) M) : Wa μ d Q pc L (vT k :: st) M := by
  subst hz
  exact s_tlen hd hk h
theorem s_tabEq {μ : cMi} {d : Nat} {Q : cV → cM → Prop} {pc : Nat} {L st : List cV} {M : cM} {dflt lo hi : Int} {offs : Array Int} {len : Nat} {x c off : Int} (tgt : Nat) (hd : decode μ.2.1 pc = .ok (.tableswitch dflt lo hi offs, len)) (hc : x = c) (h1 : ¬ c < lo ∧ ¬ hi < c) (ho : offs[(c - lo).toNat]? = some off) (ht : (pc : Int) + off = (tgt : Int)) (h : Wa μ d Q tgt L st M) : Wa μ d Q pc L (vI x :: st) M := by
  subst hc
  exact s_tabIn tgt hd h1.1 h1.2 ho ht h
