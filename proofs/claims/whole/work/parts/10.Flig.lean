/-! What each method does, over Ints. -/
def F_xj_Arrays_fill_5 (Q : cM → Prop) (r0 : Int) (r0n : Nat) : Nat → Int → Int → Int → cM → Prop
  | 0, _, _, _, _ => False
  | n5 + 1, l1, l2, l3, M => if l3 ≤ l2 then (Q M) else (((0 : Int) ≤ l2 ∧ l2 < (r0n : Int)) ∧ (F_xj_Arrays_fill_5 Q r0 r0n n5 l1 (w32 (l2 + 1)) l3 (wr M r0 l2 l1)))
def F_xj_Arrays_fill (Q : cM → Prop) (r0 : Int) (r0n : Nat) (a1 : Int) (M : cM) : Prop := (iR (r0n : Int)) ∧ (∃ e5, F_xj_Arrays_fill_5 Q r0 r0n e5 a1 0 (r0n : Int) M)
def F_xg_addSheet (Q : Int → cM → Prop) (b : Int) (a0 : Int) (a1 : Int) (a2 : Int) (M : cM) : Prop := ((0 : Int) ≤ (M b 0) ∧ (M b 0) < 10) ∧ (((0 : Int) ≤ ((wr M (b + 1) (M b 0) a0) b 0) ∧ ((wr M (b + 1) (M b 0) a0) b 0) < 10) ∧ (((0 : Int) ≤ ((wr (wr M (b + 1) (M b 0) a0) (b + 2) ((wr M (b + 1) (M b 0) a0) b 0) a1) b 0) ∧ ((wr (wr M (b + 1) (M b 0) a0) (b + 2) ((wr M (b + 1) (M b 0) a0) b 0) a1) b 0) < 10) ∧ (Q (w32 (((wr (wr (wr (wr M (b + 1) (M b 0) a0) (b + 2) ((wr M (b + 1) (M b 0) a0) b 0) a1) (b + 3) ((wr (wr M (b + 1) (M b 0) a0) (b + 2) ((wr M (b + 1) (M b 0) a0) b 0) a1) b 0) a2) b 0 (w32 (((wr (wr (wr M (b + 1) (M b 0) a0) (b + 2) ((wr M (b + 1) (M b 0) a0) b 0) a1) (b + 3) ((wr (wr M (b + 1) (M b 0) a0) (b + 2) ((wr M (b + 1) (M b 0) a0) b 0) a1) b 0) a2) b 0) + 1))) b 0) - 1)) (wr (wr (wr (wr M (b + 1) (M b 0) a0) (b + 2) ((wr M (b + 1) (M b 0) a0) b 0) a1) (b + 3) ((wr (wr M (b + 1) (M b 0) a0) (b + 2) ((wr M (b + 1) (M b 0) a0) b 0) a1) b 0) a2) b 0 (w32 (((wr (wr (wr M (b + 1) (M b 0) a0) (b + 2) ((wr M (b + 1) (M b 0) a0) b 0) a1) (b + 3) ((wr (wr M (b + 1) (M b 0) a0) (b + 2) ((wr M (b + 1) (M b 0) a0) b 0) a1) b 0) a2) b 0) + 1))))))
def F_xg_property (Q : Int → cM → Prop) (b : Int) (a0 : Int) (a1 : Int) (M : cM) : Prop := if a1 = 0 then (((0 : Int) ≤ a0 ∧ a0 < 10) ∧ (Q (M (b + 1) a0) M)) else (if a1 = 1 then (((0 : Int) ≤ a0 ∧ a0 < 10) ∧ (Q (M (b + 2) a0) M)) else (((0 : Int) ≤ a0 ∧ a0 < 10) ∧ (Q (M (b + 3) a0) M)))
def F_xg_setProperty (Q : cM → Prop) (b : Int) (a0 : Int) (a1 : Int) (a2 : Int) (M : cM) : Prop := if a1 = 0 then (((0 : Int) ≤ a0 ∧ a0 < 10) ∧ (Q (wr M (b + 1) a0 a2))) else (if a1 = 1 then (((0 : Int) ≤ a0 ∧ a0 < 10) ∧ (Q (wr M (b + 2) a0 a2))) else (((0 : Int) ≤ a0 ∧ a0 < 10) ∧ (Q (wr M (b + 3) a0 a2))))
def F_xg_hasRoom (Q : Int → cM → Prop) (b : Int) (a0 : Int) (M : cM) : Prop := ((0 : Int) ≤ a0 ∧ a0 < 4) ∧ (if 6 ≤ (M (b + 9) a0) then (Q (narK 4 0) M) else (Q (narK 4 1) M))
def F_xg_put (Q : cM → Prop) (b : Int) (a0 : Int) (a1 : Int) (M : cM) : Prop := ((0 : Int) ≤ a0 ∧ a0 < 4) ∧ (((0 : Int) ≤ a0 ∧ a0 < 4) ∧ (((0 : Int) ≤ (M (b + 9) a0) ∧ (M (b + 9) a0) < 6) ∧ (((0 : Int) ≤ a0 ∧ a0 < 4) ∧ (((0 : Int) ≤ a0 ∧ a0 < 4) ∧ (Q (wr (wr M (b + 5 + a0) (M (b + 9) a0) a1) (b + 9) a0 (w32 (((wr M (b + 5 + a0) (M (b + 9) a0) a1) (b + 9) a0) + 1))))))))
def F_xg_setStack (Q : cM → Prop) (b : Int) (r1 : Int) (r1n : Nat) (a0 : Int) (a2 : Int) (M : cM) : Prop := ((0 : Int) ≤ a0 ∧ a0 < 4) ∧ (((0 : Int) ≤ 0 ∧ (0 : Int) ≤ 0 ∧ (0 : Int) ≤ a2 ∧ (0 : Int) + a2 ≤ (r1n : Int) ∧ (0 : Int) + a2 ≤ 6) ∧ (((0 : Int) ≤ a0 ∧ a0 < 4) ∧ (Q (wr (cpyM M r1 0 (b + 5 + a0) 0 a2) (b + 9) a0 a2))))
def F_xl_of (Q : Int → cM → Prop) (a0 : Int) (a1 : Int) (M : cM) : Prop := Q (zor (zshl a0 4) (w32 (a1 + 1))) M
def F_xg_lampLight (Q : Int → cM → Prop) (b : Int) (M : cM) : Prop := F_xl_of (fun x2 M1 => Q x2 M1) (M b 5) (M b 6) M
def F_xl_slant (Q : Int → cM → Prop) (a0 : Int) (M : cM) : Prop := Q (w32 ((zand a0 15) - 1)) M
def F_xl_share (Q : Int → cM → Prop) (a0 : Int) (M : cM) : Prop := Q (zshr a0 4) M
def F_xl_cos_32 (Q : Int → cM → Prop) (s0 : Int) (M : cM) : Prop := ((0 : Int) ≤ s0 ∧ s0 < M 1000 (-1)) ∧ (Q (M 1000 s0) M)
def F_xl_cos_14 (Q : Int → cM → Prop) (s0 : Int) (M : cM) : Prop := if s0 ≤ 6 then (F_xl_cos_32 Q s0 M) else (F_xl_cos_32 Q (w32 (12 - s0)) M)
def F_xl_cos (Q : Int → cM → Prop) (a0 : Int) (a1 : Int) (M : cM) : Prop := if a0 ≤ a1 then (F_xl_cos_14 Q (w32 (a1 - a0)) M) else (F_xl_cos_14 Q (w32 (a0 - a1)) M)
def F_xl_part (Q : Int → cM → Prop) (a0 : Int) (a1 : Int) (M : cM) : Prop := Q (w32 (Int.tdiv (w32 (a0 * a1)) 1000)) M
def F_xl_seenAt (Q : Int → cM → Prop) (a0 : Int) (a1 : Int) (M : cM) : Prop := F_xl_slant (fun x2 M1 => if x2 = (-1) then (F_xl_share (fun x15 M14 => Q (w32 (Int.tdiv x15 2)) M14) a0 M1) else (F_xl_share (fun x6 M5 => F_xl_cos (fun x9 M8 => F_xl_part (fun x12 M11 => Q x12 M11) x6 x9 M8) x2 a1 M5) a0 M1)) a0 M
def F_xl_filtered (Q : Int → cM → Prop) (a0 : Int) (a1 : Int) (M : cM) : Prop := F_xl_seenAt (fun x2 M1 => F_xl_of (fun x5 M4 => Q x5 M4) x2 a1 M1) a0 a1 M
def F_xl_dimmed (Q : Int → cM → Prop) (a0 : Int) (a1 : Int) (M : cM) : Prop := F_xl_share (fun x2 M1 => F_xl_part (fun x5 M4 => F_xl_slant (fun x8 M7 => F_xl_of (fun x11 M10 => Q x11 M10) x5 x8 M7) a0 M4) x2 a1 M1) a0 M
def F_xl_turned (Q : Int → cM → Prop) (a0 : Int) (a1 : Int) (M : cM) : Prop := F_xl_slant (fun x2 M1 => if x2 = (-1) then (Q a0 M1) else (F_xl_share (fun x6 M5 => F_xl_of (fun x9 M8 => Q x9 M8) x6 (Int.tmod (w32 (x2 + a1)) 12) M5) a0 M1)) a0 M
def F_xj_Math_floorMod_18 (Q : Int → cM → Prop) (l2 : Int) (M : cM) : Prop := Q l2 M
def F_xj_Math_floorMod (Q : Int → cM → Prop) (a0 : Int) (a1 : Int) (M : cM) : Prop := (¬ a1 = 0) ∧ (if 0 ≤ (zxor a0 a1) then (F_xj_Math_floorMod_18 Q (Int.tmod a0 a1) M) else (if (Int.tmod a0 a1) = 0 then (F_xj_Math_floorMod_18 Q (Int.tmod a0 a1) M) else (Q (w32 ((Int.tmod a0 a1) + a1)) M)))
def F_xl_mirrored (Q : Int → cM → Prop) (a0 : Int) (a1 : Int) (M : cM) : Prop := F_xl_slant (fun x2 M1 => if x2 = (-1) then (Q a0 M1) else (F_xl_share (fun x6 M5 => F_xj_Math_floorMod (fun x9 M8 => F_xl_of (fun x12 M11 => Q x12 M11) x6 x9 M8) (w32 ((w32 (2 * a1)) - x2)) 12 M5) a0 M1)) a0 M
def F_xg_behindSheet_45 (Q : Int → cM → Prop) (b : Int) (l1 : Int) (l3 : Int) (l4 : Int) (M : cM) : Prop := ((0 : Int) ≤ l1 ∧ l1 < 10) ∧ (if (M (b + 1) l1) = 1 then (F_xl_filtered (fun x5 M4 => Q x5 M4) l3 l4 M) else (if (M (b + 1) l1) = 2 then (F_xl_turned (fun x9 M8 => Q x9 M8) l3 l4 M) else (if (M (b + 1) l1) = 3 then (F_xl_mirrored (fun x13 M12 => Q x13 M12) l3 l4 M) else (if (M (b + 1) l1) = 4 then (((0 : Int) ≤ l1 ∧ l1 < 10) ∧ (F_xl_dimmed (fun x17 M16 => Q x17 M16) l3 (M (b + 3) l1) M)) else (if (M (b + 1) l1) = 5 then (F_xl_filtered (fun x21 M20 => ((0 : Int) ≤ l1 ∧ l1 < 10) ∧ (F_xl_dimmed (fun x24 M23 => Q x24 M23) x21 (M20 (b + 3) l1) M20)) l3 l4 M) else (if (M (b + 1) l1) = 6 then (F_xl_turned (fun x28 M27 => Q x28 M27) l3 l4 M) else (Q l3 M)))))))
def F_xg_behindSheet_31 (Q : Int → cM → Prop) (b : Int) (l1 : Int) (l2 : Int) (l3 : Int) (l4 : Int) (M : cM) : Prop := if l2 = 0 then (F_xg_behindSheet_45 Q b l1 l3 l4 M) else (F_xg_behindSheet_45 Q b l1 l3 (Int.tmod (w32 (12 - l4)) 12) M)
def F_xg_behindSheet (Q : Int → cM → Prop) (b : Int) (a0 : Int) (a1 : Int) (a2 : Int) (M : cM) : Prop := ((0 : Int) ≤ a0 ∧ a0 < 10) ∧ (((0 : Int) ≤ a0 ∧ a0 < 10) ∧ (if (M (b + 1) a0) = 6 then (F_xg_behindSheet_31 Q b a0 a1 a2 (Int.tmod (w32 ((M (b + 2) a0) + (M b 4))) 12) M) else (F_xg_behindSheet_31 Q b a0 a1 a2 (M (b + 2) a0) M)))
def F_xg_behindStack_44 (Q : Int → cM → Prop) (k14 : Int → Int → Int → Int → Int → cM → Prop) (b : Int) (l1 : Int) (l2 : Int) (l4 : Int) (l5 : Int) (l6 : Int) (s0 : Int) (s1 : Int) (M : cM) : Prop := ((0 : Int) ≤ s0 ∧ s0 < 6) ∧ (F_xg_behindSheet (fun x4 M3 => k14 l1 l2 l4 x4 (w32 (l6 + 1)) M3) b (M s1 s0) l2 l5 M)
def F_xg_behindStack_14 (Q : Int → cM → Prop) (b : Int) : Nat → Int → Int → Int → Int → Int → cM → Prop
  | 0, _, _, _, _, _, _ => False
  | n14 + 1, l1, l2, l4, l5, l6, M => if l4 ≤ l6 then (Q l5 M) else (((0 : Int) ≤ l1 ∧ l1 < 4) ∧ (if l2 = 0 then (F_xg_behindStack_44 Q (F_xg_behindStack_14 Q b n14) b l1 l2 l4 l5 l6 l6 (b + 5 + l1) M) else (F_xg_behindStack_44 Q (F_xg_behindStack_14 Q b n14) b l1 l2 l4 l5 l6 (w32 ((w32 (l4 - 1)) - l6)) (b + 5 + l1) M)))
def F_xg_behindStack (Q : Int → cM → Prop) (b : Int) (a0 : Int) (a1 : Int) (a2 : Int) (M : cM) : Prop := ((0 : Int) ≤ a0 ∧ a0 < 4) ∧ (∃ e14, F_xg_behindStack_14 Q b e14 a0 a1 (M (b + 9) a0) a2 0 M)
def F_xg_frontLight (Q : Int → cM → Prop) (b : Int) (a0 : Int) (M : cM) : Prop := F_xg_lampLight (fun x2 M1 => F_xg_behindStack (fun x5 M4 => Q x5 M4) b a0 0 x2 M1) b M
def F_xj_Math_abs (Q : Int → cM → Prop) (a0 : Int) (M : cM) : Prop := if 0 ≤ a0 then (Q a0 M) else (Q (w32 (-a0)) M)
def F_xl_ofSky_12 (Q : Int → cM → Prop) (M : cM) : Prop := F_xl_of (fun x3 M2 => Q x3 M2) 100 (-1) M
def F_xl_ofSky (Q : Int → cM → Prop) (a0 : Int) (M : cM) : Prop := if a0 < 6 then (F_xl_ofSky_12 Q M) else (if a0 ≤ 17 then (F_xj_Math_floorMod (fun x7 M6 => F_xl_of (fun x10 M9 => Q x10 M9) 1000 x7 M6) (w32 (a0 - 3)) 12 M) else (F_xl_ofSky_12 Q M))
def F_xg_frontLightWithout_41 (Q : Int → cM → Prop) (k8 : Int → Int → Int → Int → cM → Prop) (b : Int) (l1 : Int) (l2 : Int) (l3 : Int) (l4 : Int) (M : cM) : Prop := k8 l1 l2 l3 (w32 (l4 + 1)) M
def F_xg_frontLightWithout_8 (Q : Int → cM → Prop) (b : Int) : Nat → Int → Int → Int → Int → cM → Prop
  | 0, _, _, _, _, _ => False
  | n8 + 1, l1, l2, l3, l4, M => ((0 : Int) ≤ l1 ∧ l1 < 4) ∧ (if (M (b + 9) l1) ≤ l4 then (Q l3 M) else (if l4 = l2 then (F_xg_frontLightWithout_41 Q (F_xg_frontLightWithout_8 Q b n8) b l1 l2 l3 l4 M) else (((0 : Int) ≤ l1 ∧ l1 < 4) ∧ (((0 : Int) ≤ l4 ∧ l4 < 6) ∧ (F_xg_behindSheet (fun x7 M6 => F_xg_frontLightWithout_41 Q (F_xg_frontLightWithout_8 Q b n8) b l1 l2 x7 l4 M6) b (M (b + 5 + l1) l4) 0 l3 M)))))
def F_xg_frontLightWithout (Q : Int → cM → Prop) (b : Int) (a0 : Int) (a1 : Int) (M : cM) : Prop := F_xg_lampLight (fun x2 M1 => ∃ e8, F_xg_frontLightWithout_8 Q b e8 a0 a1 x2 0 M1) b M
def F_xg_addLook (Q : cM → Prop) (b : Int) (a0 : Int) (a1 : Int) (M : cM) : Prop := ((0 : Int) ≤ (M b 9) ∧ (M b 9) < 4) ∧ (((0 : Int) ≤ ((wr M (b + 10) (M b 9) a0) b 9) ∧ ((wr M (b + 10) (M b 9) a0) b 9) < 4) ∧ (Q (wr (wr (wr M (b + 10) (M b 9) a0) (b + 11) ((wr M (b + 10) (M b 9) a0) b 9) a1) b 9 (w32 (((wr (wr M (b + 10) (M b 9) a0) (b + 11) ((wr M (b + 10) (M b 9) a0) b 9) a1) b 9) + 1)))))
def F_xa_start_57 (Q : cM → Prop) (k7 : Int → Int → cM → Prop) (r0 : Int) (r0n : Nat) (l2 : Int) (l3 : Int) (l4 : Int) (M : cM) : Prop := ((0 : Int) ≤ l3 ∧ l3 < (r0n : Int)) ∧ (((0 : Int) ≤ l4 ∧ l4 < 6) ∧ (k7 l2 (w32 (l3 + 1)) (wr M 77 l4 (M r0 l3))))
def F_xa_start_15 (Q : cM → Prop) (k7 : Int → Int → cM → Prop) (r0 : Int) (r0n : Nat) : Nat → Int → Int → Int → cM → Prop
  | 0, _, _, _, _ => False
  | n15 + 1, l2, l3, l4, M => if l4 ≤ 0 then (F_xa_start_57 Q (k7) r0 r0n l2 l3 l4 M) else (((0 : Int) ≤ (w32 (l4 - 1)) ∧ (w32 (l4 - 1)) < 6) ∧ (((0 : Int) ≤ l3 ∧ l3 < (r0n : Int)) ∧ (if (M 77 (w32 (l4 - 1))) ≤ (M r0 l3) then (F_xa_start_57 Q (k7) r0 r0n l2 l3 l4 M) else (((0 : Int) ≤ (w32 (l4 - 1)) ∧ (w32 (l4 - 1)) < 6) ∧ (((0 : Int) ≤ l4 ∧ l4 < 6) ∧ (F_xa_start_15 Q k7 r0 r0n n15 l2 l3 (w32 (l4 + (-1))) (wr M 77 l4 (M 77 (w32 (l4 - 1))))))))))
def F_xa_start_7 (Q : cM → Prop) (r0 : Int) (r0n : Nat) : Nat → Int → Int → cM → Prop
  | 0, _, _, _ => False
  | n7 + 1, l2, l3, M => if l2 ≤ l3 then (Q M) else (∃ e15, F_xa_start_15 Q (F_xa_start_7 Q r0 r0n n7) r0 r0n e15 l2 l3 l3 M)
def F_xa_start (Q : cM → Prop) (r0 : Int) (r0n : Nat) (a1 : Int) (M : cM) : Prop := ∃ e7, F_xa_start_7 Q r0 r0n e7 a1 0 (wr M 76 1 a1)
def F_xg_behindRow_8 (Q : Int → cM → Prop) (b : Int) (r0 : Int) (r0n : Nat) : Nat → Int → Int → Int → cM → Prop
  | 0, _, _, _, _ => False
  | n8 + 1, l2, l3, l4, M => if l2 ≤ l4 then (Q l3 M) else (((0 : Int) ≤ l4 ∧ l4 < (r0n : Int)) ∧ (F_xg_behindSheet (fun x6 M5 => F_xg_behindRow_8 Q b r0 r0n n8 l2 x6 (w32 (l4 + 1)) M5) b (M r0 l4) 0 l3 M))
def F_xg_behindRow (Q : Int → cM → Prop) (b : Int) (r0 : Int) (r0n : Nat) (a1 : Int) (M : cM) : Prop := F_xg_lampLight (fun x2 M1 => ∃ e8, F_xg_behindRow_8 Q b r0 r0n e8 a1 x2 0 M1) b M
def F_xa_swap (Q : cM → Prop) (a0 : Int) (a1 : Int) (M : cM) : Prop := ((0 : Int) ≤ a0 ∧ a0 < 6) ∧ (((0 : Int) ≤ a1 ∧ a1 < 6) ∧ (((0 : Int) ≤ a0 ∧ a0 < 6) ∧ (((0 : Int) ≤ a1 ∧ a1 < 6) ∧ (Q (wr (wr M 77 a0 (M 77 a1)) 77 a1 (M 77 a0))))))
def F_xa_advance_91 (Q : Int → cM → Prop) : Nat → Int → Int → cM → Prop
  | 0, _, _, _ => False
  | n91 + 1, l3, l4, M => if l4 ≤ l3 then (Q (narK 4 1) M) else (F_xa_swap (fun M8 => F_xa_advance_91 Q n91 (w32 (l3 + 1)) (w32 (l4 + (-1))) M8) l3 l4 M)
def F_xa_advance_73 (Q : Int → cM → Prop) (l1 : Int) (l2 : Int) (M : cM) : Prop := F_xa_swap (fun M4 => ∃ e91, F_xa_advance_91 Q e91 (w32 (l1 + 1)) (w32 ((M4 76 1) - 1)) M4) l1 l2 M
def F_xa_advance_47 (Q : Int → cM → Prop) : Nat → Int → Int → cM → Prop
  | 0, _, _, _ => False
  | n47 + 1, l1, l2, M => if l2 ≤ l1 then (F_xa_advance_73 Q l1 l2 M) else (((0 : Int) ≤ l2 ∧ l2 < 6) ∧ (((0 : Int) ≤ l1 ∧ l1 < 6) ∧ (if (M 77 l1) < (M 77 l2) then (F_xa_advance_73 Q l1 l2 M) else (F_xa_advance_47 Q n47 l1 (w32 (l2 + (-1))) M))))
def F_xa_advance_34 (Q : Int → cM → Prop) (l1 : Int) (M : cM) : Prop := if 0 ≤ l1 then (∃ e47, F_xa_advance_47 Q e47 l1 (w32 ((M 76 1) - 1)) M) else (Q (narK 4 0) M)
def F_xa_advance_7 (Q : Int → cM → Prop) : Nat → Int → cM → Prop
  | 0, _, _ => False
  | n7 + 1, l1, M => if l1 < 0 then (F_xa_advance_34 Q l1 M) else (((0 : Int) ≤ l1 ∧ l1 < 6) ∧ (((0 : Int) ≤ (w32 (l1 + 1)) ∧ (w32 (l1 + 1)) < 6) ∧ (if (M 77 l1) < (M 77 (w32 (l1 + 1))) then (F_xa_advance_34 Q l1 M) else (F_xa_advance_7 Q n7 (w32 (l1 + (-1))) M))))
def F_xa_advance (Q : Int → cM → Prop) (M : cM) : Prop := ∃ e7, F_xa_advance_7 Q e7 (w32 ((M 76 1) - 2)) M
def F_xg_fitsLooks_2 (Q : Int → cM → Prop) (b : Int) : Nat → Int → Int → cM → Prop
  | 0, _, _, _ => False
  | n2 + 1, l1, l2, M => if (M b 9) ≤ l2 then (Q (narK 4 1) M) else (((0 : Int) ≤ l2 ∧ l2 < 4) ∧ (F_xl_seenAt (fun x3 M2 => ((0 : Int) ≤ l2 ∧ l2 < 4) ∧ (if x3 = (M2 (b + 11) l2) then (F_xg_fitsLooks_2 Q b n2 l1 (w32 (l2 + 1)) M2) else (Q (narK 4 0) M2))) l1 (M (b + 10) l2) M))
def F_xg_fitsLooks (Q : Int → cM → Prop) (b : Int) (a0 : Int) (M : cM) : Prop := ∃ e2, F_xg_fitsLooks_2 Q b e2 a0 0 M
def F_xj_Integer_bitCount_48 (Q : Int → cM → Prop) (l0 : Int) (M : cM) : Prop := Q (zand l0 63) M
def F_xj_Integer_bitCount_41 (Q : Int → cM → Prop) (l0 : Int) (M : cM) : Prop := F_xj_Integer_bitCount_48 Q (w32 (l0 + (zushr l0 16))) M
def F_xj_Integer_bitCount_34 (Q : Int → cM → Prop) (l0 : Int) (M : cM) : Prop := F_xj_Integer_bitCount_41 Q (w32 (l0 + (zushr l0 8))) M
def F_xj_Integer_bitCount_24 (Q : Int → cM → Prop) (l0 : Int) (M : cM) : Prop := F_xj_Integer_bitCount_34 Q (zand (w32 (l0 + (zushr l0 4))) 252645135) M
def F_xj_Integer_bitCount_10 (Q : Int → cM → Prop) (l0 : Int) (M : cM) : Prop := F_xj_Integer_bitCount_24 Q (w32 ((zand l0 858993459) + (zand (zushr l0 2) 858993459))) M
def F_xj_Integer_bitCount (Q : Int → cM → Prop) (a0 : Int) (M : cM) : Prop := F_xj_Integer_bitCount_10 Q (w32 (a0 - (zand (zushr a0 1) 1431655765))) M
def F_xj_Math_max (Q : Int → cM → Prop) (a0 : Int) (a1 : Int) (M : cM) : Prop := if a0 < a1 then (Q a1 M) else (Q a0 M)
def F_xg_draw (Q : Int → cM → Prop) (b : Int) (M : cM) : Prop := Q (zushr ((wr M b 12 (w32 ((w32 ((M b 12) * 1103515245)) + 12345))) b 12) 8) (wr M b 12 (w32 ((w32 ((M b 12) * 1103515245)) + 12345)))
def F_xt_add (Q : cM → Prop) (a0 : Int) (M : cM) : Prop := ((0 : Int) ≤ (M 70 1) ∧ (M 70 1) < 120) ∧ (Q (wr (wr M 71 (M 70 1) (narK 5 a0)) 70 1 (w32 (((wr M 71 (M 70 1) (narK 5 a0)) 70 1) + 1))))
def F_xg_become_79 (Q : cM → Prop) (b : Int) (b0 : Int) : Nat → Int → cM → Prop
  | 0, _, _ => False
  | n79 + 1, l2, M => if 4 ≤ l2 then (((0 : Int) ≤ 0 ∧ (0 : Int) ≤ 0 ∧ (0 : Int) ≤ 4 ∧ (0 : Int) + 4 ≤ 4 ∧ (0 : Int) + 4 ≤ 4) ∧ (((0 : Int) ≤ 0 ∧ (0 : Int) ≤ 0 ∧ (0 : Int) ≤ 4 ∧ (0 : Int) + 4 ≤ 4 ∧ (0 : Int) + 4 ≤ 4) ∧ (((0 : Int) ≤ 0 ∧ (0 : Int) ≤ 0 ∧ (0 : Int) ≤ 10 ∧ (0 : Int) + 10 ≤ 10 ∧ (0 : Int) + 10 ≤ 10) ∧ (Q (cpyM (wr (cpyM (cpyM (wr M b 9 (M b0 9)) (b0 + 10) 0 (b + 10) 0 4) (b0 + 11) 0 (b + 11) 0 4) b 12 ((cpyM (cpyM (wr M b 9 (M b0 9)) (b0 + 10) 0 (b + 10) 0 4) (b0 + 11) 0 (b + 11) 0 4) b0 12)) (b0 + 12) 0 (b + 12) 0 10))))) else (((0 : Int) ≤ l2 ∧ l2 < 4) ∧ (((0 : Int) ≤ l2 ∧ l2 < 4) ∧ (F_xg_setStack (fun M2 => F_xg_become_79 Q b b0 n79 (w32 (l2 + 1)) M2) b (b0 + 5 + l2) 6 l2 (M (b0 + 9) l2) M)))
def F_xg_become (Q : cM → Prop) (b : Int) (b0 : Int) (M : cM) : Prop := ((0 : Int) ≤ 0 ∧ (0 : Int) ≤ 0 ∧ (0 : Int) ≤ 10 ∧ (0 : Int) + 10 ≤ 10 ∧ (0 : Int) + 10 ≤ 10) ∧ (((0 : Int) ≤ 0 ∧ (0 : Int) ≤ 0 ∧ (0 : Int) ≤ 10 ∧ (0 : Int) + 10 ≤ 10 ∧ (0 : Int) + 10 ≤ 10) ∧ (((0 : Int) ≤ 0 ∧ (0 : Int) ≤ 0 ∧ (0 : Int) ≤ 10 ∧ (0 : Int) + 10 ≤ 10 ∧ (0 : Int) + 10 ≤ 10) ∧ (∃ e79, F_xg_become_79 Q b b0 e79 0 (wr (wr (wr (cpyM (cpyM (cpyM (wr M b 0 (M b0 0)) (b0 + 1) 0 (b + 1) 0 10) (b0 + 2) 0 (b + 2) 0 10) (b0 + 3) 0 (b + 3) 0 10) b 4 ((cpyM (cpyM (cpyM (wr M b 0 (M b0 0)) (b0 + 1) 0 (b + 1) 0 10) (b0 + 2) 0 (b + 2) 0 10) (b0 + 3) 0 (b + 3) 0 10) b0 4)) b 5 ((wr (cpyM (cpyM (cpyM (wr M b 0 (M b0 0)) (b0 + 1) 0 (b + 1) 0 10) (b0 + 2) 0 (b + 2) 0 10) (b0 + 3) 0 (b + 3) 0 10) b 4 ((cpyM (cpyM (cpyM (wr M b 0 (M b0 0)) (b0 + 1) 0 (b + 1) 0 10) (b0 + 2) 0 (b + 2) 0 10) (b0 + 3) 0 (b + 3) 0 10) b0 4)) b0 5)) b 6 ((wr (wr (cpyM (cpyM (cpyM (wr M b 0 (M b0 0)) (b0 + 1) 0 (b + 1) 0 10) (b0 + 2) 0 (b + 2) 0 10) (b0 + 3) 0 (b + 3) 0 10) b 4 ((cpyM (cpyM (cpyM (wr M b 0 (M b0 0)) (b0 + 1) 0 (b + 1) 0 10) (b0 + 2) 0 (b + 2) 0 10) (b0 + 3) 0 (b + 3) 0 10) b0 4)) b 5 ((wr (cpyM (cpyM (cpyM (wr M b 0 (M b0 0)) (b0 + 1) 0 (b + 1) 0 10) (b0 + 2) 0 (b + 2) 0 10) (b0 + 3) 0 (b + 3) 0 10) b 4 ((cpyM (cpyM (cpyM (wr M b 0 (M b0 0)) (b0 + 1) 0 (b + 1) 0 10) (b0 + 2) 0 (b + 2) 0 10) (b0 + 3) 0 (b + 3) 0 10) b0 4)) b0 5)) b0 6)))))
def F_xj_String_coder (Q : Int → cM → Prop) (k : Nat) (M : cM) : Prop := if (1 : Int) = 0 then (Q (narK 5 1) M) else (Q (narK 5 0) M)
def F_xj_String_length (Q : Int → cM → Prop) (k : Nat) (M : cM) : Prop := F_xj_String_coder (fun x2 M1 => Q (zshr (M (2000 + (k : Nat)) (-1)) x2) M1) k M
def F_xj_String_isLatin1_17 (Q : Int → cM → Prop) (k : Nat) (M : cM) : Prop := Q (narK 4 0) M
def F_xj_String_isLatin1 (Q : Int → cM → Prop) (k : Nat) (M : cM) : Prop := if (1 : Int) = 0 then (F_xj_String_isLatin1_17 Q k M) else (if (0 : Int) = 0 then (Q (narK 4 1) M) else (F_xj_String_isLatin1_17 Q k M))
def F_xj_Preconditions_checkIndex_9 (Q : Int → cM → Prop) (l0 : Int) (l1 : Int) (M : cM) : Prop := False
def F_xj_Preconditions_checkIndex (Q : Int → cM → Prop) (a0 : Int) (a1 : Int) (M : cM) : Prop := if a0 < 0 then (F_xj_Preconditions_checkIndex_9 Q a0 a1 M) else (if a0 < a1 then (Q a0 M) else (F_xj_Preconditions_checkIndex_9 Q a0 a1 M))
def F_xj_String_checkIndex (Q : cM → Prop) (a0 : Int) (a1 : Int) (M : cM) : Prop := F_xj_Preconditions_checkIndex (fun x2 M1 => Q M1) a0 a1 M
def F_xj_StringLatin1_charAt (Q : Int → cM → Prop) (k0 : Nat) (a1 : Int) (M : cM) : Prop := F_xj_String_checkIndex (fun M1 => ((0 : Int) ≤ a1 ∧ a1 < M1 (2000 + (k0 : Nat)) (-1)) ∧ (Q (narK 6 (zi2c (zand (M1 (2000 + (k0 : Nat)) a1) 255))) M1)) a1 (M (2000 + (k0 : Nat)) (-1)) M
def F_xj_String_charAt (Q : Int → cM → Prop) (k : Nat) (a0 : Int) (M : cM) : Prop := F_xj_String_isLatin1 (fun x2 M1 => if x2 = 0 then (False) else (F_xj_StringLatin1_charAt (fun x6 M5 => Q (narK 6 x6) M5) k a0 M1)) k M
def F_xj_Math_min (Q : Int → cM → Prop) (a0 : Int) (a1 : Int) (M : cM) : Prop := if a1 < a0 then (Q a1 M) else (Q a0 M)
def F_xr_become (Q : cM → Prop) (r : Int) (a0 : Int) (a1 : Int) (M : cM) : Prop := F_xj_Arrays_fill (fun M1 => Q M1) (r + 1) 40 0 (wr (wr M r 0 a0) r 1 a1)
def F_xr_isMissing (Q : Int → cM → Prop) (r : Int) (M : cM) : Prop := if (M r 0) = 0 then (Q (narK 4 1) M) else (Q (narK 4 0) M)
def F_xr_set (Q : cM → Prop) (r : Int) (a0 : Int) (a1 : Int) (M : cM) : Prop := if (M r 0) = 8 then (((0 : Int) ≤ a0 ∧ a0 < 40) ∧ (Q (wr M (r + 1) a0 (zi2b a1)))) else (if (M r 0) = 16 then (((0 : Int) ≤ a0 ∧ a0 < 40) ∧ (Q (wr M (r + 1) a0 (zi2s a1)))) else (((0 : Int) ≤ a0 ∧ a0 < 40) ∧ (Q (wr M (r + 1) a0 a1))))
def F_xr_hasRange_30 (Q : Int → cM → Prop) (r : Int) (M : cM) : Prop := Q (narK 4 0) M
def F_xr_hasRange (Q : Int → cM → Prop) (r : Int) (a0 : Int) (a1 : Int) (M : cM) : Prop := if a0 < 0 then (F_xr_hasRange_30 Q r M) else (if a1 < 0 then (F_xr_hasRange_30 Q r M) else (if (M r 1) < a1 then (F_xr_hasRange_30 Q r M) else (if (w32 ((M r 1) - a1)) < a0 then (F_xr_hasRange_30 Q r M) else (Q (narK 4 1) M))))
def F_xg_sheetsInStacks_4 (Q : Int → cM → Prop) (b : Int) : Nat → Int → Int → cM → Prop
  | 0, _, _, _ => False
  | n4 + 1, l1, l2, M => if 4 ≤ l2 then (Q l1 M) else (((0 : Int) ≤ l2 ∧ l2 < 4) ∧ (F_xg_sheetsInStacks_4 Q b n4 (w32 (l1 + (M (b + 9) l2))) (w32 (l2 + 1)) M))
def F_xg_sheetsInStacks (Q : Int → cM → Prop) (b : Int) (M : cM) : Prop := ∃ e4, F_xg_sheetsInStacks_4 Q b e4 0 0 M
def F_xg_spotsInUse_22 (Q : Int → cM → Prop) (k4 : Int → Int → cM → Prop) (b : Int) (l1 : Int) (l2 : Int) (M : cM) : Prop := k4 l1 (w32 (l2 + 1)) M
def F_xg_spotsInUse_4 (Q : Int → cM → Prop) (b : Int) : Nat → Int → Int → cM → Prop
  | 0, _, _, _ => False
  | n4 + 1, l1, l2, M => if 10 ≤ l2 then (Q l1 M) else (((0 : Int) ≤ l2 ∧ l2 < 10) ∧ (if (M (b + 12) l2) < 0 then (F_xg_spotsInUse_22 Q (F_xg_spotsInUse_4 Q b n4) b l1 l2 M) else (F_xg_spotsInUse_22 Q (F_xg_spotsInUse_4 Q b n4) b (w32 (l1 + 1)) l2 M)))
def F_xg_spotsInUse (Q : Int → cM → Prop) (b : Int) (M : cM) : Prop := ∃ e4, F_xg_spotsInUse_4 Q b e4 0 0 M
