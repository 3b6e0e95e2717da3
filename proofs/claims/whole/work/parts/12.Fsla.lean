/-! What each method does, over Ints. -/
def F_xs_within_13 (Q : Int → cM → Prop) (M : cM) : Prop := Q (narK 4 0) M
def F_xs_within (Q : Int → cM → Prop) (a0 : Int) (a1 : Int) (M : cM) : Prop := if a0 < 0 then (F_xs_within_13 Q M) else (if a1 ≤ a0 then (F_xs_within_13 Q M) else (Q (narK 4 1) M))
def F_xs_isShare (Q : Int → cM → Prop) (a0 : Int) (M : cM) : Prop := F_xs_within (fun x2 M1 => Q (narK 4 x2) M1) a0 1001 M
def F_xs_finding (Q : Int → cM → Prop) (a0 : Int) (M : cM) : Prop := ((0 : Int) ≤ (w32 ((-1000001) - a0)) ∧ (w32 ((-1000001) - a0)) < 7) ∧ (((0 : Int) ≤ (w32 ((-1000001) - a0)) ∧ (w32 ((-1000001) - a0)) < 7) ∧ (Q a0 (wr M 75 (w32 ((-1000001) - a0)) (w32 ((M 75 (w32 ((-1000001) - a0))) + 1)))))
def F_xs_sheet_25 (Q : Int → cM → Prop) (M : cM) : Prop := F_xs_finding (fun x6 M5 => Q x6 M5) (-1000001) M
def F_xs_sheet (Q : Int → cM → Prop) (a0 : Int) (a1 : Int) (a2 : Int) (M : cM) : Prop := F_xs_within (fun x2 M1 => if x2 = 0 then (F_xs_sheet_25 Q M1) else (F_xs_within (fun x9 M8 => if x9 = 0 then (F_xs_sheet_25 Q M8) else (F_xs_isShare (fun x13 M12 => if x13 = 0 then (F_xs_sheet_25 Q M12) else (if (M12 10 0) < 10 then (F_xg_addSheet (fun x18 M17 => Q x18 M17) 10 a0 a1 a2 M12) else (F_xs_finding (fun x21 M20 => Q x21 M20) (-1000002) M12))) a2 M8)) a1 12 M1)) a0 7 M
def F_xs_isSheet (Q : Int → cM → Prop) (a0 : Int) (M : cM) : Prop := F_xs_within (fun x2 M1 => Q (narK 4 x2) M1) a0 (M 10 0) M
def F_xs_sheetOf_16 (Q : Int → cM → Prop) (M : cM) : Prop := F_xs_finding (fun x6 M5 => Q x6 M5) (-1000001) M
def F_xs_sheetOf (Q : Int → cM → Prop) (a0 : Int) (a1 : Int) (M : cM) : Prop := F_xs_isSheet (fun x2 M1 => if x2 = 0 then (F_xs_sheetOf_16 Q M1) else (F_xs_within (fun x9 M8 => if x9 = 0 then (F_xs_sheetOf_16 Q M8) else (F_xg_property (fun x13 M12 => Q x13 M12) 10 a0 a1 M8)) a1 3 M1)) a0 M
def F_xs_isProperty (Q : Int → cM → Prop) (a0 : Int) (a1 : Int) (M : cM) : Prop := if a0 = 0 then (F_xs_within (fun x10 M9 => Q (narK 4 x10) M9) a1 7 M) else (if a0 = 1 then (F_xs_within (fun x7 M6 => Q (narK 4 x7) M6) a1 12 M) else (F_xs_isShare (fun x4 M3 => Q (narK 4 x4) M3) a1 M))
def F_xs_change_24 (Q : Int → cM → Prop) (M : cM) : Prop := F_xs_finding (fun x6 M5 => Q x6 M5) (-1000001) M
def F_xs_change (Q : Int → cM → Prop) (a0 : Int) (a1 : Int) (a2 : Int) (M : cM) : Prop := F_xs_isSheet (fun x2 M1 => if x2 = 0 then (F_xs_change_24 Q M1) else (F_xs_within (fun x9 M8 => if x9 = 0 then (F_xs_change_24 Q M8) else (F_xs_isProperty (fun x13 M12 => if x13 = 0 then (F_xs_change_24 Q M12) else (F_xg_property (fun x17 M16 => F_xg_setProperty (fun M19 => Q x17 M19) 10 a0 a1 a2 M16) 10 a0 a1 M12)) a1 a2 M8)) a1 3 M1)) a0 M
def F_xs_load (Q : Int → cM → Prop) (a0 : Int) (M : cM) : Prop := F_xs_within (fun x2 M1 => if x2 = 0 then (F_xs_finding (fun x6 M5 => Q x6 M5) (-1000001) M1) else (Q (M1 10 4) (wr M1 10 4 a0))) a0 12 M
def F_xs_lamp_66 (Q : Int → cM → Prop) (M : cM) : Prop := F_xs_finding (fun x4 M3 => Q x4 M3) (-1000001) M
def F_xs_lamp_48 (Q : Int → cM → Prop) (l2 : Int) (M : cM) : Prop := Q (M 10 6) (wr M 10 6 l2)
def F_xs_lamp_29 (Q : Int → cM → Prop) (l1 : Int) (l2 : Int) (M : cM) : Prop := if l1 = 1 then (if l2 = (-1) then (F_xs_lamp_48 Q l2 M) else (F_xs_within (fun x8 M7 => if x8 = 0 then (F_xs_lamp_66 Q M7) else (F_xs_lamp_48 Q l2 M7)) l2 12 M)) else (F_xs_lamp_66 Q M)
def F_xs_lamp (Q : Int → cM → Prop) (a0 : Int) (a1 : Int) (M : cM) : Prop := if a0 = 0 then (F_xs_isShare (fun x12 M11 => if x12 = 0 then (F_xs_lamp_29 Q a0 a1 M11) else (Q (M11 10 5) (wr M11 10 5 a1))) a1 M) else (F_xs_lamp_29 Q a0 a1 M)
def F_xs_isStack (Q : Int → cM → Prop) (a0 : Int) (M : cM) : Prop := F_xs_within (fun x2 M1 => Q (narK 4 x2) M1) a0 4 M
def F_xs_lay_15 (Q : Int → cM → Prop) (M : cM) : Prop := F_xs_finding (fun x6 M5 => Q x6 M5) (-1000001) M
def F_xs_lay (Q : Int → cM → Prop) (a0 : Int) (a1 : Int) (M : cM) : Prop := F_xs_isStack (fun x2 M1 => if x2 = 0 then (F_xs_lay_15 Q M1) else (F_xs_isSheet (fun x9 M8 => if x9 = 0 then (F_xs_lay_15 Q M8) else (F_xg_hasRoom (fun x13 M12 => if x13 = 0 then (F_xs_finding (fun x20 M19 => Q x20 M19) (-1000002) M12) else (F_xg_put (fun M16 => ((0 : Int) ≤ a0 ∧ a0 < 4) ∧ (Q (M16 19 a0) M16)) 10 a0 a1 M12)) 10 a0 M8)) a1 M1)) a0 M
def F_xs_off (Q : Int → cM → Prop) (a0 : Int) (M : cM) : Prop := F_xs_isStack (fun x2 M1 => if x2 = 0 then (F_xs_finding (fun x10 M9 => Q x10 M9) (-1000001) M1) else (((0 : Int) ≤ a0 ∧ a0 < 4) ∧ (if (M1 19 a0) = 0 then (F_xs_finding (fun x7 M6 => Q x7 M6) (-1000004) M1) else (((0 : Int) ≤ a0 ∧ a0 < 4) ∧ (((0 : Int) ≤ a0 ∧ a0 < 4) ∧ (((0 : Int) ≤ a0 ∧ a0 < 4) ∧ (((0 : Int) ≤ a0 ∧ a0 < 4) ∧ (((0 : Int) ≤ ((wr M1 19 a0 (w32 ((M1 19 a0) - 1))) 19 a0) ∧ ((wr M1 19 a0 (w32 ((M1 19 a0) - 1))) 19 a0) < 6) ∧ (Q ((wr M1 19 a0 (w32 ((M1 19 a0) - 1))) (15 + a0) ((wr M1 19 a0 (w32 ((M1 19 a0) - 1))) 19 a0)) (wr M1 19 a0 (w32 ((M1 19 a0) - 1)))))))))))) a0 M
def F_xs_at_16 (Q : Int → cM → Prop) (M : cM) : Prop := F_xs_finding (fun x6 M5 => Q x6 M5) (-1000001) M
def F_xs_at (Q : Int → cM → Prop) (a0 : Int) (a1 : Int) (M : cM) : Prop := F_xs_isStack (fun x2 M1 => if x2 = 0 then (F_xs_at_16 Q M1) else (F_xs_within (fun x9 M8 => if x9 = 0 then (F_xs_at_16 Q M8) else (((0 : Int) ≤ a0 ∧ a0 < 4) ∧ (if a1 < (M8 19 a0) then (((0 : Int) ≤ a0 ∧ a0 < 4) ∧ (((0 : Int) ≤ a1 ∧ a1 < 6) ∧ (Q (M8 (15 + a0) a1) M8))) else (F_xs_finding (fun x14 M13 => Q x14 M13) (-1000004) M8)))) a1 6 M1)) a0 M
def F_xs_round_37 (Q : Int → cM → Prop) : Nat → Int → Int → Int → cM → Prop
  | 0, _, _, _, _ => False
  | n37 + 1, l2, l3, l4, M => if (w32 (Int.tdiv l3 2)) ≤ l4 then (Q l3 M) else (((0 : Int) ≤ l4 ∧ l4 < 6) ∧ (((0 : Int) ≤ (w32 ((w32 (l3 - 1)) - l4)) ∧ (w32 ((w32 (l3 - 1)) - l4)) < 6) ∧ (((0 : Int) ≤ l4 ∧ l4 < 6) ∧ (((0 : Int) ≤ (w32 ((w32 (l3 - 1)) - l4)) ∧ (w32 ((w32 (l3 - 1)) - l4)) < 6) ∧ (F_xs_round_37 Q n37 l2 l3 (w32 (l4 + 1)) (wr (wr M l2 l4 (M l2 (w32 ((w32 (l3 - 1)) - l4)))) l2 (w32 ((w32 (l3 - 1)) - l4)) (M l2 l4)))))))
def F_xs_round (Q : Int → cM → Prop) (a0 : Int) (M : cM) : Prop := F_xs_isStack (fun x2 M1 => if x2 = 0 then (F_xs_finding (fun x7 M6 => Q x7 M6) (-1000001) M1) else (((0 : Int) ≤ a0 ∧ a0 < 4) ∧ (((0 : Int) ≤ a0 ∧ a0 < 4) ∧ (∃ e37, F_xs_round_37 Q e37 (15 + a0) (M1 19 a0) 0 M1)))) a0 M
def F_xs_like_14 (Q : Int → cM → Prop) (M : cM) : Prop := F_xs_finding (fun x6 M5 => Q x6 M5) (-1000001) M
def F_xs_like (Q : Int → cM → Prop) (a0 : Int) (a1 : Int) (M : cM) : Prop := F_xs_isStack (fun x2 M1 => if x2 = 0 then (F_xs_like_14 Q M1) else (F_xs_isStack (fun x9 M8 => if x9 = 0 then (F_xs_like_14 Q M8) else (((0 : Int) ≤ a1 ∧ a1 < 4) ∧ (((0 : Int) ≤ a1 ∧ a1 < 4) ∧ (F_xg_setStack (fun M12 => ((0 : Int) ≤ a0 ∧ a0 < 4) ∧ (Q (M12 19 a0) M12)) 10 (15 + a1) 6 a0 (M8 19 a1) M8)))) a1 M1)) a0 M
def F_xs_through_15 (Q : Int → cM → Prop) (M : cM) : Prop := F_xs_finding (fun x6 M5 => Q x6 M5) (-1000001) M
def F_xs_through (Q : Int → cM → Prop) (a0 : Int) (a1 : Int) (a2 : Int) (M : cM) : Prop := F_xs_isStack (fun x2 M1 => if x2 = 0 then (F_xs_through_15 Q M1) else (F_xs_within (fun x9 M8 => if x9 = 0 then (F_xs_through_15 Q M8) else (F_xg_lampLight (fun x13 M12 => F_xg_behindStack (fun x16 M15 => if a2 = 0 then (F_xl_share (fun x23 M22 => Q x23 M22) x16 M15) else (F_xl_slant (fun x20 M19 => Q x20 M19) x16 M15)) 10 a0 a1 x13 M12) 10 M8)) a2 2 M1)) a0 M
def F_xs_seen_16 (Q : Int → cM → Prop) (M : cM) : Prop := F_xs_finding (fun x6 M5 => Q x6 M5) (-1000001) M
def F_xs_seen (Q : Int → cM → Prop) (a0 : Int) (a1 : Int) (a2 : Int) (M : cM) : Prop := F_xs_isStack (fun x2 M1 => if x2 = 0 then (F_xs_seen_16 Q M1) else (F_xs_within (fun x9 M8 => if x9 = 0 then (F_xs_seen_16 Q M8) else (F_xg_lampLight (fun x13 M12 => F_xg_behindStack (fun x16 M15 => F_xl_seenAt (fun x19 M18 => Q x19 M18) x16 a2 M15) 10 a0 a1 x13 M12) 10 M8)) a2 12 M1)) a0 M
def F_xs_bright_63 (Q : Int → cM → Prop) (k37 : Int → Int → Int → cM → Prop) (l3 : Int) (l4 : Int) (l5 : Int) (M : cM) : Prop := k37 l3 l4 (w32 (l5 + 1)) M
def F_xs_bright_37 (Q : Int → cM → Prop) : Nat → Int → Int → Int → cM → Prop
  | 0, _, _, _, _ => False
  | n37 + 1, l3, l4, l5, M => if 12 ≤ l5 then (Q l4 M) else (F_xl_seenAt (fun x13 M12 => F_xl_seenAt (fun x16 M15 => if x13 ≤ x16 then (F_xs_bright_63 Q (F_xs_bright_37 Q n37) l3 l4 l5 M15) else (F_xs_bright_63 Q (F_xs_bright_37 Q n37) l3 l5 l5 M15)) l3 l4 M12) l3 l5 M)
def F_xs_bright (Q : Int → cM → Prop) (a0 : Int) (a1 : Int) (M : cM) : Prop := F_xs_isStack (fun x2 M1 => if x2 = 0 then (F_xs_finding (fun x20 M19 => Q x20 M19) (-1000001) M1) else (F_xg_lampLight (fun x6 M5 => F_xg_behindStack (fun x9 M8 => ∃ e37, F_xs_bright_37 Q e37 x9 0 1 M8) 10 a0 a1 x6 M5) 10 M1)) a0 M
def F_xs_dark_63 (Q : Int → cM → Prop) (k37 : Int → Int → Int → cM → Prop) (l3 : Int) (l4 : Int) (l5 : Int) (M : cM) : Prop := k37 l3 l4 (w32 (l5 + 1)) M
def F_xs_dark_37 (Q : Int → cM → Prop) : Nat → Int → Int → Int → cM → Prop
  | 0, _, _, _, _ => False
  | n37 + 1, l3, l4, l5, M => if 12 ≤ l5 then (Q l4 M) else (F_xl_seenAt (fun x13 M12 => F_xl_seenAt (fun x16 M15 => if x16 ≤ x13 then (F_xs_dark_63 Q (F_xs_dark_37 Q n37) l3 l4 l5 M15) else (F_xs_dark_63 Q (F_xs_dark_37 Q n37) l3 l5 l5 M15)) l3 l4 M12) l3 l5 M)
def F_xs_dark (Q : Int → cM → Prop) (a0 : Int) (a1 : Int) (M : cM) : Prop := F_xs_isStack (fun x2 M1 => if x2 = 0 then (F_xs_finding (fun x20 M19 => Q x20 M19) (-1000001) M1) else (F_xg_lampLight (fun x6 M5 => F_xg_behindStack (fun x9 M8 => ∃ e37, F_xs_dark_37 Q e37 x9 0 1 M8) 10 a0 a1 x6 M5) 10 M1)) a0 M
def F_xs_tiltsApart_39 (Q : Int → cM → Prop) (k5 : Int → Int → Int → Int → Int → cM → Prop) (l0 : Int) (l1 : Int) (l2 : Int) (l3 : Int) (l4 : Int) (M : cM) : Prop := k5 l0 l1 l2 l3 (w32 (l4 + 1)) M
def F_xs_tiltsApart_5 (Q : Int → cM → Prop) : Nat → Int → Int → Int → Int → Int → cM → Prop
  | 0, _, _, _, _, _, _ => False
  | n5 + 1, l0, l1, l2, l3, l4, M => if 12 ≤ l4 then (Q l3 M) else (F_xl_seenAt (fun x3 M2 => F_xl_seenAt (fun x6 M5 => F_xj_Math_abs (fun x9 M8 => if x9 ≤ l2 then (F_xs_tiltsApart_39 Q (F_xs_tiltsApart_5 Q n5) l0 l1 l2 l3 l4 M8) else (F_xs_tiltsApart_39 Q (F_xs_tiltsApart_5 Q n5) l0 l1 l2 (zor l3 (zshl 1 l4)) l4 M8)) (w32 (x3 - x6)) M5) l1 l4 M2) l0 l4 M)
def F_xs_tiltsApart (Q : Int → cM → Prop) (a0 : Int) (a1 : Int) (a2 : Int) (M : cM) : Prop := ∃ e5, F_xs_tiltsApart_5 Q e5 a0 a1 a2 0 0 M
def F_xs_alike_21 (Q : Int → cM → Prop) (M : cM) : Prop := F_xs_finding (fun x6 M5 => Q x6 M5) (-1000001) M
def F_xs_alike (Q : Int → cM → Prop) (a0 : Int) (a1 : Int) (a2 : Int) (M : cM) : Prop := F_xs_isStack (fun x2 M1 => if x2 = 0 then (F_xs_alike_21 Q M1) else (F_xs_isStack (fun x9 M8 => if x9 = 0 then (F_xs_alike_21 Q M8) else (F_xs_isShare (fun x13 M12 => if x13 = 0 then (F_xs_alike_21 Q M12) else (F_xg_frontLight (fun x17 M16 => F_xg_frontLight (fun x20 M19 => F_xs_tiltsApart (fun x23 M22 => Q (zand 4095 (zxor x23 (-1))) M22) x17 x20 a2 M19) 10 a1 M16) 10 a0 M12)) a2 M8)) a1 M1)) a0 M
def F_xs_sky_17 (Q : Int → cM → Prop) (M : cM) : Prop := F_xs_finding (fun x6 M5 => Q x6 M5) (-1000001) M
def F_xs_sky (Q : Int → cM → Prop) (a0 : Int) (a1 : Int) (M : cM) : Prop := F_xs_within (fun x2 M1 => if x2 = 0 then (F_xs_sky_17 Q M1) else (F_xs_within (fun x9 M8 => if x9 = 0 then (F_xs_sky_17 Q M8) else (F_xl_ofSky (fun x13 M12 => if a1 = 0 then (F_xl_share (fun x20 M19 => Q x20 M19) x13 M12) else (F_xl_slant (fun x17 M16 => Q x17 M16) x13 M12)) a0 M8)) a1 2 M1)) a0 24 M
def F_xs_hours_23 (Q : Int → cM → Prop) (M : cM) : Prop := F_xs_finding (fun x6 M5 => Q x6 M5) (-1000001) M
def F_xs_hours_78 (Q : Int → cM → Prop) (k36 : Int → Int → Int → Int → Int → cM → Prop) (l1 : Int) (l2 : Int) (l3 : Int) (l4 : Int) (l5 : Int) (M : cM) : Prop := k36 l1 l2 l3 l4 (w32 (l5 + 1)) M
def F_xs_hours_36 (Q : Int → cM → Prop) : Nat → Int → Int → Int → Int → Int → cM → Prop
  | 0, _, _, _, _, _, _ => False
  | n36 + 1, l1, l2, l3, l4, l5, M => if 24 ≤ l5 then (Q l4 M) else (F_xl_ofSky (fun x18 M17 => F_xg_behindStack (fun x21 M20 => F_xl_seenAt (fun x24 M23 => if x24 = l3 then (F_xs_hours_78 Q (F_xs_hours_36 Q n36) l1 l2 l3 (zor l4 (zshl 1 l5)) l5 M23) else (F_xs_hours_78 Q (F_xs_hours_36 Q n36) l1 l2 l3 l4 l5 M23)) x21 l2 M20) 10 l1 0 x18 M17) l5 M)
def F_xs_hours (Q : Int → cM → Prop) (a0 : Int) (a1 : Int) (a2 : Int) (M : cM) : Prop := F_xs_isStack (fun x2 M1 => if x2 = 0 then (F_xs_hours_23 Q M1) else (F_xs_within (fun x9 M8 => if x9 = 0 then (F_xs_hours_23 Q M8) else (F_xs_isShare (fun x13 M12 => if x13 = 0 then (F_xs_hours_23 Q M12) else (∃ e36, F_xs_hours_36 Q e36 a0 a1 a2 0 0 M12)) a2 M8)) a1 12 M1)) a0 M
def F_xs_loads_23 (Q : Int → cM → Prop) (M : cM) : Prop := F_xs_finding (fun x6 M5 => Q x6 M5) (-1000001) M
def F_xs_loads_86 (Q : Int → cM → Prop) (k45 : Int → Int → Int → Int → Int → Int → cM → Prop) (l1 : Int) (l2 : Int) (l3 : Int) (l4 : Int) (l5 : Int) (l6 : Int) (M : cM) : Prop := k45 l1 l2 l3 l4 l5 (w32 (l6 + 1)) M
def F_xs_loads_45 (Q : Int → cM → Prop) : Nat → Int → Int → Int → Int → Int → Int → cM → Prop
  | 0, _, _, _, _, _, _, _ => False
  | n45 + 1, l1, l2, l3, l4, l5, l6, M => if 12 ≤ l6 then (Q l5 (wr M 10 4 l4)) else (F_xg_frontLight (fun x18 M17 => F_xl_seenAt (fun x21 M20 => if x21 = l3 then (F_xs_loads_86 Q (F_xs_loads_45 Q n45) l1 l2 l3 l4 (zor l5 (zshl 1 l6)) l6 M20) else (F_xs_loads_86 Q (F_xs_loads_45 Q n45) l1 l2 l3 l4 l5 l6 M20)) x18 l2 M17) 10 l1 (wr M 10 4 l6))
def F_xs_loads (Q : Int → cM → Prop) (a0 : Int) (a1 : Int) (a2 : Int) (M : cM) : Prop := F_xs_isStack (fun x2 M1 => if x2 = 0 then (F_xs_loads_23 Q M1) else (F_xs_within (fun x9 M8 => if x9 = 0 then (F_xs_loads_23 Q M8) else (F_xs_isShare (fun x13 M12 => if x13 = 0 then (F_xs_loads_23 Q M12) else (∃ e45, F_xs_loads_45 Q e45 a0 a1 a2 (M12 10 4) 0 0 M12)) a2 M8)) a1 12 M1)) a0 M
def F_xs_nearest_23 (Q : Int → cM → Prop) (M : cM) : Prop := F_xs_finding (fun x6 M5 => Q x6 M5) (-1000001) M
def F_xs_nearest_118 (Q : Int → cM → Prop) (k68 : Int → Int → Int → Int → Int → Int → cM → Prop) (l2 : Int) (l3 : Int) (l4 : Int) (l5 : Int) (l6 : Int) (l7 : Int) (M : cM) : Prop := k68 l2 l3 l4 l5 l6 (w32 (l7 + 1)) M
def F_xs_nearest_68 (Q : Int → cM → Prop) : Nat → Int → Int → Int → Int → Int → Int → cM → Prop
  | 0, _, _, _, _, _, _, _ => False
  | n68 + 1, l2, l3, l4, l5, l6, l7, M => if (M 10 0) ≤ l7 then (Q l5 M) else (F_xg_behindSheet (fun x22 M21 => F_xl_seenAt (fun x25 M24 => F_xj_Math_abs (fun x28 M27 => if l6 ≤ x28 then (F_xs_nearest_118 Q (F_xs_nearest_68 Q n68) l2 l3 l4 l5 l6 l7 M27) else (F_xs_nearest_118 Q (F_xs_nearest_68 Q n68) l2 l3 l4 l7 x28 l7 M27)) (w32 (x25 - l3)) M24) x22 l2 M21) 10 l7 0 l4 M)
def F_xs_nearest (Q : Int → cM → Prop) (a0 : Int) (a1 : Int) (a2 : Int) (M : cM) : Prop := F_xs_isStack (fun x2 M1 => if x2 = 0 then (F_xs_nearest_23 Q M1) else (F_xs_within (fun x9 M8 => if x9 = 0 then (F_xs_nearest_23 Q M8) else (F_xs_isShare (fun x13 M12 => if x13 = 0 then (F_xs_nearest_23 Q M12) else (if (M12 10 0) = 0 then (F_xs_finding (fun x32 M31 => Q x32 M31) (-1000004) M12) else (F_xg_frontLight (fun x18 M17 => ∃ e68, F_xs_nearest_68 Q e68 a1 a2 x18 0 1001 0 M17) 10 a0 M12))) a2 M8)) a1 12 M1)) a0 M
def F_xs_canBring_23 (Q : Int → cM → Prop) (rec : (Int → cM → Prop) → Int → Int → Int → Int → Int → cM → Prop) (b0 : Int) : Nat → Int → Int → Int → Int → Int → cM → Prop
  | 0, _, _, _, _, _, _ => False
  | n23 + 1, l1, l2, l3, l4, l5, M => if (M b0 0) ≤ l5 then (Q (narK 4 0) M) else (F_xg_behindSheet (fun x4 M3 => rec (fun x7 M6 => if x7 = 0 then (F_xs_canBring_23 Q rec b0 n23 l1 l2 l3 l4 (w32 (l5 + 1)) M6) else (Q (narK 4 1) M6)) b0 x4 l2 l3 (w32 (l4 - 1)) M3) b0 l5 0 l1 M)
def F_xs_canBring_r (rec : (Int → cM → Prop) → Int → Int → Int → Int → Int → cM → Prop) (Q : Int → cM → Prop) (b0 : Int) (a1 : Int) (a2 : Int) (a3 : Int) (a4 : Int) (M : cM) : Prop := if 0 < a4 then (∃ e23, F_xs_canBring_23 Q rec b0 e23 a1 a2 a3 a4 0 M) else (F_xl_seenAt (fun x11 M10 => if x11 = a3 then (Q (narK 4 1) M10) else (Q (narK 4 0) M10)) a1 a2 M)
def F_xs_canBring_n : Nat → (Int → cM → Prop) → Int → Int → Int → Int → Int → cM → Prop
  | 0, _, _, _, _, _, _, _ => False
  | n + 1, Q, b0, a1, a2, a3, a4, M => F_xs_canBring_r (F_xs_canBring_n n) Q b0 a1 a2 a3 a4 M
def F_xs_canBring (Q : Int → cM → Prop) (b0 : Int) (a1 : Int) (a2 : Int) (a3 : Int) (a4 : Int) (M : cM) : Prop := F_xs_canBring_n 5 Q b0 a1 a2 a3 a4 M
def F_xs_fewest_23 (Q : Int → cM → Prop) (M : cM) : Prop := F_xs_finding (fun x6 M5 => Q x6 M5) (-1000001) M
def F_xs_fewest_63 (Q : Int → cM → Prop) : Nat → Int → Int → Int → Int → cM → Prop
  | 0, _, _, _, _, _ => False
  | n63 + 1, l2, l3, l4, l5, M => if 3 < l5 then (F_xs_finding (fun x22 M21 => Q x22 M21) (-1000004) M) else (F_xs_canBring (fun x25 M24 => if x25 = 0 then (F_xs_fewest_63 Q n63 l2 l3 l4 (w32 (l5 + 1)) M24) else (Q l5 M24)) 10 l4 l2 l3 l5 M)
def F_xs_fewest (Q : Int → cM → Prop) (a0 : Int) (a1 : Int) (a2 : Int) (M : cM) : Prop := F_xs_isStack (fun x2 M1 => if x2 = 0 then (F_xs_fewest_23 Q M1) else (F_xs_within (fun x9 M8 => if x9 = 0 then (F_xs_fewest_23 Q M8) else (F_xs_isShare (fun x13 M12 => if x13 = 0 then (F_xs_fewest_23 Q M12) else (((0 : Int) ≤ a0 ∧ a0 < 4) ∧ (if (M12 19 a0) ≤ 3 then (F_xg_frontLight (fun x18 M17 => ∃ e63, F_xs_fewest_63 Q e63 a1 a2 x18 0 M17) 10 a0 M12) else (F_xs_finding (fun x29 M28 => Q x29 M28) (-1000007) M12)))) a2 M8)) a1 12 M1)) a0 M
def F_xs_turnFor_24 (Q : Int → cM → Prop) (M : cM) : Prop := F_xs_finding (fun x6 M5 => Q x6 M5) (-1000001) M
def F_xs_turnFor_98 (Q : Int → cM → Prop) (k51 : Int → Int → Int → Int → Int → Int → Int → cM → Prop) (l1 : Int) (l2 : Int) (l3 : Int) (l4 : Int) (l5 : Int) (l6 : Int) (l7 : Int) (M : cM) : Prop := k51 l1 l2 l3 l4 l5 l6 (w32 (l7 + 1)) M
def F_xs_turnFor_51 (Q : Int → cM → Prop) : Nat → Int → Int → Int → Int → Int → Int → Int → cM → Prop
  | 0, _, _, _, _, _, _, _, _ => False
  | n51 + 1, l1, l2, l3, l4, l5, l6, l7, M => if 12 ≤ l7 then (((0 : Int) ≤ l1 ∧ l1 < 10) ∧ (Q l5 (wr M 12 l1 l4))) else (((0 : Int) ≤ l1 ∧ l1 < 10) ∧ (F_xg_frontLight (fun x18 M17 => F_xl_seenAt (fun x21 M20 => if x21 ≤ l6 then (F_xs_turnFor_98 Q (F_xs_turnFor_51 Q n51) l1 l2 l3 l4 l5 l6 l7 M20) else (F_xs_turnFor_98 Q (F_xs_turnFor_51 Q n51) l1 l2 l3 l4 l7 x21 l7 M20)) x18 l3 M17) 10 l2 (wr M 12 l1 l7)))
def F_xs_turnFor (Q : Int → cM → Prop) (a0 : Int) (a1 : Int) (a2 : Int) (M : cM) : Prop := F_xs_isSheet (fun x2 M1 => if x2 = 0 then (F_xs_turnFor_24 Q M1) else (F_xs_isStack (fun x9 M8 => if x9 = 0 then (F_xs_turnFor_24 Q M8) else (F_xs_within (fun x13 M12 => if x13 = 0 then (F_xs_turnFor_24 Q M12) else (((0 : Int) ≤ a0 ∧ a0 < 10) ∧ (∃ e51, F_xs_turnFor_51 Q e51 a0 a1 a2 (M12 12 a0) 0 (-1) 0 M12))) a2 12 M8)) a1 M1)) a0 M
def F_xs_spare_16 (Q : Int → cM → Prop) (M : cM) : Prop := F_xs_finding (fun x6 M5 => Q x6 M5) (-1000001) M
def F_xs_spare_116 (Q : Int → cM → Prop) (k66 : Int → Int → Int → Int → Int → Int → cM → Prop) (l1 : Int) (l2 : Int) (l3 : Int) (l4 : Int) (l5 : Int) (l6 : Int) (M : cM) : Prop := k66 l1 l2 l3 l4 l5 (w32 (l6 + 1)) M
def F_xs_spare_66 (Q : Int → cM → Prop) : Nat → Int → Int → Int → Int → Int → Int → cM → Prop
  | 0, _, _, _, _, _, _, _ => False
  | n66 + 1, l1, l2, l3, l4, l5, l6, M => ((0 : Int) ≤ l1 ∧ l1 < 4) ∧ (if (M 19 l1) ≤ l6 then (Q l4 M) else (F_xg_frontLightWithout (fun x21 M20 => F_xl_seenAt (fun x24 M23 => F_xj_Math_abs (fun x27 M26 => if l5 ≤ x27 then (F_xs_spare_116 Q (F_xs_spare_66 Q n66) l1 l2 l3 l4 l5 l6 M26) else (F_xs_spare_116 Q (F_xs_spare_66 Q n66) l1 l2 l3 l6 x27 l6 M26)) (w32 (x24 - l3)) M23) x21 l2 M20) 10 l1 l6 M))
def F_xs_spare (Q : Int → cM → Prop) (a0 : Int) (a1 : Int) (M : cM) : Prop := F_xs_isStack (fun x2 M1 => if x2 = 0 then (F_xs_spare_16 Q M1) else (F_xs_within (fun x9 M8 => if x9 = 0 then (F_xs_spare_16 Q M8) else (((0 : Int) ≤ a0 ∧ a0 < 4) ∧ (if (M8 19 a0) = 0 then (F_xs_finding (fun x31 M30 => Q x31 M30) (-1000004) M8) else (F_xg_frontLight (fun x14 M13 => F_xl_seenAt (fun x17 M16 => ∃ e66, F_xs_spare_66 Q e66 a0 a1 x17 0 1001 0 M16) x14 a1 M13) 10 a0 M8)))) a1 12 M1)) a0 M
def F_xs_look_16 (Q : Int → cM → Prop) (M : cM) : Prop := F_xs_finding (fun x6 M5 => Q x6 M5) (-1000001) M
def F_xs_look (Q : Int → cM → Prop) (a0 : Int) (a1 : Int) (M : cM) : Prop := F_xs_within (fun x2 M1 => if x2 = 0 then (F_xs_look_16 Q M1) else (F_xs_isShare (fun x9 M8 => if x9 = 0 then (F_xs_look_16 Q M8) else (if (M8 10 9) < 4 then (F_xg_addLook (fun M13 => Q (M13 10 9) M13) 10 a0 a1 M8) else (F_xs_finding (fun x17 M16 => Q x17 M16) (-1000002) M8))) a1 M1)) a0 12 M
def F_xs_clear (Q : Int → cM → Prop) (M : cM) : Prop := Q (M 10 9) (wr M 10 9 0)
def F_xs_reckonOrderLights_85 (Q : Int → cM → Prop) (l2 : Int) (M : cM) : Prop := Q l2 M
def F_xs_reckonOrderLights_29 (Q : Int → cM → Prop) : Nat → Int → Int → cM → Prop
  | 0, _, _, _ => False
  | n29 + 1, l2, l3, M => if 720 ≤ l3 then (F_xs_reckonOrderLights_85 Q l2 M) else (F_xg_behindRow (fun x6 M5 => ((0 : Int) ≤ l3 ∧ l3 < 720) ∧ (F_xa_advance (fun x9 M8 => if x9 = 0 then (F_xs_reckonOrderLights_85 Q (w32 (l2 + 1)) M8) else (F_xs_reckonOrderLights_29 Q n29 (w32 (l2 + 1)) (w32 (l3 + 1)) M8)) (wr M5 78 l3 x6))) 10 77 6 (M 76 1) M)
def F_xs_reckonOrderLights (Q : Int → cM → Prop) (a0 : Int) (M : cM) : Prop := ((0 : Int) ≤ a0 ∧ a0 < 4) ∧ (((0 : Int) ≤ a0 ∧ a0 < 4) ∧ (F_xa_start (fun M1 => ∃ e29, F_xs_reckonOrderLights_29 Q e29 0 0 M1) (15 + a0) 6 (M 19 a0) M))
def F_xs_orders_51 (Q : Int → cM → Prop) (k25 : Int → Int → Int → cM → Prop) (l2 : Int) (l3 : Int) (l4 : Int) (M : cM) : Prop := k25 l2 l3 (w32 (l4 + 1)) M
def F_xs_orders_25 (Q : Int → cM → Prop) : Nat → Int → Int → Int → cM → Prop
  | 0, _, _, _, _ => False
  | n25 + 1, l2, l3, l4, M => if l2 ≤ l4 then (Q l3 M) else (((0 : Int) ≤ l4 ∧ l4 < 720) ∧ (F_xg_fitsLooks (fun x10 M9 => if x10 = 0 then (F_xs_orders_51 Q (F_xs_orders_25 Q n25) l2 l3 l4 M9) else (F_xs_orders_51 Q (F_xs_orders_25 Q n25) l2 (w32 (l3 + 1)) l4 M9)) 10 (M 78 l4) M))
def F_xs_orders (Q : Int → cM → Prop) (a0 : Int) (M : cM) : Prop := F_xs_isStack (fun x2 M1 => if x2 = 0 then (F_xs_finding (fun x14 M13 => Q x14 M13) (-1000001) M1) else (F_xs_reckonOrderLights (fun x6 M5 => ∃ e25, F_xs_orders_25 Q e25 x6 0 0 M5) a0 M1)) a0 M
def F_xs_order_122 (Q : Int → cM → Prop) (M : cM) : Prop := F_xs_finding (fun x10 M9 => Q x10 M9) (-1000004) M
def F_xs_order_41 (Q : Int → cM → Prop) : Nat → Int → Int → cM → Prop
  | 0, _, _, _ => False
  | n41 + 1, l1, l2, M => if 720 ≤ l2 then (F_xs_order_122 Q M) else (F_xg_behindRow (fun x13 M12 => F_xg_fitsLooks (fun x16 M15 => if x16 = 0 then (F_xa_advance (fun x20 M19 => if x20 = 0 then (F_xs_order_122 Q M19) else (F_xs_order_41 Q n41 l1 (w32 (l2 + 1)) M19)) M15) else (F_xg_setStack (fun M23 => Q 1 M23) 10 77 6 l1 (M15 76 1) M15)) 10 x13 M12) 10 77 6 (M 76 1) M)
def F_xs_order (Q : Int → cM → Prop) (a0 : Int) (M : cM) : Prop := F_xs_isStack (fun x2 M1 => if x2 = 0 then (F_xs_finding (fun x27 M26 => Q x27 M26) (-1000001) M1) else (((0 : Int) ≤ a0 ∧ a0 < 4) ∧ (((0 : Int) ≤ a0 ∧ a0 < 4) ∧ (F_xa_start (fun M5 => ∃ e41, F_xs_order_41 Q e41 a0 0 M5) (15 + a0) 6 (M1 19 a0) M1)))) a0 M
def F_xs_unlikeViews_46 (Q : Int → cM → Prop) (k5 : Int → Int → Int → Int → cM → Prop) (l1 : Int) (l2 : Int) (l3 : Int) (l4 : Int) (M : cM) : Prop := k5 l1 l2 l3 (w32 (l4 + 1)) M
def F_xs_unlikeViews_5 (Q : Int → cM → Prop) : Nat → Int → Int → Int → Int → cM → Prop
  | 0, _, _, _, _, _ => False
  | n5 + 1, l1, l2, l3, l4, M => if l1 ≤ l4 then (Q l3 M) else (((0 : Int) ≤ l4 ∧ l4 < 720) ∧ (F_xl_seenAt (fun x3 M2 => ((0 : Int) ≤ x3 ∧ x3 < 1001) ∧ (if (M2 79 x3) = l2 then (F_xs_unlikeViews_46 Q (F_xs_unlikeViews_5 Q n5) l1 l2 l3 l4 M2) else (((0 : Int) ≤ x3 ∧ x3 < 1001) ∧ (F_xs_unlikeViews_46 Q (F_xs_unlikeViews_5 Q n5) l1 l2 (w32 (l3 + 1)) l4 (wr M2 79 x3 l2))))) (M 78 l4) l2 M))
def F_xs_unlikeViews (Q : Int → cM → Prop) (a0 : Int) (a1 : Int) (M : cM) : Prop := ∃ e5, F_xs_unlikeViews_5 Q e5 a0 a1 0 0 M
def F_xs_apart_66 (Q : Int → cM → Prop) (k36 : Int → Int → Int → Int → cM → Prop) (l2 : Int) (l3 : Int) (l4 : Int) (l5 : Int) (M : cM) : Prop := k36 l2 l3 l4 (w32 (l5 + 1)) M
def F_xs_apart_36 (Q : Int → cM → Prop) : Nat → Int → Int → Int → Int → cM → Prop
  | 0, _, _, _, _, _ => False
  | n36 + 1, l2, l3, l4, l5, M => if 12 ≤ l5 then (Q l3 M) else (F_xs_unlikeViews (fun x13 M12 => if x13 ≤ l4 then (F_xs_apart_66 Q (F_xs_apart_36 Q n36) l2 l3 l4 l5 M12) else (F_xs_apart_66 Q (F_xs_apart_36 Q n36) l2 l5 x13 l5 M12)) l2 l5 M)
def F_xs_apart (Q : Int → cM → Prop) (a0 : Int) (M : cM) : Prop := F_xs_isStack (fun x2 M1 => if x2 = 0 then (F_xs_finding (fun x17 M16 => Q x17 M16) (-1000001) M1) else (F_xs_reckonOrderLights (fun x6 M5 => F_xj_Arrays_fill (fun M8 => ∃ e36, F_xs_apart_36 Q e36 x6 0 0 0 M8) 79 1001 (-1) M5) a0 M1)) a0 M
def F_xs_reckonSoleLights_10 (Q : cM → Prop) : Nat → Int → Int → cM → Prop
  | 0, _, _, _ => False
  | n10 + 1, l1, l2, M => if (M 10 0) ≤ l2 then (Q M) else (F_xg_behindSheet (fun x6 M5 => ((0 : Int) ≤ l2 ∧ l2 < 10) ∧ (F_xs_reckonSoleLights_10 Q n10 l1 (w32 (l2 + 1)) (wr M5 80 l2 x6))) 10 l2 0 l1 M)
def F_xs_reckonSoleLights (Q : cM → Prop) (M : cM) : Prop := F_xg_lampLight (fun x2 M1 => ∃ e10, F_xs_reckonSoleLights_10 Q e10 x2 0 M1) 10 M
def F_xs_reckonPartners_77 (Q : cM → Prop) (k6 : Int → Int → Int → cM → Prop) (k35 : Int → Int → Int → Int → Int → Int → cM → Prop) (l1 : Int) (l2 : Int) (l3 : Int) (l4 : Int) (l5 : Int) (l6 : Int) (M : cM) : Prop := k35 l1 l2 l3 l4 l5 (w32 (l6 + 1)) M
def F_xs_reckonPartners_35 (Q : cM → Prop) (k6 : Int → Int → Int → cM → Prop) : Nat → Int → Int → Int → Int → Int → Int → cM → Prop
  | 0, _, _, _, _, _, _, _ => False
  | n35 + 1, l1, l2, l3, l4, l5, l6, M => if (M 10 0) ≤ l6 then (((0 : Int) ≤ l3 ∧ l3 < 10) ∧ (k6 l1 l2 (w32 (l3 + 1)) (wr M 81 l3 l5))) else (((0 : Int) ≤ l6 ∧ l6 < 10) ∧ (F_xl_seenAt (fun x10 M9 => F_xj_Math_abs (fun x13 M12 => if x13 ≤ l2 then (F_xs_reckonPartners_77 Q (k6) (F_xs_reckonPartners_35 Q k6 n35) l1 l2 l3 l4 l5 l6 M12) else (F_xs_reckonPartners_77 Q (k6) (F_xs_reckonPartners_35 Q k6 n35) l1 l2 l3 l4 (zor l5 (zshl 1 l6)) l6 M12)) (w32 (l4 - x10)) M9) (M 80 l6) l1 M))
def F_xs_reckonPartners_6 (Q : cM → Prop) : Nat → Int → Int → Int → cM → Prop
  | 0, _, _, _, _ => False
  | n6 + 1, l1, l2, l3, M => if (M 10 0) ≤ l3 then (Q M) else (((0 : Int) ≤ l3 ∧ l3 < 10) ∧ (F_xl_seenAt (fun x6 M5 => ∃ e35, F_xs_reckonPartners_35 Q (F_xs_reckonPartners_6 Q n6) e35 l1 l2 l3 x6 0 0 M5) (M 80 l3) l1 M))
def F_xs_reckonPartners (Q : cM → Prop) (a0 : Int) (a1 : Int) (M : cM) : Prop := F_xs_reckonSoleLights (fun M1 => ∃ e6, F_xs_reckonPartners_6 Q e6 a0 a1 0 M1) M
def F_xs_pairs_16 (Q : Int → cM → Prop) (M : cM) : Prop := F_xs_finding (fun x6 M5 => Q x6 M5) (-1000001) M
def F_xs_pairs_34 (Q : Int → cM → Prop) : Nat → Int → Int → cM → Prop
  | 0, _, _, _ => False
  | n34 + 1, l3, l4, M => if (M 10 0) ≤ l4 then (Q (w32 (Int.tdiv l3 2)) M) else (((0 : Int) ≤ l4 ∧ l4 < 10) ∧ (F_xj_Integer_bitCount (fun x17 M16 => F_xs_pairs_34 Q n34 (w32 (l3 + x17)) (w32 (l4 + 1)) M16) (M 81 l4) M))
def F_xs_pairs (Q : Int → cM → Prop) (a0 : Int) (a1 : Int) (M : cM) : Prop := F_xs_within (fun x2 M1 => if x2 = 0 then (F_xs_pairs_16 Q M1) else (F_xs_isShare (fun x9 M8 => if x9 = 0 then (F_xs_pairs_16 Q M8) else (F_xs_reckonPartners (fun M12 => ∃ e34, F_xs_pairs_34 Q e34 0 0 M12) a0 a1 M8)) a1 M1)) a0 12 M
def F_xs_areAllPartners_41 (Q : Int → cM → Prop) (k2 : Int → Int → cM → Prop) (l1 : Int) (l2 : Int) (M : cM) : Prop := k2 l1 (w32 (l2 + 1)) M
def F_xs_areAllPartners_2 (Q : Int → cM → Prop) : Nat → Int → Int → cM → Prop
  | 0, _, _, _ => False
  | n2 + 1, l1, l2, M => if (M 10 0) ≤ l2 then (Q (narK 4 1) M) else (if (zand l1 (zxor (zshl 1 l2) (-1))) = l1 then (F_xs_areAllPartners_41 Q (F_xs_areAllPartners_2 Q n2) l1 l2 M) else (((0 : Int) ≤ l2 ∧ l2 < 10) ∧ (if (zand (zand l1 (zxor (zshl 1 l2) (-1))) (zxor (M 81 l2) (-1))) = 0 then (F_xs_areAllPartners_41 Q (F_xs_areAllPartners_2 Q n2) l1 l2 M) else (Q (narK 4 0) M))))
def F_xs_areAllPartners (Q : Int → cM → Prop) (a0 : Int) (M : cM) : Prop := ∃ e2, F_xs_areAllPartners_2 Q e2 a0 0 M
def F_xs_signs_16 (Q : Int → cM → Prop) (M : cM) : Prop := F_xs_finding (fun x6 M5 => Q x6 M5) (-1000001) M
def F_xs_signs_72 (Q : Int → cM → Prop) (k34 : Int → Int → cM → Prop) (l3 : Int) (l4 : Int) (M : cM) : Prop := k34 l3 (w32 (l4 + 1)) M
def F_xs_signs_34 (Q : Int → cM → Prop) : Nat → Int → Int → cM → Prop
  | 0, _, _, _ => False
  | n34 + 1, l3, l4, M => if (zshl 1 (M 10 0)) ≤ l4 then (Q l3 M) else (F_xj_Integer_bitCount (fun x17 M16 => F_xj_Integer_bitCount (fun x20 M19 => if x17 ≤ x20 then (F_xs_signs_72 Q (F_xs_signs_34 Q n34) l3 l4 M19) else (F_xs_areAllPartners (fun x24 M23 => if x24 = 0 then (F_xs_signs_72 Q (F_xs_signs_34 Q n34) l3 l4 M23) else (F_xs_signs_72 Q (F_xs_signs_34 Q n34) l4 l4 M23)) l4 M19)) l3 M16) l4 M)
def F_xs_signs (Q : Int → cM → Prop) (a0 : Int) (a1 : Int) (M : cM) : Prop := F_xs_within (fun x2 M1 => if x2 = 0 then (F_xs_signs_16 Q M1) else (F_xs_isShare (fun x9 M8 => if x9 = 0 then (F_xs_signs_16 Q M8) else (F_xs_reckonPartners (fun M12 => ∃ e34, F_xs_signs_34 Q e34 0 1 M12) a0 a1 M8)) a1 M1)) a0 12 M
def F_xs_reckonTellingTilts_74 (Q : Int → cM → Prop) (k8 : Int → Int → Int → cM → Prop) (l1 : Int) (l2 : Int) (l3 : Int) (M : cM) : Prop := k8 l1 l2 (w32 (l3 + 1)) M
def F_xs_reckonTellingTilts_24 (Q : Int → cM → Prop) (k8 : Int → Int → Int → cM → Prop) : Nat → Int → Int → Int → Int → cM → Prop
  | 0, _, _, _, _, _ => False
  | n24 + 1, l1, l2, l3, l4, M => if (M 10 0) ≤ l4 then (F_xs_reckonTellingTilts_74 Q (k8) l1 l2 l3 M) else (if 45 ≤ l2 then (F_xs_reckonTellingTilts_74 Q (k8) l1 l2 l3 M) else (((0 : Int) ≤ l3 ∧ l3 < 10) ∧ (((0 : Int) ≤ l4 ∧ l4 < 10) ∧ (F_xs_tiltsApart (fun x8 M7 => ((0 : Int) ≤ l2 ∧ l2 < 45) ∧ (F_xs_reckonTellingTilts_24 Q k8 n24 l1 (w32 (l2 + 1)) l3 (w32 (l4 + 1)) (wr M7 82 l2 x8))) (M 80 l3) (M 80 l4) l1 M))))
def F_xs_reckonTellingTilts_8 (Q : Int → cM → Prop) : Nat → Int → Int → Int → cM → Prop
  | 0, _, _, _, _ => False
  | n8 + 1, l1, l2, l3, M => if (M 10 0) ≤ l3 then (Q l2 M) else (∃ e24, F_xs_reckonTellingTilts_24 Q (F_xs_reckonTellingTilts_8 Q n8) e24 l1 l2 l3 (w32 (l3 + 1)) M)
def F_xs_reckonTellingTilts (Q : Int → cM → Prop) (a0 : Int) (M : cM) : Prop := F_xs_reckonSoleLights (fun M1 => ∃ e8, F_xs_reckonTellingTilts_8 Q e8 a0 0 0 M1) M
def F_xs_tellsAll_2 (Q : Int → cM → Prop) : Nat → Int → Int → Int → cM → Prop
  | 0, _, _, _, _ => False
  | n2 + 1, l1, l2, l3, M => if l2 ≤ l3 then (Q (narK 4 1) M) else (((0 : Int) ≤ l3 ∧ l3 < 45) ∧ (if (zand (M 82 l3) l1) = 0 then (Q (narK 4 0) M) else (F_xs_tellsAll_2 Q n2 l1 l2 (w32 (l3 + 1)) M)))
def F_xs_tellsAll (Q : Int → cM → Prop) (a0 : Int) (a1 : Int) (M : cM) : Prop := ∃ e2, F_xs_tellsAll_2 Q e2 a0 a1 0 M
def F_xs_eyes_74 (Q : Int → cM → Prop) (k25 : Int → Int → Int → cM → Prop) (l2 : Int) (l3 : Int) (l4 : Int) (M : cM) : Prop := k25 l2 l3 (w32 (l4 + 1)) M
def F_xs_eyes_54 (Q : Int → cM → Prop) (k25 : Int → Int → Int → cM → Prop) (l2 : Int) (l3 : Int) (l4 : Int) (s0 : Int) (M : cM) : Prop := if s0 = 0 then (F_xs_eyes_74 Q (k25) l2 l3 l4 M) else (F_xs_tellsAll (fun x16 M15 => if x16 = 0 then (F_xs_eyes_74 Q (k25) l2 l3 l4 M15) else (F_xs_eyes_74 Q (k25) l2 l4 l4 M15)) l4 l2 M)
def F_xs_eyes_49 (Q : Int → cM → Prop) (k25 : Int → Int → Int → cM → Prop) (l2 : Int) (l3 : Int) (l4 : Int) (M : cM) : Prop := F_xs_eyes_54 Q (k25) l2 l3 l4 1 M
def F_xs_eyes_25 (Q : Int → cM → Prop) : Nat → Int → Int → Int → cM → Prop
  | 0, _, _, _, _ => False
  | n25 + 1, l2, l3, l4, M => if 4095 < l4 then (if 0 ≤ l3 then (Q l3 M) else (F_xs_finding (fun x11 M10 => Q x11 M10) (-1000004) M)) else (if l3 < 0 then (F_xs_eyes_49 Q (F_xs_eyes_25 Q n25) l2 l3 l4 M) else (F_xj_Integer_bitCount (fun x20 M19 => F_xj_Integer_bitCount (fun x23 M22 => if x23 ≤ x20 then (F_xs_eyes_54 Q (F_xs_eyes_25 Q n25) l2 l3 l4 0 M22) else (F_xs_eyes_49 Q (F_xs_eyes_25 Q n25) l2 l3 l4 M22)) l3 M19) l4 M))
def F_xs_eyes (Q : Int → cM → Prop) (a0 : Int) (M : cM) : Prop := F_xs_isShare (fun x2 M1 => if x2 = 0 then (F_xs_finding (fun x27 M26 => Q x27 M26) (-1000001) M1) else (F_xs_reckonTellingTilts (fun x6 M5 => ∃ e25, F_xs_eyes_25 Q e25 x6 (-1) 0 M5) a0 M1)) a0 M
def F_xs_years_11 (Q : Int → cM → Prop) (M : cM) : Prop := F_xs_finding (fun x3 M2 => Q x3 M2) (-1000001) M
def F_xs_years_121 (Q : Int → cM → Prop) (k22 : Int → Int → Int → cM → Prop) (l1 : Int) (l2 : Int) (l3 : Int) (M : cM) : Prop := k22 l1 l2 (w32 (l3 + 1)) M
def F_xs_years_22 (Q : Int → cM → Prop) : Nat → Int → Int → Int → cM → Prop
  | 0, _, _, _, _ => False
  | n22 + 1, l1, l2, l3, M => if (M 10 0) ≤ l3 then (Q l2 M) else (((0 : Int) ≤ l3 ∧ l3 < 10) ∧ (if (M 11 l3) = 5 then (((0 : Int) ≤ l3 ∧ l3 < 10) ∧ (F_xj_Math_max (fun x13 M12 => ((0 : Int) ≤ l3 ∧ l3 < 10) ∧ (F_xs_years_121 Q (F_xs_years_22 Q n22) l1 (w32 (l2 + 1)) l3 (wr M12 13 l3 x13))) 0 (w32 ((M 13 l3) - l1)) M)) else (((0 : Int) ≤ l3 ∧ l3 < 10) ∧ (if (M 11 l3) = 6 then (((0 : Int) ≤ l3 ∧ l3 < 10) ∧ (F_xg_draw (fun x10 M9 => ((0 : Int) ≤ l3 ∧ l3 < 10) ∧ (F_xs_years_121 Q (F_xs_years_22 Q n22) l1 l2 l3 (wr M9 12 l3 (Int.tmod (w32 ((M 12 l3) + (Int.tmod x10 3))) 12)))) 10 M)) else (F_xs_years_121 Q (F_xs_years_22 Q n22) l1 l2 l3 M)))))
def F_xs_years (Q : Int → cM → Prop) (a0 : Int) (M : cM) : Prop := if a0 < 1 then (F_xs_years_11 Q M) else (if a0 ≤ 100 then (∃ e22, F_xs_years_22 Q e22 a0 0 0 M) else (F_xs_years_11 Q M))
def F_xs_drawn_18 (Q : Int → cM → Prop) (M : cM) : Prop := F_xs_finding (fun x6 M5 => Q x6 M5) (-1000001) M
def F_xs_drawn_90 (Q : Int → cM → Prop) (l1 : Int) (M : cM) : Prop := ((0 : Int) ≤ l1 ∧ l1 < 4) ∧ (Q (M 19 l1) M)
def F_xs_drawn_45 (Q : Int → cM → Prop) : Nat → Int → Int → Int → cM → Prop
  | 0, _, _, _, _ => False
  | n45 + 1, l1, l2, l3, M => if l2 ≤ l3 then (F_xs_drawn_90 Q l1 M) else (F_xg_hasRoom (fun x13 M12 => if x13 = 0 then (F_xs_drawn_90 Q l1 M12) else (F_xg_draw (fun x17 M16 => (¬ (M16 10 0) = 0) ∧ (F_xg_put (fun M19 => F_xs_drawn_45 Q n45 l1 l2 (w32 (l3 + 1)) M19) 10 l1 (Int.tmod x17 (M16 10 0)) M16)) 10 M12)) 10 l1 M)
def F_xs_drawn (Q : Int → cM → Prop) (a0 : Int) (a1 : Int) (M : cM) : Prop := F_xs_isStack (fun x2 M1 => if x2 = 0 then (F_xs_drawn_18 Q M1) else (if a1 < 1 then (F_xs_drawn_18 Q M1) else (if a1 ≤ 6 then (if (M1 10 0) = 0 then (F_xs_finding (fun x23 M22 => Q x23 M22) (-1000005) M1) else (∃ e45, F_xs_drawn_45 Q e45 a0 a1 0 M1)) else (F_xs_drawn_18 Q M1)))) a0 M
def F_xs_seed (Q : Int → cM → Prop) (a0 : Int) (M : cM) : Prop := Q (M 10 12) (wr M 10 12 a0)
def F_xs_feed_10 (Q : Int → cM → Prop) (M : cM) : Prop := F_xs_finding (fun x3 M2 => Q x3 M2) (-1000001) M
def F_xs_feed_42 (Q : Int → cM → Prop) : Nat → Int → Int → cM → Prop
  | 0, _, _, _ => False
  | n42 + 1, l1, l3, M => if l3 < 0 then (Q (M 70 1) M) else (F_xt_add (fun M8 => F_xs_feed_42 Q n42 l1 (w32 (l3 + (-1))) M8) (zi2b (zushr l1 (w32 (8 * l3)))) M)
def F_xs_feed (Q : Int → cM → Prop) (a0 : Int) (a1 : Int) (M : cM) : Prop := if a1 < 1 then (F_xs_feed_10 Q M) else (if a1 ≤ 4 then (if (w32 ((M 70 1) + a1)) ≤ 120 then (∃ e42, F_xs_feed_42 Q e42 a0 (w32 (a1 - 1)) M) else (F_xs_finding (fun x12 M11 => Q x12 M11) (-1000002) M)) else (F_xs_feed_10 Q M))
def F_xs_wipe (Q : Int → cM → Prop) (M : cM) : Prop := Q (M 70 1) (wr M 70 1 0)
def F_xs_text_42 (Q : Int → cM → Prop) (l1 : Int) (M : cM) : Prop := Q l1 M
def F_xs_text (Q : Int → cM → Prop) (M : cM) : Prop := F_xg_become (fun M1 => F_xq_items (fun x5 M4 => if x5 ≤ 0 then (F_xs_text_42 Q x5 (wr M4 70 1 0)) else (F_xg_become (fun M8 => F_xs_text_42 Q x5 M8) 10 50 (wr M4 70 1 0))) M1) 50 10 M
def F_xs_hold_22 (Q : Int → cM → Prop) (M : cM) : Prop := F_xs_finding (fun x6 M5 => Q x6 M5) (-1000001) M
def F_xs_hold_29 (Q : Int → cM → Prop) (l1 : Int) (l2 : Int) (M : cM) : Prop := ((0 : Int) ≤ l1 ∧ l1 < 10) ∧ (Q 1 (wr M 22 l1 l2))
def F_xs_hold (Q : Int → cM → Prop) (a0 : Int) (a1 : Int) (M : cM) : Prop := F_xs_within (fun x2 M1 => if x2 = 0 then (F_xs_hold_22 Q M1) else (if a1 = (-1) then (F_xs_hold_29 Q a0 a1 M1) else (F_xs_isSheet (fun x10 M9 => if x10 = 0 then (F_xs_hold_22 Q M9) else (F_xs_hold_29 Q a0 a1 M9)) a1 M1))) a0 10 M
def F_xs_isUnder_38 (Q : Int → cM → Prop) (M : cM) : Prop := Q (narK 4 0) M
def F_xs_isUnder_4 (Q : Int → cM → Prop) : Nat → Int → Int → Int → cM → Prop
  | 0, _, _, _, _ => False
  | n4 + 1, l1, l2, l3, M => if 7 ≤ l3 then (F_xs_isUnder_38 Q M) else (F_xs_within (fun x3 M2 => if x3 = 0 then (F_xs_isUnder_38 Q M2) else (if l2 = l1 then (Q (narK 4 1) M2) else (((0 : Int) ≤ l2 ∧ l2 < M2 1001 (-1)) ∧ (F_xs_isUnder_4 Q n4 l1 (M2 1001 l2) (w32 (l3 + 1)) M2)))) l2 7 M)
def F_xs_isUnder (Q : Int → cM → Prop) (a0 : Int) (a1 : Int) (M : cM) : Prop := ∃ e4, F_xs_isUnder_4 Q e4 a1 a0 0 M
def F_xs_as_18 (Q : Int → cM → Prop) (M : cM) : Prop := F_xs_finding (fun x6 M5 => Q x6 M5) (-1000001) M
def F_xs_as (Q : Int → cM → Prop) (a0 : Int) (a1 : Int) (M : cM) : Prop := F_xs_within (fun x2 M1 => if x2 = 0 then (F_xs_as_18 Q M1) else (F_xs_within (fun x9 M8 => if x9 = 0 then (F_xs_as_18 Q M8) else (((0 : Int) ≤ a0 ∧ a0 < 10) ∧ (F_xs_isSheet (fun x13 M12 => if x13 = 0 then (F_xs_finding (fun x24 M23 => Q x24 M23) (-1000006) M12) else (((0 : Int) ≤ (M8 22 a0) ∧ (M8 22 a0) < 10) ∧ (F_xs_isUnder (fun x17 M16 => if x17 = 0 then (F_xs_finding (fun x21 M20 => Q x21 M20) (-1000003) M16) else (Q (M8 22 a0) M16)) (M12 11 (M8 22 a0)) a1 M12))) (M8 22 a0) M8))) a1 7 M1)) a0 10 M
def F_xs_row_30 (Q : Int → cM → Prop) (M : cM) : Prop := F_xs_finding (fun x6 M5 => Q x6 M5) (-1000001) M
def F_xs_row_77 (Q : Int → cM → Prop) (l1 : Int) (s0 : Int) (s1 : Int) (s2 : Int) (M : cM) : Prop := F_xr_become (fun M12 => ((0 : Int) ≤ l1 ∧ l1 < 4) ∧ (Q (M12 (90 + 2 * l1) 1) M12)) s2 s1 s0 M
def F_xs_row_37 (Q : Int → cM → Prop) (l1 : Int) (l2 : Int) (l3 : Int) (M : cM) : Prop := if 0 ≤ l3 then (if l3 ≤ 40 then (((0 : Int) ≤ l1 ∧ l1 < 4) ∧ (if l2 = 0 then (F_xs_row_77 Q l1 0 l2 (90 + 2 * l1) M) else (F_xs_row_77 Q l1 l3 l2 (90 + 2 * l1) M))) else (F_xs_finding (fun x16 M15 => Q x16 M15) (-1000001) M)) else (F_xs_finding (fun x19 M18 => Q x19 M18) (-1000007) M)
def F_xs_row (Q : Int → cM → Prop) (a0 : Int) (a1 : Int) (a2 : Int) (M : cM) : Prop := F_xs_within (fun x2 M1 => if x2 = 0 then (F_xs_row_30 Q M1) else (if a1 = 0 then (F_xs_row_37 Q a0 a1 a2 M1) else (if a1 = 8 then (F_xs_row_37 Q a0 a1 a2 M1) else (if a1 = 16 then (F_xs_row_37 Q a0 a1 a2 M1) else (if a1 = 32 then (F_xs_row_37 Q a0 a1 a2 M1) else (F_xs_row_30 Q M1)))))) a0 4 M
def F_xs_write (Q : Int → cM → Prop) (a0 : Int) (a1 : Int) (a2 : Int) (M : cM) : Prop := F_xs_within (fun x2 M1 => if x2 = 0 then (F_xs_finding (fun x23 M22 => Q x23 M22) (-1000001) M1) else (((0 : Int) ≤ a0 ∧ a0 < 4) ∧ (F_xr_isMissing (fun x6 M5 => if x6 = 0 then (((0 : Int) ≤ a0 ∧ a0 < 4) ∧ (F_xs_within (fun x10 M9 => if x10 = 0 then (F_xs_finding (fun x17 M16 => Q x17 M16) (-1000001) M9) else (((0 : Int) ≤ a0 ∧ a0 < 4) ∧ (F_xr_set (fun M13 => Q 1 M13) (90 + 2 * a0) a1 a2 M9))) a1 (M5 (90 + 2 * a0) 1) M5)) else (F_xs_finding (fun x20 M19 => Q x20 M19) (-1000006) M5)) (90 + 2 * a0) M1))) a0 4 M
def F_xs_copy_16 (Q : Int → cM → Prop) (M : cM) : Prop := F_xs_finding (fun x6 M5 => Q x6 M5) (-1000001) M
def F_xs_copy_47 (Q : Int → cM → Prop) (M : cM) : Prop := F_xs_finding (fun x17 M16 => Q x17 M16) (-1000006) M
def F_xs_copy_115 (Q : Int → cM → Prop) (M : cM) : Prop := F_xs_finding (fun x29 M28 => Q x29 M28) (-1000001) M
def F_xs_copy (Q : Int → cM → Prop) (a0 : Int) (a1 : Int) (a2 : Int) (a3 : Int) (a4 : Int) (M : cM) : Prop := F_xs_within (fun x2 M1 => if x2 = 0 then (F_xs_copy_16 Q M1) else (F_xs_within (fun x9 M8 => if x9 = 0 then (F_xs_copy_16 Q M8) else (((0 : Int) ≤ a0 ∧ a0 < 4) ∧ (F_xr_isMissing (fun x13 M12 => if x13 = 0 then (((0 : Int) ≤ a2 ∧ a2 < 4) ∧ (F_xr_isMissing (fun x20 M19 => if x20 = 0 then (((0 : Int) ≤ a0 ∧ a0 < 4) ∧ (((0 : Int) ≤ a2 ∧ a2 < 4) ∧ (if (M19 (90 + 2 * a0) 0) = (M19 (90 + 2 * a2) 0) then (((0 : Int) ≤ a0 ∧ a0 < 4) ∧ (F_xr_hasRange (fun x25 M24 => if x25 = 0 then (F_xs_copy_115 Q M24) else (((0 : Int) ≤ a2 ∧ a2 < 4) ∧ (F_xr_hasRange (fun x32 M31 => if x32 = 0 then (F_xs_copy_115 Q M31) else (((0 : Int) ≤ a0 ∧ a0 < 4) ∧ (((0 : Int) ≤ a2 ∧ a2 < 4) ∧ (((0 : Int) ≤ a1 ∧ (0 : Int) ≤ a3 ∧ (0 : Int) ≤ a4 ∧ a1 + a4 ≤ 40 ∧ a3 + a4 ≤ 40) ∧ (Q a4 (cpyM M31 ((90 + 2 * a0) + 1) a1 ((90 + 2 * a2) + 1) a3 a4)))))) (90 + 2 * a2) a3 a4 M24))) (90 + 2 * a0) a1 a4 M19)) else (F_xs_finding (fun x36 M35 => Q x36 M35) (-1000003) M19)))) else (F_xs_copy_47 Q M19)) (90 + 2 * a2) M12)) else (F_xs_copy_47 Q M12)) (90 + 2 * a0) M8))) a2 4 M1)) a0 4 M
def F_xs_from_124 (Q : Int → cM → Prop) (l3 : Int) (M : cM) : Prop := Q l3 M
def F_xs_from_54 (Q : Int → cM → Prop) : Nat → Int → Int → Int → Int → cM → Prop
  | 0, _, _, _, _, _ => False
  | n54 + 1, l1, l2, l3, l4, M => ((0 : Int) ≤ l1 ∧ l1 < 4) ∧ (if (M (90 + 2 * l1) 1) ≤ l4 then (F_xs_from_124 Q l3 M) else (((0 : Int) ≤ l1 ∧ l1 < 4) ∧ (((0 : Int) ≤ l4 ∧ l4 < 40) ∧ (F_xs_isSheet (fun x15 M14 => if x15 = 0 then (F_xs_from_124 Q l3 M14) else (F_xg_hasRoom (fun x19 M18 => if x19 = 0 then (F_xs_from_124 Q l3 M18) else (F_xg_put (fun M22 => F_xs_from_54 Q n54 l1 l2 (w32 (l3 + 1)) (w32 (l4 + 1)) M22) 10 l2 (M ((90 + 2 * l1) + 1) l4) M18)) 10 l2 M14)) (M ((90 + 2 * l1) + 1) l4) M))))
def F_xs_from (Q : Int → cM → Prop) (a0 : Int) (a1 : Int) (M : cM) : Prop := F_xs_within (fun x2 M1 => if x2 = 0 then (F_xs_finding (fun x32 M31 => Q x32 M31) (-1000001) M1) else (((0 : Int) ≤ a0 ∧ a0 < 4) ∧ (F_xr_isMissing (fun x6 M5 => if x6 = 0 then (F_xs_isStack (fun x10 M9 => if x10 = 0 then (F_xs_finding (fun x26 M25 => Q x26 M25) (-1000001) M9) else (∃ e54, F_xs_from_54 Q e54 a0 a1 0 0 M9)) a1 M5) else (F_xs_finding (fun x29 M28 => Q x29 M28) (-1000006) M5)) (90 + 2 * a0) M1))) a0 4 M
def F_xs_judge_103 (Q : Int → cM → Prop) (l4 : Int) (M : cM) : Prop := Q (w32 (1 + l4)) M
def F_xs_judge_61 (Q : Int → cM → Prop) : Nat → Int → Int → Int → cM → Prop
  | 0, _, _, _, _ => False
  | n61 + 1, l1, l3, l4, M => ((0 : Int) ≤ l1 ∧ l1 < 4) ∧ (if (M (90 + 2 * l1) 1) ≤ l4 then (Q 0 M) else (if 12 ≤ l4 then (F_xs_judge_103 Q l4 M) else (F_xl_seenAt (fun x19 M18 => ((0 : Int) ≤ l1 ∧ l1 < 4) ∧ (((0 : Int) ≤ l4 ∧ l4 < 40) ∧ (if x19 = (M18 ((90 + 2 * l1) + 1) l4) then (F_xs_judge_61 Q n61 l1 l3 (w32 (l4 + 1)) M18) else (F_xs_judge_103 Q l4 M18)))) l3 l4 M)))
def F_xs_judge (Q : Int → cM → Prop) (a0 : Int) (a1 : Int) (M : cM) : Prop := F_xs_within (fun x2 M1 => if x2 = 0 then (F_xs_finding (fun x29 M28 => Q x29 M28) (-1000001) M1) else (((0 : Int) ≤ a0 ∧ a0 < 4) ∧ (F_xr_isMissing (fun x6 M5 => if x6 = 0 then (F_xs_isStack (fun x10 M9 => if x10 = 0 then (F_xs_finding (fun x23 M22 => Q x23 M22) (-1000001) M9) else (F_xg_frontLight (fun x14 M13 => ∃ e61, F_xs_judge_61 Q e61 a0 x14 0 M13) 10 a1 M9)) a1 M5) else (F_xs_finding (fun x26 M25 => Q x26 M25) (-1000006) M5)) (90 + 2 * a0) M1))) a0 4 M
def F_xs_image (Q : Int → cM → Prop) (M : cM) : Prop := F_xg_become (fun M1 => Q 1 (wr M1 0 2 1)) 30 10 M
def F_xs_undo (Q : Int → cM → Prop) (M : cM) : Prop := if (M 0 2) = 0 then (F_xs_finding (fun x6 M5 => Q x6 M5) (-1000004) M) else (F_xg_become (fun M2 => Q (M2 10 0) M2) 10 30 M)
def F_xs_tear_12 (Q : Int → cM → Prop) (s0 : Int) (M : cM) : Prop := Q s0 (wr M 0 2 0)
def F_xs_tear (Q : Int → cM → Prop) (M : cM) : Prop := if (M 0 2) = 0 then (F_xs_tear_12 Q 0 M) else (F_xs_tear_12 Q 1 M)
def F_xs_count (Q : Int → cM → Prop) (a0 : Int) (M : cM) : Prop := if a0 = 0 then (Q (M 10 0) M) else (if a0 = 1 then (F_xg_sheetsInStacks (fun x4 M3 => Q x4 M3) 10 M) else (if a0 = 2 then (Q (M 10 9) M) else (if a0 = 3 then (Q (M 10 4) M) else (if a0 = 4 then (Q (M 70 1) M) else (if a0 = 5 then (Q (M 10 12) M) else (if a0 = 6 then (F_xg_spotsInUse (fun x12 M11 => Q x12 M11) 10 M) else (F_xs_finding (fun x15 M14 => Q x15 M14) (-1000001) M)))))))
def F_xs_status_32 (Q : Int → cM → Prop) : Nat → Int → Int → cM → Prop
  | 0, _, _, _ => False
  | n32 + 1, l2, l3, M => if 7 ≤ l3 then (Q l2 M) else (((0 : Int) ≤ l3 ∧ l3 < 7) ∧ (F_xs_status_32 Q n32 (w32 (l2 + (M 75 l3))) (w32 (l3 + 1)) M))
def F_xs_status (Q : Int → cM → Prop) (a0 : Int) (M : cM) : Prop := F_xs_within (fun x2 M1 => if x2 = 0 then (if a0 = (-1) then (∃ e32, F_xs_status_32 Q e32 0 0 M1) else (F_xs_finding (fun x8 M7 => Q x8 M7) (-1000001) M1)) else (((0 : Int) ≤ a0 ∧ a0 < 7) ∧ (Q (M1 75 a0) M1))) a0 7 M
