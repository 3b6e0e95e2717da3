/-! What each method does, over Ints. -/
def F_xm_in_17 (Q : Int → cM → Prop) (M : cM) : Prop := Q (narK 4 0) M
def F_xm_in (Q : Int → cM → Prop) (a0 : Int) (a1 : Int) (a2 : Int) (M : cM) : Prop := if (zlcmp a0 a1) < 0 then (F_xm_in_17 Q M) else (if 0 < (zlcmp a0 a2) then (F_xm_in_17 Q M) else (Q (narK 4 1) M))
def F_xm_isSlant (Q : Int → cM → Prop) (a0 : Int) (M : cM) : Prop := F_xm_in (fun x2 M1 => Q (narK 4 x2) M1) a0 0 11 M
def F_xm_isShare (Q : Int → cM → Prop) (a0 : Int) (M : cM) : Prop := F_xm_in (fun x2 M1 => Q (narK 4 x2) M1) a0 0 1000 M
def F_xm_isPart_44 (Q : Int → cM → Prop) (M : cM) : Prop := Q (narK 4 0) M
def F_xm_isPart (Q : Int → cM → Prop) (a0 : Int) (a1 : Int) (M : cM) : Prop := if a0 = 0 then (F_xm_in (fun x12 M11 => Q (narK 4 x12) M11) a1 0 6 M) else (if a0 = 1 then (F_xm_isSlant (fun x9 M8 => Q (narK 4 x9) M8) a1 M) else (if a0 = 2 then (F_xm_isShare (fun x5 M4 => if x5 = 0 then (F_xm_isPart_44 Q M4) else (Q (narK 4 1) M4)) a1 M) else (F_xm_isPart_44 Q M)))
def F_xm_finds (Q : Int → cM → Prop) (a0 : Int) (M : cM) : Prop := ((0 : Int) ≤ (w32 ((-1000001) - a0)) ∧ (w32 ((-1000001) - a0)) < 7) ∧ (((0 : Int) ≤ (w32 ((-1000001) - a0)) ∧ (w32 ((-1000001) - a0)) < 7) ∧ (Q a0 (wr M 104 (w32 ((-1000001) - a0)) (w32 ((M 104 (w32 ((-1000001) - a0))) + 1)))))
def F_xm_newSheet (Q : Int → cM → Prop) (a0 : Int) (a1 : Int) (a2 : Int) (M : cM) : Prop := ((0 : Int) ≤ (w32 (14 + (w32 (3 * (M 101 0))))) ∧ (w32 (14 + (w32 (3 * (M 101 0))))) < 82) ∧ (((0 : Int) ≤ (w32 ((w32 (14 + (w32 (3 * (M 101 0))))) + 1)) ∧ (w32 ((w32 (14 + (w32 (3 * (M 101 0))))) + 1)) < 82) ∧ (((0 : Int) ≤ (w32 ((w32 (14 + (w32 (3 * (M 101 0))))) + 2)) ∧ (w32 ((w32 (14 + (w32 (3 * (M 101 0))))) + 2)) < 82) ∧ (Q (w32 (((wr (wr (wr (wr M 101 (w32 (14 + (w32 (3 * (M 101 0))))) a0) 101 (w32 ((w32 (14 + (w32 (3 * (M 101 0))))) + 1)) a1) 101 (w32 ((w32 (14 + (w32 (3 * (M 101 0))))) + 2)) a2) 101 0 (w32 (((wr (wr (wr M 101 (w32 (14 + (w32 (3 * (M 101 0))))) a0) 101 (w32 ((w32 (14 + (w32 (3 * (M 101 0))))) + 1)) a1) 101 (w32 ((w32 (14 + (w32 (3 * (M 101 0))))) + 2)) a2) 101 0) + 1))) 101 0) - 1)) (wr (wr (wr (wr M 101 (w32 (14 + (w32 (3 * (M 101 0))))) a0) 101 (w32 ((w32 (14 + (w32 (3 * (M 101 0))))) + 1)) a1) 101 (w32 ((w32 (14 + (w32 (3 * (M 101 0))))) + 2)) a2) 101 0 (w32 (((wr (wr (wr M 101 (w32 (14 + (w32 (3 * (M 101 0))))) a0) 101 (w32 ((w32 (14 + (w32 (3 * (M 101 0))))) + 1)) a1) 101 (w32 ((w32 (14 + (w32 (3 * (M 101 0))))) + 2)) a2) 101 0) + 1))))))
def F_xm_sheet_24 (Q : Int → cM → Prop) (M : cM) : Prop := F_xm_finds (fun x6 M5 => Q x6 M5) (-1000001) M
def F_xm_sheet (Q : Int → cM → Prop) (a0 : Int) (a1 : Int) (a2 : Int) (M : cM) : Prop := F_xm_isPart (fun x2 M1 => if x2 = 0 then (F_xm_sheet_24 Q M1) else (F_xm_isPart (fun x9 M8 => if x9 = 0 then (F_xm_sheet_24 Q M8) else (F_xm_isPart (fun x13 M12 => if x13 = 0 then (F_xm_sheet_24 Q M12) else (if (M12 101 0) = 10 then (F_xm_finds (fun x21 M20 => Q x21 M20) (-1000002) M12) else (F_xm_newSheet (fun x18 M17 => Q x18 M17) a0 a1 a2 M12))) 2 a2 M8)) 1 a1 M1)) 0 a0 M
def F_xm_isSheet (Q : Int → cM → Prop) (a0 : Int) (M : cM) : Prop := F_xm_in (fun x2 M1 => Q (narK 4 x2) M1) a0 0 (w32 ((M 101 0) - 1)) M
def F_xm_sheetOf_36 (Q : Int → cM → Prop) (M : cM) : Prop := F_xm_finds (fun x6 M5 => Q x6 M5) (-1000001) M
def F_xm_sheetOf (Q : Int → cM → Prop) (a0 : Int) (a1 : Int) (M : cM) : Prop := F_xm_isSheet (fun x2 M1 => if x2 = 0 then (F_xm_sheetOf_36 Q M1) else (F_xm_in (fun x9 M8 => if x9 = 0 then (F_xm_sheetOf_36 Q M8) else (((0 : Int) ≤ (w32 ((w32 (14 + (w32 (3 * a0)))) + a1)) ∧ (w32 ((w32 (14 + (w32 (3 * a0)))) + a1)) < 82) ∧ (Q (M8 101 (w32 ((w32 (14 + (w32 (3 * a0)))) + a1))) M8))) a1 0 2 M1)) a0 M
def F_xm_change_28 (Q : Int → cM → Prop) (M : cM) : Prop := F_xm_finds (fun x6 M5 => Q x6 M5) (-1000001) M
def F_xm_change (Q : Int → cM → Prop) (a0 : Int) (a1 : Int) (a2 : Int) (M : cM) : Prop := F_xm_isSheet (fun x2 M1 => if x2 = 0 then (F_xm_change_28 Q M1) else (F_xm_in (fun x9 M8 => if x9 = 0 then (F_xm_change_28 Q M8) else (F_xm_isPart (fun x13 M12 => if x13 = 0 then (F_xm_change_28 Q M12) else (((0 : Int) ≤ (w32 ((w32 (14 + (w32 (3 * a0)))) + a1)) ∧ (w32 ((w32 (14 + (w32 (3 * a0)))) + a1)) < 82) ∧ (((0 : Int) ≤ (w32 ((w32 (14 + (w32 (3 * a0)))) + a1)) ∧ (w32 ((w32 (14 + (w32 (3 * a0)))) + a1)) < 82) ∧ (Q (M12 101 (w32 ((w32 (14 + (w32 (3 * a0)))) + a1))) (wr M12 101 (w32 ((w32 (14 + (w32 (3 * a0)))) + a1)) a2))))) a1 a2 M8)) a1 0 2 M1)) a0 M
def F_xm_load (Q : Int → cM → Prop) (a0 : Int) (M : cM) : Prop := F_xm_isSlant (fun x2 M1 => if x2 = 0 then (F_xm_finds (fun x6 M5 => Q x6 M5) (-1000001) M1) else (Q (M1 101 1) (wr M1 101 1 a0))) a0 M
def F_xm_lamp_35 (Q : Int → cM → Prop) (M : cM) : Prop := F_xm_finds (fun x6 M5 => Q x6 M5) (-1000001) M
def F_xm_lamp_29 (Q : Int → cM → Prop) (l1 : Int) (l2 : Int) (s0 : Int) (s1 : Int) (s2 : Int) (M : cM) : Prop := F_xm_in (fun x10 M9 => if x10 = 0 then (F_xm_lamp_35 Q M9) else (((0 : Int) ≤ (w32 (2 + l1)) ∧ (w32 (2 + l1)) < 82) ∧ (((0 : Int) ≤ (w32 (2 + l1)) ∧ (w32 (2 + l1)) < 82) ∧ (Q (M9 101 (w32 (2 + l1))) (wr M9 101 (w32 (2 + l1)) l2))))) s2 s1 s0 M
def F_xm_lamp (Q : Int → cM → Prop) (a0 : Int) (a1 : Int) (M : cM) : Prop := F_xm_in (fun x2 M1 => if x2 = 0 then (F_xm_lamp_35 Q M1) else (if a0 = 0 then (F_xm_lamp_29 Q a0 a1 1000 (w32 (0 - a0)) a1 M1) else (F_xm_lamp_29 Q a0 a1 11 (w32 (0 - a0)) a1 M1))) a0 0 1 M
def F_xm_isStack (Q : Int → cM → Prop) (a0 : Int) (M : cM) : Prop := F_xm_in (fun x2 M1 => Q (narK 4 x2) M1) a0 0 3 M
def F_xm_manyIn (Q : Int → cM → Prop) (a0 : Int) (M : cM) : Prop := ((0 : Int) ≤ (w32 (44 + (w32 (7 * a0)))) ∧ (w32 (44 + (w32 (7 * a0)))) < 82) ∧ (Q (M 101 (w32 (44 + (w32 (7 * a0))))) M)
def F_xm_lays (Q : cM → Prop) (a0 : Int) (a1 : Int) (M : cM) : Prop := ((0 : Int) ≤ (w32 (44 + (w32 (7 * a0)))) ∧ (w32 (44 + (w32 (7 * a0)))) < 82) ∧ (((0 : Int) ≤ (w32 ((w32 ((w32 (44 + (w32 (7 * a0)))) + 1)) + (M 101 (w32 (44 + (w32 (7 * a0))))))) ∧ (w32 ((w32 ((w32 (44 + (w32 (7 * a0)))) + 1)) + (M 101 (w32 (44 + (w32 (7 * a0))))))) < 82) ∧ (((0 : Int) ≤ (w32 (44 + (w32 (7 * a0)))) ∧ (w32 (44 + (w32 (7 * a0)))) < 82) ∧ (((0 : Int) ≤ (w32 (44 + (w32 (7 * a0)))) ∧ (w32 (44 + (w32 (7 * a0)))) < 82) ∧ (Q (wr (wr M 101 (w32 ((w32 ((w32 (44 + (w32 (7 * a0)))) + 1)) + (M 101 (w32 (44 + (w32 (7 * a0))))))) a1) 101 (w32 (44 + (w32 (7 * a0)))) (w32 (((wr M 101 (w32 ((w32 ((w32 (44 + (w32 (7 * a0)))) + 1)) + (M 101 (w32 (44 + (w32 (7 * a0))))))) a1) 101 (w32 (44 + (w32 (7 * a0))))) + 1)))))))
def F_xm_lay_15 (Q : Int → cM → Prop) (M : cM) : Prop := F_xm_finds (fun x6 M5 => Q x6 M5) (-1000001) M
def F_xm_lay (Q : Int → cM → Prop) (a0 : Int) (a1 : Int) (M : cM) : Prop := F_xm_isStack (fun x2 M1 => if x2 = 0 then (F_xm_lay_15 Q M1) else (F_xm_isSheet (fun x9 M8 => if x9 = 0 then (F_xm_lay_15 Q M8) else (F_xm_manyIn (fun x13 M12 => if x13 = 6 then (F_xm_finds (fun x23 M22 => Q x23 M22) (-1000002) M12) else (F_xm_lays (fun M16 => F_xm_manyIn (fun x20 M19 => Q x20 M19) a0 M16) a0 a1 M12)) a0 M8)) a1 M1)) a0 M
def F_xm_sheetIn (Q : Int → cM → Prop) (a0 : Int) (a1 : Int) (M : cM) : Prop := ((0 : Int) ≤ (w32 ((w32 ((w32 (44 + (w32 (7 * a0)))) + 1)) + a1)) ∧ (w32 ((w32 ((w32 (44 + (w32 (7 * a0)))) + 1)) + a1)) < 82) ∧ (Q (M 101 (w32 ((w32 ((w32 (44 + (w32 (7 * a0)))) + 1)) + a1))) M)
def F_xm_off (Q : Int → cM → Prop) (a0 : Int) (M : cM) : Prop := F_xm_isStack (fun x2 M1 => if x2 = 0 then (F_xm_finds (fun x19 M18 => Q x19 M18) (-1000001) M1) else (F_xm_manyIn (fun x6 M5 => if x6 = 0 then (F_xm_finds (fun x16 M15 => Q x16 M15) (-1000004) M5) else (((0 : Int) ≤ (w32 (44 + (w32 (7 * a0)))) ∧ (w32 (44 + (w32 (7 * a0)))) < 82) ∧ (((0 : Int) ≤ (w32 (44 + (w32 (7 * a0)))) ∧ (w32 (44 + (w32 (7 * a0)))) < 82) ∧ (F_xm_manyIn (fun x10 M9 => F_xm_sheetIn (fun x13 M12 => Q x13 M12) a0 x10 M9) a0 (wr M5 101 (w32 (44 + (w32 (7 * a0)))) (w32 ((M5 101 (w32 (44 + (w32 (7 * a0))))) - 1))))))) a0 M1)) a0 M
def F_xm_at_19 (Q : Int → cM → Prop) (M : cM) : Prop := F_xm_finds (fun x6 M5 => Q x6 M5) (-1000001) M
def F_xm_at (Q : Int → cM → Prop) (a0 : Int) (a1 : Int) (M : cM) : Prop := F_xm_isStack (fun x2 M1 => if x2 = 0 then (F_xm_at_19 Q M1) else (F_xm_in (fun x9 M8 => if x9 = 0 then (F_xm_at_19 Q M8) else (F_xm_manyIn (fun x13 M12 => if x13 ≤ a1 then (F_xm_finds (fun x17 M16 => Q x17 M16) (-1000004) M12) else (F_xm_sheetIn (fun x20 M19 => Q x20 M19) a0 a1 M12)) a0 M8)) a1 0 5 M1)) a0 M
def F_xm_round_51 (Q : Int → cM → Prop) : Nat → Int → Int → Int → cM → Prop
  | 0, _, _, _, _ => False
  | n51 + 1, l1, l2, l3, M => if l2 ≤ l3 then (Q l2 M) else (((0 : Int) ≤ l3 ∧ l3 < 6) ∧ (((0 : Int) ≤ (w32 ((w32 ((w32 (44 + (w32 (7 * l1)))) + 1)) + l3)) ∧ (w32 ((w32 ((w32 (44 + (w32 (7 * l1)))) + 1)) + l3)) < 82) ∧ (F_xm_round_51 Q n51 l1 l2 (w32 (l3 + 1)) (wr M 101 (w32 ((w32 ((w32 (44 + (w32 (7 * l1)))) + 1)) + l3)) (M 105 l3)))))
def F_xm_round_22 (Q : Int → cM → Prop) : Nat → Int → Int → Int → cM → Prop
  | 0, _, _, _, _ => False
  | n22 + 1, l1, l2, l3, M => if l2 ≤ l3 then (∃ e51, F_xm_round_51 Q e51 l1 l2 0 M) else (F_xm_sheetIn (fun x11 M10 => ((0 : Int) ≤ l3 ∧ l3 < 6) ∧ (F_xm_round_22 Q n22 l1 l2 (w32 (l3 + 1)) (wr M10 105 l3 x11))) l1 (w32 ((w32 (l2 - 1)) - l3)) M)
def F_xm_round (Q : Int → cM → Prop) (a0 : Int) (M : cM) : Prop := F_xm_isStack (fun x2 M1 => if x2 = 0 then (F_xm_finds (fun x14 M13 => Q x14 M13) (-1000001) M1) else (F_xm_manyIn (fun x6 M5 => ∃ e22, F_xm_round_22 Q e22 a0 x6 0 M5) a0 M1)) a0 M
def F_xm_like_14 (Q : Int → cM → Prop) (M : cM) : Prop := F_xm_finds (fun x6 M5 => Q x6 M5) (-1000001) M
def F_xm_like_23 (Q : Int → cM → Prop) : Nat → Int → Int → Int → cM → Prop
  | 0, _, _, _, _ => False
  | n23 + 1, l1, l2, l3, M => if 7 ≤ l3 then (F_xm_manyIn (fun x14 M13 => Q x14 M13) l1 M) else (((0 : Int) ≤ (w32 ((w32 (44 + (w32 (7 * l2)))) + l3)) ∧ (w32 ((w32 (44 + (w32 (7 * l2)))) + l3)) < 82) ∧ (((0 : Int) ≤ (w32 ((w32 (44 + (w32 (7 * l1)))) + l3)) ∧ (w32 ((w32 (44 + (w32 (7 * l1)))) + l3)) < 82) ∧ (F_xm_like_23 Q n23 l1 l2 (w32 (l3 + 1)) (wr M 101 (w32 ((w32 (44 + (w32 (7 * l1)))) + l3)) (M 101 (w32 ((w32 (44 + (w32 (7 * l2)))) + l3)))))))
def F_xm_like (Q : Int → cM → Prop) (a0 : Int) (a1 : Int) (M : cM) : Prop := F_xm_isStack (fun x2 M1 => if x2 = 0 then (F_xm_like_14 Q M1) else (F_xm_isStack (fun x9 M8 => if x9 = 0 then (F_xm_like_14 Q M8) else (∃ e23, F_xm_like_23 Q e23 a0 a1 0 M8)) a1 M1)) a0 M
def F_xm_lights (Q : cM → Prop) (M : cM) : Prop := Q (wr (wr M 100 6 (M 101 2)) 100 7 ((wr M 100 6 (M 101 2)) 101 3))
def F_xm_cos_24 (Q : Int → cM → Prop) (s0 : Int) (M : cM) : Prop := if s0 = 0 then (Q 1000 M) else (if s0 = 1 then (Q 933 M) else (if s0 = 2 then (Q 750 M) else (if s0 = 3 then (Q 500 M) else (if s0 = 4 then (Q 250 M) else (if s0 = 5 then (Q 67 M) else (Q 0 M))))))
def F_xm_cos (Q : Int → cM → Prop) (a0 : Int) (a1 : Int) (M : cM) : Prop := if (Int.tmod (w32 ((w32 (a0 - a1)) + 12)) 12) ≤ 6 then (F_xm_cos_24 Q (Int.tmod (w32 ((w32 (a0 - a1)) + 12)) 12) M) else (F_xm_cos_24 Q (w32 (12 - (Int.tmod (w32 ((w32 (a0 - a1)) + 12)) 12))) M)
def F_xm_filters_34 (Q : cM → Prop) (l1 : Int) (s0 : Int) (M : cM) : Prop := Q (wr (wr M 100 6 s0) 100 7 l1)
def F_xm_filters (Q : cM → Prop) (a0 : Int) (M : cM) : Prop := if 0 ≤ (M 100 7) then (F_xm_cos (fun x3 M2 => F_xm_filters_34 Q a0 (w32 (Int.tdiv (w32 ((M 100 6) * x3)) 1000)) M2) (M 100 7) a0 M) else (F_xm_filters_34 Q a0 (w32 (Int.tdiv (M 100 6) 2)) M)
def F_xm_turns_21 (Q : cM → Prop) (s0 : Int) (M : cM) : Prop := Q (wr M 100 7 s0)
def F_xm_turns (Q : cM → Prop) (a0 : Int) (M : cM) : Prop := if 0 ≤ (M 100 7) then (F_xm_turns_21 Q (Int.tmod (w32 ((M 100 7) + a0)) 12) M) else (F_xm_turns_21 Q (-1) M)
def F_xm_goes_138 (Q : cM → Prop) (s0 : Int) (M : cM) : Prop := Q (wr M 100 7 s0)
def F_xm_goes_209 (Q : cM → Prop) (s0 : Int) (s1 : Int) (M : cM) : Prop := F_xm_turns (fun M19 => Q M19) (w32 (s1 + s0)) M
def F_xm_goes_44 (Q : cM → Prop) (l1 : Int) (l2 : Int) (l4 : Int) (s0 : Int) (M : cM) : Prop := ((0 : Int) ≤ (w32 (14 + (w32 (3 * l1)))) ∧ (w32 (14 + (w32 (3 * l1)))) < 82) ∧ (if (M 101 (w32 (14 + (w32 (3 * l1))))) = 1 then (F_xm_filters (fun M3 => Q M3) s0 M) else (if (M 101 (w32 (14 + (w32 (3 * l1))))) = 2 then (F_xm_turns (fun M7 => Q M7) s0 M) else (if (M 101 (w32 (14 + (w32 (3 * l1))))) = 3 then (if 0 ≤ (M 100 7) then (F_xm_goes_138 Q (Int.tmod (w32 ((w32 ((w32 (2 * s0)) - (M 100 7))) + 12)) 12) M) else (F_xm_goes_138 Q (-1) M)) else (if (M 101 (w32 (14 + (w32 (3 * l1))))) = 4 then (Q (wr M 100 6 (w32 (Int.tdiv (w32 ((M 100 6) * l4)) 1000)))) else (if (M 101 (w32 (14 + (w32 (3 * l1))))) = 5 then (F_xm_filters (fun M14 => Q (wr M14 100 6 (w32 (Int.tdiv (w32 ((M14 100 6) * l4)) 1000)))) s0 M) else (if (M 101 (w32 (14 + (w32 (3 * l1))))) = 6 then (if l2 = 0 then (F_xm_goes_209 Q (M 101 1) s0 M) else (F_xm_goes_209 Q (w32 (12 - (M 101 1))) s0 M)) else (Q M)))))))
def F_xm_goes (Q : cM → Prop) (a0 : Int) (a1 : Int) (M : cM) : Prop := ((0 : Int) ≤ (w32 ((w32 (14 + (w32 (3 * a0)))) + 1)) ∧ (w32 ((w32 (14 + (w32 (3 * a0)))) + 1)) < 82) ∧ (((0 : Int) ≤ (w32 ((w32 (14 + (w32 (3 * a0)))) + 2)) ∧ (w32 ((w32 (14 + (w32 (3 * a0)))) + 2)) < 82) ∧ (if a1 = 0 then (F_xm_goes_44 Q a0 a1 (M 101 (w32 ((w32 (14 + (w32 (3 * a0)))) + 2))) (M 101 (w32 ((w32 (14 + (w32 (3 * a0)))) + 1))) M) else (F_xm_goes_44 Q a0 a1 (M 101 (w32 ((w32 (14 + (w32 (3 * a0)))) + 2))) (Int.tmod (w32 (12 - (M 101 (w32 ((w32 (14 + (w32 (3 * a0)))) + 1))))) 12) M)))
def F_xm_goesThrough_33 (Q : cM → Prop) (k9 : Int → Int → Int → Int → cM → Prop) (l1 : Int) (l2 : Int) (l3 : Int) (l4 : Int) (s0 : Int) (s1 : Int) (M : cM) : Prop := F_xm_sheetIn (fun x7 M6 => F_xm_goes (fun M9 => k9 l1 l2 l3 (w32 (l4 + 1)) M9) x7 l2 M6) s1 s0 M
def F_xm_goesThrough_9 (Q : cM → Prop) : Nat → Int → Int → Int → Int → cM → Prop
  | 0, _, _, _, _, _ => False
  | n9 + 1, l1, l2, l3, l4, M => if l3 ≤ l4 then (Q M) else (if l2 = 0 then (F_xm_goesThrough_33 Q (F_xm_goesThrough_9 Q n9) l1 l2 l3 l4 l4 l1 M) else (F_xm_goesThrough_33 Q (F_xm_goesThrough_9 Q n9) l1 l2 l3 l4 (w32 ((w32 (l3 - 1)) - l4)) l1 M))
def F_xm_goesThrough (Q : cM → Prop) (a0 : Int) (a1 : Int) (M : cM) : Prop := F_xm_manyIn (fun x2 M1 => ∃ e9, F_xm_goesThrough_9 Q e9 a0 a1 x2 0 M1) a0 M
def F_xm_through_17 (Q : Int → cM → Prop) (M : cM) : Prop := F_xm_finds (fun x6 M5 => Q x6 M5) (-1000001) M
def F_xm_through (Q : Int → cM → Prop) (a0 : Int) (a1 : Int) (a2 : Int) (M : cM) : Prop := F_xm_isStack (fun x2 M1 => if x2 = 0 then (F_xm_through_17 Q M1) else (F_xm_in (fun x9 M8 => if x9 = 0 then (F_xm_through_17 Q M8) else (F_xm_lights (fun M12 => F_xm_goesThrough (fun M15 => if a2 = 0 then (Q (M15 100 6) M15) else (Q (M15 100 7) M15)) a0 a1 M12) M8)) a2 0 1 M1)) a0 M
def F_xm_seenAt (Q : Int → cM → Prop) (a0 : Int) (M : cM) : Prop := if 0 ≤ (M 100 7) then (F_xm_cos (fun x3 M2 => Q (w32 (Int.tdiv (w32 ((M 100 6) * x3)) 1000)) M2) (M 100 7) a0 M) else (Q (w32 (Int.tdiv (M 100 6) 2)) M)
def F_xm_seen_14 (Q : Int → cM → Prop) (M : cM) : Prop := F_xm_finds (fun x6 M5 => Q x6 M5) (-1000001) M
def F_xm_seen (Q : Int → cM → Prop) (a0 : Int) (a1 : Int) (a2 : Int) (M : cM) : Prop := F_xm_isStack (fun x2 M1 => if x2 = 0 then (F_xm_seen_14 Q M1) else (F_xm_isSlant (fun x9 M8 => if x9 = 0 then (F_xm_seen_14 Q M8) else (F_xm_lights (fun M12 => F_xm_goesThrough (fun M15 => F_xm_seenAt (fun x19 M18 => Q x19 M18) a2 M15) a0 a1 M12) M8)) a2 M1)) a0 M
def F_xm_bright_56 (Q : Int → cM → Prop) (k29 : Int → Int → cM → Prop) (l4 : Int) (s0 : Int) (M : cM) : Prop := k29 s0 (w32 (l4 + 1)) M
def F_xm_bright_29 (Q : Int → cM → Prop) : Nat → Int → Int → cM → Prop
  | 0, _, _, _ => False
  | n29 + 1, l3, l4, M => if 12 ≤ l4 then (Q l3 M) else (F_xm_seenAt (fun x13 M12 => F_xm_seenAt (fun x16 M15 => if x13 ≤ x16 then (F_xm_bright_56 Q (F_xm_bright_29 Q n29) l4 l3 M15) else (F_xm_bright_56 Q (F_xm_bright_29 Q n29) l4 l4 M15)) l3 M12) l4 M)
def F_xm_bright (Q : Int → cM → Prop) (a0 : Int) (a1 : Int) (M : cM) : Prop := F_xm_isStack (fun x2 M1 => if x2 = 0 then (F_xm_finds (fun x20 M19 => Q x20 M19) (-1000001) M1) else (F_xm_lights (fun M5 => F_xm_goesThrough (fun M8 => ∃ e29, F_xm_bright_29 Q e29 0 1 M8) a0 a1 M5) M1)) a0 M
def F_xm_dark_56 (Q : Int → cM → Prop) (k29 : Int → Int → cM → Prop) (l4 : Int) (s0 : Int) (M : cM) : Prop := k29 s0 (w32 (l4 + 1)) M
def F_xm_dark_29 (Q : Int → cM → Prop) : Nat → Int → Int → cM → Prop
  | 0, _, _, _ => False
  | n29 + 1, l3, l4, M => if 12 ≤ l4 then (Q l3 M) else (F_xm_seenAt (fun x13 M12 => F_xm_seenAt (fun x16 M15 => if x16 ≤ x13 then (F_xm_dark_56 Q (F_xm_dark_29 Q n29) l4 l3 M15) else (F_xm_dark_56 Q (F_xm_dark_29 Q n29) l4 l4 M15)) l3 M12) l4 M)
def F_xm_dark (Q : Int → cM → Prop) (a0 : Int) (a1 : Int) (M : cM) : Prop := F_xm_isStack (fun x2 M1 => if x2 = 0 then (F_xm_finds (fun x20 M19 => Q x20 M19) (-1000001) M1) else (F_xm_lights (fun M5 => F_xm_goesThrough (fun M8 => ∃ e29, F_xm_dark_29 Q e29 0 1 M8) a0 a1 M5) M1)) a0 M
def F_xm_seenThrough (Q : Int → cM → Prop) (a0 : Int) (a1 : Int) (M : cM) : Prop := F_xm_lights (fun M1 => F_xm_goesThrough (fun M4 => F_xm_seenAt (fun x8 M7 => Q x8 M7) a1 M4) a0 0 M1) M
def F_xm_size (Q : Int → cM → Prop) (a0 : Int) (M : cM) : Prop := if 0 ≤ a0 then (Q a0 M) else (Q (w32 (0 - a0)) M)
def F_xm_alike_21 (Q : Int → cM → Prop) (M : cM) : Prop := F_xm_finds (fun x6 M5 => Q x6 M5) (-1000001) M
def F_xm_alike_73 (Q : Int → cM → Prop) (k34 : Int → Int → Int → Int → Int → cM → Prop) (l1 : Int) (l2 : Int) (l3 : Int) (l5 : Int) (s0 : Int) (s1 : Int) (M : cM) : Prop := k34 l1 l2 l3 (zor s1 s0) (w32 (l5 + 1)) M
def F_xm_alike_34 (Q : Int → cM → Prop) : Nat → Int → Int → Int → Int → Int → cM → Prop
  | 0, _, _, _, _, _, _ => False
  | n34 + 1, l1, l2, l3, l4, l5, M => if 12 ≤ l5 then (Q l4 M) else (F_xm_seenThrough (fun x18 M17 => F_xm_seenThrough (fun x21 M20 => F_xm_size (fun x24 M23 => if l3 < x24 then (F_xm_alike_73 Q (F_xm_alike_34 Q n34) l1 l2 l3 l5 0 l4 M23) else (F_xm_alike_73 Q (F_xm_alike_34 Q n34) l1 l2 l3 l5 (zshl 1 l5) l4 M23)) (w32 (x18 - x21)) M20) l2 l5 M17) l1 l5 M)
def F_xm_alike (Q : Int → cM → Prop) (a0 : Int) (a1 : Int) (a2 : Int) (M : cM) : Prop := F_xm_isStack (fun x2 M1 => if x2 = 0 then (F_xm_alike_21 Q M1) else (F_xm_isStack (fun x9 M8 => if x9 = 0 then (F_xm_alike_21 Q M8) else (F_xm_isShare (fun x13 M12 => if x13 = 0 then (F_xm_alike_21 Q M12) else (∃ e34, F_xm_alike_34 Q e34 a0 a1 a2 0 0 M12)) a2 M8)) a1 M1)) a0 M
def F_xm_shines_43 (Q : cM → Prop) (s0 : Int) (M : cM) : Prop := Q (wr M 100 7 s0)
def F_xm_shines_25 (Q : cM → Prop) (l1 : Int) (l2 : Int) (s0 : Int) (M : cM) : Prop := if l2 = 0 then (F_xm_shines_43 Q (-1) (wr M 100 6 s0)) else (F_xm_shines_43 Q (Int.tmod (w32 (l1 - 3)) 12) (wr M 100 6 s0))
def F_xm_shines (Q : cM → Prop) (a0 : Int) (M : cM) : Prop := F_xm_in (fun x2 M1 => if x2 = 0 then (F_xm_shines_25 Q a0 x2 100 M1) else (F_xm_shines_25 Q a0 x2 1000 M1)) a0 6 17 M
def F_xm_sky_22 (Q : Int → cM → Prop) (M : cM) : Prop := F_xm_finds (fun x6 M5 => Q x6 M5) (-1000001) M
def F_xm_sky (Q : Int → cM → Prop) (a0 : Int) (a1 : Int) (M : cM) : Prop := F_xm_in (fun x2 M1 => if x2 = 0 then (F_xm_sky_22 Q M1) else (F_xm_in (fun x9 M8 => if x9 = 0 then (F_xm_sky_22 Q M8) else (F_xm_shines (fun M12 => if a1 = 0 then (Q (M12 100 6) M12) else (Q (M12 100 7) M12)) a0 M8)) a1 0 1 M1)) a0 0 23 M
def F_xm_hours_21 (Q : Int → cM → Prop) (M : cM) : Prop := F_xm_finds (fun x6 M5 => Q x6 M5) (-1000001) M
def F_xm_hours_72 (Q : Int → cM → Prop) (k34 : Int → Int → Int → Int → Int → cM → Prop) (l1 : Int) (l2 : Int) (l3 : Int) (l5 : Int) (s0 : Int) (s1 : Int) (M : cM) : Prop := k34 l1 l2 l3 (zor s1 s0) (w32 (l5 + 1)) M
def F_xm_hours_34 (Q : Int → cM → Prop) : Nat → Int → Int → Int → Int → Int → cM → Prop
  | 0, _, _, _, _, _, _ => False
  | n34 + 1, l1, l2, l3, l4, l5, M => if 24 ≤ l5 then (Q l4 M) else (F_xm_shines (fun M17 => F_xm_goesThrough (fun M20 => F_xm_seenAt (fun x24 M23 => if x24 = l3 then (F_xm_hours_72 Q (F_xm_hours_34 Q n34) l1 l2 l3 l5 (zshl 1 l5) l4 M23) else (F_xm_hours_72 Q (F_xm_hours_34 Q n34) l1 l2 l3 l5 0 l4 M23)) l2 M20) l1 0 M17) l5 M)
def F_xm_hours (Q : Int → cM → Prop) (a0 : Int) (a1 : Int) (a2 : Int) (M : cM) : Prop := F_xm_isStack (fun x2 M1 => if x2 = 0 then (F_xm_hours_21 Q M1) else (F_xm_isSlant (fun x9 M8 => if x9 = 0 then (F_xm_hours_21 Q M8) else (F_xm_isShare (fun x13 M12 => if x13 = 0 then (F_xm_hours_21 Q M12) else (∃ e34, F_xm_hours_34 Q e34 a0 a1 a2 0 0 M12)) a2 M8)) a1 M1)) a0 M
def F_xm_loads_21 (Q : Int → cM → Prop) (M : cM) : Prop := F_xm_finds (fun x6 M5 => Q x6 M5) (-1000001) M
def F_xm_loads_77 (Q : Int → cM → Prop) (k42 : Int → Int → Int → Int → Int → Int → cM → Prop) (l1 : Int) (l2 : Int) (l3 : Int) (l4 : Int) (l6 : Int) (s0 : Int) (s1 : Int) (M : cM) : Prop := k42 l1 l2 l3 l4 (zor s1 s0) (w32 (l6 + 1)) M
def F_xm_loads_42 (Q : Int → cM → Prop) : Nat → Int → Int → Int → Int → Int → Int → cM → Prop
  | 0, _, _, _, _, _, _, _ => False
  | n42 + 1, l1, l2, l3, l4, l5, l6, M => if 12 ≤ l6 then (Q l5 (wr M 101 1 l4)) else (F_xm_seenThrough (fun x18 M17 => if x18 = l3 then (F_xm_loads_77 Q (F_xm_loads_42 Q n42) l1 l2 l3 l4 l6 (zshl 1 l6) l5 M17) else (F_xm_loads_77 Q (F_xm_loads_42 Q n42) l1 l2 l3 l4 l6 0 l5 M17)) l1 l2 (wr M 101 1 l6))
def F_xm_loads (Q : Int → cM → Prop) (a0 : Int) (a1 : Int) (a2 : Int) (M : cM) : Prop := F_xm_isStack (fun x2 M1 => if x2 = 0 then (F_xm_loads_21 Q M1) else (F_xm_isSlant (fun x9 M8 => if x9 = 0 then (F_xm_loads_21 Q M8) else (F_xm_isShare (fun x13 M12 => if x13 = 0 then (F_xm_loads_21 Q M12) else (∃ e42, F_xm_loads_42 Q e42 a0 a1 a2 (M12 101 1) 0 0 M12)) a2 M8)) a1 M1)) a0 M
def F_xm_seenWith_42 (Q : Int → cM → Prop) (l5 : Int) (M : cM) : Prop := F_xm_seenAt (fun x11 M10 => Q x11 M10) l5 M
def F_xm_seenWith_30 (Q : Int → cM → Prop) (l4 : Int) (l5 : Int) (M : cM) : Prop := if l4 < 0 then (F_xm_seenWith_42 Q l5 M) else (F_xm_goes (fun M13 => F_xm_seenWith_42 Q l5 M13) l4 0 M)
def F_xm_seenWith_20 (Q : Int → cM → Prop) (l3 : Int) (l4 : Int) (l5 : Int) (M : cM) : Prop := if l3 < 0 then (F_xm_seenWith_30 Q l4 l5 M) else (F_xm_goes (fun M16 => F_xm_seenWith_30 Q l4 l5 M16) l3 0 M)
def F_xm_seenWith (Q : Int → cM → Prop) (a0 : Int) (a1 : Int) (a2 : Int) (a3 : Int) (a4 : Int) (M : cM) : Prop := F_xm_lights (fun M1 => F_xm_goesThrough (fun M4 => if a1 < 0 then (F_xm_seenWith_20 Q a2 a3 a4 M4) else (F_xm_goes (fun M19 => F_xm_seenWith_20 Q a2 a3 a4 M19) a1 0 M4)) a0 0 M1) M
def F_xm_nearest_21 (Q : Int → cM → Prop) (M : cM) : Prop := F_xm_finds (fun x6 M5 => Q x6 M5) (-1000001) M
def F_xm_nearest_85 (Q : Int → cM → Prop) (k37 : Int → Int → Int → Int → Int → Int → cM → Prop) (l1 : Int) (l2 : Int) (l3 : Int) (l4 : Int) (l5 : Int) (l6 : Int) (M : cM) : Prop := k37 l1 l2 l3 l4 l5 (w32 (l6 + 1)) M
def F_xm_nearest_77 (Q : Int → cM → Prop) (k37 : Int → Int → Int → Int → Int → Int → cM → Prop) (l1 : Int) (l2 : Int) (l3 : Int) (l6 : Int) (l7 : Int) (M : cM) : Prop := F_xm_nearest_85 Q (k37) l1 l2 l3 l6 l7 l6 M
def F_xm_nearest_37 (Q : Int → cM → Prop) : Nat → Int → Int → Int → Int → Int → Int → cM → Prop
  | 0, _, _, _, _, _, _, _ => False
  | n37 + 1, l1, l2, l3, l4, l5, l6, M => if (M 101 0) ≤ l6 then (if 0 ≤ l4 then (Q l4 M) else (F_xm_finds (fun x19 M18 => Q x19 M18) (-1000004) M)) else (F_xm_seenWith (fun x22 M21 => F_xm_size (fun x25 M24 => if l4 < 0 then (F_xm_nearest_77 Q (F_xm_nearest_37 Q n37) l1 l2 l3 l6 x25 M24) else (if l5 ≤ x25 then (F_xm_nearest_85 Q (F_xm_nearest_37 Q n37) l1 l2 l3 l4 l5 l6 M24) else (F_xm_nearest_77 Q (F_xm_nearest_37 Q n37) l1 l2 l3 l6 x25 M24))) (w32 (x22 - l3)) M21) l1 l6 (-1) (-1) l2 M)
def F_xm_nearest (Q : Int → cM → Prop) (a0 : Int) (a1 : Int) (a2 : Int) (M : cM) : Prop := F_xm_isStack (fun x2 M1 => if x2 = 0 then (F_xm_nearest_21 Q M1) else (F_xm_isSlant (fun x9 M8 => if x9 = 0 then (F_xm_nearest_21 Q M8) else (F_xm_isShare (fun x13 M12 => if x13 = 0 then (F_xm_nearest_21 Q M12) else (∃ e37, F_xm_nearest_37 Q e37 a0 a1 a2 (-1) 0 0 M12)) a2 M8)) a1 M1)) a0 M
def F_xm_fewest_21 (Q : Int → cM → Prop) (M : cM) : Prop := F_xm_finds (fun x6 M5 => Q x6 M5) (-1000001) M
def F_xm_fewest_153 (Q : Int → cM → Prop) (k50 : Int → Int → Int → Int → Int → cM → Prop) (k64 : Int → Int → Int → Int → Int → Int → cM → Prop) (k78 : Int → Int → Int → Int → Int → Int → Int → cM → Prop) (l1 : Int) (l2 : Int) (l3 : Int) (l5 : Int) (l6 : Int) (l7 : Int) (s0 : Int) (M : cM) : Prop := k78 l1 l2 l3 s0 l5 l6 (w32 (l7 + 1)) M
def F_xm_fewest_151 (Q : Int → cM → Prop) (k50 : Int → Int → Int → Int → Int → cM → Prop) (k64 : Int → Int → Int → Int → Int → Int → cM → Prop) (k78 : Int → Int → Int → Int → Int → Int → Int → cM → Prop) (l1 : Int) (l2 : Int) (l3 : Int) (l4 : Int) (l5 : Int) (l6 : Int) (l7 : Int) (M : cM) : Prop := F_xm_fewest_153 Q (k50) (k64) (k78) l1 l2 l3 l5 l6 l7 l4 M
def F_xm_fewest_120 (Q : Int → cM → Prop) (k50 : Int → Int → Int → Int → Int → cM → Prop) (k64 : Int → Int → Int → Int → Int → Int → cM → Prop) (k78 : Int → Int → Int → Int → Int → Int → Int → cM → Prop) (l1 : Int) (l2 : Int) (l3 : Int) (l4 : Int) (l5 : Int) (l6 : Int) (l7 : Int) (s0 : Int) (s1 : Int) (M : cM) : Prop := if l4 ≤ (w32 (s1 + s0)) then (F_xm_fewest_151 Q (k50) (k64) (k78) l1 l2 l3 l4 l5 l6 l7 M) else (F_xm_seenWith (fun x32 M31 => if x32 = l3 then (F_xm_fewest_153 Q (k50) (k64) (k78) l1 l2 l3 l5 l6 l7 (w32 (s1 + s0)) M31) else (F_xm_fewest_151 Q (k50) (k64) (k78) l1 l2 l3 l4 l5 l6 l7 M31)) l1 l5 l6 l7 l2 M)
def F_xm_fewest_109 (Q : Int → cM → Prop) (k50 : Int → Int → Int → Int → Int → cM → Prop) (k64 : Int → Int → Int → Int → Int → Int → cM → Prop) (k78 : Int → Int → Int → Int → Int → Int → Int → cM → Prop) (l1 : Int) (l2 : Int) (l3 : Int) (l4 : Int) (l5 : Int) (l6 : Int) (l7 : Int) (s0 : Int) (s1 : Int) (M : cM) : Prop := if 0 ≤ l7 then (F_xm_fewest_120 Q (k50) (k64) (k78) l1 l2 l3 l4 l5 l6 l7 1 (w32 (s1 + s0)) M) else (F_xm_fewest_120 Q (k50) (k64) (k78) l1 l2 l3 l4 l5 l6 l7 0 (w32 (s1 + s0)) M)
def F_xm_fewest_99 (Q : Int → cM → Prop) (k50 : Int → Int → Int → Int → Int → cM → Prop) (k64 : Int → Int → Int → Int → Int → Int → cM → Prop) (k78 : Int → Int → Int → Int → Int → Int → Int → cM → Prop) (l1 : Int) (l2 : Int) (l3 : Int) (l4 : Int) (l5 : Int) (l6 : Int) (l7 : Int) (s0 : Int) (M : cM) : Prop := if 0 ≤ l6 then (F_xm_fewest_109 Q (k50) (k64) (k78) l1 l2 l3 l4 l5 l6 l7 1 s0 M) else (F_xm_fewest_109 Q (k50) (k64) (k78) l1 l2 l3 l4 l5 l6 l7 0 s0 M)
def F_xm_fewest_78 (Q : Int → cM → Prop) (k50 : Int → Int → Int → Int → Int → cM → Prop) (k64 : Int → Int → Int → Int → Int → Int → cM → Prop) : Nat → Int → Int → Int → Int → Int → Int → Int → cM → Prop
  | 0, _, _, _, _, _, _, _, _ => False
  | n78 + 1, l1, l2, l3, l4, l5, l6, l7, M => if (M 101 0) ≤ l7 then (k64 l1 l2 l3 l4 l5 (w32 (l6 + 1)) M) else (if 0 ≤ l5 then (F_xm_fewest_99 Q (k50) (k64) (F_xm_fewest_78 Q k50 k64 n78) l1 l2 l3 l4 l5 l6 l7 1 M) else (F_xm_fewest_99 Q (k50) (k64) (F_xm_fewest_78 Q k50 k64 n78) l1 l2 l3 l4 l5 l6 l7 0 M))
def F_xm_fewest_64 (Q : Int → cM → Prop) (k50 : Int → Int → Int → Int → Int → cM → Prop) : Nat → Int → Int → Int → Int → Int → Int → cM → Prop
  | 0, _, _, _, _, _, _, _ => False
  | n64 + 1, l1, l2, l3, l4, l5, l6, M => if (M 101 0) ≤ l6 then (k50 l1 l2 l3 l4 (w32 (l5 + 1)) M) else (∃ e78, F_xm_fewest_78 Q (k50) (F_xm_fewest_64 Q k50 n64) e78 l1 l2 l3 l4 l5 l6 (-1) M)
def F_xm_fewest_50 (Q : Int → cM → Prop) : Nat → Int → Int → Int → Int → Int → cM → Prop
  | 0, _, _, _, _, _, _ => False
  | n50 + 1, l1, l2, l3, l4, l5, M => if (M 101 0) ≤ l5 then (if l4 ≤ 3 then (Q l4 M) else (F_xm_finds (fun x23 M22 => Q x23 M22) (-1000004) M)) else (∃ e64, F_xm_fewest_64 Q (F_xm_fewest_50 Q n50) e64 l1 l2 l3 l4 l5 (-1) M)
def F_xm_fewest (Q : Int → cM → Prop) (a0 : Int) (a1 : Int) (a2 : Int) (M : cM) : Prop := F_xm_isStack (fun x2 M1 => if x2 = 0 then (F_xm_fewest_21 Q M1) else (F_xm_isSlant (fun x9 M8 => if x9 = 0 then (F_xm_fewest_21 Q M8) else (F_xm_isShare (fun x13 M12 => if x13 = 0 then (F_xm_fewest_21 Q M12) else (F_xm_manyIn (fun x17 M16 => if x17 ≤ 3 then (∃ e50, F_xm_fewest_50 Q e50 a0 a1 a2 4 (-1) M16) else (F_xm_finds (fun x36 M35 => Q x36 M35) (-1000007) M16)) a0 M12)) a2 M8)) a1 M1)) a0 M
def F_xm_turnFor_22 (Q : Int → cM → Prop) (M : cM) : Prop := F_xm_finds (fun x6 M5 => Q x6 M5) (-1000001) M
def F_xm_turnFor_113 (Q : Int → cM → Prop) (k53 : Int → Int → Int → Int → Int → Int → Int → cM → Prop) (l1 : Int) (l2 : Int) (l3 : Int) (l4 : Int) (l5 : Int) (l7 : Int) (s0 : Int) (M : cM) : Prop := k53 l1 l2 l3 l4 l5 s0 (w32 (l7 + 1)) M
def F_xm_turnFor_97 (Q : Int → cM → Prop) (k53 : Int → Int → Int → Int → Int → Int → Int → cM → Prop) (l1 : Int) (l2 : Int) (l3 : Int) (l4 : Int) (l6 : Int) (l7 : Int) (l8 : Int) (s0 : Int) (M : cM) : Prop := if l8 ≤ l6 then (F_xm_turnFor_113 Q (k53) l1 l2 l3 l4 s0 l7 l6 M) else (F_xm_turnFor_113 Q (k53) l1 l2 l3 l4 s0 l7 l8 M)
def F_xm_turnFor_53 (Q : Int → cM → Prop) : Nat → Int → Int → Int → Int → Int → Int → Int → cM → Prop
  | 0, _, _, _, _, _, _, _, _ => False
  | n53 + 1, l1, l2, l3, l4, l5, l6, l7, M => if 12 ≤ l7 then (((0 : Int) ≤ (w32 ((w32 (14 + (w32 (3 * l1)))) + 1)) ∧ (w32 ((w32 (14 + (w32 (3 * l1)))) + 1)) < 82) ∧ (Q l5 (wr M 101 (w32 ((w32 (14 + (w32 (3 * l1)))) + 1)) l4))) else (((0 : Int) ≤ (w32 ((w32 (14 + (w32 (3 * l1)))) + 1)) ∧ (w32 ((w32 (14 + (w32 (3 * l1)))) + 1)) < 82) ∧ (F_xm_seenThrough (fun x18 M17 => if x18 ≤ l6 then (F_xm_turnFor_97 Q (F_xm_turnFor_53 Q n53) l1 l2 l3 l4 l6 l7 x18 l5 M17) else (F_xm_turnFor_97 Q (F_xm_turnFor_53 Q n53) l1 l2 l3 l4 l6 l7 x18 l7 M17)) l2 l3 (wr M 101 (w32 ((w32 (14 + (w32 (3 * l1)))) + 1)) l7)))
def F_xm_turnFor (Q : Int → cM → Prop) (a0 : Int) (a1 : Int) (a2 : Int) (M : cM) : Prop := F_xm_isSheet (fun x2 M1 => if x2 = 0 then (F_xm_turnFor_22 Q M1) else (F_xm_isStack (fun x9 M8 => if x9 = 0 then (F_xm_turnFor_22 Q M8) else (F_xm_isSlant (fun x13 M12 => if x13 = 0 then (F_xm_turnFor_22 Q M12) else (((0 : Int) ≤ (w32 ((w32 (14 + (w32 (3 * a0)))) + 1)) ∧ (w32 ((w32 (14 + (w32 (3 * a0)))) + 1)) < 82) ∧ (∃ e53, F_xm_turnFor_53 Q e53 a0 a1 a2 (M12 101 (w32 ((w32 (14 + (w32 (3 * a0)))) + 1))) 0 (-1) 0 M12))) a2 M8)) a1 M1)) a0 M
def F_xm_spare_14 (Q : Int → cM → Prop) (M : cM) : Prop := F_xm_finds (fun x6 M5 => Q x6 M5) (-1000001) M
def F_xm_spare_121 (Q : Int → cM → Prop) (k37 : Int → Int → Int → Int → Int → Int → cM → Prop) (l1 : Int) (l2 : Int) (l3 : Int) (l4 : Int) (l5 : Int) (l6 : Int) (M : cM) : Prop := k37 l1 l2 l3 l4 l5 (w32 (l6 + 1)) M
def F_xm_spare_113 (Q : Int → cM → Prop) (k37 : Int → Int → Int → Int → Int → Int → cM → Prop) (l1 : Int) (l2 : Int) (l3 : Int) (l6 : Int) (l7 : Int) (M : cM) : Prop := F_xm_spare_121 Q (k37) l1 l2 l3 l6 l7 l6 M
def F_xm_spare_83 (Q : Int → cM → Prop) (k37 : Int → Int → Int → Int → Int → Int → cM → Prop) (k54 : Int → Int → Int → Int → Int → Int → Int → cM → Prop) (l1 : Int) (l2 : Int) (l3 : Int) (l4 : Int) (l5 : Int) (l6 : Int) (l7 : Int) (M : cM) : Prop := k54 l1 l2 l3 l4 l5 l6 (w32 (l7 + 1)) M
def F_xm_spare_54 (Q : Int → cM → Prop) (k37 : Int → Int → Int → Int → Int → Int → cM → Prop) : Nat → Int → Int → Int → Int → Int → Int → Int → cM → Prop
  | 0, _, _, _, _, _, _, _, _ => False
  | n54 + 1, l1, l2, l3, l4, l5, l6, l7, M => F_xm_manyIn (fun x27 M26 => if x27 ≤ l7 then (F_xm_seenAt (fun x31 M30 => F_xm_size (fun x34 M33 => if l4 < 0 then (F_xm_spare_113 Q (k37) l1 l2 l3 l6 x34 M33) else (if l5 ≤ x34 then (F_xm_spare_121 Q (k37) l1 l2 l3 l4 l5 l6 M33) else (F_xm_spare_113 Q (k37) l1 l2 l3 l6 x34 M33))) (w32 (x31 - l3)) M30) l2 M26) else (if l7 = l6 then (F_xm_spare_83 Q (k37) (F_xm_spare_54 Q k37 n54) l1 l2 l3 l4 l5 l6 l7 M26) else (F_xm_sheetIn (fun x40 M39 => F_xm_goes (fun M42 => F_xm_spare_83 Q (k37) (F_xm_spare_54 Q k37 n54) l1 l2 l3 l4 l5 l6 l7 M42) x40 0 M39) l1 l7 M26))) l1 M
def F_xm_spare_37 (Q : Int → cM → Prop) : Nat → Int → Int → Int → Int → Int → Int → cM → Prop
  | 0, _, _, _, _, _, _, _ => False
  | n37 + 1, l1, l2, l3, l4, l5, l6, M => F_xm_manyIn (fun x16 M15 => if x16 ≤ l6 then (if 0 ≤ l4 then (Q l4 M15) else (F_xm_finds (fun x21 M20 => Q x21 M20) (-1000004) M15)) else (F_xm_lights (fun M23 => ∃ e54, F_xm_spare_54 Q (F_xm_spare_37 Q n37) e54 l1 l2 l3 l4 l5 l6 0 M23) M15)) l1 M
def F_xm_spare (Q : Int → cM → Prop) (a0 : Int) (a1 : Int) (M : cM) : Prop := F_xm_isStack (fun x2 M1 => if x2 = 0 then (F_xm_spare_14 Q M1) else (F_xm_isSlant (fun x9 M8 => if x9 = 0 then (F_xm_spare_14 Q M8) else (F_xm_seenThrough (fun x13 M12 => ∃ e37, F_xm_spare_37 Q e37 a0 a1 x13 (-1) 0 0 M12) a0 a1 M8)) a1 M1)) a0 M
def F_xm_look_14 (Q : Int → cM → Prop) (M : cM) : Prop := F_xm_finds (fun x6 M5 => Q x6 M5) (-1000001) M
def F_xm_look (Q : Int → cM → Prop) (a0 : Int) (a1 : Int) (M : cM) : Prop := F_xm_isSlant (fun x2 M1 => if x2 = 0 then (F_xm_look_14 Q M1) else (F_xm_isShare (fun x9 M8 => if x9 = 0 then (F_xm_look_14 Q M8) else (if (M8 101 5) = 4 then (F_xm_finds (fun x14 M13 => Q x14 M13) (-1000002) M8) else (((0 : Int) ≤ (w32 (6 + (w32 (2 * (M8 101 5))))) ∧ (w32 (6 + (w32 (2 * (M8 101 5))))) < 82) ∧ (((0 : Int) ≤ (w32 ((w32 (6 + (w32 (2 * ((wr M8 101 (w32 (6 + (w32 (2 * (M8 101 5))))) a0) 101 5))))) + 1)) ∧ (w32 ((w32 (6 + (w32 (2 * ((wr M8 101 (w32 (6 + (w32 (2 * (M8 101 5))))) a0) 101 5))))) + 1)) < 82) ∧ (Q ((wr (wr (wr M8 101 (w32 (6 + (w32 (2 * (M8 101 5))))) a0) 101 (w32 ((w32 (6 + (w32 (2 * ((wr M8 101 (w32 (6 + (w32 (2 * (M8 101 5))))) a0) 101 5))))) + 1)) a1) 101 5 (w32 (((wr (wr M8 101 (w32 (6 + (w32 (2 * (M8 101 5))))) a0) 101 (w32 ((w32 (6 + (w32 (2 * ((wr M8 101 (w32 (6 + (w32 (2 * (M8 101 5))))) a0) 101 5))))) + 1)) a1) 101 5) + 1))) 101 5) (wr (wr (wr M8 101 (w32 (6 + (w32 (2 * (M8 101 5))))) a0) 101 (w32 ((w32 (6 + (w32 (2 * ((wr M8 101 (w32 (6 + (w32 (2 * (M8 101 5))))) a0) 101 5))))) + 1)) a1) 101 5 (w32 (((wr (wr M8 101 (w32 (6 + (w32 (2 * (M8 101 5))))) a0) 101 (w32 ((w32 (6 + (w32 (2 * ((wr M8 101 (w32 (6 + (w32 (2 * (M8 101 5))))) a0) 101 5))))) + 1)) a1) 101 5) + 1)))))))) a1 M1)) a0 M
def F_xm_clear (Q : Int → cM → Prop) (M : cM) : Prop := Q (M 101 5) (wr M 101 5 0)
def F_xm_firstOrder_61 (Q : cM → Prop) (k8 : Int → Int → Int → cM → Prop) (l1 : Int) (l2 : Int) (l3 : Int) (l4 : Int) (M : cM) : Prop := F_xm_sheetIn (fun x7 M6 => ((0 : Int) ≤ l4 ∧ l4 < 6) ∧ (k8 l1 l2 (w32 (l3 + 1)) (wr M6 105 l4 x7))) l1 l3 M
def F_xm_firstOrder_16 (Q : cM → Prop) (k8 : Int → Int → Int → cM → Prop) : Nat → Int → Int → Int → Int → cM → Prop
  | 0, _, _, _, _, _ => False
  | n16 + 1, l1, l2, l3, l4, M => if l4 ≤ 0 then (F_xm_firstOrder_61 Q (k8) l1 l2 l3 l4 M) else (((0 : Int) ≤ (w32 (l4 - 1)) ∧ (w32 (l4 - 1)) < 6) ∧ (F_xm_sheetIn (fun x10 M9 => if (M 105 (w32 (l4 - 1))) ≤ x10 then (F_xm_firstOrder_61 Q (k8) l1 l2 l3 l4 M9) else (((0 : Int) ≤ (w32 (l4 - 1)) ∧ (w32 (l4 - 1)) < 6) ∧ (((0 : Int) ≤ l4 ∧ l4 < 6) ∧ (F_xm_firstOrder_16 Q k8 n16 l1 l2 l3 (w32 (l4 + (-1))) (wr M9 105 l4 (M9 105 (w32 (l4 - 1)))))))) l1 l3 M))
def F_xm_firstOrder_8 (Q : cM → Prop) : Nat → Int → Int → Int → cM → Prop
  | 0, _, _, _, _ => False
  | n8 + 1, l1, l2, l3, M => if l2 ≤ l3 then (Q M) else (∃ e16, F_xm_firstOrder_16 Q (F_xm_firstOrder_8 Q n8) e16 l1 l2 l3 l3 M)
def F_xm_firstOrder (Q : cM → Prop) (a0 : Int) (M : cM) : Prop := F_xm_manyIn (fun x2 M1 => ∃ e8, F_xm_firstOrder_8 Q e8 a0 x2 0 M1) a0 M
def F_xm_goesOrder_6 (Q : cM → Prop) : Nat → Int → Int → cM → Prop
  | 0, _, _, _ => False
  | n6 + 1, l1, l2, M => if l1 ≤ l2 then (Q M) else (((0 : Int) ≤ l2 ∧ l2 < 6) ∧ (F_xm_goes (fun M5 => F_xm_goesOrder_6 Q n6 l1 (w32 (l2 + 1)) M5) (M 105 l2) 0 M))
def F_xm_goesOrder (Q : cM → Prop) (a0 : Int) (M : cM) : Prop := F_xm_lights (fun M1 => ∃ e6, F_xm_goesOrder_6 Q e6 a0 0 M1) M
def F_xm_isFit_59 (Q : Int → cM → Prop) (k9 : Int → Int → cM → Prop) (l3 : Int) (s0 : Int) (M : cM) : Prop := k9 s0 (w32 (l3 + 1)) M
def F_xm_isFit_58 (Q : Int → cM → Prop) (k9 : Int → Int → cM → Prop) (l3 : Int) (M : cM) : Prop := F_xm_isFit_59 Q (k9) l3 0 M
def F_xm_isFit_9 (Q : Int → cM → Prop) : Nat → Int → Int → cM → Prop
  | 0, _, _, _ => False
  | n9 + 1, l2, l3, M => if (M 101 5) ≤ l3 then (Q (narK 4 l2) M) else (if l2 = 0 then (F_xm_isFit_58 Q (F_xm_isFit_9 Q n9) l3 M) else (((0 : Int) ≤ (w32 (6 + (w32 (2 * l3)))) ∧ (w32 (6 + (w32 (2 * l3)))) < 82) ∧ (F_xm_seenAt (fun x7 M6 => ((0 : Int) ≤ (w32 ((w32 (6 + (w32 (2 * l3)))) + 1)) ∧ (w32 ((w32 (6 + (w32 (2 * l3)))) + 1)) < 82) ∧ (if x7 = (M6 101 (w32 ((w32 (6 + (w32 (2 * l3)))) + 1))) then (F_xm_isFit_59 Q (F_xm_isFit_9 Q n9) l3 1 M6) else (F_xm_isFit_58 Q (F_xm_isFit_9 Q n9) l3 M6))) (M 101 (w32 (6 + (w32 (2 * l3))))) M)))
def F_xm_isFit (Q : Int → cM → Prop) (a0 : Int) (M : cM) : Prop := F_xm_goesOrder (fun M1 => ∃ e9, F_xm_isFit_9 Q e9 1 0 M1) a0 M
def F_xm_nextOrder_100 (Q : Int → cM → Prop) : Nat → Int → Int → cM → Prop
  | 0, _, _, _ => False
  | n100 + 1, l5, l6, M => if l6 ≤ l5 then (Q (narK 4 1) M) else (((0 : Int) ≤ l5 ∧ l5 < 6) ∧ (((0 : Int) ≤ l6 ∧ l6 < 6) ∧ (((0 : Int) ≤ l5 ∧ l5 < 6) ∧ (((0 : Int) ≤ l6 ∧ l6 < 6) ∧ (F_xm_nextOrder_100 Q n100 (w32 (l5 + 1)) (w32 (l6 + (-1))) (wr (wr M 105 l5 (M 105 l6)) 105 l6 (M 105 l5)))))))
def F_xm_nextOrder_41 (Q : Int → cM → Prop) : Nat → Int → Int → Int → cM → Prop
  | 0, _, _, _, _ => False
  | n41 + 1, l1, l2, l3, M => ((0 : Int) ≤ l3 ∧ l3 < 6) ∧ (((0 : Int) ≤ l2 ∧ l2 < 6) ∧ (if (M 105 l2) < (M 105 l3) then (((0 : Int) ≤ l2 ∧ l2 < 6) ∧ (((0 : Int) ≤ l3 ∧ l3 < 6) ∧ (((0 : Int) ≤ l2 ∧ l2 < 6) ∧ (((0 : Int) ≤ l3 ∧ l3 < 6) ∧ (∃ e100, F_xm_nextOrder_100 Q e100 (w32 (l2 + 1)) (w32 (l1 - 1)) (wr (wr M 105 l2 (M 105 l3)) 105 l3 (M 105 l2))))))) else (F_xm_nextOrder_41 Q n41 l1 l2 (w32 (l3 + (-1))) M)))
def F_xm_nextOrder_31 (Q : Int → cM → Prop) (l1 : Int) (l2 : Int) (M : cM) : Prop := if 0 ≤ l2 then (∃ e41, F_xm_nextOrder_41 Q e41 l1 l2 (w32 (l1 - 1)) M) else (Q (narK 4 0) M)
def F_xm_nextOrder_4 (Q : Int → cM → Prop) : Nat → Int → Int → cM → Prop
  | 0, _, _, _ => False
  | n4 + 1, l1, l2, M => if l2 < 0 then (F_xm_nextOrder_31 Q l1 l2 M) else (((0 : Int) ≤ l2 ∧ l2 < 6) ∧ (((0 : Int) ≤ (w32 (l2 + 1)) ∧ (w32 (l2 + 1)) < 6) ∧ (if (M 105 l2) < (M 105 (w32 (l2 + 1))) then (F_xm_nextOrder_31 Q l1 l2 M) else (F_xm_nextOrder_4 Q n4 l1 (w32 (l2 + (-1))) M))))
def F_xm_nextOrder (Q : Int → cM → Prop) (a0 : Int) (M : cM) : Prop := ∃ e4, F_xm_nextOrder_4 Q e4 a0 (w32 (a0 - 2)) M
def F_xm_orders_49 (Q : Int → cM → Prop) (k30 : Int → Int → Int → cM → Prop) (l2 : Int) (s0 : Int) (s1 : Int) (M : cM) : Prop := F_xm_nextOrder (fun x17 M16 => k30 l2 (w32 (s1 + s0)) x17 M16) l2 M
def F_xm_orders_30 (Q : Int → cM → Prop) : Nat → Int → Int → Int → cM → Prop
  | 0, _, _, _, _ => False
  | n30 + 1, l2, l3, l4, M => if l4 = 0 then (Q l3 M) else (F_xm_isFit (fun x13 M12 => if x13 = 0 then (F_xm_orders_49 Q (F_xm_orders_30 Q n30) l2 0 l3 M12) else (F_xm_orders_49 Q (F_xm_orders_30 Q n30) l2 1 l3 M12)) l2 M)
def F_xm_orders (Q : Int → cM → Prop) (a0 : Int) (M : cM) : Prop := F_xm_isStack (fun x2 M1 => if x2 = 0 then (F_xm_finds (fun x20 M19 => Q x20 M19) (-1000001) M1) else (F_xm_manyIn (fun x6 M5 => F_xm_firstOrder (fun M8 => ∃ e30, F_xm_orders_30 Q e30 x6 0 1 M8) a0 M5) a0 M1)) a0 M
def F_xm_order_42 (Q : Int → cM → Prop) : Nat → Int → Int → Int → cM → Prop
  | 0, _, _, _, _ => False
  | n42 + 1, l1, l2, l4, M => if l2 ≤ l4 then (Q 1 M) else (((0 : Int) ≤ l4 ∧ l4 < 6) ∧ (((0 : Int) ≤ (w32 ((w32 ((w32 (44 + (w32 (7 * l1)))) + 1)) + l4)) ∧ (w32 ((w32 ((w32 (44 + (w32 (7 * l1)))) + 1)) + l4)) < 82) ∧ (F_xm_order_42 Q n42 l1 l2 (w32 (l4 + 1)) (wr M 101 (w32 ((w32 ((w32 (44 + (w32 (7 * l1)))) + 1)) + l4)) (M 105 l4)))))
def F_xm_order_27 (Q : Int → cM → Prop) : Nat → Int → Int → Int → cM → Prop
  | 0, _, _, _, _ => False
  | n27 + 1, l1, l2, l3, M => if l3 = 0 then (F_xm_finds (fun x13 M12 => Q x13 M12) (-1000004) M) else (F_xm_isFit (fun x16 M15 => if x16 = 0 then (F_xm_nextOrder (fun x20 M19 => F_xm_order_27 Q n27 l1 l2 x20 M19) l2 M15) else (∃ e42, F_xm_order_42 Q e42 l1 l2 0 M15)) l2 M)
def F_xm_order (Q : Int → cM → Prop) (a0 : Int) (M : cM) : Prop := F_xm_isStack (fun x2 M1 => if x2 = 0 then (F_xm_finds (fun x24 M23 => Q x24 M23) (-1000001) M1) else (F_xm_manyIn (fun x6 M5 => F_xm_firstOrder (fun M8 => ∃ e27, F_xm_order_27 Q e27 a0 x6 1 M8) a0 M5) a0 M1)) a0 M
def F_xm_apart_155 (Q : Int → cM → Prop) (k28 : Int → Int → Int → Int → Int → cM → Prop) (l1 : Int) (l2 : Int) (l3 : Int) (l5 : Int) (s0 : Int) (M : cM) : Prop := k28 l1 l2 l3 s0 (w32 (l5 + 1)) M
def F_xm_apart_140 (Q : Int → cM → Prop) (k28 : Int → Int → Int → Int → Int → cM → Prop) (l1 : Int) (l2 : Int) (l4 : Int) (l5 : Int) (l6 : Int) (s0 : Int) (M : cM) : Prop := if l6 ≤ l4 then (F_xm_apart_155 Q (k28) l1 l2 s0 l5 l4 M) else (F_xm_apart_155 Q (k28) l1 l2 s0 l5 l6 M)
def F_xm_apart_106 (Q : Int → cM → Prop) (k28 : Int → Int → Int → Int → Int → cM → Prop) (k71 : Int → Int → Int → Int → Int → Int → Int → cM → Prop) (l1 : Int) (l2 : Int) (l3 : Int) (l4 : Int) (l5 : Int) (l8 : Int) (s0 : Int) (s1 : Int) (M : cM) : Prop := ((0 : Int) ≤ l8 ∧ l8 < 1001) ∧ (F_xm_nextOrder (fun x24 M23 => k71 l1 l2 l3 l4 l5 (w32 (s1 + s0)) x24 M23) l2 (wr M 106 l8 (narK 4 1)))
def F_xm_apart_71 (Q : Int → cM → Prop) (k28 : Int → Int → Int → Int → Int → cM → Prop) : Nat → Int → Int → Int → Int → Int → Int → Int → cM → Prop
  | 0, _, _, _, _, _, _, _, _ => False
  | n71 + 1, l1, l2, l3, l4, l5, l6, l7, M => if l7 = 0 then (if l6 ≤ l4 then (F_xm_apart_140 Q (k28) l1 l2 l4 l5 l6 l3 M) else (F_xm_apart_140 Q (k28) l1 l2 l4 l5 l6 l5 M)) else (F_xm_goesOrder (fun M16 => F_xm_seenAt (fun x20 M19 => ((0 : Int) ≤ x20 ∧ x20 < 1001) ∧ (if (M19 106 x20) = 0 then (F_xm_apart_106 Q (k28) (F_xm_apart_71 Q k28 n71) l1 l2 l3 l4 l5 x20 1 l6 M19) else (F_xm_apart_106 Q (k28) (F_xm_apart_71 Q k28 n71) l1 l2 l3 l4 l5 x20 0 l6 M19))) l5 M16) l2 M)
def F_xm_apart_38 (Q : Int → cM → Prop) (k28 : Int → Int → Int → Int → Int → cM → Prop) : Nat → Int → Int → Int → Int → Int → Int → cM → Prop
  | 0, _, _, _, _, _, _, _ => False
  | n38 + 1, l1, l2, l3, l4, l5, l6, M => if 1000 < l6 then (F_xm_firstOrder (fun M10 => ∃ e71, F_xm_apart_71 Q (k28) e71 l1 l2 l3 l4 l5 0 1 M10) l1 M) else (((0 : Int) ≤ l6 ∧ l6 < 1001) ∧ (F_xm_apart_38 Q k28 n38 l1 l2 l3 l4 l5 (w32 (l6 + 1)) (wr M 106 l6 (narK 4 0))))
def F_xm_apart_28 (Q : Int → cM → Prop) : Nat → Int → Int → Int → Int → Int → cM → Prop
  | 0, _, _, _, _, _, _ => False
  | n28 + 1, l1, l2, l3, l4, l5, M => if 12 ≤ l5 then (Q l3 M) else (∃ e38, F_xm_apart_38 Q (F_xm_apart_28 Q n28) e38 l1 l2 l3 l4 l5 0 M)
def F_xm_apart (Q : Int → cM → Prop) (a0 : Int) (M : cM) : Prop := F_xm_isStack (fun x2 M1 => if x2 = 0 then (F_xm_finds (fun x27 M26 => Q x27 M26) (-1000001) M1) else (F_xm_manyIn (fun x6 M5 => ∃ e28, F_xm_apart_28 Q e28 a0 x6 0 (-1) 0 M5) a0 M1)) a0 M
def F_xm_findSigns_2 (Q : cM → Prop) : Nat → Int → Int → cM → Prop
  | 0, _, _, _ => False
  | n2 + 1, l1, l2, M => if (M 101 0) ≤ l2 then (Q M) else (F_xm_lights (fun M2 => F_xm_goes (fun M5 => F_xm_seenAt (fun x9 M8 => ((0 : Int) ≤ l2 ∧ l2 < 10) ∧ (F_xm_findSigns_2 Q n2 l1 (w32 (l2 + 1)) (wr M8 107 l2 x9))) l1 M5) l2 0 M2) M)
def F_xm_findSigns (Q : cM → Prop) (a0 : Int) (M : cM) : Prop := ∃ e2, F_xm_findSigns_2 Q e2 a0 0 M
def F_xm_areApart (Q : Int → cM → Prop) (a0 : Int) (a1 : Int) (a2 : Int) (M : cM) : Prop := ((0 : Int) ≤ a0 ∧ a0 < 10) ∧ (((0 : Int) ≤ a1 ∧ a1 < 10) ∧ (F_xm_size (fun x2 M1 => if x2 ≤ a2 then (Q (narK 4 0) M1) else (Q (narK 4 1) M1)) (w32 ((M 107 a0) - (M 107 a1))) M))
def F_xm_pairs_14 (Q : Int → cM → Prop) (M : cM) : Prop := F_xm_finds (fun x6 M5 => Q x6 M5) (-1000001) M
def F_xm_pairs_70 (Q : Int → cM → Prop) (k31 : Int → Int → Int → cM → Prop) (k45 : Int → Int → Int → Int → cM → Prop) (l2 : Int) (l4 : Int) (l5 : Int) (s0 : Int) (s1 : Int) (M : cM) : Prop := k45 l2 (w32 (s1 + s0)) l4 (w32 (l5 + 1)) M
def F_xm_pairs_45 (Q : Int → cM → Prop) (k31 : Int → Int → Int → cM → Prop) : Nat → Int → Int → Int → Int → cM → Prop
  | 0, _, _, _, _, _ => False
  | n45 + 1, l2, l3, l4, l5, M => if l4 ≤ l5 then (k31 l2 l3 (w32 (l4 + 1)) M) else (F_xm_areApart (fun x18 M17 => if x18 = 0 then (F_xm_pairs_70 Q (k31) (F_xm_pairs_45 Q k31 n45) l2 l4 l5 0 l3 M17) else (F_xm_pairs_70 Q (k31) (F_xm_pairs_45 Q k31 n45) l2 l4 l5 1 l3 M17)) l4 l5 l2 M)
def F_xm_pairs_31 (Q : Int → cM → Prop) : Nat → Int → Int → Int → cM → Prop
  | 0, _, _, _, _ => False
  | n31 + 1, l2, l3, l4, M => if (M 101 0) ≤ l4 then (Q l3 M) else (∃ e45, F_xm_pairs_45 Q (F_xm_pairs_31 Q n31) e45 l2 l3 l4 0 M)
def F_xm_pairs (Q : Int → cM → Prop) (a0 : Int) (a1 : Int) (M : cM) : Prop := F_xm_isSlant (fun x2 M1 => if x2 = 0 then (F_xm_pairs_14 Q M1) else (F_xm_isShare (fun x9 M8 => if x9 = 0 then (F_xm_pairs_14 Q M8) else (F_xm_findSigns (fun M12 => ∃ e31, F_xm_pairs_31 Q e31 a1 0 0 M12) a0 M8)) a1 M1)) a0 M
def F_xm_ones_4 (Q : Int → cM → Prop) : Nat → Int → Int → cM → Prop
  | 0, _, _, _ => False
  | n4 + 1, l1, l2, M => if l2 = 0 then (Q l1 M) else (F_xm_ones_4 Q n4 (w32 (l1 + 1)) (zand l2 (w32 (l2 - 1))) M)
def F_xm_ones (Q : Int → cM → Prop) (a0 : Int) (M : cM) : Prop := ∃ e4, F_xm_ones_4 Q e4 0 a0 M
def F_xm_has (Q : Int → cM → Prop) (a0 : Int) (a1 : Int) (M : cM) : Prop := if (zand (zshr a0 a1) 1) = 1 then (Q (narK 4 1) M) else (Q (narK 4 0) M)
def F_xm_areSigns_65 (Q : Int → cM → Prop) (k5 : Int → Int → Int → Int → cM → Prop) (k19 : Int → Int → Int → Int → Int → cM → Prop) (l1 : Int) (l2 : Int) (l4 : Int) (l5 : Int) (s0 : Int) (M : cM) : Prop := k19 l1 l2 s0 l4 (w32 (l5 + 1)) M
def F_xm_areSigns_64 (Q : Int → cM → Prop) (k5 : Int → Int → Int → Int → cM → Prop) (k19 : Int → Int → Int → Int → Int → cM → Prop) (l1 : Int) (l2 : Int) (l4 : Int) (l5 : Int) (M : cM) : Prop := F_xm_areSigns_65 Q (k5) (k19) l1 l2 l4 l5 0 M
def F_xm_areSigns_60 (Q : Int → cM → Prop) (k5 : Int → Int → Int → Int → cM → Prop) (k19 : Int → Int → Int → Int → Int → cM → Prop) (l1 : Int) (l2 : Int) (l4 : Int) (l5 : Int) (M : cM) : Prop := F_xm_areSigns_65 Q (k5) (k19) l1 l2 l4 l5 1 M
def F_xm_areSigns_19 (Q : Int → cM → Prop) (k5 : Int → Int → Int → Int → cM → Prop) : Nat → Int → Int → Int → Int → Int → cM → Prop
  | 0, _, _, _, _, _, _ => False
  | n19 + 1, l1, l2, l3, l4, l5, M => if l4 ≤ l5 then (k5 l1 l2 l3 (w32 (l4 + 1)) M) else (if l3 = 0 then (F_xm_areSigns_64 Q (k5) (F_xm_areSigns_19 Q k5 n19) l1 l2 l4 l5 M) else (F_xm_has (fun x5 M4 => if x5 = 0 then (F_xm_areSigns_60 Q (k5) (F_xm_areSigns_19 Q k5 n19) l1 l2 l4 l5 M4) else (F_xm_has (fun x9 M8 => if x9 = 0 then (F_xm_areSigns_60 Q (k5) (F_xm_areSigns_19 Q k5 n19) l1 l2 l4 l5 M8) else (F_xm_areApart (fun x13 M12 => if x13 = 0 then (F_xm_areSigns_64 Q (k5) (F_xm_areSigns_19 Q k5 n19) l1 l2 l4 l5 M12) else (F_xm_areSigns_60 Q (k5) (F_xm_areSigns_19 Q k5 n19) l1 l2 l4 l5 M12)) l4 l5 l2 M8)) l1 l5 M4)) l1 l4 M))
def F_xm_areSigns_5 (Q : Int → cM → Prop) : Nat → Int → Int → Int → Int → cM → Prop
  | 0, _, _, _, _, _ => False
  | n5 + 1, l1, l2, l3, l4, M => if (M 101 0) ≤ l4 then (Q (narK 4 l3) M) else (∃ e19, F_xm_areSigns_19 Q (F_xm_areSigns_5 Q n5) e19 l1 l2 l3 l4 0 M)
def F_xm_areSigns (Q : Int → cM → Prop) (a0 : Int) (a1 : Int) (M : cM) : Prop := ∃ e5, F_xm_areSigns_5 Q e5 a0 a1 1 0 M
def F_xm_signs_14 (Q : Int → cM → Prop) (M : cM) : Prop := F_xm_finds (fun x6 M5 => Q x6 M5) (-1000001) M
def F_xm_signs_72 (Q : Int → cM → Prop) (k31 : Int → Int → Int → cM → Prop) (l2 : Int) (l4 : Int) (s0 : Int) (M : cM) : Prop := k31 l2 s0 (w32 (l4 + 1)) M
def F_xm_signs_71 (Q : Int → cM → Prop) (k31 : Int → Int → Int → cM → Prop) (l2 : Int) (l3 : Int) (l4 : Int) (M : cM) : Prop := F_xm_signs_72 Q (k31) l2 l4 l3 M
def F_xm_signs_31 (Q : Int → cM → Prop) : Nat → Int → Int → Int → cM → Prop
  | 0, _, _, _, _ => False
  | n31 + 1, l2, l3, l4, M => if (zshl 1 (M 101 0)) ≤ l4 then (Q l3 M) else (F_xm_ones (fun x17 M16 => F_xm_ones (fun x20 M19 => if x17 ≤ x20 then (F_xm_signs_71 Q (F_xm_signs_31 Q n31) l2 l3 l4 M19) else (F_xm_areSigns (fun x24 M23 => if x24 = 0 then (F_xm_signs_71 Q (F_xm_signs_31 Q n31) l2 l3 l4 M23) else (F_xm_signs_72 Q (F_xm_signs_31 Q n31) l2 l4 l4 M23)) l4 l2 M19)) l3 M16) l4 M)
def F_xm_signs (Q : Int → cM → Prop) (a0 : Int) (a1 : Int) (M : cM) : Prop := F_xm_isSlant (fun x2 M1 => if x2 = 0 then (F_xm_signs_14 Q M1) else (F_xm_isShare (fun x9 M8 => if x9 = 0 then (F_xm_signs_14 Q M8) else (F_xm_findSigns (fun M12 => ∃ e31, F_xm_signs_31 Q e31 a1 0 1 M12) a0 M8)) a1 M1)) a0 M
def F_xm_eyes_226 (Q : Int → cM → Prop) (k124 : Int → Int → cM → Prop) (l2 : Int) (l3 : Int) (M : cM) : Prop := k124 l2 (w32 (l3 + 1)) M
def F_xm_eyes_225 (Q : Int → cM → Prop) (k124 : Int → Int → cM → Prop) (l3 : Int) (s0 : Int) (M : cM) : Prop := F_xm_eyes_226 Q (k124) s0 l3 M
def F_xm_eyes_201 (Q : Int → cM → Prop) (k124 : Int → Int → cM → Prop) (k152 : Int → Int → Int → Int → cM → Prop) (k166 : Int → Int → Int → Int → Int → cM → Prop) (l2 : Int) (l3 : Int) (l5 : Int) (l6 : Int) (s0 : Int) (M : cM) : Prop := k166 l2 l3 s0 l5 (w32 (l6 + 1)) M
def F_xm_eyes_200 (Q : Int → cM → Prop) (k124 : Int → Int → cM → Prop) (k152 : Int → Int → Int → Int → cM → Prop) (k166 : Int → Int → Int → Int → Int → cM → Prop) (l2 : Int) (l3 : Int) (l5 : Int) (l6 : Int) (M : cM) : Prop := F_xm_eyes_201 Q (k124) (k152) (k166) l2 l3 l5 l6 0 M
def F_xm_eyes_166 (Q : Int → cM → Prop) (k124 : Int → Int → cM → Prop) (k152 : Int → Int → Int → Int → cM → Prop) : Nat → Int → Int → Int → Int → Int → cM → Prop
  | 0, _, _, _, _, _, _ => False
  | n166 + 1, l2, l3, l4, l5, l6, M => if l5 ≤ l6 then (k152 l2 l3 l4 (w32 (l5 + 1)) M) else (if l4 = 0 then (F_xm_eyes_200 Q (k124) (k152) (F_xm_eyes_166 Q k124 k152 n166) l2 l3 l5 l6 M) else (((0 : Int) ≤ (w32 ((w32 (10 * l5)) + l6)) ∧ (w32 ((w32 (10 * l5)) + l6)) < 100) ∧ (if (zand (M 108 (w32 ((w32 (10 * l5)) + l6))) l3) = 0 then (F_xm_eyes_200 Q (k124) (k152) (F_xm_eyes_166 Q k124 k152 n166) l2 l3 l5 l6 M) else (F_xm_eyes_201 Q (k124) (k152) (F_xm_eyes_166 Q k124 k152 n166) l2 l3 l5 l6 1 M))))
def F_xm_eyes_152 (Q : Int → cM → Prop) (k124 : Int → Int → cM → Prop) : Nat → Int → Int → Int → Int → cM → Prop
  | 0, _, _, _, _, _ => False
  | n152 + 1, l2, l3, l4, l5, M => if (M 101 0) ≤ l5 then (if l4 = 0 then (F_xm_eyes_225 Q (k124) l3 l2 M) else (F_xm_eyes_225 Q (k124) l3 l3 M)) else (∃ e166, F_xm_eyes_166 Q (k124) (F_xm_eyes_152 Q k124 n152) e166 l2 l3 l4 l5 0 M)
def F_xm_eyes_146 (Q : Int → cM → Prop) (k124 : Int → Int → cM → Prop) (l2 : Int) (l3 : Int) (M : cM) : Prop := ∃ e152, F_xm_eyes_152 Q (k124) e152 l2 l3 1 0 M
def F_xm_eyes_124 (Q : Int → cM → Prop) : Nat → Int → Int → cM → Prop
  | 0, _, _, _ => False
  | n124 + 1, l2, l3, M => if 4096 ≤ l3 then (if 0 ≤ l2 then (Q l2 M) else (F_xm_finds (fun x10 M9 => Q x10 M9) (-1000004) M)) else (if l2 < 0 then (F_xm_eyes_146 Q (F_xm_eyes_124 Q n124) l2 l3 M) else (F_xm_ones (fun x19 M18 => F_xm_ones (fun x22 M21 => if x22 ≤ x19 then (F_xm_eyes_226 Q (F_xm_eyes_124 Q n124) l2 l3 M21) else (F_xm_eyes_146 Q (F_xm_eyes_124 Q n124) l2 l3 M21)) l2 M18) l3 M))
def F_xm_eyes_100 (Q : Int → cM → Prop) (k37 : Int → Int → cM → Prop) (k50 : Int → Int → Int → cM → Prop) (k63 : Int → Int → Int → Int → cM → Prop) (l1 : Int) (l2 : Int) (l3 : Int) (l4 : Int) (s0 : Int) (s1 : Int) (s2 : Int) (M : cM) : Prop := ((0 : Int) ≤ s2 ∧ s2 < 100) ∧ (k63 l1 l2 l3 (w32 (l4 + 1)) (wr M 108 s2 (zor s1 s0)))
def F_xm_eyes_63 (Q : Int → cM → Prop) (k37 : Int → Int → cM → Prop) (k50 : Int → Int → Int → cM → Prop) : Nat → Int → Int → Int → Int → cM → Prop
  | 0, _, _, _, _, _ => False
  | n63 + 1, l1, l2, l3, l4, M => if l3 ≤ l4 then (k50 l1 l2 (w32 (l3 + 1)) M) else (((0 : Int) ≤ (w32 ((w32 (10 * l3)) + l4)) ∧ (w32 ((w32 (10 * l3)) + l4)) < 100) ∧ (F_xm_areApart (fun x31 M30 => if x31 = 0 then (F_xm_eyes_100 Q (k37) (k50) (F_xm_eyes_63 Q k37 k50 n63) l1 l2 l3 l4 0 (M 108 (w32 ((w32 (10 * l3)) + l4))) (w32 ((w32 (10 * l3)) + l4)) M30) else (F_xm_eyes_100 Q (k37) (k50) (F_xm_eyes_63 Q k37 k50 n63) l1 l2 l3 l4 (zshl 1 l2) (M 108 (w32 ((w32 (10 * l3)) + l4))) (w32 ((w32 (10 * l3)) + l4)) M30)) l3 l4 l1 M))
def F_xm_eyes_50 (Q : Int → cM → Prop) (k37 : Int → Int → cM → Prop) : Nat → Int → Int → Int → cM → Prop
  | 0, _, _, _, _ => False
  | n50 + 1, l1, l2, l3, M => if (M 101 0) ≤ l3 then (k37 l1 (w32 (l2 + 1)) M) else (∃ e63, F_xm_eyes_63 Q (k37) (F_xm_eyes_50 Q k37 n50) e63 l1 l2 l3 0 M)
def F_xm_eyes_37 (Q : Int → cM → Prop) : Nat → Int → Int → cM → Prop
  | 0, _, _, _ => False
  | n37 + 1, l1, l2, M => if 12 ≤ l2 then (∃ e124, F_xm_eyes_124 Q e124 (-1) 0 M) else (F_xm_findSigns (fun M25 => ∃ e50, F_xm_eyes_50 Q (F_xm_eyes_37 Q n37) e50 l1 l2 0 M25) l2 M)
def F_xm_eyes_16 (Q : Int → cM → Prop) : Nat → Int → Int → cM → Prop
  | 0, _, _, _ => False
  | n16 + 1, l1, l2, M => if 100 ≤ l2 then (∃ e37, F_xm_eyes_37 Q e37 l1 0 M) else (((0 : Int) ≤ l2 ∧ l2 < 100) ∧ (F_xm_eyes_16 Q n16 l1 (w32 (l2 + 1)) (wr M 108 l2 0)))
def F_xm_eyes (Q : Int → cM → Prop) (a0 : Int) (M : cM) : Prop := F_xm_isShare (fun x2 M1 => if x2 = 0 then (F_xm_finds (fun x35 M34 => Q x35 M34) (-1000001) M1) else (∃ e16, F_xm_eyes_16 Q e16 a0 0 M1)) a0 M
def F_xm_next (Q : Int → cM → Prop) (M : cM) : Prop := Q (zushr ((wr M 101 4 (w32 ((w32 ((M 101 4) * 1103515245)) + 12345))) 101 4) 8) (wr M 101 4 (w32 ((w32 ((M 101 4) * 1103515245)) + 12345)))
def F_xm_years_132 (Q : Int → cM → Prop) (k23 : Int → Int → Int → cM → Prop) (l1 : Int) (l2 : Int) (l3 : Int) (M : cM) : Prop := k23 l1 l2 (w32 (l3 + 1)) M
def F_xm_years_92 (Q : Int → cM → Prop) (k23 : Int → Int → Int → cM → Prop) (l1 : Int) (l2 : Int) (l3 : Int) (l4 : Int) (M : cM) : Prop := ((0 : Int) ≤ l4 ∧ l4 < 82) ∧ (if (M 101 l4) = 6 then (((0 : Int) ≤ (w32 (l4 + 1)) ∧ (w32 (l4 + 1)) < 82) ∧ (F_xm_next (fun x9 M8 => ((0 : Int) ≤ (w32 (l4 + 1)) ∧ (w32 (l4 + 1)) < 82) ∧ (F_xm_years_132 Q (k23) l1 l2 l3 (wr M8 101 (w32 (l4 + 1)) (Int.tmod (w32 ((M 101 (w32 (l4 + 1))) + (Int.tmod x9 3))) 12)))) M)) else (F_xm_years_132 Q (k23) l1 l2 l3 M))
def F_xm_years_91 (Q : Int → cM → Prop) (k23 : Int → Int → Int → cM → Prop) (l1 : Int) (l2 : Int) (l3 : Int) (l4 : Int) (s0 : Int) (s1 : Int) (M : cM) : Prop := ((0 : Int) ≤ s1 ∧ s1 < 82) ∧ (F_xm_years_92 Q (k23) l1 l2 l3 l4 (wr M 101 s1 s0))
def F_xm_years_23 (Q : Int → cM → Prop) : Nat → Int → Int → Int → cM → Prop
  | 0, _, _, _, _ => False
  | n23 + 1, l1, l2, l3, M => if (M 101 0) ≤ l3 then (Q l2 M) else (((0 : Int) ≤ (w32 (14 + (w32 (3 * l3)))) ∧ (w32 (14 + (w32 (3 * l3)))) < 82) ∧ (if (M 101 (w32 (14 + (w32 (3 * l3))))) = 5 then (((0 : Int) ≤ (w32 ((w32 (14 + (w32 (3 * l3)))) + 2)) ∧ (w32 ((w32 (14 + (w32 (3 * l3)))) + 2)) < 82) ∧ (if l1 ≤ (M 101 (w32 ((w32 (14 + (w32 (3 * l3)))) + 2))) then (((0 : Int) ≤ (w32 ((w32 (14 + (w32 (3 * l3)))) + 2)) ∧ (w32 ((w32 (14 + (w32 (3 * l3)))) + 2)) < 82) ∧ (F_xm_years_91 Q (F_xm_years_23 Q n23) l1 (w32 (l2 + 1)) l3 (w32 (14 + (w32 (3 * l3)))) (w32 ((M 101 (w32 ((w32 (14 + (w32 (3 * l3)))) + 2))) - l1)) (w32 ((w32 (14 + (w32 (3 * l3)))) + 2)) M)) else (F_xm_years_91 Q (F_xm_years_23 Q n23) l1 (w32 (l2 + 1)) l3 (w32 (14 + (w32 (3 * l3)))) 0 (w32 ((w32 (14 + (w32 (3 * l3)))) + 2)) M))) else (F_xm_years_92 Q (F_xm_years_23 Q n23) l1 l2 l3 (w32 (14 + (w32 (3 * l3)))) M)))
def F_xm_years (Q : Int → cM → Prop) (a0 : Int) (M : cM) : Prop := F_xm_in (fun x2 M1 => if x2 = 0 then (F_xm_finds (fun x13 M12 => Q x13 M12) (-1000001) M1) else (∃ e23, F_xm_years_23 Q e23 a0 0 0 M1)) a0 1 100 M
def F_xm_drawn_19 (Q : Int → cM → Prop) (M : cM) : Prop := F_xm_finds (fun x6 M5 => Q x6 M5) (-1000001) M
def F_xm_drawn_81 (Q : Int → cM → Prop) (l1 : Int) (M : cM) : Prop := F_xm_manyIn (fun x15 M14 => Q x15 M14) l1 M
def F_xm_drawn_44 (Q : Int → cM → Prop) : Nat → Int → Int → Int → cM → Prop
  | 0, _, _, _, _ => False
  | n44 + 1, l1, l2, l3, M => if l2 ≤ l3 then (F_xm_drawn_81 Q l1 M) else (F_xm_manyIn (fun x18 M17 => if 6 ≤ x18 then (F_xm_drawn_81 Q l1 M17) else (F_xm_next (fun x22 M21 => (¬ (M21 101 0) = 0) ∧ (F_xm_lays (fun M24 => F_xm_drawn_44 Q n44 l1 l2 (w32 (l3 + 1)) M24) l1 (Int.tmod x22 (M21 101 0)) M21)) M17)) l1 M)
def F_xm_drawn (Q : Int → cM → Prop) (a0 : Int) (a1 : Int) (M : cM) : Prop := F_xm_isStack (fun x2 M1 => if x2 = 0 then (F_xm_drawn_19 Q M1) else (F_xm_in (fun x9 M8 => if x9 = 0 then (F_xm_drawn_19 Q M8) else (if (M8 101 0) = 0 then (F_xm_finds (fun x28 M27 => Q x28 M27) (-1000005) M8) else (∃ e44, F_xm_drawn_44 Q e44 a0 a1 0 M8))) a1 1 6 M1)) a0 M
def F_xm_seed (Q : Int → cM → Prop) (a0 : Int) (M : cM) : Prop := Q (M 101 4) (wr M 101 4 a0)
def F_xm_feed_41 (Q : Int → cM → Prop) : Nat → Int → Int → cM → Prop
  | 0, _, _, _ => False
  | n41 + 1, l1, l3, M => if l3 < 0 then (Q (M 100 12) M) else (((0 : Int) ≤ (M 100 12) ∧ (M 100 12) < 120) ∧ (F_xm_feed_41 Q n41 l1 (w32 (l3 + (-1))) (wr (wr M 109 (M 100 12) (zand (zshr l1 (w32 (8 * l3))) 255)) 100 12 (w32 (((wr M 109 (M 100 12) (zand (zshr l1 (w32 (8 * l3))) 255)) 100 12) + 1)))))
def F_xm_feed (Q : Int → cM → Prop) (a0 : Int) (a1 : Int) (M : cM) : Prop := F_xm_in (fun x2 M1 => if x2 = 0 then (F_xm_finds (fun x11 M10 => Q x11 M10) (-1000001) M1) else (if (w32 ((M1 100 12) + a1)) ≤ 120 then (∃ e41, F_xm_feed_41 Q e41 a0 (w32 (a1 - 1)) M1) else (F_xm_finds (fun x8 M7 => Q x8 M7) (-1000002) M1))) a1 1 4 M
def F_xm_wipe (Q : Int → cM → Prop) (M : cM) : Prop := Q (M 100 12) (wr M 100 12 0)
def F_xm_byteAt (Q : Int → cM → Prop) (a0 : Int) (M : cM) : Prop := if (M 100 12) ≤ a0 then (Q (-1) M) else (((0 : Int) ≤ a0 ∧ a0 < 120) ∧ (Q (M 109 a0) M))
def F_xm_isLetter (Q : Int → cM → Prop) (a0 : Int) (M : cM) : Prop := F_xm_in (fun x2 M1 => Q (narK 4 x2) M1) a0 97 122 M
def F_xm_isDigit (Q : Int → cM → Prop) (a0 : Int) (M : cM) : Prop := F_xm_in (fun x2 M1 => Q (narK 4 x2) M1) a0 48 57 M
def F_xm_token_122 (Q : cM → Prop) (k86 : Int → Int → cM → Prop) (l1 : Int) (l2 : Int) (M : cM) : Prop := k86 l1 l2 (wr M 100 14 (w32 ((M 100 14) + 1)))
def F_xm_token_104 (Q : cM → Prop) (k86 : Int → Int → cM → Prop) (l1 : Int) (l2 : Int) (M : cM) : Prop := if l2 = 0 then (Q M) else (F_xm_byteAt (fun x21 M20 => F_xm_isDigit (fun x24 M23 => if x24 = 0 then (Q M23) else (F_xm_token_122 Q (k86) l1 l2 M23)) x21 M20) (M 100 14) M)
def F_xm_token_86 (Q : cM → Prop) : Nat → Int → Int → cM → Prop
  | 0, _, _, _ => False
  | n86 + 1, l1, l2, M => if l1 = 0 then (F_xm_token_104 Q (F_xm_token_86 Q n86) l1 l2 M) else (F_xm_byteAt (fun x28 M27 => F_xm_isLetter (fun x31 M30 => if x31 = 0 then (F_xm_token_104 Q (F_xm_token_86 Q n86) l1 l2 M30) else (F_xm_token_122 Q (F_xm_token_86 Q n86) l1 l2 M30)) x28 M27) (M 100 14) M)
def F_xm_token_83 (Q : cM → Prop) (l1 : Int) (l2 : Int) (s0 : Int) (M : cM) : Prop := ∃ e86, F_xm_token_86 Q e86 l1 l2 (wr M 100 14 s0)
def F_xm_token_8 (Q : cM → Prop) : Nat → cM → Prop
  | 0, _ => False
  | n8 + 1, M => F_xm_byteAt (fun x2 M1 => if x2 = 32 then (F_xm_token_8 Q n8 (wr M1 100 13 (w32 ((M1 100 13) + 1)))) else (F_xm_byteAt (fun x6 M5 => F_xm_isLetter (fun x9 M8 => F_xm_byteAt (fun x12 M11 => F_xm_isDigit (fun x15 M14 => if (M14 100 12) ≤ (M14 100 13) then (F_xm_token_83 Q x9 x15 (M14 100 13) M14) else (F_xm_token_83 Q x9 x15 (w32 ((M14 100 13) + 1)) M14)) x12 M11) (M8 100 13) M8) x6 M5) (M1 100 13) M1)) (M 100 13) M
def F_xm_token (Q : cM → Prop) (M : cM) : Prop := ∃ e8, F_xm_token_8 Q e8 (wr M 100 13 (M 100 14))
def F_xm_word_71 (Q : Int → cM → Prop) (M : cM) : Prop := Q 0 M
def F_xm_word_43 (Q : Int → cM → Prop) (k7 : Int → Int → cM → Prop) (l3 : Int) (s0 : Int) (M : cM) : Prop := k7 s0 (w32 (l3 + 1)) M
def F_xm_word_7 (Q : Int → cM → Prop) : Nat → Int → Int → cM → Prop
  | 0, _, _, _ => False
  | n7 + 1, l1, l3, M => if (M 100 14) ≤ l3 then (if (M 100 16) = 0 then (F_xm_byteAt (fun x4 M3 => F_xm_isLetter (fun x7 M6 => if x7 = 0 then (F_xm_word_71 Q M6) else (Q l1 M6)) x4 M3) (M 100 13) M) else (F_xm_word_71 Q M)) else (if (zlcmp l1 36028797018963967) ≤ 0 then (((0 : Int) ≤ l3 ∧ l3 < 120) ∧ (F_xm_word_43 Q (F_xm_word_7 Q n7) l3 (w64 ((w64 (32 * l1)) + (w32 ((M 109 l3) - 96)))) M)) else (F_xm_word_43 Q (F_xm_word_7 Q n7) l3 l1 M))
def F_xm_word (Q : Int → cM → Prop) (M : cM) : Prop := ∃ e7, F_xm_word_7 Q e7 0 (M 100 13) M
def F_xm_kindHere (Q : Int → cM → Prop) (M : cM) : Prop := F_xm_word (fun x2 M1 => if (zlcmp x2 20190388) = 0 then (Q 0 M1) else (if (zlcmp x2 211177650) = 0 then (Q 1 M1) else (if (zlcmp x2 693713074) = 0 then (Q 2 M1) else (if (zlcmp x2 263558) = 0 then (Q 3 M1) else (if (zlcmp x2 20364645) = 0 then (Q 4 M1) else (if (zlcmp x2 278094) = 0 then (Q 5 M1) else (if (zlcmp x2 659096878) = 0 then (Q 6 M1) else (Q (-1) M1)))))))) M
def F_xm_needs_17 (Q : cM → Prop) (s0 : Int) (M : cM) : Prop := (s0 = 0 ∨ s0 = 1) ∧ (if ((wr M 100 16 s0) 100 16) = 0 then (F_xm_token (fun M3 => Q M3) (wr M 100 16 s0)) else (Q (wr M 100 16 s0)))
def F_xm_needs_12 (Q : cM → Prop) (M : cM) : Prop := F_xm_needs_17 Q 1 M
def F_xm_needs (Q : cM → Prop) (a0 : Int) (M : cM) : Prop := if (M 100 16) = 0 then (if a0 = 0 then (F_xm_needs_12 Q M) else (F_xm_needs_17 Q 0 M)) else (F_xm_needs_12 Q M)
def F_xm_number_108 (Q : cM → Prop) (s0 : Int) (M : cM) : Prop := F_xm_needs (fun M10 => Q M10) s0 M
def F_xm_number_107 (Q : cM → Prop) (M : cM) : Prop := F_xm_number_108 Q 0 M
def F_xm_number_79 (Q : cM → Prop) (l1 : Int) (l2 : Int) (l3 : Int) (l4 : Int) (M : cM) : Prop := if l3 = 0 then (F_xm_number_107 Q (wr M 100 15 l4)) else (F_xm_in (fun x14 M13 => if x14 = 0 then (F_xm_number_107 Q M13) else (F_xm_number_108 Q 1 M13)) l4 l1 l2 (wr M 100 15 l4))
def F_xm_number_71 (Q : cM → Prop) (k29 : Int → Int → Int → Int → Int → cM → Prop) (l1 : Int) (l2 : Int) (l3 : Int) (l5 : Int) (s0 : Int) (M : cM) : Prop := k29 l1 l2 l3 s0 (w32 (l5 + 1)) M
def F_xm_number_29 (Q : cM → Prop) : Nat → Int → Int → Int → Int → Int → cM → Prop
  | 0, _, _, _, _, _, _ => False
  | n29 + 1, l1, l2, l3, l4, l5, M => if (M 100 14) ≤ l5 then (F_xm_number_79 Q l1 l2 l3 l4 M) else (if l3 = 0 then (F_xm_number_79 Q l1 l2 l3 l4 M) else (if l4 ≤ 9999 then (((0 : Int) ≤ l5 ∧ l5 < 120) ∧ (F_xm_number_71 Q (F_xm_number_29 Q n29) l1 l2 l3 l5 (w32 ((w32 ((w32 (10 * l4)) + (M 109 l5))) - 48)) M)) else (F_xm_number_71 Q (F_xm_number_29 Q n29) l1 l2 l3 l5 l4 M)))
def F_xm_number (Q : cM → Prop) (a0 : Int) (a1 : Int) (M : cM) : Prop := if (M 100 16) = 0 then (F_xm_byteAt (fun x3 M2 => F_xm_isDigit (fun x6 M5 => ∃ e29, F_xm_number_29 Q e29 a0 a1 x6 0 (M5 100 13) M5) x3 M2) (M 100 13) M) else (Q M)
def F_xm_sheetItem_83 (Q : cM → Prop) (l1 : Int) (l2 : Int) (l3 : Int) (M : cM) : Prop := if (M 100 16) = 0 then (F_xm_newSheet (fun x15 M14 => Q M14) l1 l2 l3 M) else (Q M)
def F_xm_sheetItem_54 (Q : cM → Prop) (l1 : Int) (l2 : Int) (l3 : Int) (M : cM) : Prop := F_xm_word (fun x10 M9 => if (zlcmp x10 525939) = 0 then (F_xm_needs (fun M17 => F_xm_number (fun M20 => F_xm_sheetItem_83 Q l1 l2 (M20 100 15) M20) 0 1000 M17) 1 M9) else (F_xm_sheetItem_83 Q l1 l2 l3 M9)) M
def F_xm_sheetItem_17 (Q : cM → Prop) (l1 : Int) (s0 : Int) (M : cM) : Prop := F_xm_needs (fun M2 => F_xm_word (fun x6 M5 => if (zlcmp x6 677454) = 0 then (F_xm_needs (fun M23 => F_xm_number (fun M26 => F_xm_sheetItem_54 Q l1 (M26 100 15) 1000 M26) 0 11 M23) 1 M5) else (F_xm_sheetItem_54 Q l1 0 1000 M5)) M2) s0 M
def F_xm_sheetItem (Q : cM → Prop) (a0 : Int) (M : cM) : Prop := if 10 ≤ (M 101 0) then (F_xm_sheetItem_17 Q a0 0 M) else (F_xm_sheetItem_17 Q a0 1 M)
def F_xm_stackItem_107 (Q : cM → Prop) (k38 : Int → Int → cM → Prop) (l1 : Int) (s0 : Int) (M : cM) : Prop := k38 l1 s0 M
def F_xm_stackItem_106 (Q : cM → Prop) (k38 : Int → Int → cM → Prop) (l1 : Int) (M : cM) : Prop := F_xm_stackItem_107 Q (k38) l1 0 M
def F_xm_stackItem_38 (Q : cM → Prop) : Nat → Int → Int → cM → Prop
  | 0, _, _, _ => False
  | n38 + 1, l1, l2, M => if l2 = 0 then (Q M) else (if (M 100 16) = 0 then (F_xm_number (fun M10 => if (M10 100 16) = 0 then (F_xm_lays (fun M14 => F_xm_manyIn (fun x18 M17 => if 6 ≤ x18 then (F_xm_stackItem_106 Q (F_xm_stackItem_38 Q n38) l1 M17) else (F_xm_byteAt (fun x22 M21 => F_xm_isDigit (fun x25 M24 => if x25 = 0 then (F_xm_stackItem_106 Q (F_xm_stackItem_38 Q n38) l1 M24) else (F_xm_stackItem_107 Q (F_xm_stackItem_38 Q n38) l1 1 M24)) x22 M21) (M17 100 13) M17)) l1 M14) l1 (M10 100 15) M10) else (F_xm_stackItem_38 Q n38 l1 l2 M10)) 0 (w32 ((M 101 0) - 1)) M) else (Q M))
def F_xm_stackItem_36 (Q : cM → Prop) (l1 : Int) (M : cM) : Prop := ∃ e38, F_xm_stackItem_38 Q e38 l1 1 M
def F_xm_stackItem (Q : cM → Prop) (M : cM) : Prop := F_xm_needs (fun M1 => F_xm_number (fun M4 => if (M4 100 16) = 0 then (((0 : Int) ≤ (w32 (44 + (w32 (7 * (M4 100 15))))) ∧ (w32 (44 + (w32 (7 * (M4 100 15))))) < 82) ∧ (F_xm_stackItem_36 Q (M4 100 15) (wr M4 101 (w32 (44 + (w32 (7 * (M4 100 15))))) 0))) else (F_xm_stackItem_36 Q (M4 100 15) M4)) 0 3 M1) 1 M
def F_xm_lampItem_101 (Q : cM → Prop) (s0 : Int) (s1 : Int) (M : cM) : Prop := ((0 : Int) ≤ s1 ∧ s1 < 82) ∧ (Q (wr M 101 s1 s0))
def F_xm_lampItem_70 (Q : cM → Prop) (l1 : Int) (l2 : Int) (M : cM) : Prop := if (M 100 16) = 0 then (if l2 = 0 then (F_xm_lampItem_101 Q ((wr M 101 2 l1) 100 15) 3 (wr M 101 2 l1)) else (F_xm_lampItem_101 Q (-1) 3 (wr M 101 2 l1))) else (Q M)
def F_xm_lampItem_56 (Q : cM → Prop) (l1 : Int) (l2 : Int) (s0 : Int) (M : cM) : Prop := F_xm_needs (fun M12 => if l2 = 0 then (F_xm_number (fun M18 => F_xm_lampItem_70 Q l1 l2 M18) 0 11 M12) else (F_xm_lampItem_70 Q l1 l2 M12)) s0 M
def F_xm_lampItem_51 (Q : cM → Prop) (l1 : Int) (l2 : Int) (M : cM) : Prop := F_xm_lampItem_56 Q l1 l2 1 M
def F_xm_lampItem_34 (Q : cM → Prop) (l1 : Int) (s0 : Int) (M : cM) : Prop := if s0 = 0 then (F_xm_word (fun x22 M21 => if (zlcmp x22 20317652) = 0 then (F_xm_lampItem_51 Q l1 s0 M21) else (F_xm_lampItem_56 Q l1 s0 0 M21)) M) else (F_xm_lampItem_51 Q l1 s0 M)
def F_xm_lampItem (Q : cM → Prop) (M : cM) : Prop := F_xm_needs (fun M1 => F_xm_number (fun M4 => F_xm_word (fun x8 M7 => if (zlcmp x8 13951140) = 0 then (F_xm_lampItem_34 Q (M4 100 15) 1 M7) else (F_xm_lampItem_34 Q (M4 100 15) 0 M7)) M4) 0 1000 M1) 1 M
def F_xm_item_105 (Q : cM → Prop) (s0 : Int) (s1 : Int) (M : cM) : Prop := ((0 : Int) ≤ s1 ∧ s1 < 82) ∧ (Q (wr M 101 s1 s0))
def F_xm_item_70 (Q : cM → Prop) (s0 : Int) (M : cM) : Prop := F_xm_needs (fun M17 => F_xm_number (fun M20 => if (M20 100 16) = 0 then (F_xm_item_105 Q (M20 100 15) 1 M20) else (F_xm_item_105 Q (M20 101 1) 1 M20)) 0 11 M17) s0 M
def F_xm_item (Q : cM → Prop) (M : cM) : Prop := F_xm_kindHere (fun x2 M1 => if x2 < 0 then (F_xm_word (fun x6 M5 => if (zlcmp x6 20579435) = 0 then (F_xm_stackItem (fun M27 => Q M27) M5) else (F_xm_word (fun x10 M9 => if (zlcmp x10 394672) = 0 then (F_xm_lampItem (fun M24 => Q M24) M9) else (F_xm_word (fun x14 M13 => if (zlcmp x14 408612) = 0 then (F_xm_item_70 Q 1 M13) else (F_xm_item_70 Q 0 M13)) M9)) M5)) M1) else (F_xm_sheetItem (fun M30 => Q M30) x2 M1)) M
def F_xm_text_110 (Q : Int → cM → Prop) : Nat → Int → cM → Prop
  | 0, _, _ => False
  | n110 + 1, l2, M => if 82 ≤ l2 then (Q (w32 ((-1) - (M 100 13))) M) else (((0 : Int) ≤ l2 ∧ l2 < 82) ∧ (((0 : Int) ≤ l2 ∧ l2 < 82) ∧ (F_xm_text_110 Q n110 (w32 (l2 + 1)) (wr M 101 l2 (M 103 l2)))))
def F_xm_text_96 (Q : Int → cM → Prop) (l1 : Int) (M : cM) : Prop := if ((wr M 100 12 0) 100 16) = 0 then (Q l1 (wr M 100 12 0)) else (∃ e110, F_xm_text_110 Q e110 0 (wr M 100 12 0))
def F_xm_text_83 (Q : Int → cM → Prop) (k46 : Int → cM → Prop) (l1 : Int) (s0 : Int) (M : cM) : Prop := F_xm_needs (fun M16 => F_xm_item (fun M19 => k46 (w32 (l1 + 1)) M19) M16) s0 M
def F_xm_text_46 (Q : Int → cM → Prop) : Nat → Int → cM → Prop
  | 0, _, _ => False
  | n46 + 1, l1, M => if (M 100 16) = 0 then (if (M 100 12) ≤ (M 100 13) then (F_xm_text_96 Q l1 M) else (F_xm_byteAt (fun x13 M12 => if x13 = 59 then (F_xm_text_83 Q (F_xm_text_46 Q n46) l1 1 M12) else (F_xm_text_83 Q (F_xm_text_46 Q n46) l1 0 M12)) (M 100 13) M)) else (F_xm_text_96 Q l1 M)
def F_xm_text_2 (Q : Int → cM → Prop) : Nat → Int → cM → Prop
  | 0, _, _ => False
  | n2 + 1, l1, M => if 82 ≤ l1 then (F_xm_token (fun M2 => F_xm_item (fun M5 => ∃ e46, F_xm_text_46 Q e46 1 M5) M2) (wr (wr M 100 14 0) 100 16 0)) else (((0 : Int) ≤ l1 ∧ l1 < 82) ∧ (((0 : Int) ≤ l1 ∧ l1 < 82) ∧ (F_xm_text_2 Q n2 (w32 (l1 + 1)) (wr M 103 l1 (M 101 l1)))))
def F_xm_text (Q : Int → cM → Prop) (M : cM) : Prop := ∃ e2, F_xm_text_2 Q e2 0 M
def F_xm_hold_25 (Q : Int → cM → Prop) (M : cM) : Prop := F_xm_finds (fun x6 M5 => Q x6 M5) (-1000001) M
def F_xm_hold_32 (Q : Int → cM → Prop) (l1 : Int) (l2 : Int) (M : cM) : Prop := ((0 : Int) ≤ (w32 (72 + l1)) ∧ (w32 (72 + l1)) < 82) ∧ (Q 1 (wr M 101 (w32 (72 + l1)) l2))
def F_xm_hold (Q : Int → cM → Prop) (a0 : Int) (a1 : Int) (M : cM) : Prop := F_xm_in (fun x2 M1 => if x2 = 0 then (F_xm_hold_25 Q M1) else (if a1 = (-1) then (F_xm_hold_32 Q a0 a1 M1) else (F_xm_isSheet (fun x10 M9 => if x10 = 0 then (F_xm_hold_25 Q M9) else (F_xm_hold_32 Q a0 a1 M9)) a1 M1))) a0 0 9 M
def F_xm_as_24 (Q : Int → cM → Prop) (M : cM) : Prop := F_xm_finds (fun x6 M5 => Q x6 M5) (-1000001) M
def F_xm_as_110 (Q : Int → cM → Prop) (l3 : Int) (s0 : Int) (M : cM) : Prop := if s0 = 0 then (F_xm_finds (fun x16 M15 => Q x16 M15) (-1000003) M) else (Q l3 M)
def F_xm_as_105 (Q : Int → cM → Prop) (l3 : Int) (M : cM) : Prop := F_xm_as_110 Q l3 1 M
def F_xm_as_109 (Q : Int → cM → Prop) (l3 : Int) (M : cM) : Prop := F_xm_as_110 Q l3 0 M
def F_xm_as_87 (Q : Int → cM → Prop) (l2 : Int) (l3 : Int) (l4 : Int) (M : cM) : Prop := if l2 = 2 then (if l4 = 3 then (F_xm_as_105 Q l3 M) else (if l4 = 6 then (F_xm_as_105 Q l3 M) else (F_xm_as_109 Q l3 M))) else (F_xm_as_109 Q l3 M)
def F_xm_as (Q : Int → cM → Prop) (a0 : Int) (a1 : Int) (M : cM) : Prop := F_xm_in (fun x2 M1 => if x2 = 0 then (F_xm_as_24 Q M1) else (F_xm_in (fun x9 M8 => if x9 = 0 then (F_xm_as_24 Q M8) else (((0 : Int) ≤ (w32 (72 + a0)) ∧ (w32 (72 + a0)) < 82) ∧ (if 0 ≤ (M8 101 (w32 (72 + a0))) then (((0 : Int) ≤ (w32 (14 + (w32 (3 * (M8 101 (w32 (72 + a0))))))) ∧ (w32 (14 + (w32 (3 * (M8 101 (w32 (72 + a0))))))) < 82) ∧ (if a1 = 0 then (F_xm_as_105 Q (M8 101 (w32 (72 + a0))) M8) else (if (M8 101 (w32 (14 + (w32 (3 * (M8 101 (w32 (72 + a0)))))))) = a1 then (F_xm_as_105 Q (M8 101 (w32 (72 + a0))) M8) else (if a1 = 1 then (if (M8 101 (w32 (14 + (w32 (3 * (M8 101 (w32 (72 + a0)))))))) = 5 then (F_xm_as_105 Q (M8 101 (w32 (72 + a0))) M8) else (F_xm_as_87 Q a1 (M8 101 (w32 (72 + a0))) (M8 101 (w32 (14 + (w32 (3 * (M8 101 (w32 (72 + a0)))))))) M8)) else (F_xm_as_87 Q a1 (M8 101 (w32 (72 + a0))) (M8 101 (w32 (14 + (w32 (3 * (M8 101 (w32 (72 + a0)))))))) M8))))) else (F_xm_finds (fun x25 M24 => Q x25 M24) (-1000006) M8)))) a1 0 6 M1)) a0 0 9 M
def F_xm_isOne (Q : Int → cM → Prop) (a0 : Int) (M : cM) : Prop := F_xm_in (fun x2 M1 => Q (narK 4 x2) M1) a0 0 3 M
def F_xm_row_29 (Q : Int → cM → Prop) (M : cM) : Prop := F_xm_finds (fun x6 M5 => Q x6 M5) (-1000001) M
def F_xm_row_85 (Q : Int → cM → Prop) : Nat → Int → Int → cM → Prop
  | 0, _, _, _ => False
  | n85 + 1, l1, l4, M => if 40 ≤ l4 then (((0 : Int) ≤ l1 ∧ l1 < 4) ∧ (Q (M 111 l1) M)) else (((0 : Int) ≤ (w32 ((w32 (40 * l1)) + l4)) ∧ (w32 ((w32 (40 * l1)) + l4)) < 160) ∧ (F_xm_row_85 Q n85 l1 (w32 (l4 + 1)) (wr M 112 (w32 ((w32 (40 * l1)) + l4)) 0)))
def F_xm_row_81 (Q : Int → cM → Prop) (l1 : Int) (s0 : Int) (s1 : Int) (M : cM) : Prop := ((0 : Int) ≤ s1 ∧ s1 < 4) ∧ (∃ e85, F_xm_row_85 Q e85 l1 0 (wr M 111 s1 s0))
def F_xm_row_36 (Q : Int → cM → Prop) (l1 : Int) (l2 : Int) (l3 : Int) (M : cM) : Prop := if 0 ≤ l3 then (if l3 ≤ 40 then (((0 : Int) ≤ l1 ∧ l1 < 4) ∧ (if l2 = 0 then (F_xm_row_81 Q l1 0 l1 (wr M 110 l1 l2)) else (F_xm_row_81 Q l1 l3 l1 (wr M 110 l1 l2)))) else (F_xm_finds (fun x14 M13 => Q x14 M13) (-1000001) M)) else (F_xm_finds (fun x17 M16 => Q x17 M16) (-1000007) M)
def F_xm_row (Q : Int → cM → Prop) (a0 : Int) (a1 : Int) (a2 : Int) (M : cM) : Prop := F_xm_isOne (fun x2 M1 => if x2 = 0 then (F_xm_row_29 Q M1) else (if a1 = 0 then (F_xm_row_36 Q a0 a1 a2 M1) else (if a1 = 8 then (F_xm_row_36 Q a0 a1 a2 M1) else (if a1 = 16 then (F_xm_row_36 Q a0 a1 a2 M1) else (if a1 = 32 then (F_xm_row_36 Q a0 a1 a2 M1) else (F_xm_row_29 Q M1)))))) a0 M
def F_xm_wrong (Q : Int → cM → Prop) (a0 : Int) (M : cM) : Prop := F_xm_isOne (fun x2 M1 => if x2 = 0 then (Q (-1000001) M1) else (((0 : Int) ≤ a0 ∧ a0 < 4) ∧ (if (M1 110 a0) = 0 then (Q (-1000006) M1) else (Q 0 M1)))) a0 M
def F_xm_narrowed (Q : Int → cM → Prop) (a0 : Int) (a1 : Int) (M : cM) : Prop := if a0 = 8 then (Q (zi2b a1) M) else (if a0 = 16 then (Q (zi2s a1) M) else (Q a1 M))
def F_xm_write (Q : Int → cM → Prop) (a0 : Int) (a1 : Int) (a2 : Int) (M : cM) : Prop := F_xm_wrong (fun x2 M1 => if x2 = 0 then (((0 : Int) ≤ a0 ∧ a0 < 4) ∧ (F_xm_in (fun x6 M5 => if x6 = 0 then (F_xm_finds (fun x13 M12 => Q x13 M12) (-1000001) M5) else (((0 : Int) ≤ a0 ∧ a0 < 4) ∧ (F_xm_narrowed (fun x10 M9 => ((0 : Int) ≤ (w32 ((w32 (40 * a0)) + a1)) ∧ (w32 ((w32 (40 * a0)) + a1)) < 160) ∧ (Q 1 (wr M9 112 (w32 ((w32 (40 * a0)) + a1)) x10))) (M5 110 a0) a2 M5))) a1 0 (w32 ((M1 111 a0) - 1)) M1)) else (F_xm_finds (fun x16 M15 => Q x16 M15) x2 M1)) a0 M
def F_xm_copy_14 (Q : Int → cM → Prop) (M : cM) : Prop := F_xm_finds (fun x6 M5 => Q x6 M5) (-1000001) M
def F_xm_copy_39 (Q : Int → cM → Prop) (M : cM) : Prop := F_xm_finds (fun x14 M13 => Q x14 M13) (-1000006) M
def F_xm_copy_111 (Q : Int → cM → Prop) (M : cM) : Prop := F_xm_finds (fun x20 M19 => Q x20 M19) (-1000001) M
def F_xm_copy_158 (Q : Int → cM → Prop) : Nat → Int → Int → Int → Int → cM → Prop
  | 0, _, _, _, _, _ => False
  | n158 + 1, l3, l4, l5, l6, M => if l5 ≤ l6 then (Q l5 M) else (((0 : Int) ≤ l6 ∧ l6 < 40) ∧ (((0 : Int) ≤ (w32 ((w32 ((w32 (40 * l3)) + l4)) + l6)) ∧ (w32 ((w32 ((w32 (40 * l3)) + l4)) + l6)) < 160) ∧ (F_xm_copy_158 Q n158 l3 l4 l5 (w32 (l6 + 1)) (wr M 112 (w32 ((w32 ((w32 (40 * l3)) + l4)) + l6)) (M 113 l6)))))
def F_xm_copy_121 (Q : Int → cM → Prop) : Nat → Int → Int → Int → Int → Int → Int → cM → Prop
  | 0, _, _, _, _, _, _, _ => False
  | n121 + 1, l1, l2, l3, l4, l5, l6, M => if l5 ≤ l6 then (∃ e158, F_xm_copy_158 Q e158 l3 l4 l5 0 M) else (((0 : Int) ≤ (w32 ((w32 ((w32 (40 * l1)) + l2)) + l6)) ∧ (w32 ((w32 ((w32 (40 * l1)) + l2)) + l6)) < 160) ∧ (((0 : Int) ≤ l6 ∧ l6 < 40) ∧ (F_xm_copy_121 Q n121 l1 l2 l3 l4 l5 (w32 (l6 + 1)) (wr M 113 l6 (M 112 (w32 ((w32 ((w32 (40 * l1)) + l2)) + l6)))))))
def F_xm_copy (Q : Int → cM → Prop) (a0 : Int) (a1 : Int) (a2 : Int) (a3 : Int) (a4 : Int) (M : cM) : Prop := F_xm_isOne (fun x2 M1 => if x2 = 0 then (F_xm_copy_14 Q M1) else (F_xm_isOne (fun x9 M8 => if x9 = 0 then (F_xm_copy_14 Q M8) else (((0 : Int) ≤ a0 ∧ a0 < 4) ∧ (if (M8 110 a0) = 0 then (F_xm_copy_39 Q M8) else (((0 : Int) ≤ a2 ∧ a2 < 4) ∧ (if (M8 110 a2) = 0 then (F_xm_copy_39 Q M8) else (((0 : Int) ≤ a0 ∧ a0 < 4) ∧ (((0 : Int) ≤ a2 ∧ a2 < 4) ∧ (if (M8 110 a0) = (M8 110 a2) then (if a1 < 0 then (F_xm_copy_111 Q M8) else (if a3 < 0 then (F_xm_copy_111 Q M8) else (if a4 < 0 then (F_xm_copy_111 Q M8) else (((0 : Int) ≤ a0 ∧ a0 < 4) ∧ (if (w32 ((M8 111 a0) - a1)) < a4 then (F_xm_copy_111 Q M8) else (((0 : Int) ≤ a2 ∧ a2 < 4) ∧ (if a4 ≤ (w32 ((M8 111 a2) - a3)) then (∃ e121, F_xm_copy_121 Q e121 a0 a1 a2 a3 a4 0 M8) else (F_xm_copy_111 Q M8)))))))) else (F_xm_finds (fun x29 M28 => Q x29 M28) (-1000003) M8))))))))) a2 M1)) a0 M
def F_xm_from_80 (Q : Int → cM → Prop) (l4 : Int) (M : cM) : Prop := Q l4 M
def F_xm_from_36 (Q : Int → cM → Prop) : Nat → Int → Int → Int → Int → cM → Prop
  | 0, _, _, _, _, _ => False
  | n36 + 1, l1, l2, l4, l5, M => ((0 : Int) ≤ l1 ∧ l1 < 4) ∧ (if (M 111 l1) ≤ l5 then (Q l4 M) else (((0 : Int) ≤ (w32 ((w32 (40 * l1)) + l5)) ∧ (w32 ((w32 (40 * l1)) + l5)) < 160) ∧ (F_xm_isSheet (fun x11 M10 => if x11 = 0 then (F_xm_from_80 Q l4 M10) else (F_xm_manyIn (fun x15 M14 => if x15 = 6 then (F_xm_from_80 Q l4 M14) else (F_xm_lays (fun M18 => F_xm_from_36 Q n36 l1 l2 (w32 (l4 + 1)) (w32 (l5 + 1)) M18) l2 (M 112 (w32 ((w32 (40 * l1)) + l5))) M14)) l2 M10)) (M 112 (w32 ((w32 (40 * l1)) + l5))) M)))
def F_xm_from (Q : Int → cM → Prop) (a0 : Int) (a1 : Int) (M : cM) : Prop := F_xm_wrong (fun x2 M1 => if x2 = 0 then (F_xm_isStack (fun x6 M5 => if x6 = 0 then (F_xm_finds (fun x22 M21 => Q x22 M21) (-1000001) M5) else (∃ e36, F_xm_from_36 Q e36 a0 a1 0 0 M5)) a1 M1) else (F_xm_finds (fun x25 M24 => Q x25 M24) x2 M1)) a0 M
def F_xm_judge_73 (Q : Int → cM → Prop) (l4 : Int) (M : cM) : Prop := Q (w32 (1 + l4)) M
def F_xm_judge_33 (Q : Int → cM → Prop) : Nat → Int → Int → Int → cM → Prop
  | 0, _, _, _, _ => False
  | n33 + 1, l1, l2, l4, M => ((0 : Int) ≤ l1 ∧ l1 < 4) ∧ (if (M 111 l1) ≤ l4 then (Q 0 M) else (if 11 < l4 then (F_xm_judge_73 Q l4 M) else (((0 : Int) ≤ (w32 ((w32 (40 * l1)) + l4)) ∧ (w32 ((w32 (40 * l1)) + l4)) < 160) ∧ (F_xm_seenThrough (fun x12 M11 => if (M 112 (w32 ((w32 (40 * l1)) + l4))) = x12 then (F_xm_judge_33 Q n33 l1 l2 (w32 (l4 + 1)) M11) else (F_xm_judge_73 Q l4 M11)) l2 l4 M))))
def F_xm_judge (Q : Int → cM → Prop) (a0 : Int) (a1 : Int) (M : cM) : Prop := F_xm_wrong (fun x2 M1 => if x2 = 0 then (F_xm_isStack (fun x6 M5 => if x6 = 0 then (F_xm_finds (fun x16 M15 => Q x16 M15) (-1000001) M5) else (∃ e33, F_xm_judge_33 Q e33 a0 a1 0 M5)) a1 M1) else (F_xm_finds (fun x19 M18 => Q x19 M18) x2 M1)) a0 M
def F_xm_image_2 (Q : Int → cM → Prop) : Nat → Int → cM → Prop
  | 0, _, _ => False
  | n2 + 1, l1, M => if 82 ≤ l1 then (Q 1 (wr M 100 4 1)) else (((0 : Int) ≤ l1 ∧ l1 < 82) ∧ (((0 : Int) ≤ l1 ∧ l1 < 82) ∧ (F_xm_image_2 Q n2 (w32 (l1 + 1)) (wr M 102 l1 (M 101 l1)))))
def F_xm_image (Q : Int → cM → Prop) (M : cM) : Prop := ∃ e2, F_xm_image_2 Q e2 0 M
def F_xm_undo_16 (Q : Int → cM → Prop) : Nat → Int → cM → Prop
  | 0, _, _ => False
  | n16 + 1, l1, M => if 82 ≤ l1 then (Q (M 101 0) M) else (((0 : Int) ≤ l1 ∧ l1 < 82) ∧ (((0 : Int) ≤ l1 ∧ l1 < 82) ∧ (F_xm_undo_16 Q n16 (w32 (l1 + 1)) (wr M 101 l1 (M 102 l1)))))
def F_xm_undo (Q : Int → cM → Prop) (M : cM) : Prop := if (M 100 4) = 0 then (F_xm_finds (fun x4 M3 => Q x4 M3) (-1000004) M) else (∃ e16, F_xm_undo_16 Q e16 0 M)
def F_xm_tear_12 (Q : Int → cM → Prop) (s0 : Int) (M : cM) : Prop := Q s0 (wr M 100 4 0)
def F_xm_tear (Q : Int → cM → Prop) (M : cM) : Prop := if (M 100 4) = 0 then (F_xm_tear_12 Q 0 M) else (F_xm_tear_12 Q 1 M)
def F_xm_count_53 (Q : Int → cM → Prop) : Nat → Int → Int → cM → Prop
  | 0, _, _, _ => False
  | n53 + 1, l2, l3, M => if 4 ≤ l3 then (Q l2 M) else (F_xm_manyIn (fun x5 M4 => F_xm_count_53 Q n53 (w32 (l2 + x5)) (w32 (l3 + 1)) M4) l3 M)
def F_xm_count_126 (Q : Int → cM → Prop) (k102 : Int → Int → cM → Prop) (l3 : Int) (s0 : Int) (s1 : Int) (M : cM) : Prop := k102 (w32 (s1 + s0)) (w32 (l3 + 1)) M
def F_xm_count_102 (Q : Int → cM → Prop) : Nat → Int → Int → cM → Prop
  | 0, _, _, _ => False
  | n102 + 1, l2, l3, M => if 10 ≤ l3 then (Q l2 M) else (((0 : Int) ≤ (w32 (72 + l3)) ∧ (w32 (72 + l3)) < 82) ∧ (if 0 ≤ (M 101 (w32 (72 + l3))) then (F_xm_count_126 Q (F_xm_count_102 Q n102) l3 1 l2 M) else (F_xm_count_126 Q (F_xm_count_102 Q n102) l3 0 l2 M)))
def F_xm_count (Q : Int → cM → Prop) (a0 : Int) (M : cM) : Prop := if a0 = 0 then (Q (M 101 0) M) else (if a0 = 1 then (∃ e53, F_xm_count_53 Q e53 0 0 M) else (if a0 = 2 then (Q (M 101 5) M) else (if a0 = 3 then (Q (M 101 1) M) else (if a0 = 4 then (Q (M 100 12) M) else (if a0 = 5 then (Q (M 101 4) M) else (if a0 = 6 then (∃ e102, F_xm_count_102 Q e102 0 0 M) else (F_xm_finds (fun x15 M14 => Q x15 M14) (-1000001) M)))))))
def F_xm_status_51 (Q : Int → cM → Prop) (k25 : Int → Int → Int → cM → Prop) (l1 : Int) (l3 : Int) (s0 : Int) (s1 : Int) (M : cM) : Prop := k25 l1 (w32 (s1 + s0)) (w32 (l3 + 1)) M
def F_xm_status_41 (Q : Int → cM → Prop) (k25 : Int → Int → Int → cM → Prop) (l1 : Int) (l3 : Int) (s0 : Int) (M : cM) : Prop := ((0 : Int) ≤ l3 ∧ l3 < 7) ∧ (F_xm_status_51 Q (k25) l1 l3 (M 104 l3) s0 M)
def F_xm_status_25 (Q : Int → cM → Prop) : Nat → Int → Int → Int → cM → Prop
  | 0, _, _, _, _ => False
  | n25 + 1, l1, l2, l3, M => if 7 ≤ l3 then (Q l2 M) else (if l1 < 0 then (F_xm_status_41 Q (F_xm_status_25 Q n25) l1 l3 l2 M) else (if l3 = l1 then (F_xm_status_41 Q (F_xm_status_25 Q n25) l1 l3 l2 M) else (F_xm_status_51 Q (F_xm_status_25 Q n25) l1 l3 0 l2 M)))
def F_xm_status (Q : Int → cM → Prop) (a0 : Int) (M : cM) : Prop := F_xm_in (fun x2 M1 => if x2 = 0 then (F_xm_finds (fun x9 M8 => Q x9 M8) (-1000001) M1) else (∃ e25, F_xm_status_25 Q e25 a0 0 0 M1)) a0 (-1) 6 M
