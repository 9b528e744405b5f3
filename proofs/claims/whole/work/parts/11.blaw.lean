-- L_law_77_0_53 (W, depth 8)
def lb_L_law_77_0_53_258 (Ls : Nat) (sf : Nat → Int32) (K18 : Int32 → Mem → Option (Int32 × Mem)) (v3 : Int32) (s0 : Int32) (s1 : Int32) (s2 : Int32) (s4 : Int32) (M : Mem) : Option (Int32 × Mem) :=
  ((f_X10_hole s2 s1 s0 M)).bind fun q27 => (if s4 = q27.1 then (K18 (v3 + (6 : Int32)) q27.2) else some ((0 : Int32), q27.2))
set_option maxRecDepth 20000 in
set_option maxHeartbeats 2000000 in
theorem ev_lb_L_law_77_0_53_258 (Ls : Nat) (sf : Nat → Int32) (K18 : Int32 → Mem → Option (Int32 × Mem)) (hK18 : ∀ (v3 : Int32) (M : Mem), Ev (some (Ls, sf)) wI RL cL_law (some .boolean) 8 18 [some (.ref 77), some (.ref 0), some (.ref 53), some (.int v3)] [] M (K18 v3 M)) (v3 : Int32) (s0 : Int32) (s1 : Int32) (s2 : Int32) (s4 : Int32) (M : Mem) : Ev (some (Ls, sf)) wI RL cL_law (some .boolean) 8 258 [some (.ref 77), some (.ref 0), some (.ref 53), some (.int v3)] [.int s0, .int s1, .int s2, .ref 53, .int s4] M (lb_L_law_77_0_53_258 Ls sf K18 v3 s0 s1 s2 s4 M) := by
  unfold lb_L_law_77_0_53_258
  refine ev_call (ca_V (k := 53) mv_X10_hole (sp_X10_hole s2 s1 s0 M) (dt dk_L_law_3 0 rfl) ml_L_22 rfl rfl rfl rfl rfl (by decide) : Ca _ _ _ _ _ _ _ _ [.int s4] _ _) (fun q27 hq27 => ?_)
  show Ev _ _ _ _ _ _ 261 [some (.ref 77), some (.ref 0), some (.ref 53), some (.int v3)] [.int q27.1, .int s4] q27.2 _
  refine e_icmp_eq 883 (dt dk_L_law_3 1 rfl) (by decide) (fun h28 => ?_) (fun h28 => ?_)
  · refine e_iinc [some (.ref 77), some (.ref 0), some (.ref 53), some (.int (v3 + (6 : Int32)))] (dt dk_L_law_15 9 rfl) rfl rfl rfl rfl ?_
    refine e_goto 18 (dt dk_L_law_15 10 rfl) (by decide) ?_
    exact e_forget [true, true, true, true] [some (.ref 77), some (.ref 0), some (.ref 53), some (.int (v3 + (6 : Int32)))] ⟨rfl, rfl⟩ (hK18 (v3 + (6 : Int32)) q27.2)
  · refine e_iconst (v := (0 : Int32)) (dt dk_L_law_3 2 rfl) (by decide) ?_
    exact e_iret (dt dk_L_law_3 3 rfl) rfl rfl rfl
def lb_L_law_77_0_53_231 (Ls : Nat) (sf : Nat → Int32) (K18 : Int32 → Mem → Option (Int32 × Mem)) (v3 : Int32) (s0 : Int32) (s1 : Int32) (s2 : Int32) (M : Mem) : Option (Int32 × Mem) :=
  ((f_X9_hole s2 s1 s0 M)).bind fun q22 => if inb (v3 + (1 : Int32)) Ls then if inb (v3 + (2 : Int32)) Ls then if inb (v3 + (3 : Int32)) Ls then (if (sf (ix (v3 + (3 : Int32)))) = 0 then (lb_L_law_77_0_53_258 Ls sf K18 v3 (0 : Int32) (sf (ix (v3 + (2 : Int32)))) (sf (ix (v3 + (1 : Int32)))) q22.1 q22.2) else (lb_L_law_77_0_53_258 Ls sf K18 v3 (1 : Int32) (sf (ix (v3 + (2 : Int32)))) (sf (ix (v3 + (1 : Int32)))) q22.1 q22.2)) else none else none else none
set_option maxRecDepth 20000 in
set_option maxHeartbeats 2000000 in
theorem ev_lb_L_law_77_0_53_231 (Ls : Nat) (sf : Nat → Int32) (K18 : Int32 → Mem → Option (Int32 × Mem)) (hK18 : ∀ (v3 : Int32) (M : Mem), Ev (some (Ls, sf)) wI RL cL_law (some .boolean) 8 18 [some (.ref 77), some (.ref 0), some (.ref 53), some (.int v3)] [] M (K18 v3 M)) (v3 : Int32) (s0 : Int32) (s1 : Int32) (s2 : Int32) (M : Mem) : Ev (some (Ls, sf)) wI RL cL_law (some .boolean) 8 231 [some (.ref 77), some (.ref 0), some (.ref 53), some (.int v3)] [.int s0, .int s1, .int s2, .ref 0] M (lb_L_law_77_0_53_231 Ls sf K18 v3 s0 s1 s2 M) := by
  unfold lb_L_law_77_0_53_231
  refine ev_call (ca_V (k := 0) mv_X9_hole (sp_X9_hole s2 s1 s0 M) (dt dk_L_law_2 19 rfl) ml_L_18 rfl rfl rfl rfl rfl (by decide) : Ca _ _ _ _ _ _ _ _ [] _ _) (fun q22 hq22 => ?_)
  show Ev _ _ _ _ _ _ 234 [some (.ref 77), some (.ref 0), some (.ref 53), some (.int v3)] [.int q22.1] q22.2 _
  refine e_aload_n (dt dk_L_law_2 20 rfl) rfl ?_
  refine e_aload_n (dt dk_L_law_2 21 rfl) rfl ?_
  refine e_iload_n (dt dk_L_law_2 22 rfl) rfl ?_
  refine e_iconst (v := (1 : Int32)) (dt dk_L_law_2 23 rfl) (by decide) ?_
  refine e_iadd (dt dk_L_law_2 24 rfl) ?_
  refine e_if (fun h23 => ?_)
  refine e_iaS' (dt dk_L_law_2 25 rfl) h23 ?_
  refine e_aload_n (dt dk_L_law_2 26 rfl) rfl ?_
  refine e_iload_n (dt dk_L_law_2 27 rfl) rfl ?_
  refine e_iconst (v := (2 : Int32)) (dt dk_L_law_2 28 rfl) (by decide) ?_
  refine e_iadd (dt dk_L_law_2 29 rfl) ?_
  refine e_if (fun h24 => ?_)
  refine e_iaS' (dt dk_L_law_2 30 rfl) h24 ?_
  refine e_aload_n (dt dk_L_law_2 31 rfl) rfl ?_
  refine e_iload_n (dt dk_L_law_2 32 rfl) rfl ?_
  refine e_iconst (v := (3 : Int32)) (dt dk_L_law_2 33 rfl) (by decide) ?_
  refine e_iadd (dt dk_L_law_2 34 rfl) ?_
  refine e_if (fun h25 => ?_)
  refine e_iaS' (dt dk_L_law_2 35 rfl) h25 ?_
  refine e_if_eq 257 (dt dk_L_law_2 36 rfl) (by decide) (fun h26 => ?_) (fun h26 => ?_)
  · refine e_iconst (v := (0 : Int32)) (dt dk_L_law_2 39 rfl) (by decide) ?_
    exact e_forget [true, true, true, true] [some (.ref 77), some (.ref 0), some (.ref 53), some (.int v3)] ⟨rfl, rfl⟩ (ev_lb_L_law_77_0_53_258 Ls sf K18 hK18 v3 (0 : Int32) (sf (ix (v3 + (2 : Int32)))) (sf (ix (v3 + (1 : Int32)))) q22.1 q22.2)
  · refine e_iconst (v := (1 : Int32)) (dt dk_L_law_2 37 rfl) (by decide) ?_
    refine e_goto 258 (dt dk_L_law_2 38 rfl) (by decide) ?_
    exact e_forget [true, true, true, true] [some (.ref 77), some (.ref 0), some (.ref 53), some (.int v3)] ⟨rfl, rfl⟩ (ev_lb_L_law_77_0_53_258 Ls sf K18 hK18 v3 (1 : Int32) (sf (ix (v3 + (2 : Int32)))) (sf (ix (v3 + (1 : Int32)))) q22.1 q22.2)
def bd_L_law_77_0_53_18 (Ls : Nat) (sf : Nat → Int32)  (K18 : Int32 → Mem → Option (Int32 × Mem)) (v3 : Int32) (M : Mem) : Option (Int32 × Mem) :=
  (if ((nI Ls) - (6 : Int32)) < v3 then some ((1 : Int32), M) else if inb v3 Ls then (if ((sf (ix v3)) &&& (31 : Int32)) = (0 : Int32) then if inb (v3 + (1 : Int32)) Ls then if inb (v3 + (2 : Int32)) Ls then if inb (v3 + (3 : Int32)) Ls then if inb (v3 + (4 : Int32)) Ls then if inb (v3 + (5 : Int32)) Ls then ((f_X9_house (sf (ix (v3 + (1 : Int32)))) (sf (ix (v3 + (2 : Int32)))) (sf (ix (v3 + (3 : Int32)))) (sf (ix (v3 + (4 : Int32)))) (sf (ix (v3 + (5 : Int32)))) M)).bind fun q9 => if inb (v3 + (1 : Int32)) Ls then if inb (v3 + (2 : Int32)) Ls then if inb (v3 + (3 : Int32)) Ls then if inb (v3 + (4 : Int32)) Ls then if inb (v3 + (5 : Int32)) Ls then ((f_X10_house (sf (ix (v3 + (1 : Int32)))) (sf (ix (v3 + (2 : Int32)))) (sf (ix (v3 + (3 : Int32)))) (sf (ix (v3 + (4 : Int32)))) (sf (ix (v3 + (5 : Int32)))) q9.2)).bind fun q15 => (if q9.1 = q15.1 then (K18 (v3 + (6 : Int32)) q15.2) else some ((0 : Int32), q15.2)) else none else none else none else none else none else none else none else none else none else none else if ((sf (ix v3)) &&& (31 : Int32)) = (1 : Int32) then if inb (v3 + (1 : Int32)) Ls then if inb (v3 + (2 : Int32)) Ls then if inb (v3 + (3 : Int32)) Ls then (if (sf (ix (v3 + (3 : Int32)))) = 0 then (lb_L_law_77_0_53_231 Ls sf K18 v3 (0 : Int32) (sf (ix (v3 + (2 : Int32)))) (sf (ix (v3 + (1 : Int32)))) M) else (lb_L_law_77_0_53_231 Ls sf K18 v3 (1 : Int32) (sf (ix (v3 + (2 : Int32)))) (sf (ix (v3 + (1 : Int32)))) M)) else none else none else none else if ((sf (ix v3)) &&& (31 : Int32)) = (2 : Int32) then if inb (v3 + (1 : Int32)) Ls then ((f_X9_bag (sf (ix (v3 + (1 : Int32)))) M)).bind fun q31 => if inb (v3 + (1 : Int32)) Ls then ((f_X10_bag (sf (ix (v3 + (1 : Int32)))) q31.2)).bind fun q33 => (if q31.1 = q33.1 then (K18 (v3 + (6 : Int32)) q33.2) else some ((0 : Int32), q33.2)) else none else none else if ((sf (ix v3)) &&& (31 : Int32)) = (3 : Int32) then if inb (v3 + (1 : Int32)) Ls then ((f_X9_say (sf (ix (v3 + (1 : Int32)))) M)).bind fun q37 => if inb (v3 + (1 : Int32)) Ls then ((f_X10_say (sf (ix (v3 + (1 : Int32)))) q37.2)).bind fun q39 => (if q37.1 = q39.1 then (K18 (v3 + (6 : Int32)) q39.2) else some ((0 : Int32), q39.2)) else none else none else if ((sf (ix v3)) &&& (31 : Int32)) = (4 : Int32) then ((f_X9_wipe M)).bind fun q42 => ((f_X10_wipe q42.2)).bind fun q43 => (if q42.1 = q43.1 then (K18 (v3 + (6 : Int32)) q43.2) else some ((0 : Int32), q43.2)) else if ((sf (ix v3)) &&& (31 : Int32)) = (5 : Int32) then ((f_X9_fault M)).bind fun r46 => ((f_X10_fault M)).bind fun q47 => (if r46 = q47.1 then (K18 (v3 + (6 : Int32)) q47.2) else some ((0 : Int32), q47.2)) else if ((sf (ix v3)) &&& (31 : Int32)) = (6 : Int32) then if inb (v3 + (1 : Int32)) Ls then ((f_X9_judge (sf (ix (v3 + (1 : Int32)))) M)).bind fun q51 => if inb (v3 + (1 : Int32)) Ls then ((f_X10_judge (sf (ix (v3 + (1 : Int32)))) q51.2)).bind fun q53 => (if q51.1 = q53.1 then (K18 (v3 + (6 : Int32)) q53.2) else some ((0 : Int32), q53.2)) else none else none else if ((sf (ix v3)) &&& (31 : Int32)) = (7 : Int32) then if inb (v3 + (1 : Int32)) Ls then if inb (v3 + (2 : Int32)) Ls then ((f_X9_behind (sf (ix (v3 + (1 : Int32)))) (sf (ix (v3 + (2 : Int32)))) M)).bind fun q58 => if inb (v3 + (1 : Int32)) Ls then if inb (v3 + (2 : Int32)) Ls then ((f_X10_behind (sf (ix (v3 + (1 : Int32)))) (sf (ix (v3 + (2 : Int32)))) q58.2)).bind fun q61 => (if q58.1 = q61.1 then (K18 (v3 + (6 : Int32)) q61.2) else some ((0 : Int32), q61.2)) else none else none else none else none else if ((sf (ix v3)) &&& (31 : Int32)) = (8 : Int32) then if inb (v3 + (1 : Int32)) Ls then ((f_X9_town (sf (ix (v3 + (1 : Int32)))) M)).bind fun q65 => if inb (v3 + (1 : Int32)) Ls then ((f_X10_town (sf (ix (v3 + (1 : Int32)))) q65.2)).bind fun q67 => (if q65.1 = q67.1 then (K18 (v3 + (6 : Int32)) q67.2) else some ((0 : Int32), q67.2)) else none else none else if ((sf (ix v3)) &&& (31 : Int32)) = (9 : Int32) then if inb (v3 + (1 : Int32)) Ls then ((f_X9_rid (sf (ix (v3 + (1 : Int32)))) M)).bind fun q71 => if inb (v3 + (1 : Int32)) Ls then ((f_X10_rid (sf (ix (v3 + (1 : Int32)))) q71.2)).bind fun q73 => (if q71.1 = q73.1 then (K18 (v3 + (6 : Int32)) q73.2) else some ((0 : Int32), q73.2)) else none else none else if ((sf (ix v3)) &&& (31 : Int32)) = (10 : Int32) then ((f_X9_done M)).bind fun q76 => ((f_X10_done q76.2)).bind fun q77 => (if q76.1 = q77.1 then (K18 (v3 + (6 : Int32)) q77.2) else some ((0 : Int32), q77.2)) else if ((sf (ix v3)) &&& (31 : Int32)) = (11 : Int32) then if inb (v3 + (1 : Int32)) Ls then if inb (v3 + (2 : Int32)) Ls then if inb (v3 + (3 : Int32)) Ls then if inb (v3 + (4 : Int32)) Ls then ((f_X9_alone (sf (ix (v3 + (1 : Int32)))) (sf (ix (v3 + (2 : Int32)))) (sf (ix (v3 + (3 : Int32)))) (sf (ix (v3 + (4 : Int32)))))).bind fun r84 => if inb (v3 + (1 : Int32)) Ls then if inb (v3 + (2 : Int32)) Ls then if inb (v3 + (3 : Int32)) Ls then if inb (v3 + (4 : Int32)) Ls then ((f_X10_alone (sf (ix (v3 + (1 : Int32)))) (sf (ix (v3 + (2 : Int32)))) (sf (ix (v3 + (3 : Int32)))) (sf (ix (v3 + (4 : Int32)))))).bind fun r89 => (if r84 = r89 then (K18 (v3 + (6 : Int32)) M) else some ((0 : Int32), M)) else none else none else none else none else none else none else none else none else if ((sf (ix v3)) &&& (31 : Int32)) = (12 : Int32) then if inb (v3 + (1 : Int32)) Ls then ((f_X9_terriers (sf (ix (v3 + (1 : Int32)))) M)).bind fun r93 => if inb (v3 + (1 : Int32)) Ls then ((f_X10_terriers (sf (ix (v3 + (1 : Int32)))) M)).bind fun r95 => (if r93 = r95 then (K18 (v3 + (6 : Int32)) M) else some ((0 : Int32), M)) else none else none else if ((sf (ix v3)) &&& (31 : Int32)) = (13 : Int32) then if inb (v3 + (1 : Int32)) Ls then if inb (v3 + (2 : Int32)) Ls then if inb (v3 + (3 : Int32)) Ls then if inb (v3 + (4 : Int32)) Ls then ((f_X9_heard (sf (ix (v3 + (1 : Int32)))) (sf (ix (v3 + (2 : Int32)))) (sf (ix (v3 + (3 : Int32)))) (sf (ix (v3 + (4 : Int32)))) M)).bind fun q102 => if inb (v3 + (1 : Int32)) Ls then if inb (v3 + (2 : Int32)) Ls then if inb (v3 + (3 : Int32)) Ls then if inb (v3 + (4 : Int32)) Ls then ((f_X10_heard (sf (ix (v3 + (1 : Int32)))) (sf (ix (v3 + (2 : Int32)))) (sf (ix (v3 + (3 : Int32)))) (sf (ix (v3 + (4 : Int32)))) q102.2)).bind fun q107 => (if q102.1 = q107.1 then (K18 (v3 + (6 : Int32)) q107.2) else some ((0 : Int32), q107.2)) else none else none else none else none else none else none else none else none else if ((sf (ix v3)) &&& (31 : Int32)) = (14 : Int32) then if inb (v3 + (1 : Int32)) Ls then if inb (v3 + (2 : Int32)) Ls then ((f_X9_gnawed (sf (ix (v3 + (1 : Int32)))) (sf (ix (v3 + (2 : Int32)))) M)).bind fun q112 => if inb (v3 + (1 : Int32)) Ls then if inb (v3 + (2 : Int32)) Ls then ((f_X10_gnawed (sf (ix (v3 + (1 : Int32)))) (sf (ix (v3 + (2 : Int32)))) q112.2)).bind fun q115 => (if q112.1 = q115.1 then (K18 (v3 + (6 : Int32)) q115.2) else some ((0 : Int32), q115.2)) else none else none else none else none else if ((sf (ix v3)) &&& (31 : Int32)) = (15 : Int32) then ((f_X9_forget M)).bind fun q118 => ((f_X10_forget q118.2)).bind fun q119 => (if q118.1 = q119.1 then (K18 (v3 + (6 : Int32)) q119.2) else some ((0 : Int32), q119.2)) else if ((sf (ix v3)) &&& (31 : Int32)) = (16 : Int32) then if inb (v3 + (1 : Int32)) Ls then ((f_X9_fits (sf (ix (v3 + (1 : Int32)))) M)).bind fun r123 => if inb (v3 + (1 : Int32)) Ls then ((f_X10_fits (sf (ix (v3 + (1 : Int32)))) M)).bind fun r125 => (if r123 = r125 then (K18 (v3 + (6 : Int32)) M) else some ((0 : Int32), M)) else none else none else if ((sf (ix v3)) &&& (31 : Int32)) = (17 : Int32) then if inb (v3 + (1 : Int32)) Ls then ((f_X9_ask (sf (ix (v3 + (1 : Int32)))) M)).bind fun q129 => if inb (v3 + (1 : Int32)) Ls then ((f_X10_ask (sf (ix (v3 + (1 : Int32)))) q129.2)).bind fun q131 => (if q129.1 = q131.1 then (K18 (v3 + (6 : Int32)) q131.2) else some ((0 : Int32), q131.2)) else none else none else if ((sf (ix v3)) &&& (31 : Int32)) = (18 : Int32) then if inb (v3 + (1 : Int32)) Ls then if inb (v3 + (2 : Int32)) Ls then if inb (v3 + (3 : Int32)) Ls then ((f_X9_chase (sf (ix (v3 + (1 : Int32)))) (sf (ix (v3 + (2 : Int32)))) (sf (ix (v3 + (3 : Int32)))) M)).bind fun q137 => if inb (v3 + (1 : Int32)) Ls then if inb (v3 + (2 : Int32)) Ls then if inb (v3 + (3 : Int32)) Ls then ((f_X10_chase (sf (ix (v3 + (1 : Int32)))) (sf (ix (v3 + (2 : Int32)))) (sf (ix (v3 + (3 : Int32)))) q137.2)).bind fun q141 => (if q137.1 = q141.1 then (K18 (v3 + (6 : Int32)) q141.2) else some ((0 : Int32), q141.2)) else none else none else none else none else none else none else if ((sf (ix v3)) &&& (31 : Int32)) = (19 : Int32) then if inb (v3 + (1 : Int32)) Ls then if inb (v3 + (2 : Int32)) Ls then if inb (v3 + (3 : Int32)) Ls then if inb (v3 + (4 : Int32)) Ls then ((f_X9_ever (sf (ix (v3 + (1 : Int32)))) (sf (ix (v3 + (2 : Int32)))) (sf (ix (v3 + (3 : Int32)))) (sf (ix (v3 + (4 : Int32)))))).bind fun r148 => if inb (v3 + (1 : Int32)) Ls then if inb (v3 + (2 : Int32)) Ls then if inb (v3 + (3 : Int32)) Ls then if inb (v3 + (4 : Int32)) Ls then ((f_X10_ever (sf (ix (v3 + (1 : Int32)))) (sf (ix (v3 + (2 : Int32)))) (sf (ix (v3 + (3 : Int32)))) (sf (ix (v3 + (4 : Int32)))))).bind fun r153 => (if (lg_cmp r148 r153) = 0 then (K18 (v3 + (6 : Int32)) M) else some ((0 : Int32), M)) else none else none else none else none else none else none else none else none else if ((sf (ix v3)) &&& (31 : Int32)) = (20 : Int32) then if inb (v3 + (1 : Int32)) Ls then if inb (v3 + (2 : Int32)) Ls then if inb (v3 + (3 : Int32)) Ls then ((f_X9_year (sf (ix (v3 + (1 : Int32)))) (sf (ix (v3 + (2 : Int32)))) (sf (ix (v3 + (3 : Int32)))) M)).bind fun q159 => if inb (v3 + (1 : Int32)) Ls then if inb (v3 + (2 : Int32)) Ls then if inb (v3 + (3 : Int32)) Ls then ((f_X10_year (sf (ix (v3 + (1 : Int32)))) (sf (ix (v3 + (2 : Int32)))) (sf (ix (v3 + (3 : Int32)))) q159.2)).bind fun q163 => (if q159.1 = q163.1 then (K18 (v3 + (6 : Int32)) q163.2) else some ((0 : Int32), q163.2)) else none else none else none else none else none else none else if ((sf (ix v3)) &&& (31 : Int32)) = (21 : Int32) then if inb (v3 + (1 : Int32)) Ls then ((f_X9_image (sf (ix (v3 + (1 : Int32)))) M)).bind fun q167 => if inb (v3 + (1 : Int32)) Ls then ((f_X10_image (sf (ix (v3 + (1 : Int32)))) q167.2)).bind fun q169 => (if q167.1 = q169.1 then (K18 (v3 + (6 : Int32)) q169.2) else some ((0 : Int32), q169.2)) else none else none else if ((sf (ix v3)) &&& (31 : Int32)) = (22 : Int32) then if inb (v3 + (1 : Int32)) Ls then ((f_X9_restore (sf (ix (v3 + (1 : Int32)))) M)).bind fun q173 => if inb (v3 + (1 : Int32)) Ls then ((f_X10_restore (sf (ix (v3 + (1 : Int32)))) q173.2)).bind fun q175 => (if q173.1 = q175.1 then (K18 (v3 + (6 : Int32)) q175.2) else some ((0 : Int32), q175.2)) else none else none else if ((sf (ix v3)) &&& (31 : Int32)) = (23 : Int32) then if inb (v3 + (1 : Int32)) Ls then ((f_X9_told (sf (ix (v3 + (1 : Int32)))) M)).bind fun r179 => if inb (v3 + (1 : Int32)) Ls then ((f_X10_told (sf (ix (v3 + (1 : Int32)))) M)).bind fun r181 => (if r179 = r181 then (K18 (v3 + (6 : Int32)) M) else some ((0 : Int32), M)) else none else none else (K18 (v3 + (6 : Int32)) M)) else none)
set_option maxRecDepth 20000 in
set_option maxHeartbeats 2000000 in
theorem ev_bd_L_law_77_0_53_18 (Ls : Nat) (sf : Nat → Int32)  (K18 : Int32 → Mem → Option (Int32 × Mem))  (hK18 : ∀ (v3 : Int32) (M : Mem), Ev (some (Ls, sf)) wI RL cL_law (some .boolean) 8 18 [some (.ref 77), some (.ref 0), some (.ref 53), some (.int v3)] [] M (K18 v3 M)) (v3 : Int32) (M : Mem) : Ev (some (Ls, sf)) wI RL cL_law (some .boolean) 8 18 [some (.ref 77), some (.ref 0), some (.ref 53), some (.int v3)] [] M (bd_L_law_77_0_53_18 Ls sf K18 v3 M) := by
  unfold bd_L_law_77_0_53_18
  refine e_iload_n (dt dk_L_law_0 10 rfl) rfl ?_
  refine e_aload_n (dt dk_L_law_0 11 rfl) rfl ?_
  refine e_lenS (dt dk_L_law_0 12 rfl) ?_
  refine e_bipush (v := (6 : Int32)) (dt dk_L_law_0 13 rfl) (by decide) ?_
  refine e_isub (dt dk_L_law_0 14 rfl) ?_
  refine e_icmp_gt 889 (dt dk_L_law_0 15 rfl) (by decide) (fun h1 => ?_) (fun h1 => ?_)
  · refine e_iconst (v := (1 : Int32)) (dt dk_L_law_15 11 rfl) (by decide) ?_
    exact e_iret (dt dk_L_law_15 12 rfl) rfl rfl rfl
  · refine e_aload_n (dt dk_L_law_0 16 rfl) rfl ?_
    refine e_iload_n (dt dk_L_law_0 17 rfl) rfl ?_
    refine e_if (fun h2 => ?_)
    refine e_iaS' (dt dk_L_law_0 18 rfl) h2 ?_
    refine e_bipush (v := (31 : Int32)) (dt dk_L_law_0 19 rfl) (by decide) ?_
    refine e_iand (dt dk_L_law_0 20 rfl) ?_
    refine e_split (fun h3 => ?_) (fun h3 => ?_)
    · refine e_tableIn 144 (dt dk_L_law_0 21 rfl) (by rw [h3]; decide) (by rw [h3]; decide) (by rw [h3]; rfl) (by decide) ?_
      refine e_aload_n (dt dk_L_law_0 22 rfl) rfl ?_
      refine e_aload_n (dt dk_L_law_0 23 rfl) rfl ?_
      refine e_iload_n (dt dk_L_law_0 24 rfl) rfl ?_
      refine e_iconst (v := (1 : Int32)) (dt dk_L_law_0 25 rfl) (by decide) ?_
      refine e_iadd (dt dk_L_law_0 26 rfl) ?_
      refine e_if (fun h4 => ?_)
      refine e_iaS' (dt dk_L_law_0 27 rfl) h4 ?_
      refine e_aload_n (dt dk_L_law_0 28 rfl) rfl ?_
      refine e_iload_n (dt dk_L_law_0 29 rfl) rfl ?_
      refine e_iconst (v := (2 : Int32)) (dt dk_L_law_0 30 rfl) (by decide) ?_
      refine e_iadd (dt dk_L_law_0 31 rfl) ?_
      refine e_if (fun h5 => ?_)
      refine e_iaS' (dt dk_L_law_0 32 rfl) h5 ?_
      refine e_aload_n (dt dk_L_law_0 33 rfl) rfl ?_
      refine e_iload_n (dt dk_L_law_0 34 rfl) rfl ?_
      refine e_iconst (v := (3 : Int32)) (dt dk_L_law_0 35 rfl) (by decide) ?_
      refine e_iadd (dt dk_L_law_0 36 rfl) ?_
      refine e_if (fun h6 => ?_)
      refine e_iaS' (dt dk_L_law_0 37 rfl) h6 ?_
      refine e_aload_n (dt dk_L_law_0 38 rfl) rfl ?_
      refine e_iload_n (dt dk_L_law_0 39 rfl) rfl ?_
      refine e_iconst (v := (4 : Int32)) (dt dk_L_law_1 0 rfl) (by decide) ?_
      refine e_iadd (dt dk_L_law_1 1 rfl) ?_
      refine e_if (fun h7 => ?_)
      refine e_iaS' (dt dk_L_law_1 2 rfl) h7 ?_
      refine e_aload_n (dt dk_L_law_1 3 rfl) rfl ?_
      refine e_iload_n (dt dk_L_law_1 4 rfl) rfl ?_
      refine e_iconst (v := (5 : Int32)) (dt dk_L_law_1 5 rfl) (by decide) ?_
      refine e_iadd (dt dk_L_law_1 6 rfl) ?_
      refine e_if (fun h8 => ?_)
      refine e_iaS' (dt dk_L_law_1 7 rfl) h8 ?_
      refine ev_call (ca_V (k := 0) mv_X9_house (sp_X9_house (sf (ix (v3 + (1 : Int32)))) (sf (ix (v3 + (2 : Int32)))) (sf (ix (v3 + (3 : Int32)))) (sf (ix (v3 + (4 : Int32)))) (sf (ix (v3 + (5 : Int32)))) M) (dt dk_L_law_1 8 rfl) ml_L_13 rfl rfl rfl rfl rfl (by decide) : Ca _ _ _ _ _ _ _ _ [] _ _) (fun q9 hq9 => ?_)
      show Ev _ _ _ _ _ _ 173 [some (.ref 77), some (.ref 0), some (.ref 53), some (.int v3)] [.int q9.1] q9.2 _
      refine e_aload_n (dt dk_L_law_1 9 rfl) rfl ?_
      refine e_aload_n (dt dk_L_law_1 10 rfl) rfl ?_
      refine e_iload_n (dt dk_L_law_1 11 rfl) rfl ?_
      refine e_iconst (v := (1 : Int32)) (dt dk_L_law_1 12 rfl) (by decide) ?_
      refine e_iadd (dt dk_L_law_1 13 rfl) ?_
      refine e_if (fun h10 => ?_)
      refine e_iaS' (dt dk_L_law_1 14 rfl) h10 ?_
      refine e_aload_n (dt dk_L_law_1 15 rfl) rfl ?_
      refine e_iload_n (dt dk_L_law_1 16 rfl) rfl ?_
      refine e_iconst (v := (2 : Int32)) (dt dk_L_law_1 17 rfl) (by decide) ?_
      refine e_iadd (dt dk_L_law_1 18 rfl) ?_
      refine e_if (fun h11 => ?_)
      refine e_iaS' (dt dk_L_law_1 19 rfl) h11 ?_
      refine e_aload_n (dt dk_L_law_1 20 rfl) rfl ?_
      refine e_iload_n (dt dk_L_law_1 21 rfl) rfl ?_
      refine e_iconst (v := (3 : Int32)) (dt dk_L_law_1 22 rfl) (by decide) ?_
      refine e_iadd (dt dk_L_law_1 23 rfl) ?_
      refine e_if (fun h12 => ?_)
      refine e_iaS' (dt dk_L_law_1 24 rfl) h12 ?_
      refine e_aload_n (dt dk_L_law_1 25 rfl) rfl ?_
      refine e_iload_n (dt dk_L_law_1 26 rfl) rfl ?_
      refine e_iconst (v := (4 : Int32)) (dt dk_L_law_1 27 rfl) (by decide) ?_
      refine e_iadd (dt dk_L_law_1 28 rfl) ?_
      refine e_if (fun h13 => ?_)
      refine e_iaS' (dt dk_L_law_1 29 rfl) h13 ?_
      refine e_aload_n (dt dk_L_law_1 30 rfl) rfl ?_
      refine e_iload_n (dt dk_L_law_1 31 rfl) rfl ?_
      refine e_iconst (v := (5 : Int32)) (dt dk_L_law_1 32 rfl) (by decide) ?_
      refine e_iadd (dt dk_L_law_1 33 rfl) ?_
      refine e_if (fun h14 => ?_)
      refine e_iaS' (dt dk_L_law_1 34 rfl) h14 ?_
      refine ev_call (ca_V (k := 53) mv_X10_house (sp_X10_house (sf (ix (v3 + (1 : Int32)))) (sf (ix (v3 + (2 : Int32)))) (sf (ix (v3 + (3 : Int32)))) (sf (ix (v3 + (4 : Int32)))) (sf (ix (v3 + (5 : Int32)))) q9.2) (dt dk_L_law_1 35 rfl) ml_L_17 rfl rfl rfl rfl rfl (by decide) : Ca _ _ _ _ _ _ _ _ [.int q9.1] _ _) (fun q15 hq15 => ?_)
      show Ev _ _ _ _ _ _ 202 [some (.ref 77), some (.ref 0), some (.ref 53), some (.int v3)] [.int q15.1, .int q9.1] q15.2 _
      refine e_icmp_eq 883 (dt dk_L_law_1 36 rfl) (by decide) (fun h16 => ?_) (fun h16 => ?_)
      · refine e_iinc [some (.ref 77), some (.ref 0), some (.ref 53), some (.int (v3 + (6 : Int32)))] (dt dk_L_law_15 9 rfl) rfl rfl rfl rfl ?_
        refine e_goto 18 (dt dk_L_law_15 10 rfl) (by decide) ?_
        exact e_forget [true, true, true, true] [some (.ref 77), some (.ref 0), some (.ref 53), some (.int (v3 + (6 : Int32)))] ⟨rfl, rfl⟩ (hK18 (v3 + (6 : Int32)) q15.2)
      · refine e_iconst (v := (0 : Int32)) (dt dk_L_law_1 37 rfl) (by decide) ?_
        exact e_iret (dt dk_L_law_1 38 rfl) rfl rfl rfl
    · skip
      refine e_split (fun h17 => ?_) (fun h17 => ?_)
      · refine e_tableIn 207 (dt dk_L_law_0 21 rfl) (by rw [h17]; decide) (by rw [h17]; decide) (by rw [h17]; rfl) (by decide) ?_
        refine e_aload_n (dt dk_L_law_1 39 rfl) rfl ?_
        refine e_aload_n (dt dk_L_law_2 0 rfl) rfl ?_
        refine e_iload_n (dt dk_L_law_2 1 rfl) rfl ?_
        refine e_iconst (v := (1 : Int32)) (dt dk_L_law_2 2 rfl) (by decide) ?_
        refine e_iadd (dt dk_L_law_2 3 rfl) ?_
        refine e_if (fun h18 => ?_)
        refine e_iaS' (dt dk_L_law_2 4 rfl) h18 ?_
        refine e_aload_n (dt dk_L_law_2 5 rfl) rfl ?_
        refine e_iload_n (dt dk_L_law_2 6 rfl) rfl ?_
        refine e_iconst (v := (2 : Int32)) (dt dk_L_law_2 7 rfl) (by decide) ?_
        refine e_iadd (dt dk_L_law_2 8 rfl) ?_
        refine e_if (fun h19 => ?_)
        refine e_iaS' (dt dk_L_law_2 9 rfl) h19 ?_
        refine e_aload_n (dt dk_L_law_2 10 rfl) rfl ?_
        refine e_iload_n (dt dk_L_law_2 11 rfl) rfl ?_
        refine e_iconst (v := (3 : Int32)) (dt dk_L_law_2 12 rfl) (by decide) ?_
        refine e_iadd (dt dk_L_law_2 13 rfl) ?_
        refine e_if (fun h20 => ?_)
        refine e_iaS' (dt dk_L_law_2 14 rfl) h20 ?_
        refine e_if_eq 230 (dt dk_L_law_2 15 rfl) (by decide) (fun h21 => ?_) (fun h21 => ?_)
        · refine e_iconst (v := (0 : Int32)) (dt dk_L_law_2 18 rfl) (by decide) ?_
          exact e_forget [true, true, true, true] [some (.ref 77), some (.ref 0), some (.ref 53), some (.int v3)] ⟨rfl, rfl⟩ (ev_lb_L_law_77_0_53_231 Ls sf K18 hK18 v3 (0 : Int32) (sf (ix (v3 + (2 : Int32)))) (sf (ix (v3 + (1 : Int32)))) M)
        · refine e_iconst (v := (1 : Int32)) (dt dk_L_law_2 16 rfl) (by decide) ?_
          refine e_goto 231 (dt dk_L_law_2 17 rfl) (by decide) ?_
          exact e_forget [true, true, true, true] [some (.ref 77), some (.ref 0), some (.ref 53), some (.int v3)] ⟨rfl, rfl⟩ (ev_lb_L_law_77_0_53_231 Ls sf K18 hK18 v3 (1 : Int32) (sf (ix (v3 + (2 : Int32)))) (sf (ix (v3 + (1 : Int32)))) M)
      · skip
        refine e_split (fun h29 => ?_) (fun h29 => ?_)
        · refine e_tableIn 266 (dt dk_L_law_0 21 rfl) (by rw [h29]; decide) (by rw [h29]; decide) (by rw [h29]; rfl) (by decide) ?_
          refine e_aload_n (dt dk_L_law_3 4 rfl) rfl ?_
          refine e_aload_n (dt dk_L_law_3 5 rfl) rfl ?_
          refine e_iload_n (dt dk_L_law_3 6 rfl) rfl ?_
          refine e_iconst (v := (1 : Int32)) (dt dk_L_law_3 7 rfl) (by decide) ?_
          refine e_iadd (dt dk_L_law_3 8 rfl) ?_
          refine e_if (fun h30 => ?_)
          refine e_iaS' (dt dk_L_law_3 9 rfl) h30 ?_
          refine ev_call (ca_V (k := 0) mv_X9_bag (sp_X9_bag (sf (ix (v3 + (1 : Int32)))) M) (dt dk_L_law_3 10 rfl) ml_L_23 rfl rfl rfl rfl rfl (by decide) : Ca _ _ _ _ _ _ _ _ [] _ _) (fun q31 hq31 => ?_)
          show Ev _ _ _ _ _ _ 275 [some (.ref 77), some (.ref 0), some (.ref 53), some (.int v3)] [.int q31.1] q31.2 _
          refine e_aload_n (dt dk_L_law_3 11 rfl) rfl ?_
          refine e_aload_n (dt dk_L_law_3 12 rfl) rfl ?_
          refine e_iload_n (dt dk_L_law_3 13 rfl) rfl ?_
          refine e_iconst (v := (1 : Int32)) (dt dk_L_law_3 14 rfl) (by decide) ?_
          refine e_iadd (dt dk_L_law_3 15 rfl) ?_
          refine e_if (fun h32 => ?_)
          refine e_iaS' (dt dk_L_law_3 16 rfl) h32 ?_
          refine ev_call (ca_V (k := 53) mv_X10_bag (sp_X10_bag (sf (ix (v3 + (1 : Int32)))) q31.2) (dt dk_L_law_3 17 rfl) ml_L_27 rfl rfl rfl rfl rfl (by decide) : Ca _ _ _ _ _ _ _ _ [.int q31.1] _ _) (fun q33 hq33 => ?_)
          show Ev _ _ _ _ _ _ 284 [some (.ref 77), some (.ref 0), some (.ref 53), some (.int v3)] [.int q33.1, .int q31.1] q33.2 _
          refine e_icmp_eq 883 (dt dk_L_law_3 18 rfl) (by decide) (fun h34 => ?_) (fun h34 => ?_)
          · refine e_iinc [some (.ref 77), some (.ref 0), some (.ref 53), some (.int (v3 + (6 : Int32)))] (dt dk_L_law_15 9 rfl) rfl rfl rfl rfl ?_
            refine e_goto 18 (dt dk_L_law_15 10 rfl) (by decide) ?_
            exact e_forget [true, true, true, true] [some (.ref 77), some (.ref 0), some (.ref 53), some (.int (v3 + (6 : Int32)))] ⟨rfl, rfl⟩ (hK18 (v3 + (6 : Int32)) q33.2)
          · refine e_iconst (v := (0 : Int32)) (dt dk_L_law_3 19 rfl) (by decide) ?_
            exact e_iret (dt dk_L_law_3 20 rfl) rfl rfl rfl
        · skip
          refine e_split (fun h35 => ?_) (fun h35 => ?_)
          · refine e_tableIn 289 (dt dk_L_law_0 21 rfl) (by rw [h35]; decide) (by rw [h35]; decide) (by rw [h35]; rfl) (by decide) ?_
            refine e_aload_n (dt dk_L_law_3 21 rfl) rfl ?_
            refine e_aload_n (dt dk_L_law_3 22 rfl) rfl ?_
            refine e_iload_n (dt dk_L_law_3 23 rfl) rfl ?_
            refine e_iconst (v := (1 : Int32)) (dt dk_L_law_3 24 rfl) (by decide) ?_
            refine e_iadd (dt dk_L_law_3 25 rfl) ?_
            refine e_if (fun h36 => ?_)
            refine e_iaS' (dt dk_L_law_3 26 rfl) h36 ?_
            refine ev_call (ca_V (k := 0) mv_X9_say (sp_X9_say (sf (ix (v3 + (1 : Int32)))) M) (dt dk_L_law_3 27 rfl) ml_L_28 rfl rfl rfl rfl rfl (by decide) : Ca _ _ _ _ _ _ _ _ [] _ _) (fun q37 hq37 => ?_)
            show Ev _ _ _ _ _ _ 298 [some (.ref 77), some (.ref 0), some (.ref 53), some (.int v3)] [.int q37.1] q37.2 _
            refine e_aload_n (dt dk_L_law_3 28 rfl) rfl ?_
            refine e_aload_n (dt dk_L_law_3 29 rfl) rfl ?_
            refine e_iload_n (dt dk_L_law_3 30 rfl) rfl ?_
            refine e_iconst (v := (1 : Int32)) (dt dk_L_law_3 31 rfl) (by decide) ?_
            refine e_iadd (dt dk_L_law_3 32 rfl) ?_
            refine e_if (fun h38 => ?_)
            refine e_iaS' (dt dk_L_law_3 33 rfl) h38 ?_
            refine ev_call (ca_V (k := 53) mv_X10_say (sp_X10_say (sf (ix (v3 + (1 : Int32)))) q37.2) (dt dk_L_law_3 34 rfl) ml_L_31 rfl rfl rfl rfl rfl (by decide) : Ca _ _ _ _ _ _ _ _ [.int q37.1] _ _) (fun q39 hq39 => ?_)
            show Ev _ _ _ _ _ _ 307 [some (.ref 77), some (.ref 0), some (.ref 53), some (.int v3)] [.int q39.1, .int q37.1] q39.2 _
            refine e_icmp_eq 883 (dt dk_L_law_3 35 rfl) (by decide) (fun h40 => ?_) (fun h40 => ?_)
            · refine e_iinc [some (.ref 77), some (.ref 0), some (.ref 53), some (.int (v3 + (6 : Int32)))] (dt dk_L_law_15 9 rfl) rfl rfl rfl rfl ?_
              refine e_goto 18 (dt dk_L_law_15 10 rfl) (by decide) ?_
              exact e_forget [true, true, true, true] [some (.ref 77), some (.ref 0), some (.ref 53), some (.int (v3 + (6 : Int32)))] ⟨rfl, rfl⟩ (hK18 (v3 + (6 : Int32)) q39.2)
            · refine e_iconst (v := (0 : Int32)) (dt dk_L_law_3 36 rfl) (by decide) ?_
              exact e_iret (dt dk_L_law_3 37 rfl) rfl rfl rfl
          · skip
            refine e_split (fun h41 => ?_) (fun h41 => ?_)
            · refine e_tableIn 312 (dt dk_L_law_0 21 rfl) (by rw [h41]; decide) (by rw [h41]; decide) (by rw [h41]; rfl) (by decide) ?_
              refine e_aload_n (dt dk_L_law_3 38 rfl) rfl ?_
              refine ev_call (ca_V (k := 0) mv_X9_wipe (sp_X9_wipe M) (dt dk_L_law_3 39 rfl) ml_L_32 rfl rfl rfl rfl rfl (by decide) : Ca _ _ _ _ _ _ _ _ [] _ _) (fun q42 hq42 => ?_)
              show Ev _ _ _ _ _ _ 316 [some (.ref 77), some (.ref 0), some (.ref 53), some (.int v3)] [.int q42.1] q42.2 _
              refine e_aload_n (dt dk_L_law_4 0 rfl) rfl ?_
              refine ev_call (ca_V (k := 53) mv_X10_wipe (sp_X10_wipe q42.2) (dt dk_L_law_4 1 rfl) ml_L_36 rfl rfl rfl rfl rfl (by decide) : Ca _ _ _ _ _ _ _ _ [.int q42.1] _ _) (fun q43 hq43 => ?_)
              show Ev _ _ _ _ _ _ 320 [some (.ref 77), some (.ref 0), some (.ref 53), some (.int v3)] [.int q43.1, .int q42.1] q43.2 _
              refine e_icmp_eq 883 (dt dk_L_law_4 2 rfl) (by decide) (fun h44 => ?_) (fun h44 => ?_)
              · refine e_iinc [some (.ref 77), some (.ref 0), some (.ref 53), some (.int (v3 + (6 : Int32)))] (dt dk_L_law_15 9 rfl) rfl rfl rfl rfl ?_
                refine e_goto 18 (dt dk_L_law_15 10 rfl) (by decide) ?_
                exact e_forget [true, true, true, true] [some (.ref 77), some (.ref 0), some (.ref 53), some (.int (v3 + (6 : Int32)))] ⟨rfl, rfl⟩ (hK18 (v3 + (6 : Int32)) q43.2)
              · refine e_iconst (v := (0 : Int32)) (dt dk_L_law_4 3 rfl) (by decide) ?_
                exact e_iret (dt dk_L_law_4 4 rfl) rfl rfl rfl
            · skip
              refine e_split (fun h45 => ?_) (fun h45 => ?_)
              · refine e_tableIn 325 (dt dk_L_law_0 21 rfl) (by rw [h45]; decide) (by rw [h45]; decide) (by rw [h45]; rfl) (by decide) ?_
                refine e_aload_n (dt dk_L_law_4 5 rfl) rfl ?_
                refine ev_call (ca_V (k := 0) mv_X9_fault (sp_X9_fault M) (dt dk_L_law_4 6 rfl) ml_L_37 rfl rfl rfl rfl rfl (by decide) : Ca _ _ _ _ _ _ _ _ [] _ _) (fun r46 hr46 => ?_)
                show Ev _ _ _ _ _ _ 329 [some (.ref 77), some (.ref 0), some (.ref 53), some (.int v3)] [.int r46] M _
                refine e_aload_n (dt dk_L_law_4 7 rfl) rfl ?_
                refine ev_call (ca_V (k := 53) mv_X10_fault (sp_X10_fault M) (dt dk_L_law_4 8 rfl) ml_L_40 rfl rfl rfl rfl rfl (by decide) : Ca _ _ _ _ _ _ _ _ [.int r46] _ _) (fun q47 hq47 => ?_)
                show Ev _ _ _ _ _ _ 333 [some (.ref 77), some (.ref 0), some (.ref 53), some (.int v3)] [.int q47.1, .int r46] q47.2 _
                refine e_icmp_eq 883 (dt dk_L_law_4 9 rfl) (by decide) (fun h48 => ?_) (fun h48 => ?_)
                · refine e_iinc [some (.ref 77), some (.ref 0), some (.ref 53), some (.int (v3 + (6 : Int32)))] (dt dk_L_law_15 9 rfl) rfl rfl rfl rfl ?_
                  refine e_goto 18 (dt dk_L_law_15 10 rfl) (by decide) ?_
                  exact e_forget [true, true, true, true] [some (.ref 77), some (.ref 0), some (.ref 53), some (.int (v3 + (6 : Int32)))] ⟨rfl, rfl⟩ (hK18 (v3 + (6 : Int32)) q47.2)
                · refine e_iconst (v := (0 : Int32)) (dt dk_L_law_4 10 rfl) (by decide) ?_
                  exact e_iret (dt dk_L_law_4 11 rfl) rfl rfl rfl
              · skip
                refine e_split (fun h49 => ?_) (fun h49 => ?_)
                · refine e_tableIn 338 (dt dk_L_law_0 21 rfl) (by rw [h49]; decide) (by rw [h49]; decide) (by rw [h49]; rfl) (by decide) ?_
                  refine e_aload_n (dt dk_L_law_4 12 rfl) rfl ?_
                  refine e_aload_n (dt dk_L_law_4 13 rfl) rfl ?_
                  refine e_iload_n (dt dk_L_law_4 14 rfl) rfl ?_
                  refine e_iconst (v := (1 : Int32)) (dt dk_L_law_4 15 rfl) (by decide) ?_
                  refine e_iadd (dt dk_L_law_4 16 rfl) ?_
                  refine e_if (fun h50 => ?_)
                  refine e_iaS' (dt dk_L_law_4 17 rfl) h50 ?_
                  refine ev_call (ca_V (k := 0) mv_X9_judge (sp_X9_judge (sf (ix (v3 + (1 : Int32)))) M) (dt dk_L_law_4 18 rfl) ml_L_41 rfl rfl rfl rfl rfl (by decide) : Ca _ _ _ _ _ _ _ _ [] _ _) (fun q51 hq51 => ?_)
                  show Ev _ _ _ _ _ _ 347 [some (.ref 77), some (.ref 0), some (.ref 53), some (.int v3)] [.int q51.1] q51.2 _
                  refine e_aload_n (dt dk_L_law_4 19 rfl) rfl ?_
                  refine e_aload_n (dt dk_L_law_4 20 rfl) rfl ?_
                  refine e_iload_n (dt dk_L_law_4 21 rfl) rfl ?_
                  refine e_iconst (v := (1 : Int32)) (dt dk_L_law_4 22 rfl) (by decide) ?_
                  refine e_iadd (dt dk_L_law_4 23 rfl) ?_
                  refine e_if (fun h52 => ?_)
                  refine e_iaS' (dt dk_L_law_4 24 rfl) h52 ?_
                  refine ev_call (ca_V (k := 53) mv_X10_judge (sp_X10_judge (sf (ix (v3 + (1 : Int32)))) q51.2) (dt dk_L_law_4 25 rfl) ml_L_44 rfl rfl rfl rfl rfl (by decide) : Ca _ _ _ _ _ _ _ _ [.int q51.1] _ _) (fun q53 hq53 => ?_)
                  show Ev _ _ _ _ _ _ 356 [some (.ref 77), some (.ref 0), some (.ref 53), some (.int v3)] [.int q53.1, .int q51.1] q53.2 _
                  refine e_icmp_eq 883 (dt dk_L_law_4 26 rfl) (by decide) (fun h54 => ?_) (fun h54 => ?_)
                  · refine e_iinc [some (.ref 77), some (.ref 0), some (.ref 53), some (.int (v3 + (6 : Int32)))] (dt dk_L_law_15 9 rfl) rfl rfl rfl rfl ?_
                    refine e_goto 18 (dt dk_L_law_15 10 rfl) (by decide) ?_
                    exact e_forget [true, true, true, true] [some (.ref 77), some (.ref 0), some (.ref 53), some (.int (v3 + (6 : Int32)))] ⟨rfl, rfl⟩ (hK18 (v3 + (6 : Int32)) q53.2)
                  · refine e_iconst (v := (0 : Int32)) (dt dk_L_law_4 27 rfl) (by decide) ?_
                    exact e_iret (dt dk_L_law_4 28 rfl) rfl rfl rfl
                · skip
                  refine e_split (fun h55 => ?_) (fun h55 => ?_)
                  · refine e_tableIn 361 (dt dk_L_law_0 21 rfl) (by rw [h55]; decide) (by rw [h55]; decide) (by rw [h55]; rfl) (by decide) ?_
                    refine e_aload_n (dt dk_L_law_4 29 rfl) rfl ?_
                    refine e_aload_n (dt dk_L_law_4 30 rfl) rfl ?_
                    refine e_iload_n (dt dk_L_law_4 31 rfl) rfl ?_
                    refine e_iconst (v := (1 : Int32)) (dt dk_L_law_4 32 rfl) (by decide) ?_
                    refine e_iadd (dt dk_L_law_4 33 rfl) ?_
                    refine e_if (fun h56 => ?_)
                    refine e_iaS' (dt dk_L_law_4 34 rfl) h56 ?_
                    refine e_aload_n (dt dk_L_law_4 35 rfl) rfl ?_
                    refine e_iload_n (dt dk_L_law_4 36 rfl) rfl ?_
                    refine e_iconst (v := (2 : Int32)) (dt dk_L_law_4 37 rfl) (by decide) ?_
                    refine e_iadd (dt dk_L_law_4 38 rfl) ?_
                    refine e_if (fun h57 => ?_)
                    refine e_iaS' (dt dk_L_law_4 39 rfl) h57 ?_
                    refine ev_call (ca_V (k := 0) mv_X9_behind (sp_X9_behind (sf (ix (v3 + (1 : Int32)))) (sf (ix (v3 + (2 : Int32)))) M) (dt dk_L_law_5 0 rfl) ml_L_45 rfl rfl rfl rfl rfl (by decide) : Ca _ _ _ _ _ _ _ _ [] _ _) (fun q58 hq58 => ?_)
                    show Ev _ _ _ _ _ _ 375 [some (.ref 77), some (.ref 0), some (.ref 53), some (.int v3)] [.int q58.1] q58.2 _
                    refine e_aload_n (dt dk_L_law_5 1 rfl) rfl ?_
                    refine e_aload_n (dt dk_L_law_5 2 rfl) rfl ?_
                    refine e_iload_n (dt dk_L_law_5 3 rfl) rfl ?_
                    refine e_iconst (v := (1 : Int32)) (dt dk_L_law_5 4 rfl) (by decide) ?_
                    refine e_iadd (dt dk_L_law_5 5 rfl) ?_
                    refine e_if (fun h59 => ?_)
                    refine e_iaS' (dt dk_L_law_5 6 rfl) h59 ?_
                    refine e_aload_n (dt dk_L_law_5 7 rfl) rfl ?_
                    refine e_iload_n (dt dk_L_law_5 8 rfl) rfl ?_
                    refine e_iconst (v := (2 : Int32)) (dt dk_L_law_5 9 rfl) (by decide) ?_
                    refine e_iadd (dt dk_L_law_5 10 rfl) ?_
                    refine e_if (fun h60 => ?_)
                    refine e_iaS' (dt dk_L_law_5 11 rfl) h60 ?_
                    refine ev_call (ca_V (k := 53) mv_X10_behind (sp_X10_behind (sf (ix (v3 + (1 : Int32)))) (sf (ix (v3 + (2 : Int32)))) q58.2) (dt dk_L_law_5 12 rfl) ml_L_49 rfl rfl rfl rfl rfl (by decide) : Ca _ _ _ _ _ _ _ _ [.int q58.1] _ _) (fun q61 hq61 => ?_)
                    show Ev _ _ _ _ _ _ 389 [some (.ref 77), some (.ref 0), some (.ref 53), some (.int v3)] [.int q61.1, .int q58.1] q61.2 _
                    refine e_icmp_eq 883 (dt dk_L_law_5 13 rfl) (by decide) (fun h62 => ?_) (fun h62 => ?_)
                    · refine e_iinc [some (.ref 77), some (.ref 0), some (.ref 53), some (.int (v3 + (6 : Int32)))] (dt dk_L_law_15 9 rfl) rfl rfl rfl rfl ?_
                      refine e_goto 18 (dt dk_L_law_15 10 rfl) (by decide) ?_
                      exact e_forget [true, true, true, true] [some (.ref 77), some (.ref 0), some (.ref 53), some (.int (v3 + (6 : Int32)))] ⟨rfl, rfl⟩ (hK18 (v3 + (6 : Int32)) q61.2)
                    · refine e_iconst (v := (0 : Int32)) (dt dk_L_law_5 14 rfl) (by decide) ?_
                      exact e_iret (dt dk_L_law_5 15 rfl) rfl rfl rfl
                  · skip
                    refine e_split (fun h63 => ?_) (fun h63 => ?_)
                    · refine e_tableIn 394 (dt dk_L_law_0 21 rfl) (by rw [h63]; decide) (by rw [h63]; decide) (by rw [h63]; rfl) (by decide) ?_
                      refine e_aload_n (dt dk_L_law_5 16 rfl) rfl ?_
                      refine e_aload_n (dt dk_L_law_5 17 rfl) rfl ?_
                      refine e_iload_n (dt dk_L_law_5 18 rfl) rfl ?_
                      refine e_iconst (v := (1 : Int32)) (dt dk_L_law_5 19 rfl) (by decide) ?_
                      refine e_iadd (dt dk_L_law_5 20 rfl) ?_
                      refine e_if (fun h64 => ?_)
                      refine e_iaS' (dt dk_L_law_5 21 rfl) h64 ?_
                      refine ev_call (ca_V (k := 0) mv_X9_town (sp_X9_town (sf (ix (v3 + (1 : Int32)))) M) (dt dk_L_law_5 22 rfl) ml_L_50 rfl rfl rfl rfl rfl (by decide) : Ca _ _ _ _ _ _ _ _ [] _ _) (fun q65 hq65 => ?_)
                      show Ev _ _ _ _ _ _ 403 [some (.ref 77), some (.ref 0), some (.ref 53), some (.int v3)] [.int q65.1] q65.2 _
                      refine e_aload_n (dt dk_L_law_5 23 rfl) rfl ?_
                      refine e_aload_n (dt dk_L_law_5 24 rfl) rfl ?_
                      refine e_iload_n (dt dk_L_law_5 25 rfl) rfl ?_
                      refine e_iconst (v := (1 : Int32)) (dt dk_L_law_5 26 rfl) (by decide) ?_
                      refine e_iadd (dt dk_L_law_5 27 rfl) ?_
                      refine e_if (fun h66 => ?_)
                      refine e_iaS' (dt dk_L_law_5 28 rfl) h66 ?_
                      refine ev_call (ca_V (k := 53) mv_X10_town (sp_X10_town (sf (ix (v3 + (1 : Int32)))) q65.2) (dt dk_L_law_5 29 rfl) ml_L_53 rfl rfl rfl rfl rfl (by decide) : Ca _ _ _ _ _ _ _ _ [.int q65.1] _ _) (fun q67 hq67 => ?_)
                      show Ev _ _ _ _ _ _ 412 [some (.ref 77), some (.ref 0), some (.ref 53), some (.int v3)] [.int q67.1, .int q65.1] q67.2 _
                      refine e_icmp_eq 883 (dt dk_L_law_5 30 rfl) (by decide) (fun h68 => ?_) (fun h68 => ?_)
                      · refine e_iinc [some (.ref 77), some (.ref 0), some (.ref 53), some (.int (v3 + (6 : Int32)))] (dt dk_L_law_15 9 rfl) rfl rfl rfl rfl ?_
                        refine e_goto 18 (dt dk_L_law_15 10 rfl) (by decide) ?_
                        exact e_forget [true, true, true, true] [some (.ref 77), some (.ref 0), some (.ref 53), some (.int (v3 + (6 : Int32)))] ⟨rfl, rfl⟩ (hK18 (v3 + (6 : Int32)) q67.2)
                      · refine e_iconst (v := (0 : Int32)) (dt dk_L_law_5 31 rfl) (by decide) ?_
                        exact e_iret (dt dk_L_law_5 32 rfl) rfl rfl rfl
                    · skip
                      refine e_split (fun h69 => ?_) (fun h69 => ?_)
                      · refine e_tableIn 417 (dt dk_L_law_0 21 rfl) (by rw [h69]; decide) (by rw [h69]; decide) (by rw [h69]; rfl) (by decide) ?_
                        refine e_aload_n (dt dk_L_law_5 33 rfl) rfl ?_
                        refine e_aload_n (dt dk_L_law_5 34 rfl) rfl ?_
                        refine e_iload_n (dt dk_L_law_5 35 rfl) rfl ?_
                        refine e_iconst (v := (1 : Int32)) (dt dk_L_law_5 36 rfl) (by decide) ?_
                        refine e_iadd (dt dk_L_law_5 37 rfl) ?_
                        refine e_if (fun h70 => ?_)
                        refine e_iaS' (dt dk_L_law_5 38 rfl) h70 ?_
                        refine ev_call (ca_V (k := 0) mv_X9_rid (sp_X9_rid (sf (ix (v3 + (1 : Int32)))) M) (dt dk_L_law_5 39 rfl) ml_L_54 rfl rfl rfl rfl rfl (by decide) : Ca _ _ _ _ _ _ _ _ [] _ _) (fun q71 hq71 => ?_)
                        show Ev _ _ _ _ _ _ 426 [some (.ref 77), some (.ref 0), some (.ref 53), some (.int v3)] [.int q71.1] q71.2 _
                        refine e_aload_n (dt dk_L_law_6 0 rfl) rfl ?_
                        refine e_aload_n (dt dk_L_law_6 1 rfl) rfl ?_
                        refine e_iload_n (dt dk_L_law_6 2 rfl) rfl ?_
                        refine e_iconst (v := (1 : Int32)) (dt dk_L_law_6 3 rfl) (by decide) ?_
                        refine e_iadd (dt dk_L_law_6 4 rfl) ?_
                        refine e_if (fun h72 => ?_)
                        refine e_iaS' (dt dk_L_law_6 5 rfl) h72 ?_
                        refine ev_call (ca_V (k := 53) mv_X10_rid (sp_X10_rid (sf (ix (v3 + (1 : Int32)))) q71.2) (dt dk_L_law_6 6 rfl) ml_L_57 rfl rfl rfl rfl rfl (by decide) : Ca _ _ _ _ _ _ _ _ [.int q71.1] _ _) (fun q73 hq73 => ?_)
                        show Ev _ _ _ _ _ _ 435 [some (.ref 77), some (.ref 0), some (.ref 53), some (.int v3)] [.int q73.1, .int q71.1] q73.2 _
                        refine e_icmp_eq 883 (dt dk_L_law_6 7 rfl) (by decide) (fun h74 => ?_) (fun h74 => ?_)
                        · refine e_iinc [some (.ref 77), some (.ref 0), some (.ref 53), some (.int (v3 + (6 : Int32)))] (dt dk_L_law_15 9 rfl) rfl rfl rfl rfl ?_
                          refine e_goto 18 (dt dk_L_law_15 10 rfl) (by decide) ?_
                          exact e_forget [true, true, true, true] [some (.ref 77), some (.ref 0), some (.ref 53), some (.int (v3 + (6 : Int32)))] ⟨rfl, rfl⟩ (hK18 (v3 + (6 : Int32)) q73.2)
                        · refine e_iconst (v := (0 : Int32)) (dt dk_L_law_6 8 rfl) (by decide) ?_
                          exact e_iret (dt dk_L_law_6 9 rfl) rfl rfl rfl
                      · skip
                        refine e_split (fun h75 => ?_) (fun h75 => ?_)
                        · refine e_tableIn 440 (dt dk_L_law_0 21 rfl) (by rw [h75]; decide) (by rw [h75]; decide) (by rw [h75]; rfl) (by decide) ?_
                          refine e_aload_n (dt dk_L_law_6 10 rfl) rfl ?_
                          refine ev_call (ca_V (k := 0) mv_X9_done (sp_X9_done M) (dt dk_L_law_6 11 rfl) ml_L_58 rfl rfl rfl rfl rfl (by decide) : Ca _ _ _ _ _ _ _ _ [] _ _) (fun q76 hq76 => ?_)
                          show Ev _ _ _ _ _ _ 444 [some (.ref 77), some (.ref 0), some (.ref 53), some (.int v3)] [.int q76.1] q76.2 _
                          refine e_aload_n (dt dk_L_law_6 12 rfl) rfl ?_
                          refine ev_call (ca_V (k := 53) mv_X10_done (sp_X10_done q76.2) (dt dk_L_law_6 13 rfl) ml_L_61 rfl rfl rfl rfl rfl (by decide) : Ca _ _ _ _ _ _ _ _ [.int q76.1] _ _) (fun q77 hq77 => ?_)
                          show Ev _ _ _ _ _ _ 448 [some (.ref 77), some (.ref 0), some (.ref 53), some (.int v3)] [.int q77.1, .int q76.1] q77.2 _
                          refine e_icmp_eq 883 (dt dk_L_law_6 14 rfl) (by decide) (fun h78 => ?_) (fun h78 => ?_)
                          · refine e_iinc [some (.ref 77), some (.ref 0), some (.ref 53), some (.int (v3 + (6 : Int32)))] (dt dk_L_law_15 9 rfl) rfl rfl rfl rfl ?_
                            refine e_goto 18 (dt dk_L_law_15 10 rfl) (by decide) ?_
                            exact e_forget [true, true, true, true] [some (.ref 77), some (.ref 0), some (.ref 53), some (.int (v3 + (6 : Int32)))] ⟨rfl, rfl⟩ (hK18 (v3 + (6 : Int32)) q77.2)
                          · refine e_iconst (v := (0 : Int32)) (dt dk_L_law_6 15 rfl) (by decide) ?_
                            exact e_iret (dt dk_L_law_6 16 rfl) rfl rfl rfl
                        · skip
                          refine e_split (fun h79 => ?_) (fun h79 => ?_)
                          · refine e_tableIn 453 (dt dk_L_law_0 21 rfl) (by rw [h79]; decide) (by rw [h79]; decide) (by rw [h79]; rfl) (by decide) ?_
                            refine e_aload_n (dt dk_L_law_6 17 rfl) rfl ?_
                            refine e_aload_n (dt dk_L_law_6 18 rfl) rfl ?_
                            refine e_iload_n (dt dk_L_law_6 19 rfl) rfl ?_
                            refine e_iconst (v := (1 : Int32)) (dt dk_L_law_6 20 rfl) (by decide) ?_
                            refine e_iadd (dt dk_L_law_6 21 rfl) ?_
                            refine e_if (fun h80 => ?_)
                            refine e_iaS' (dt dk_L_law_6 22 rfl) h80 ?_
                            refine e_aload_n (dt dk_L_law_6 23 rfl) rfl ?_
                            refine e_iload_n (dt dk_L_law_6 24 rfl) rfl ?_
                            refine e_iconst (v := (2 : Int32)) (dt dk_L_law_6 25 rfl) (by decide) ?_
                            refine e_iadd (dt dk_L_law_6 26 rfl) ?_
                            refine e_if (fun h81 => ?_)
                            refine e_iaS' (dt dk_L_law_6 27 rfl) h81 ?_
                            refine e_aload_n (dt dk_L_law_6 28 rfl) rfl ?_
                            refine e_iload_n (dt dk_L_law_6 29 rfl) rfl ?_
                            refine e_iconst (v := (3 : Int32)) (dt dk_L_law_6 30 rfl) (by decide) ?_
                            refine e_iadd (dt dk_L_law_6 31 rfl) ?_
                            refine e_if (fun h82 => ?_)
                            refine e_iaS' (dt dk_L_law_6 32 rfl) h82 ?_
                            refine e_aload_n (dt dk_L_law_6 33 rfl) rfl ?_
                            refine e_iload_n (dt dk_L_law_6 34 rfl) rfl ?_
                            refine e_iconst (v := (4 : Int32)) (dt dk_L_law_6 35 rfl) (by decide) ?_
                            refine e_iadd (dt dk_L_law_6 36 rfl) ?_
                            refine e_if (fun h83 => ?_)
                            refine e_iaS' (dt dk_L_law_6 37 rfl) h83 ?_
                            refine ev_call (ca_V (k := 0) mv_X9_alone (sp_X9_alone (sf (ix (v3 + (1 : Int32)))) (sf (ix (v3 + (2 : Int32)))) (sf (ix (v3 + (3 : Int32)))) (sf (ix (v3 + (4 : Int32)))) M) (dt dk_L_law_6 38 rfl) ml_L_62 rfl rfl rfl rfl rfl (by decide) : Ca _ _ _ _ _ _ _ _ [] _ _) (fun r84 hr84 => ?_)
                            show Ev _ _ _ _ _ _ 477 [some (.ref 77), some (.ref 0), some (.ref 53), some (.int v3)] [.int r84] M _
                            refine e_aload_n (dt dk_L_law_6 39 rfl) rfl ?_
                            refine e_aload_n (dt dk_L_law_7 0 rfl) rfl ?_
                            refine e_iload_n (dt dk_L_law_7 1 rfl) rfl ?_
                            refine e_iconst (v := (1 : Int32)) (dt dk_L_law_7 2 rfl) (by decide) ?_
                            refine e_iadd (dt dk_L_law_7 3 rfl) ?_
                            refine e_if (fun h85 => ?_)
                            refine e_iaS' (dt dk_L_law_7 4 rfl) h85 ?_
                            refine e_aload_n (dt dk_L_law_7 5 rfl) rfl ?_
                            refine e_iload_n (dt dk_L_law_7 6 rfl) rfl ?_
                            refine e_iconst (v := (2 : Int32)) (dt dk_L_law_7 7 rfl) (by decide) ?_
                            refine e_iadd (dt dk_L_law_7 8 rfl) ?_
                            refine e_if (fun h86 => ?_)
                            refine e_iaS' (dt dk_L_law_7 9 rfl) h86 ?_
                            refine e_aload_n (dt dk_L_law_7 10 rfl) rfl ?_
                            refine e_iload_n (dt dk_L_law_7 11 rfl) rfl ?_
                            refine e_iconst (v := (3 : Int32)) (dt dk_L_law_7 12 rfl) (by decide) ?_
                            refine e_iadd (dt dk_L_law_7 13 rfl) ?_
                            refine e_if (fun h87 => ?_)
                            refine e_iaS' (dt dk_L_law_7 14 rfl) h87 ?_
                            refine e_aload_n (dt dk_L_law_7 15 rfl) rfl ?_
                            refine e_iload_n (dt dk_L_law_7 16 rfl) rfl ?_
                            refine e_iconst (v := (4 : Int32)) (dt dk_L_law_7 17 rfl) (by decide) ?_
                            refine e_iadd (dt dk_L_law_7 18 rfl) ?_
                            refine e_if (fun h88 => ?_)
                            refine e_iaS' (dt dk_L_law_7 19 rfl) h88 ?_
                            refine ev_call (ca_V (k := 53) mv_X10_alone (sp_X10_alone (sf (ix (v3 + (1 : Int32)))) (sf (ix (v3 + (2 : Int32)))) (sf (ix (v3 + (3 : Int32)))) (sf (ix (v3 + (4 : Int32)))) M) (dt dk_L_law_7 20 rfl) ml_L_66 rfl rfl rfl rfl rfl (by decide) : Ca _ _ _ _ _ _ _ _ [.int r84] _ _) (fun r89 hr89 => ?_)
                            show Ev _ _ _ _ _ _ 501 [some (.ref 77), some (.ref 0), some (.ref 53), some (.int v3)] [.int r89, .int r84] M _
                            refine e_icmp_eq 883 (dt dk_L_law_7 21 rfl) (by decide) (fun h90 => ?_) (fun h90 => ?_)
                            · refine e_iinc [some (.ref 77), some (.ref 0), some (.ref 53), some (.int (v3 + (6 : Int32)))] (dt dk_L_law_15 9 rfl) rfl rfl rfl rfl ?_
                              refine e_goto 18 (dt dk_L_law_15 10 rfl) (by decide) ?_
                              exact e_forget [true, true, true, true] [some (.ref 77), some (.ref 0), some (.ref 53), some (.int (v3 + (6 : Int32)))] ⟨rfl, rfl⟩ (hK18 (v3 + (6 : Int32)) M)
                            · refine e_iconst (v := (0 : Int32)) (dt dk_L_law_7 22 rfl) (by decide) ?_
                              exact e_iret (dt dk_L_law_7 23 rfl) rfl rfl rfl
                          · skip
                            refine e_split (fun h91 => ?_) (fun h91 => ?_)
                            · refine e_tableIn 506 (dt dk_L_law_0 21 rfl) (by rw [h91]; decide) (by rw [h91]; decide) (by rw [h91]; rfl) (by decide) ?_
                              refine e_aload_n (dt dk_L_law_7 24 rfl) rfl ?_
                              refine e_aload_n (dt dk_L_law_7 25 rfl) rfl ?_
                              refine e_iload_n (dt dk_L_law_7 26 rfl) rfl ?_
                              refine e_iconst (v := (1 : Int32)) (dt dk_L_law_7 27 rfl) (by decide) ?_
                              refine e_iadd (dt dk_L_law_7 28 rfl) ?_
                              refine e_if (fun h92 => ?_)
                              refine e_iaS' (dt dk_L_law_7 29 rfl) h92 ?_
                              refine ev_call (ca_V (k := 0) mv_X9_terriers (sp_X9_terriers (sf (ix (v3 + (1 : Int32)))) M) (dt dk_L_law_7 30 rfl) ml_L_67 rfl rfl rfl rfl rfl (by decide) : Ca _ _ _ _ _ _ _ _ [] _ _) (fun r93 hr93 => ?_)
                              show Ev _ _ _ _ _ _ 515 [some (.ref 77), some (.ref 0), some (.ref 53), some (.int v3)] [.int r93] M _
                              refine e_aload_n (dt dk_L_law_7 31 rfl) rfl ?_
                              refine e_aload_n (dt dk_L_law_7 32 rfl) rfl ?_
                              refine e_iload_n (dt dk_L_law_7 33 rfl) rfl ?_
                              refine e_iconst (v := (1 : Int32)) (dt dk_L_law_7 34 rfl) (by decide) ?_
                              refine e_iadd (dt dk_L_law_7 35 rfl) ?_
                              refine e_if (fun h94 => ?_)
                              refine e_iaS' (dt dk_L_law_7 36 rfl) h94 ?_
                              refine ev_call (ca_V (k := 53) mv_X10_terriers (sp_X10_terriers (sf (ix (v3 + (1 : Int32)))) M) (dt dk_L_law_7 37 rfl) ml_L_70 rfl rfl rfl rfl rfl (by decide) : Ca _ _ _ _ _ _ _ _ [.int r93] _ _) (fun r95 hr95 => ?_)
                              show Ev _ _ _ _ _ _ 524 [some (.ref 77), some (.ref 0), some (.ref 53), some (.int v3)] [.int r95, .int r93] M _
                              refine e_icmp_eq 883 (dt dk_L_law_7 38 rfl) (by decide) (fun h96 => ?_) (fun h96 => ?_)
                              · refine e_iinc [some (.ref 77), some (.ref 0), some (.ref 53), some (.int (v3 + (6 : Int32)))] (dt dk_L_law_15 9 rfl) rfl rfl rfl rfl ?_
                                refine e_goto 18 (dt dk_L_law_15 10 rfl) (by decide) ?_
                                exact e_forget [true, true, true, true] [some (.ref 77), some (.ref 0), some (.ref 53), some (.int (v3 + (6 : Int32)))] ⟨rfl, rfl⟩ (hK18 (v3 + (6 : Int32)) M)
                              · refine e_iconst (v := (0 : Int32)) (dt dk_L_law_7 39 rfl) (by decide) ?_
                                exact e_iret (dt dk_L_law_8 0 rfl) rfl rfl rfl
                            · skip
                              refine e_split (fun h97 => ?_) (fun h97 => ?_)
                              · refine e_tableIn 529 (dt dk_L_law_0 21 rfl) (by rw [h97]; decide) (by rw [h97]; decide) (by rw [h97]; rfl) (by decide) ?_
                                refine e_aload_n (dt dk_L_law_8 1 rfl) rfl ?_
                                refine e_aload_n (dt dk_L_law_8 2 rfl) rfl ?_
                                refine e_iload_n (dt dk_L_law_8 3 rfl) rfl ?_
                                refine e_iconst (v := (1 : Int32)) (dt dk_L_law_8 4 rfl) (by decide) ?_
                                refine e_iadd (dt dk_L_law_8 5 rfl) ?_
                                refine e_if (fun h98 => ?_)
                                refine e_iaS' (dt dk_L_law_8 6 rfl) h98 ?_
                                refine e_aload_n (dt dk_L_law_8 7 rfl) rfl ?_
                                refine e_iload_n (dt dk_L_law_8 8 rfl) rfl ?_
                                refine e_iconst (v := (2 : Int32)) (dt dk_L_law_8 9 rfl) (by decide) ?_
                                refine e_iadd (dt dk_L_law_8 10 rfl) ?_
                                refine e_if (fun h99 => ?_)
                                refine e_iaS' (dt dk_L_law_8 11 rfl) h99 ?_
                                refine e_aload_n (dt dk_L_law_8 12 rfl) rfl ?_
                                refine e_iload_n (dt dk_L_law_8 13 rfl) rfl ?_
                                refine e_iconst (v := (3 : Int32)) (dt dk_L_law_8 14 rfl) (by decide) ?_
                                refine e_iadd (dt dk_L_law_8 15 rfl) ?_
                                refine e_if (fun h100 => ?_)
                                refine e_iaS' (dt dk_L_law_8 16 rfl) h100 ?_
                                refine e_aload_n (dt dk_L_law_8 17 rfl) rfl ?_
                                refine e_iload_n (dt dk_L_law_8 18 rfl) rfl ?_
                                refine e_iconst (v := (4 : Int32)) (dt dk_L_law_8 19 rfl) (by decide) ?_
                                refine e_iadd (dt dk_L_law_8 20 rfl) ?_
                                refine e_if (fun h101 => ?_)
                                refine e_iaS' (dt dk_L_law_8 21 rfl) h101 ?_
                                refine ev_call (ca_V (k := 0) mv_X9_heard (sp_X9_heard (sf (ix (v3 + (1 : Int32)))) (sf (ix (v3 + (2 : Int32)))) (sf (ix (v3 + (3 : Int32)))) (sf (ix (v3 + (4 : Int32)))) M) (dt dk_L_law_8 22 rfl) ml_L_71 rfl rfl rfl rfl rfl (by decide) : Ca _ _ _ _ _ _ _ _ [] _ _) (fun q102 hq102 => ?_)
                                show Ev _ _ _ _ _ _ 553 [some (.ref 77), some (.ref 0), some (.ref 53), some (.int v3)] [.int q102.1] q102.2 _
                                refine e_aload_n (dt dk_L_law_8 23 rfl) rfl ?_
                                refine e_aload_n (dt dk_L_law_8 24 rfl) rfl ?_
                                refine e_iload_n (dt dk_L_law_8 25 rfl) rfl ?_
                                refine e_iconst (v := (1 : Int32)) (dt dk_L_law_8 26 rfl) (by decide) ?_
                                refine e_iadd (dt dk_L_law_8 27 rfl) ?_
                                refine e_if (fun h103 => ?_)
                                refine e_iaS' (dt dk_L_law_8 28 rfl) h103 ?_
                                refine e_aload_n (dt dk_L_law_8 29 rfl) rfl ?_
                                refine e_iload_n (dt dk_L_law_8 30 rfl) rfl ?_
                                refine e_iconst (v := (2 : Int32)) (dt dk_L_law_8 31 rfl) (by decide) ?_
                                refine e_iadd (dt dk_L_law_8 32 rfl) ?_
                                refine e_if (fun h104 => ?_)
                                refine e_iaS' (dt dk_L_law_8 33 rfl) h104 ?_
                                refine e_aload_n (dt dk_L_law_8 34 rfl) rfl ?_
                                refine e_iload_n (dt dk_L_law_8 35 rfl) rfl ?_
                                refine e_iconst (v := (3 : Int32)) (dt dk_L_law_8 36 rfl) (by decide) ?_
                                refine e_iadd (dt dk_L_law_8 37 rfl) ?_
                                refine e_if (fun h105 => ?_)
                                refine e_iaS' (dt dk_L_law_8 38 rfl) h105 ?_
                                refine e_aload_n (dt dk_L_law_8 39 rfl) rfl ?_
                                refine e_iload_n (dt dk_L_law_9 0 rfl) rfl ?_
                                refine e_iconst (v := (4 : Int32)) (dt dk_L_law_9 1 rfl) (by decide) ?_
                                refine e_iadd (dt dk_L_law_9 2 rfl) ?_
                                refine e_if (fun h106 => ?_)
                                refine e_iaS' (dt dk_L_law_9 3 rfl) h106 ?_
                                refine ev_call (ca_V (k := 53) mv_X10_heard (sp_X10_heard (sf (ix (v3 + (1 : Int32)))) (sf (ix (v3 + (2 : Int32)))) (sf (ix (v3 + (3 : Int32)))) (sf (ix (v3 + (4 : Int32)))) q102.2) (dt dk_L_law_9 4 rfl) ml_L_74 rfl rfl rfl rfl rfl (by decide) : Ca _ _ _ _ _ _ _ _ [.int q102.1] _ _) (fun q107 hq107 => ?_)
                                show Ev _ _ _ _ _ _ 577 [some (.ref 77), some (.ref 0), some (.ref 53), some (.int v3)] [.int q107.1, .int q102.1] q107.2 _
                                refine e_icmp_eq 883 (dt dk_L_law_9 5 rfl) (by decide) (fun h108 => ?_) (fun h108 => ?_)
                                · refine e_iinc [some (.ref 77), some (.ref 0), some (.ref 53), some (.int (v3 + (6 : Int32)))] (dt dk_L_law_15 9 rfl) rfl rfl rfl rfl ?_
                                  refine e_goto 18 (dt dk_L_law_15 10 rfl) (by decide) ?_
                                  exact e_forget [true, true, true, true] [some (.ref 77), some (.ref 0), some (.ref 53), some (.int (v3 + (6 : Int32)))] ⟨rfl, rfl⟩ (hK18 (v3 + (6 : Int32)) q107.2)
                                · refine e_iconst (v := (0 : Int32)) (dt dk_L_law_9 6 rfl) (by decide) ?_
                                  exact e_iret (dt dk_L_law_9 7 rfl) rfl rfl rfl
                              · skip
                                refine e_split (fun h109 => ?_) (fun h109 => ?_)
                                · refine e_tableIn 582 (dt dk_L_law_0 21 rfl) (by rw [h109]; decide) (by rw [h109]; decide) (by rw [h109]; rfl) (by decide) ?_
                                  refine e_aload_n (dt dk_L_law_9 8 rfl) rfl ?_
                                  refine e_aload_n (dt dk_L_law_9 9 rfl) rfl ?_
                                  refine e_iload_n (dt dk_L_law_9 10 rfl) rfl ?_
                                  refine e_iconst (v := (1 : Int32)) (dt dk_L_law_9 11 rfl) (by decide) ?_
                                  refine e_iadd (dt dk_L_law_9 12 rfl) ?_
                                  refine e_if (fun h110 => ?_)
                                  refine e_iaS' (dt dk_L_law_9 13 rfl) h110 ?_
                                  refine e_aload_n (dt dk_L_law_9 14 rfl) rfl ?_
                                  refine e_iload_n (dt dk_L_law_9 15 rfl) rfl ?_
                                  refine e_iconst (v := (2 : Int32)) (dt dk_L_law_9 16 rfl) (by decide) ?_
                                  refine e_iadd (dt dk_L_law_9 17 rfl) ?_
                                  refine e_if (fun h111 => ?_)
                                  refine e_iaS' (dt dk_L_law_9 18 rfl) h111 ?_
                                  refine ev_call (ca_V (k := 0) mv_X9_gnawed (sp_X9_gnawed (sf (ix (v3 + (1 : Int32)))) (sf (ix (v3 + (2 : Int32)))) M) (dt dk_L_law_9 19 rfl) ml_L_75 rfl rfl rfl rfl rfl (by decide) : Ca _ _ _ _ _ _ _ _ [] _ _) (fun q112 hq112 => ?_)
                                  show Ev _ _ _ _ _ _ 596 [some (.ref 77), some (.ref 0), some (.ref 53), some (.int v3)] [.int q112.1] q112.2 _
                                  refine e_aload_n (dt dk_L_law_9 20 rfl) rfl ?_
                                  refine e_aload_n (dt dk_L_law_9 21 rfl) rfl ?_
                                  refine e_iload_n (dt dk_L_law_9 22 rfl) rfl ?_
                                  refine e_iconst (v := (1 : Int32)) (dt dk_L_law_9 23 rfl) (by decide) ?_
                                  refine e_iadd (dt dk_L_law_9 24 rfl) ?_
                                  refine e_if (fun h113 => ?_)
                                  refine e_iaS' (dt dk_L_law_9 25 rfl) h113 ?_
                                  refine e_aload_n (dt dk_L_law_9 26 rfl) rfl ?_
                                  refine e_iload_n (dt dk_L_law_9 27 rfl) rfl ?_
                                  refine e_iconst (v := (2 : Int32)) (dt dk_L_law_9 28 rfl) (by decide) ?_
                                  refine e_iadd (dt dk_L_law_9 29 rfl) ?_
                                  refine e_if (fun h114 => ?_)
                                  refine e_iaS' (dt dk_L_law_9 30 rfl) h114 ?_
                                  refine ev_call (ca_V (k := 53) mv_X10_gnawed (sp_X10_gnawed (sf (ix (v3 + (1 : Int32)))) (sf (ix (v3 + (2 : Int32)))) q112.2) (dt dk_L_law_9 31 rfl) ml_L_78 rfl rfl rfl rfl rfl (by decide) : Ca _ _ _ _ _ _ _ _ [.int q112.1] _ _) (fun q115 hq115 => ?_)
                                  show Ev _ _ _ _ _ _ 610 [some (.ref 77), some (.ref 0), some (.ref 53), some (.int v3)] [.int q115.1, .int q112.1] q115.2 _
                                  refine e_icmp_eq 883 (dt dk_L_law_9 32 rfl) (by decide) (fun h116 => ?_) (fun h116 => ?_)
                                  · refine e_iinc [some (.ref 77), some (.ref 0), some (.ref 53), some (.int (v3 + (6 : Int32)))] (dt dk_L_law_15 9 rfl) rfl rfl rfl rfl ?_
                                    refine e_goto 18 (dt dk_L_law_15 10 rfl) (by decide) ?_
                                    exact e_forget [true, true, true, true] [some (.ref 77), some (.ref 0), some (.ref 53), some (.int (v3 + (6 : Int32)))] ⟨rfl, rfl⟩ (hK18 (v3 + (6 : Int32)) q115.2)
                                  · refine e_iconst (v := (0 : Int32)) (dt dk_L_law_9 33 rfl) (by decide) ?_
                                    exact e_iret (dt dk_L_law_9 34 rfl) rfl rfl rfl
                                · skip
                                  refine e_split (fun h117 => ?_) (fun h117 => ?_)
                                  · refine e_tableIn 615 (dt dk_L_law_0 21 rfl) (by rw [h117]; decide) (by rw [h117]; decide) (by rw [h117]; rfl) (by decide) ?_
                                    refine e_aload_n (dt dk_L_law_9 35 rfl) rfl ?_
                                    refine ev_call (ca_V (k := 0) mv_X9_forget (sp_X9_forget M) (dt dk_L_law_9 36 rfl) ml_L_79 rfl rfl rfl rfl rfl (by decide) : Ca _ _ _ _ _ _ _ _ [] _ _) (fun q118 hq118 => ?_)
                                    show Ev _ _ _ _ _ _ 619 [some (.ref 77), some (.ref 0), some (.ref 53), some (.int v3)] [.int q118.1] q118.2 _
                                    refine e_aload_n (dt dk_L_law_9 37 rfl) rfl ?_
                                    refine ev_call (ca_V (k := 53) mv_X10_forget (sp_X10_forget q118.2) (dt dk_L_law_9 38 rfl) ml_L_82 rfl rfl rfl rfl rfl (by decide) : Ca _ _ _ _ _ _ _ _ [.int q118.1] _ _) (fun q119 hq119 => ?_)
                                    show Ev _ _ _ _ _ _ 623 [some (.ref 77), some (.ref 0), some (.ref 53), some (.int v3)] [.int q119.1, .int q118.1] q119.2 _
                                    refine e_icmp_eq 883 (dt dk_L_law_9 39 rfl) (by decide) (fun h120 => ?_) (fun h120 => ?_)
                                    · refine e_iinc [some (.ref 77), some (.ref 0), some (.ref 53), some (.int (v3 + (6 : Int32)))] (dt dk_L_law_15 9 rfl) rfl rfl rfl rfl ?_
                                      refine e_goto 18 (dt dk_L_law_15 10 rfl) (by decide) ?_
                                      exact e_forget [true, true, true, true] [some (.ref 77), some (.ref 0), some (.ref 53), some (.int (v3 + (6 : Int32)))] ⟨rfl, rfl⟩ (hK18 (v3 + (6 : Int32)) q119.2)
                                    · refine e_iconst (v := (0 : Int32)) (dt dk_L_law_10 0 rfl) (by decide) ?_
                                      exact e_iret (dt dk_L_law_10 1 rfl) rfl rfl rfl
                                  · skip
                                    refine e_split (fun h121 => ?_) (fun h121 => ?_)
                                    · refine e_tableIn 628 (dt dk_L_law_0 21 rfl) (by rw [h121]; decide) (by rw [h121]; decide) (by rw [h121]; rfl) (by decide) ?_
                                      refine e_aload_n (dt dk_L_law_10 2 rfl) rfl ?_
                                      refine e_aload_n (dt dk_L_law_10 3 rfl) rfl ?_
                                      refine e_iload_n (dt dk_L_law_10 4 rfl) rfl ?_
                                      refine e_iconst (v := (1 : Int32)) (dt dk_L_law_10 5 rfl) (by decide) ?_
                                      refine e_iadd (dt dk_L_law_10 6 rfl) ?_
                                      refine e_if (fun h122 => ?_)
                                      refine e_iaS' (dt dk_L_law_10 7 rfl) h122 ?_
                                      refine ev_call (ca_V (k := 0) mv_X9_fits (sp_X9_fits (sf (ix (v3 + (1 : Int32)))) M) (dt dk_L_law_10 8 rfl) ml_L_83 rfl rfl rfl rfl rfl (by decide) : Ca _ _ _ _ _ _ _ _ [] _ _) (fun r123 hr123 => ?_)
                                      show Ev _ _ _ _ _ _ 637 [some (.ref 77), some (.ref 0), some (.ref 53), some (.int v3)] [.int r123] M _
                                      refine e_aload_n (dt dk_L_law_10 9 rfl) rfl ?_
                                      refine e_aload_n (dt dk_L_law_10 10 rfl) rfl ?_
                                      refine e_iload_n (dt dk_L_law_10 11 rfl) rfl ?_
                                      refine e_iconst (v := (1 : Int32)) (dt dk_L_law_10 12 rfl) (by decide) ?_
                                      refine e_iadd (dt dk_L_law_10 13 rfl) ?_
                                      refine e_if (fun h124 => ?_)
                                      refine e_iaS' (dt dk_L_law_10 14 rfl) h124 ?_
                                      refine ev_call (ca_V (k := 53) mv_X10_fits (sp_X10_fits (sf (ix (v3 + (1 : Int32)))) M) (dt dk_L_law_10 15 rfl) ml_L_86 rfl rfl rfl rfl rfl (by decide) : Ca _ _ _ _ _ _ _ _ [.int r123] _ _) (fun r125 hr125 => ?_)
                                      show Ev _ _ _ _ _ _ 646 [some (.ref 77), some (.ref 0), some (.ref 53), some (.int v3)] [.int r125, .int r123] M _
                                      refine e_icmp_eq 883 (dt dk_L_law_10 16 rfl) (by decide) (fun h126 => ?_) (fun h126 => ?_)
                                      · refine e_iinc [some (.ref 77), some (.ref 0), some (.ref 53), some (.int (v3 + (6 : Int32)))] (dt dk_L_law_15 9 rfl) rfl rfl rfl rfl ?_
                                        refine e_goto 18 (dt dk_L_law_15 10 rfl) (by decide) ?_
                                        exact e_forget [true, true, true, true] [some (.ref 77), some (.ref 0), some (.ref 53), some (.int (v3 + (6 : Int32)))] ⟨rfl, rfl⟩ (hK18 (v3 + (6 : Int32)) M)
                                      · refine e_iconst (v := (0 : Int32)) (dt dk_L_law_10 17 rfl) (by decide) ?_
                                        exact e_iret (dt dk_L_law_10 18 rfl) rfl rfl rfl
                                    · skip
                                      refine e_split (fun h127 => ?_) (fun h127 => ?_)
                                      · refine e_tableIn 651 (dt dk_L_law_0 21 rfl) (by rw [h127]; decide) (by rw [h127]; decide) (by rw [h127]; rfl) (by decide) ?_
                                        refine e_aload_n (dt dk_L_law_10 19 rfl) rfl ?_
                                        refine e_aload_n (dt dk_L_law_10 20 rfl) rfl ?_
                                        refine e_iload_n (dt dk_L_law_10 21 rfl) rfl ?_
                                        refine e_iconst (v := (1 : Int32)) (dt dk_L_law_10 22 rfl) (by decide) ?_
                                        refine e_iadd (dt dk_L_law_10 23 rfl) ?_
                                        refine e_if (fun h128 => ?_)
                                        refine e_iaS' (dt dk_L_law_10 24 rfl) h128 ?_
                                        refine ev_call (ca_V (k := 0) mv_X9_ask (sp_X9_ask (sf (ix (v3 + (1 : Int32)))) M) (dt dk_L_law_10 25 rfl) ml_L_87 rfl rfl rfl rfl rfl (by decide) : Ca _ _ _ _ _ _ _ _ [] _ _) (fun q129 hq129 => ?_)
                                        show Ev _ _ _ _ _ _ 660 [some (.ref 77), some (.ref 0), some (.ref 53), some (.int v3)] [.int q129.1] q129.2 _
                                        refine e_aload_n (dt dk_L_law_10 26 rfl) rfl ?_
                                        refine e_aload_n (dt dk_L_law_10 27 rfl) rfl ?_
                                        refine e_iload_n (dt dk_L_law_10 28 rfl) rfl ?_
                                        refine e_iconst (v := (1 : Int32)) (dt dk_L_law_10 29 rfl) (by decide) ?_
                                        refine e_iadd (dt dk_L_law_10 30 rfl) ?_
                                        refine e_if (fun h130 => ?_)
                                        refine e_iaS' (dt dk_L_law_10 31 rfl) h130 ?_
                                        refine ev_call (ca_V (k := 53) mv_X10_ask (sp_X10_ask (sf (ix (v3 + (1 : Int32)))) q129.2) (dt dk_L_law_10 32 rfl) ml_L_90 rfl rfl rfl rfl rfl (by decide) : Ca _ _ _ _ _ _ _ _ [.int q129.1] _ _) (fun q131 hq131 => ?_)
                                        show Ev _ _ _ _ _ _ 669 [some (.ref 77), some (.ref 0), some (.ref 53), some (.int v3)] [.int q131.1, .int q129.1] q131.2 _
                                        refine e_icmp_eq 883 (dt dk_L_law_10 33 rfl) (by decide) (fun h132 => ?_) (fun h132 => ?_)
                                        · refine e_iinc [some (.ref 77), some (.ref 0), some (.ref 53), some (.int (v3 + (6 : Int32)))] (dt dk_L_law_15 9 rfl) rfl rfl rfl rfl ?_
                                          refine e_goto 18 (dt dk_L_law_15 10 rfl) (by decide) ?_
                                          exact e_forget [true, true, true, true] [some (.ref 77), some (.ref 0), some (.ref 53), some (.int (v3 + (6 : Int32)))] ⟨rfl, rfl⟩ (hK18 (v3 + (6 : Int32)) q131.2)
                                        · refine e_iconst (v := (0 : Int32)) (dt dk_L_law_10 34 rfl) (by decide) ?_
                                          exact e_iret (dt dk_L_law_10 35 rfl) rfl rfl rfl
                                      · skip
                                        refine e_split (fun h133 => ?_) (fun h133 => ?_)
                                        · refine e_tableIn 674 (dt dk_L_law_0 21 rfl) (by rw [h133]; decide) (by rw [h133]; decide) (by rw [h133]; rfl) (by decide) ?_
                                          refine e_aload_n (dt dk_L_law_10 36 rfl) rfl ?_
                                          refine e_aload_n (dt dk_L_law_10 37 rfl) rfl ?_
                                          refine e_iload_n (dt dk_L_law_10 38 rfl) rfl ?_
                                          refine e_iconst (v := (1 : Int32)) (dt dk_L_law_10 39 rfl) (by decide) ?_
                                          refine e_iadd (dt dk_L_law_11 0 rfl) ?_
                                          refine e_if (fun h134 => ?_)
                                          refine e_iaS' (dt dk_L_law_11 1 rfl) h134 ?_
                                          refine e_aload_n (dt dk_L_law_11 2 rfl) rfl ?_
                                          refine e_iload_n (dt dk_L_law_11 3 rfl) rfl ?_
                                          refine e_iconst (v := (2 : Int32)) (dt dk_L_law_11 4 rfl) (by decide) ?_
                                          refine e_iadd (dt dk_L_law_11 5 rfl) ?_
                                          refine e_if (fun h135 => ?_)
                                          refine e_iaS' (dt dk_L_law_11 6 rfl) h135 ?_
                                          refine e_aload_n (dt dk_L_law_11 7 rfl) rfl ?_
                                          refine e_iload_n (dt dk_L_law_11 8 rfl) rfl ?_
                                          refine e_iconst (v := (3 : Int32)) (dt dk_L_law_11 9 rfl) (by decide) ?_
                                          refine e_iadd (dt dk_L_law_11 10 rfl) ?_
                                          refine e_if (fun h136 => ?_)
                                          refine e_iaS' (dt dk_L_law_11 11 rfl) h136 ?_
                                          refine ev_call (ca_V (k := 0) mv_X9_chase (sp_X9_chase (sf (ix (v3 + (1 : Int32)))) (sf (ix (v3 + (2 : Int32)))) (sf (ix (v3 + (3 : Int32)))) M) (dt dk_L_law_11 12 rfl) ml_L_91 rfl rfl rfl rfl rfl (by decide) : Ca _ _ _ _ _ _ _ _ [] _ _) (fun q137 hq137 => ?_)
                                          show Ev _ _ _ _ _ _ 693 [some (.ref 77), some (.ref 0), some (.ref 53), some (.int v3)] [.int q137.1] q137.2 _
                                          refine e_aload_n (dt dk_L_law_11 13 rfl) rfl ?_
                                          refine e_aload_n (dt dk_L_law_11 14 rfl) rfl ?_
                                          refine e_iload_n (dt dk_L_law_11 15 rfl) rfl ?_
                                          refine e_iconst (v := (1 : Int32)) (dt dk_L_law_11 16 rfl) (by decide) ?_
                                          refine e_iadd (dt dk_L_law_11 17 rfl) ?_
                                          refine e_if (fun h138 => ?_)
                                          refine e_iaS' (dt dk_L_law_11 18 rfl) h138 ?_
                                          refine e_aload_n (dt dk_L_law_11 19 rfl) rfl ?_
                                          refine e_iload_n (dt dk_L_law_11 20 rfl) rfl ?_
                                          refine e_iconst (v := (2 : Int32)) (dt dk_L_law_11 21 rfl) (by decide) ?_
                                          refine e_iadd (dt dk_L_law_11 22 rfl) ?_
                                          refine e_if (fun h139 => ?_)
                                          refine e_iaS' (dt dk_L_law_11 23 rfl) h139 ?_
                                          refine e_aload_n (dt dk_L_law_11 24 rfl) rfl ?_
                                          refine e_iload_n (dt dk_L_law_11 25 rfl) rfl ?_
                                          refine e_iconst (v := (3 : Int32)) (dt dk_L_law_11 26 rfl) (by decide) ?_
                                          refine e_iadd (dt dk_L_law_11 27 rfl) ?_
                                          refine e_if (fun h140 => ?_)
                                          refine e_iaS' (dt dk_L_law_11 28 rfl) h140 ?_
                                          refine ev_call (ca_V (k := 53) mv_X10_chase (sp_X10_chase (sf (ix (v3 + (1 : Int32)))) (sf (ix (v3 + (2 : Int32)))) (sf (ix (v3 + (3 : Int32)))) q137.2) (dt dk_L_law_11 29 rfl) ml_L_95 rfl rfl rfl rfl rfl (by decide) : Ca _ _ _ _ _ _ _ _ [.int q137.1] _ _) (fun q141 hq141 => ?_)
                                          show Ev _ _ _ _ _ _ 712 [some (.ref 77), some (.ref 0), some (.ref 53), some (.int v3)] [.int q141.1, .int q137.1] q141.2 _
                                          refine e_icmp_eq 883 (dt dk_L_law_11 30 rfl) (by decide) (fun h142 => ?_) (fun h142 => ?_)
                                          · refine e_iinc [some (.ref 77), some (.ref 0), some (.ref 53), some (.int (v3 + (6 : Int32)))] (dt dk_L_law_15 9 rfl) rfl rfl rfl rfl ?_
                                            refine e_goto 18 (dt dk_L_law_15 10 rfl) (by decide) ?_
                                            exact e_forget [true, true, true, true] [some (.ref 77), some (.ref 0), some (.ref 53), some (.int (v3 + (6 : Int32)))] ⟨rfl, rfl⟩ (hK18 (v3 + (6 : Int32)) q141.2)
                                          · refine e_iconst (v := (0 : Int32)) (dt dk_L_law_11 31 rfl) (by decide) ?_
                                            exact e_iret (dt dk_L_law_11 32 rfl) rfl rfl rfl
                                        · skip
                                          refine e_split (fun h143 => ?_) (fun h143 => ?_)
                                          · refine e_tableIn 717 (dt dk_L_law_0 21 rfl) (by rw [h143]; decide) (by rw [h143]; decide) (by rw [h143]; rfl) (by decide) ?_
                                            refine e_aload_n (dt dk_L_law_11 33 rfl) rfl ?_
                                            refine e_aload_n (dt dk_L_law_11 34 rfl) rfl ?_
                                            refine e_iload_n (dt dk_L_law_11 35 rfl) rfl ?_
                                            refine e_iconst (v := (1 : Int32)) (dt dk_L_law_11 36 rfl) (by decide) ?_
                                            refine e_iadd (dt dk_L_law_11 37 rfl) ?_
                                            refine e_if (fun h144 => ?_)
                                            refine e_iaS' (dt dk_L_law_11 38 rfl) h144 ?_
                                            refine e_aload_n (dt dk_L_law_11 39 rfl) rfl ?_
                                            refine e_iload_n (dt dk_L_law_12 0 rfl) rfl ?_
                                            refine e_iconst (v := (2 : Int32)) (dt dk_L_law_12 1 rfl) (by decide) ?_
                                            refine e_iadd (dt dk_L_law_12 2 rfl) ?_
                                            refine e_if (fun h145 => ?_)
                                            refine e_iaS' (dt dk_L_law_12 3 rfl) h145 ?_
                                            refine e_aload_n (dt dk_L_law_12 4 rfl) rfl ?_
                                            refine e_iload_n (dt dk_L_law_12 5 rfl) rfl ?_
                                            refine e_iconst (v := (3 : Int32)) (dt dk_L_law_12 6 rfl) (by decide) ?_
                                            refine e_iadd (dt dk_L_law_12 7 rfl) ?_
                                            refine e_if (fun h146 => ?_)
                                            refine e_iaS' (dt dk_L_law_12 8 rfl) h146 ?_
                                            refine e_aload_n (dt dk_L_law_12 9 rfl) rfl ?_
                                            refine e_iload_n (dt dk_L_law_12 10 rfl) rfl ?_
                                            refine e_iconst (v := (4 : Int32)) (dt dk_L_law_12 11 rfl) (by decide) ?_
                                            refine e_iadd (dt dk_L_law_12 12 rfl) ?_
                                            refine e_if (fun h147 => ?_)
                                            refine e_iaS' (dt dk_L_law_12 13 rfl) h147 ?_
                                            refine ev_call (ca_V (k := 0) mv_X9_ever (sp_X9_ever (sf (ix (v3 + (1 : Int32)))) (sf (ix (v3 + (2 : Int32)))) (sf (ix (v3 + (3 : Int32)))) (sf (ix (v3 + (4 : Int32)))) M) (dt dk_L_law_12 14 rfl) ml_L_96 rfl rfl rfl rfl rfl (by decide) : Ca _ _ _ _ _ _ _ _ [] _ _) (fun r148 hr148 => ?_)
                                            show Ev _ _ _ _ _ _ 741 [some (.ref 77), some (.ref 0), some (.ref 53), some (.int v3)] [.long r148] M _
                                            refine e_aload_n (dt dk_L_law_12 15 rfl) rfl ?_
                                            refine e_aload_n (dt dk_L_law_12 16 rfl) rfl ?_
                                            refine e_iload_n (dt dk_L_law_12 17 rfl) rfl ?_
                                            refine e_iconst (v := (1 : Int32)) (dt dk_L_law_12 18 rfl) (by decide) ?_
                                            refine e_iadd (dt dk_L_law_12 19 rfl) ?_
                                            refine e_if (fun h149 => ?_)
                                            refine e_iaS' (dt dk_L_law_12 20 rfl) h149 ?_
                                            refine e_aload_n (dt dk_L_law_12 21 rfl) rfl ?_
                                            refine e_iload_n (dt dk_L_law_12 22 rfl) rfl ?_
                                            refine e_iconst (v := (2 : Int32)) (dt dk_L_law_12 23 rfl) (by decide) ?_
                                            refine e_iadd (dt dk_L_law_12 24 rfl) ?_
                                            refine e_if (fun h150 => ?_)
                                            refine e_iaS' (dt dk_L_law_12 25 rfl) h150 ?_
                                            refine e_aload_n (dt dk_L_law_12 26 rfl) rfl ?_
                                            refine e_iload_n (dt dk_L_law_12 27 rfl) rfl ?_
                                            refine e_iconst (v := (3 : Int32)) (dt dk_L_law_12 28 rfl) (by decide) ?_
                                            refine e_iadd (dt dk_L_law_12 29 rfl) ?_
                                            refine e_if (fun h151 => ?_)
                                            refine e_iaS' (dt dk_L_law_12 30 rfl) h151 ?_
                                            refine e_aload_n (dt dk_L_law_12 31 rfl) rfl ?_
                                            refine e_iload_n (dt dk_L_law_12 32 rfl) rfl ?_
                                            refine e_iconst (v := (4 : Int32)) (dt dk_L_law_12 33 rfl) (by decide) ?_
                                            refine e_iadd (dt dk_L_law_12 34 rfl) ?_
                                            refine e_if (fun h152 => ?_)
                                            refine e_iaS' (dt dk_L_law_12 35 rfl) h152 ?_
                                            refine ev_call (ca_V (k := 53) mv_X10_ever (sp_X10_ever (sf (ix (v3 + (1 : Int32)))) (sf (ix (v3 + (2 : Int32)))) (sf (ix (v3 + (3 : Int32)))) (sf (ix (v3 + (4 : Int32)))) M) (dt dk_L_law_12 36 rfl) ml_L_100 rfl rfl rfl rfl rfl (by decide) : Ca _ _ _ _ _ _ _ _ [.long r148] _ _) (fun r153 hr153 => ?_)
                                            show Ev _ _ _ _ _ _ 765 [some (.ref 77), some (.ref 0), some (.ref 53), some (.int v3)] [.long r153, .long r148] M _
                                            refine e_lcmp (dt dk_L_law_12 37 rfl) ?_
                                            refine e_if_eq 883 (dt dk_L_law_12 38 rfl) (by decide) (fun h154 => ?_) (fun h154 => ?_)
                                            · refine e_iinc [some (.ref 77), some (.ref 0), some (.ref 53), some (.int (v3 + (6 : Int32)))] (dt dk_L_law_15 9 rfl) rfl rfl rfl rfl ?_
                                              refine e_goto 18 (dt dk_L_law_15 10 rfl) (by decide) ?_
                                              exact e_forget [true, true, true, true] [some (.ref 77), some (.ref 0), some (.ref 53), some (.int (v3 + (6 : Int32)))] ⟨rfl, rfl⟩ (hK18 (v3 + (6 : Int32)) M)
                                            · refine e_iconst (v := (0 : Int32)) (dt dk_L_law_12 39 rfl) (by decide) ?_
                                              exact e_iret (dt dk_L_law_13 0 rfl) rfl rfl rfl
                                          · skip
                                            refine e_split (fun h155 => ?_) (fun h155 => ?_)
                                            · refine e_tableIn 771 (dt dk_L_law_0 21 rfl) (by rw [h155]; decide) (by rw [h155]; decide) (by rw [h155]; rfl) (by decide) ?_
                                              refine e_aload_n (dt dk_L_law_13 1 rfl) rfl ?_
                                              refine e_aload_n (dt dk_L_law_13 2 rfl) rfl ?_
                                              refine e_iload_n (dt dk_L_law_13 3 rfl) rfl ?_
                                              refine e_iconst (v := (1 : Int32)) (dt dk_L_law_13 4 rfl) (by decide) ?_
                                              refine e_iadd (dt dk_L_law_13 5 rfl) ?_
                                              refine e_if (fun h156 => ?_)
                                              refine e_iaS' (dt dk_L_law_13 6 rfl) h156 ?_
                                              refine e_aload_n (dt dk_L_law_13 7 rfl) rfl ?_
                                              refine e_iload_n (dt dk_L_law_13 8 rfl) rfl ?_
                                              refine e_iconst (v := (2 : Int32)) (dt dk_L_law_13 9 rfl) (by decide) ?_
                                              refine e_iadd (dt dk_L_law_13 10 rfl) ?_
                                              refine e_if (fun h157 => ?_)
                                              refine e_iaS' (dt dk_L_law_13 11 rfl) h157 ?_
                                              refine e_aload_n (dt dk_L_law_13 12 rfl) rfl ?_
                                              refine e_iload_n (dt dk_L_law_13 13 rfl) rfl ?_
                                              refine e_iconst (v := (3 : Int32)) (dt dk_L_law_13 14 rfl) (by decide) ?_
                                              refine e_iadd (dt dk_L_law_13 15 rfl) ?_
                                              refine e_if (fun h158 => ?_)
                                              refine e_iaS' (dt dk_L_law_13 16 rfl) h158 ?_
                                              refine ev_call (ca_V (k := 0) mv_X9_year (sp_X9_year (sf (ix (v3 + (1 : Int32)))) (sf (ix (v3 + (2 : Int32)))) (sf (ix (v3 + (3 : Int32)))) M) (dt dk_L_law_13 17 rfl) ml_L_101 rfl rfl rfl rfl rfl (by decide) : Ca _ _ _ _ _ _ _ _ [] _ _) (fun q159 hq159 => ?_)
                                              show Ev _ _ _ _ _ _ 790 [some (.ref 77), some (.ref 0), some (.ref 53), some (.int v3)] [.int q159.1] q159.2 _
                                              refine e_aload_n (dt dk_L_law_13 18 rfl) rfl ?_
                                              refine e_aload_n (dt dk_L_law_13 19 rfl) rfl ?_
                                              refine e_iload_n (dt dk_L_law_13 20 rfl) rfl ?_
                                              refine e_iconst (v := (1 : Int32)) (dt dk_L_law_13 21 rfl) (by decide) ?_
                                              refine e_iadd (dt dk_L_law_13 22 rfl) ?_
                                              refine e_if (fun h160 => ?_)
                                              refine e_iaS' (dt dk_L_law_13 23 rfl) h160 ?_
                                              refine e_aload_n (dt dk_L_law_13 24 rfl) rfl ?_
                                              refine e_iload_n (dt dk_L_law_13 25 rfl) rfl ?_
                                              refine e_iconst (v := (2 : Int32)) (dt dk_L_law_13 26 rfl) (by decide) ?_
                                              refine e_iadd (dt dk_L_law_13 27 rfl) ?_
                                              refine e_if (fun h161 => ?_)
                                              refine e_iaS' (dt dk_L_law_13 28 rfl) h161 ?_
                                              refine e_aload_n (dt dk_L_law_13 29 rfl) rfl ?_
                                              refine e_iload_n (dt dk_L_law_13 30 rfl) rfl ?_
                                              refine e_iconst (v := (3 : Int32)) (dt dk_L_law_13 31 rfl) (by decide) ?_
                                              refine e_iadd (dt dk_L_law_13 32 rfl) ?_
                                              refine e_if (fun h162 => ?_)
                                              refine e_iaS' (dt dk_L_law_13 33 rfl) h162 ?_
                                              refine ev_call (ca_V (k := 53) mv_X10_year (sp_X10_year (sf (ix (v3 + (1 : Int32)))) (sf (ix (v3 + (2 : Int32)))) (sf (ix (v3 + (3 : Int32)))) q159.2) (dt dk_L_law_13 34 rfl) ml_L_104 rfl rfl rfl rfl rfl (by decide) : Ca _ _ _ _ _ _ _ _ [.int q159.1] _ _) (fun q163 hq163 => ?_)
                                              show Ev _ _ _ _ _ _ 809 [some (.ref 77), some (.ref 0), some (.ref 53), some (.int v3)] [.int q163.1, .int q159.1] q163.2 _
                                              refine e_icmp_eq 883 (dt dk_L_law_13 35 rfl) (by decide) (fun h164 => ?_) (fun h164 => ?_)
                                              · refine e_iinc [some (.ref 77), some (.ref 0), some (.ref 53), some (.int (v3 + (6 : Int32)))] (dt dk_L_law_15 9 rfl) rfl rfl rfl rfl ?_
                                                refine e_goto 18 (dt dk_L_law_15 10 rfl) (by decide) ?_
                                                exact e_forget [true, true, true, true] [some (.ref 77), some (.ref 0), some (.ref 53), some (.int (v3 + (6 : Int32)))] ⟨rfl, rfl⟩ (hK18 (v3 + (6 : Int32)) q163.2)
                                              · refine e_iconst (v := (0 : Int32)) (dt dk_L_law_13 36 rfl) (by decide) ?_
                                                exact e_iret (dt dk_L_law_13 37 rfl) rfl rfl rfl
                                            · skip
                                              refine e_split (fun h165 => ?_) (fun h165 => ?_)
                                              · refine e_tableIn 814 (dt dk_L_law_0 21 rfl) (by rw [h165]; decide) (by rw [h165]; decide) (by rw [h165]; rfl) (by decide) ?_
                                                refine e_aload_n (dt dk_L_law_13 38 rfl) rfl ?_
                                                refine e_aload_n (dt dk_L_law_13 39 rfl) rfl ?_
                                                refine e_iload_n (dt dk_L_law_14 0 rfl) rfl ?_
                                                refine e_iconst (v := (1 : Int32)) (dt dk_L_law_14 1 rfl) (by decide) ?_
                                                refine e_iadd (dt dk_L_law_14 2 rfl) ?_
                                                refine e_if (fun h166 => ?_)
                                                refine e_iaS' (dt dk_L_law_14 3 rfl) h166 ?_
                                                refine ev_call (ca_V (k := 0) mv_X9_image (sp_X9_image (sf (ix (v3 + (1 : Int32)))) M) (dt dk_L_law_14 4 rfl) ml_L_105 rfl rfl rfl rfl rfl (by decide) : Ca _ _ _ _ _ _ _ _ [] _ _) (fun q167 hq167 => ?_)
                                                show Ev _ _ _ _ _ _ 823 [some (.ref 77), some (.ref 0), some (.ref 53), some (.int v3)] [.int q167.1] q167.2 _
                                                refine e_aload_n (dt dk_L_law_14 5 rfl) rfl ?_
                                                refine e_aload_n (dt dk_L_law_14 6 rfl) rfl ?_
                                                refine e_iload_n (dt dk_L_law_14 7 rfl) rfl ?_
                                                refine e_iconst (v := (1 : Int32)) (dt dk_L_law_14 8 rfl) (by decide) ?_
                                                refine e_iadd (dt dk_L_law_14 9 rfl) ?_
                                                refine e_if (fun h168 => ?_)
                                                refine e_iaS' (dt dk_L_law_14 10 rfl) h168 ?_
                                                refine ev_call (ca_V (k := 53) mv_X10_image (sp_X10_image (sf (ix (v3 + (1 : Int32)))) q167.2) (dt dk_L_law_14 11 rfl) ml_L_108 rfl rfl rfl rfl rfl (by decide) : Ca _ _ _ _ _ _ _ _ [.int q167.1] _ _) (fun q169 hq169 => ?_)
                                                show Ev _ _ _ _ _ _ 832 [some (.ref 77), some (.ref 0), some (.ref 53), some (.int v3)] [.int q169.1, .int q167.1] q169.2 _
                                                refine e_icmp_eq 883 (dt dk_L_law_14 12 rfl) (by decide) (fun h170 => ?_) (fun h170 => ?_)
                                                · refine e_iinc [some (.ref 77), some (.ref 0), some (.ref 53), some (.int (v3 + (6 : Int32)))] (dt dk_L_law_15 9 rfl) rfl rfl rfl rfl ?_
                                                  refine e_goto 18 (dt dk_L_law_15 10 rfl) (by decide) ?_
                                                  exact e_forget [true, true, true, true] [some (.ref 77), some (.ref 0), some (.ref 53), some (.int (v3 + (6 : Int32)))] ⟨rfl, rfl⟩ (hK18 (v3 + (6 : Int32)) q169.2)
                                                · refine e_iconst (v := (0 : Int32)) (dt dk_L_law_14 13 rfl) (by decide) ?_
                                                  exact e_iret (dt dk_L_law_14 14 rfl) rfl rfl rfl
                                              · skip
                                                refine e_split (fun h171 => ?_) (fun h171 => ?_)
                                                · refine e_tableIn 837 (dt dk_L_law_0 21 rfl) (by rw [h171]; decide) (by rw [h171]; decide) (by rw [h171]; rfl) (by decide) ?_
                                                  refine e_aload_n (dt dk_L_law_14 15 rfl) rfl ?_
                                                  refine e_aload_n (dt dk_L_law_14 16 rfl) rfl ?_
                                                  refine e_iload_n (dt dk_L_law_14 17 rfl) rfl ?_
                                                  refine e_iconst (v := (1 : Int32)) (dt dk_L_law_14 18 rfl) (by decide) ?_
                                                  refine e_iadd (dt dk_L_law_14 19 rfl) ?_
                                                  refine e_if (fun h172 => ?_)
                                                  refine e_iaS' (dt dk_L_law_14 20 rfl) h172 ?_
                                                  refine ev_call (ca_V (k := 0) mv_X9_restore (sp_X9_restore (sf (ix (v3 + (1 : Int32)))) M) (dt dk_L_law_14 21 rfl) ml_L_109 rfl rfl rfl rfl rfl (by decide) : Ca _ _ _ _ _ _ _ _ [] _ _) (fun q173 hq173 => ?_)
                                                  show Ev _ _ _ _ _ _ 846 [some (.ref 77), some (.ref 0), some (.ref 53), some (.int v3)] [.int q173.1] q173.2 _
                                                  refine e_aload_n (dt dk_L_law_14 22 rfl) rfl ?_
                                                  refine e_aload_n (dt dk_L_law_14 23 rfl) rfl ?_
                                                  refine e_iload_n (dt dk_L_law_14 24 rfl) rfl ?_
                                                  refine e_iconst (v := (1 : Int32)) (dt dk_L_law_14 25 rfl) (by decide) ?_
                                                  refine e_iadd (dt dk_L_law_14 26 rfl) ?_
                                                  refine e_if (fun h174 => ?_)
                                                  refine e_iaS' (dt dk_L_law_14 27 rfl) h174 ?_
                                                  refine ev_call (ca_V (k := 53) mv_X10_restore (sp_X10_restore (sf (ix (v3 + (1 : Int32)))) q173.2) (dt dk_L_law_14 28 rfl) ml_L_112 rfl rfl rfl rfl rfl (by decide) : Ca _ _ _ _ _ _ _ _ [.int q173.1] _ _) (fun q175 hq175 => ?_)
                                                  show Ev _ _ _ _ _ _ 855 [some (.ref 77), some (.ref 0), some (.ref 53), some (.int v3)] [.int q175.1, .int q173.1] q175.2 _
                                                  refine e_icmp_eq 883 (dt dk_L_law_14 29 rfl) (by decide) (fun h176 => ?_) (fun h176 => ?_)
                                                  · refine e_iinc [some (.ref 77), some (.ref 0), some (.ref 53), some (.int (v3 + (6 : Int32)))] (dt dk_L_law_15 9 rfl) rfl rfl rfl rfl ?_
                                                    refine e_goto 18 (dt dk_L_law_15 10 rfl) (by decide) ?_
                                                    exact e_forget [true, true, true, true] [some (.ref 77), some (.ref 0), some (.ref 53), some (.int (v3 + (6 : Int32)))] ⟨rfl, rfl⟩ (hK18 (v3 + (6 : Int32)) q175.2)
                                                  · refine e_iconst (v := (0 : Int32)) (dt dk_L_law_14 30 rfl) (by decide) ?_
                                                    exact e_iret (dt dk_L_law_14 31 rfl) rfl rfl rfl
                                                · skip
                                                  refine e_split (fun h177 => ?_) (fun h177 => ?_)
                                                  · refine e_tableIn 860 (dt dk_L_law_0 21 rfl) (by rw [h177]; decide) (by rw [h177]; decide) (by rw [h177]; rfl) (by decide) ?_
                                                    refine e_aload_n (dt dk_L_law_14 32 rfl) rfl ?_
                                                    refine e_aload_n (dt dk_L_law_14 33 rfl) rfl ?_
                                                    refine e_iload_n (dt dk_L_law_14 34 rfl) rfl ?_
                                                    refine e_iconst (v := (1 : Int32)) (dt dk_L_law_14 35 rfl) (by decide) ?_
                                                    refine e_iadd (dt dk_L_law_14 36 rfl) ?_
                                                    refine e_if (fun h178 => ?_)
                                                    refine e_iaS' (dt dk_L_law_14 37 rfl) h178 ?_
                                                    refine ev_call (ca_V (k := 0) mv_X9_told (sp_X9_told (sf (ix (v3 + (1 : Int32)))) M) (dt dk_L_law_14 38 rfl) ml_L_113 rfl rfl rfl rfl rfl (by decide) : Ca _ _ _ _ _ _ _ _ [] _ _) (fun r179 hr179 => ?_)
                                                    show Ev _ _ _ _ _ _ 869 [some (.ref 77), some (.ref 0), some (.ref 53), some (.int v3)] [.int r179] M _
                                                    refine e_aload_n (dt dk_L_law_14 39 rfl) rfl ?_
                                                    refine e_aload_n (dt dk_L_law_15 0 rfl) rfl ?_
                                                    refine e_iload_n (dt dk_L_law_15 1 rfl) rfl ?_
                                                    refine e_iconst (v := (1 : Int32)) (dt dk_L_law_15 2 rfl) (by decide) ?_
                                                    refine e_iadd (dt dk_L_law_15 3 rfl) ?_
                                                    refine e_if (fun h180 => ?_)
                                                    refine e_iaS' (dt dk_L_law_15 4 rfl) h180 ?_
                                                    refine ev_call (ca_V (k := 53) mv_X10_told (sp_X10_told (sf (ix (v3 + (1 : Int32)))) M) (dt dk_L_law_15 5 rfl) ml_L_116 rfl rfl rfl rfl rfl (by decide) : Ca _ _ _ _ _ _ _ _ [.int r179] _ _) (fun r181 hr181 => ?_)
                                                    show Ev _ _ _ _ _ _ 878 [some (.ref 77), some (.ref 0), some (.ref 53), some (.int v3)] [.int r181, .int r179] M _
                                                    refine e_icmp_eq 883 (dt dk_L_law_15 6 rfl) (by decide) (fun h182 => ?_) (fun h182 => ?_)
                                                    · refine e_iinc [some (.ref 77), some (.ref 0), some (.ref 53), some (.int (v3 + (6 : Int32)))] (dt dk_L_law_15 9 rfl) rfl rfl rfl rfl ?_
                                                      refine e_goto 18 (dt dk_L_law_15 10 rfl) (by decide) ?_
                                                      exact e_forget [true, true, true, true] [some (.ref 77), some (.ref 0), some (.ref 53), some (.int (v3 + (6 : Int32)))] ⟨rfl, rfl⟩ (hK18 (v3 + (6 : Int32)) M)
                                                    · refine e_iconst (v := (0 : Int32)) (dt dk_L_law_15 7 rfl) (by decide) ?_
                                                      exact e_iret (dt dk_L_law_15 8 rfl) rfl rfl rfl
                                                  · skip
                                                    refine e_tableOut 883 (dt dk_L_law_0 21 rfl) (sw_out 23 (by simp only [List.range, List.range.loop, List.all_cons, List.all_nil]; simp [h3, h17, h29, h35, h41, h45, h49, h55, h63, h69, h75, h79, h91, h97, h109, h117, h121, h127, h133, h143, h155, h165, h171, h177])) (by decide) ?_
                                                    refine e_iinc [some (.ref 77), some (.ref 0), some (.ref 53), some (.int (v3 + (6 : Int32)))] (dt dk_L_law_15 9 rfl) rfl rfl rfl rfl ?_
                                                    refine e_goto 18 (dt dk_L_law_15 10 rfl) (by decide) ?_
                                                    exact e_forget [true, true, true, true] [some (.ref 77), some (.ref 0), some (.ref 53), some (.int (v3 + (6 : Int32)))] ⟨rfl, rfl⟩ (hK18 (v3 + (6 : Int32)) M)
def lp_L_law_77_0_53_18 (Ls : Nat) (sf : Nat → Int32)  : Nat → Int32 → Mem → Option (Int32 × Mem)
  | 0 => fun _ _ => none
  | n + 1 => bd_L_law_77_0_53_18 Ls sf (lp_L_law_77_0_53_18 Ls sf n)
theorem ev_lp_L_law_77_0_53_18 (Ls : Nat) (sf : Nat → Int32)   : ∀ (n : Nat), ∀ (v3 : Int32) (M : Mem), Ev (some (Ls, sf)) wI RL cL_law (some .boolean) 8 18 [some (.ref 77), some (.ref 0), some (.ref 53), some (.int v3)] [] M (lp_L_law_77_0_53_18 Ls sf n v3 M)
  | 0 => fun _ _ => e_none
  | n + 1 => ev_bd_L_law_77_0_53_18 Ls sf (lp_L_law_77_0_53_18 Ls sf n) (ev_lp_L_law_77_0_53_18 Ls sf n)
