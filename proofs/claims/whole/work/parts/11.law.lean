-- L_law_77_0_53 (W, depth 8)
def lb_L_law_77_0_53_258 (Ls : Nat) (sf : Nat → Int32) (K18 : Int32 → Mem → Option (Int32 × Mem)) (v3 : Int32) (s0 : Int32) (s1 : Int32) (s2 : Int32) (s4 : Int32) (M : Mem) : Option (Int32 × Mem) :=
  ((f_X10_hole s2 s1 s0 M)).bind fun q27 => (if s4 = q27.1 then (K18 (v3 + (6 : Int32)) q27.2) else some ((0 : Int32), q27.2))
set_option maxRecDepth 20000 in
set_option maxHeartbeats 2000000 in
theorem ev_lb_L_law_77_0_53_258 (Ls : Nat) (sf : Nat → Int32) (K18 : Int32 → Mem → Option (Int32 × Mem)) (hK18 : ∀ (v3 : Int32) (M : Mem), Ev (some (Ls, sf)) wI RL cL_law (some .boolean) 8 18 [some (.ref 77), some (.ref 0), some (.ref 53), some (.int v3)] [] M (K18 v3 M)) (v3 : Int32) (s0 : Int32) (s1 : Int32) (s2 : Int32) (s4 : Int32) (M : Mem) : Ev (some (Ls, sf)) wI RL cL_law (some .boolean) 8 258 [some (.ref 77), some (.ref 0), some (.ref 53), some (.int v3)] [.int s0, .int s1, .int s2, .ref 53, .int s4] M (lb_L_law_77_0_53_258 Ls sf K18 v3 s0 s1 s2 s4 M) := by
  unfold lb_L_law_77_0_53_258
  refine ev_call (ca_V (k := 53) mv_X10_hole (sp_X10_hole s2 s1 s0 M) (dt dk_L_law 120 rfl) ml_L_22 rfl rfl rfl rfl rfl (by decide) : Ca _ _ _ _ _ _ _ _ [.int s4] _ _) (fun q27 hq27 => ?_)
  show Ev _ _ _ _ _ _ 261 [some (.ref 77), some (.ref 0), some (.ref 53), some (.int v3)] [.int q27.1, .int s4] q27.2 _
  refine e_icmp_eq 883 (dt dk_L_law 121 rfl) (by decide) (fun h28 => ?_) (fun h28 => ?_)
  · refine e_iinc [some (.ref 77), some (.ref 0), some (.ref 53), some (.int (v3 + (6 : Int32)))] (dt dk_L_law 609 rfl) rfl rfl rfl rfl ?_
    refine e_goto 18 (dt dk_L_law 610 rfl) (by decide) ?_
    exact e_forget [true, true, true, true] [some (.ref 77), some (.ref 0), some (.ref 53), some (.int (v3 + (6 : Int32)))] ⟨rfl, rfl⟩ (hK18 (v3 + (6 : Int32)) q27.2)
  · refine e_iconst (v := (0 : Int32)) (dt dk_L_law 122 rfl) (by decide) ?_
    exact e_iret (dt dk_L_law 123 rfl) rfl rfl rfl
def lb_L_law_77_0_53_231 (Ls : Nat) (sf : Nat → Int32) (K18 : Int32 → Mem → Option (Int32 × Mem)) (v3 : Int32) (s0 : Int32) (s1 : Int32) (s2 : Int32) (M : Mem) : Option (Int32 × Mem) :=
  ((f_X9_hole s2 s1 s0 M)).bind fun q22 => if inb (v3 + (1 : Int32)) Ls then if inb (v3 + (2 : Int32)) Ls then if inb (v3 + (3 : Int32)) Ls then (if (sf (ix (v3 + (3 : Int32)))) = 0 then (lb_L_law_77_0_53_258 Ls sf K18 v3 (0 : Int32) (sf (ix (v3 + (2 : Int32)))) (sf (ix (v3 + (1 : Int32)))) q22.1 q22.2) else (lb_L_law_77_0_53_258 Ls sf K18 v3 (1 : Int32) (sf (ix (v3 + (2 : Int32)))) (sf (ix (v3 + (1 : Int32)))) q22.1 q22.2)) else none else none else none
set_option maxRecDepth 20000 in
set_option maxHeartbeats 2000000 in
theorem ev_lb_L_law_77_0_53_231 (Ls : Nat) (sf : Nat → Int32) (K18 : Int32 → Mem → Option (Int32 × Mem)) (hK18 : ∀ (v3 : Int32) (M : Mem), Ev (some (Ls, sf)) wI RL cL_law (some .boolean) 8 18 [some (.ref 77), some (.ref 0), some (.ref 53), some (.int v3)] [] M (K18 v3 M)) (v3 : Int32) (s0 : Int32) (s1 : Int32) (s2 : Int32) (M : Mem) : Ev (some (Ls, sf)) wI RL cL_law (some .boolean) 8 231 [some (.ref 77), some (.ref 0), some (.ref 53), some (.int v3)] [.int s0, .int s1, .int s2, .ref 0] M (lb_L_law_77_0_53_231 Ls sf K18 v3 s0 s1 s2 M) := by
  unfold lb_L_law_77_0_53_231
  refine ev_call (ca_V (k := 0) mv_X9_hole (sp_X9_hole s2 s1 s0 M) (dt dk_L_law 99 rfl) ml_L_18 rfl rfl rfl rfl rfl (by decide) : Ca _ _ _ _ _ _ _ _ [] _ _) (fun q22 hq22 => ?_)
  show Ev _ _ _ _ _ _ 234 [some (.ref 77), some (.ref 0), some (.ref 53), some (.int v3)] [.int q22.1] q22.2 _
  refine e_aload_n (dt dk_L_law 100 rfl) rfl ?_
  refine e_aload_n (dt dk_L_law 101 rfl) rfl ?_
  refine e_iload_n (dt dk_L_law 102 rfl) rfl ?_
  refine e_iconst (v := (1 : Int32)) (dt dk_L_law 103 rfl) (by decide) ?_
  refine e_iadd (dt dk_L_law 104 rfl) ?_
  refine e_if (fun h23 => ?_)
  refine e_iaS' (dt dk_L_law 105 rfl) h23 ?_
  refine e_aload_n (dt dk_L_law 106 rfl) rfl ?_
  refine e_iload_n (dt dk_L_law 107 rfl) rfl ?_
  refine e_iconst (v := (2 : Int32)) (dt dk_L_law 108 rfl) (by decide) ?_
  refine e_iadd (dt dk_L_law 109 rfl) ?_
  refine e_if (fun h24 => ?_)
  refine e_iaS' (dt dk_L_law 110 rfl) h24 ?_
  refine e_aload_n (dt dk_L_law 111 rfl) rfl ?_
  refine e_iload_n (dt dk_L_law 112 rfl) rfl ?_
  refine e_iconst (v := (3 : Int32)) (dt dk_L_law 113 rfl) (by decide) ?_
  refine e_iadd (dt dk_L_law 114 rfl) ?_
  refine e_if (fun h25 => ?_)
  refine e_iaS' (dt dk_L_law 115 rfl) h25 ?_
  refine e_if_eq 257 (dt dk_L_law 116 rfl) (by decide) (fun h26 => ?_) (fun h26 => ?_)
  · refine e_iconst (v := (0 : Int32)) (dt dk_L_law 119 rfl) (by decide) ?_
    exact e_forget [true, true, true, true] [some (.ref 77), some (.ref 0), some (.ref 53), some (.int v3)] ⟨rfl, rfl⟩ (ev_lb_L_law_77_0_53_258 Ls sf K18 hK18 v3 (0 : Int32) (sf (ix (v3 + (2 : Int32)))) (sf (ix (v3 + (1 : Int32)))) q22.1 q22.2)
  · refine e_iconst (v := (1 : Int32)) (dt dk_L_law 117 rfl) (by decide) ?_
    refine e_goto 258 (dt dk_L_law 118 rfl) (by decide) ?_
    exact e_forget [true, true, true, true] [some (.ref 77), some (.ref 0), some (.ref 53), some (.int v3)] ⟨rfl, rfl⟩ (ev_lb_L_law_77_0_53_258 Ls sf K18 hK18 v3 (1 : Int32) (sf (ix (v3 + (2 : Int32)))) (sf (ix (v3 + (1 : Int32)))) q22.1 q22.2)
def bd_L_law_77_0_53_18 (Ls : Nat) (sf : Nat → Int32)  (K18 : Int32 → Mem → Option (Int32 × Mem)) (v3 : Int32) (M : Mem) : Option (Int32 × Mem) :=
  (if ((nI Ls) - (6 : Int32)) < v3 then some ((1 : Int32), M) else if inb v3 Ls then (if ((sf (ix v3)) &&& (31 : Int32)) = (0 : Int32) then if inb (v3 + (1 : Int32)) Ls then if inb (v3 + (2 : Int32)) Ls then if inb (v3 + (3 : Int32)) Ls then if inb (v3 + (4 : Int32)) Ls then if inb (v3 + (5 : Int32)) Ls then ((f_X9_house (sf (ix (v3 + (1 : Int32)))) (sf (ix (v3 + (2 : Int32)))) (sf (ix (v3 + (3 : Int32)))) (sf (ix (v3 + (4 : Int32)))) (sf (ix (v3 + (5 : Int32)))) M)).bind fun q9 => if inb (v3 + (1 : Int32)) Ls then if inb (v3 + (2 : Int32)) Ls then if inb (v3 + (3 : Int32)) Ls then if inb (v3 + (4 : Int32)) Ls then if inb (v3 + (5 : Int32)) Ls then ((f_X10_house (sf (ix (v3 + (1 : Int32)))) (sf (ix (v3 + (2 : Int32)))) (sf (ix (v3 + (3 : Int32)))) (sf (ix (v3 + (4 : Int32)))) (sf (ix (v3 + (5 : Int32)))) q9.2)).bind fun q15 => (if q9.1 = q15.1 then (K18 (v3 + (6 : Int32)) q15.2) else some ((0 : Int32), q15.2)) else none else none else none else none else none else none else none else none else none else none else if ((sf (ix v3)) &&& (31 : Int32)) = (1 : Int32) then if inb (v3 + (1 : Int32)) Ls then if inb (v3 + (2 : Int32)) Ls then if inb (v3 + (3 : Int32)) Ls then (if (sf (ix (v3 + (3 : Int32)))) = 0 then (lb_L_law_77_0_53_231 Ls sf K18 v3 (0 : Int32) (sf (ix (v3 + (2 : Int32)))) (sf (ix (v3 + (1 : Int32)))) M) else (lb_L_law_77_0_53_231 Ls sf K18 v3 (1 : Int32) (sf (ix (v3 + (2 : Int32)))) (sf (ix (v3 + (1 : Int32)))) M)) else none else none else none else if ((sf (ix v3)) &&& (31 : Int32)) = (2 : Int32) then if inb (v3 + (1 : Int32)) Ls then ((f_X9_bag (sf (ix (v3 + (1 : Int32)))) M)).bind fun q31 => if inb (v3 + (1 : Int32)) Ls then ((f_X10_bag (sf (ix (v3 + (1 : Int32)))) q31.2)).bind fun q33 => (if q31.1 = q33.1 then (K18 (v3 + (6 : Int32)) q33.2) else some ((0 : Int32), q33.2)) else none else none else if ((sf (ix v3)) &&& (31 : Int32)) = (3 : Int32) then if inb (v3 + (1 : Int32)) Ls then ((f_X9_say (sf (ix (v3 + (1 : Int32)))) M)).bind fun q37 => if inb (v3 + (1 : Int32)) Ls then ((f_X10_say (sf (ix (v3 + (1 : Int32)))) q37.2)).bind fun q39 => (if q37.1 = q39.1 then (K18 (v3 + (6 : Int32)) q39.2) else some ((0 : Int32), q39.2)) else none else none else if ((sf (ix v3)) &&& (31 : Int32)) = (4 : Int32) then ((f_X9_wipe M)).bind fun q42 => ((f_X10_wipe q42.2)).bind fun q43 => (if q42.1 = q43.1 then (K18 (v3 + (6 : Int32)) q43.2) else some ((0 : Int32), q43.2)) else if ((sf (ix v3)) &&& (31 : Int32)) = (5 : Int32) then ((f_X9_fault M)).bind fun r46 => ((f_X10_fault M)).bind fun q47 => (if r46 = q47.1 then (K18 (v3 + (6 : Int32)) q47.2) else some ((0 : Int32), q47.2)) else if ((sf (ix v3)) &&& (31 : Int32)) = (6 : Int32) then if inb (v3 + (1 : Int32)) Ls then ((f_X9_judge (sf (ix (v3 + (1 : Int32)))) M)).bind fun q51 => if inb (v3 + (1 : Int32)) Ls then ((f_X10_judge (sf (ix (v3 + (1 : Int32)))) q51.2)).bind fun q53 => (if q51.1 = q53.1 then (K18 (v3 + (6 : Int32)) q53.2) else some ((0 : Int32), q53.2)) else none else none else if ((sf (ix v3)) &&& (31 : Int32)) = (7 : Int32) then if inb (v3 + (1 : Int32)) Ls then if inb (v3 + (2 : Int32)) Ls then ((f_X9_behind (sf (ix (v3 + (1 : Int32)))) (sf (ix (v3 + (2 : Int32)))) M)).bind fun q58 => if inb (v3 + (1 : Int32)) Ls then if inb (v3 + (2 : Int32)) Ls then ((f_X10_behind (sf (ix (v3 + (1 : Int32)))) (sf (ix (v3 + (2 : Int32)))) q58.2)).bind fun q61 => (if q58.1 = q61.1 then (K18 (v3 + (6 : Int32)) q61.2) else some ((0 : Int32), q61.2)) else none else none else none else none else if ((sf (ix v3)) &&& (31 : Int32)) = (8 : Int32) then if inb (v3 + (1 : Int32)) Ls then ((f_X9_town (sf (ix (v3 + (1 : Int32)))) M)).bind fun q65 => if inb (v3 + (1 : Int32)) Ls then ((f_X10_town (sf (ix (v3 + (1 : Int32)))) q65.2)).bind fun q67 => (if q65.1 = q67.1 then (K18 (v3 + (6 : Int32)) q67.2) else some ((0 : Int32), q67.2)) else none else none else if ((sf (ix v3)) &&& (31 : Int32)) = (9 : Int32) then if inb (v3 + (1 : Int32)) Ls then ((f_X9_rid (sf (ix (v3 + (1 : Int32)))) M)).bind fun q71 => if inb (v3 + (1 : Int32)) Ls then ((f_X10_rid (sf (ix (v3 + (1 : Int32)))) q71.2)).bind fun q73 => (if q71.1 = q73.1 then (K18 (v3 + (6 : Int32)) q73.2) else some ((0 : Int32), q73.2)) else none else none else if ((sf (ix v3)) &&& (31 : Int32)) = (10 : Int32) then ((f_X9_done M)).bind fun q76 => ((f_X10_done q76.2)).bind fun q77 => (if q76.1 = q77.1 then (K18 (v3 + (6 : Int32)) q77.2) else some ((0 : Int32), q77.2)) else if ((sf (ix v3)) &&& (31 : Int32)) = (11 : Int32) then if inb (v3 + (1 : Int32)) Ls then if inb (v3 + (2 : Int32)) Ls then if inb (v3 + (3 : Int32)) Ls then if inb (v3 + (4 : Int32)) Ls then ((f_X9_alone (sf (ix (v3 + (1 : Int32)))) (sf (ix (v3 + (2 : Int32)))) (sf (ix (v3 + (3 : Int32)))) (sf (ix (v3 + (4 : Int32)))))).bind fun r84 => if inb (v3 + (1 : Int32)) Ls then if inb (v3 + (2 : Int32)) Ls then if inb (v3 + (3 : Int32)) Ls then if inb (v3 + (4 : Int32)) Ls then ((f_X10_alone (sf (ix (v3 + (1 : Int32)))) (sf (ix (v3 + (2 : Int32)))) (sf (ix (v3 + (3 : Int32)))) (sf (ix (v3 + (4 : Int32)))))).bind fun r89 => (if r84 = r89 then (K18 (v3 + (6 : Int32)) M) else some ((0 : Int32), M)) else none else none else none else none else none else none else none else none else if ((sf (ix v3)) &&& (31 : Int32)) = (12 : Int32) then if inb (v3 + (1 : Int32)) Ls then ((f_X9_terriers (sf (ix (v3 + (1 : Int32)))) M)).bind fun r93 => if inb (v3 + (1 : Int32)) Ls then ((f_X10_terriers (sf (ix (v3 + (1 : Int32)))) M)).bind fun r95 => (if r93 = r95 then (K18 (v3 + (6 : Int32)) M) else some ((0 : Int32), M)) else none else none else if ((sf (ix v3)) &&& (31 : Int32)) = (13 : Int32) then if inb (v3 + (1 : Int32)) Ls then if inb (v3 + (2 : Int32)) Ls then if inb (v3 + (3 : Int32)) Ls then if inb (v3 + (4 : Int32)) Ls then ((f_X9_heard (sf (ix (v3 + (1 : Int32)))) (sf (ix (v3 + (2 : Int32)))) (sf (ix (v3 + (3 : Int32)))) (sf (ix (v3 + (4 : Int32)))) M)).bind fun q102 => if inb (v3 + (1 : Int32)) Ls then if inb (v3 + (2 : Int32)) Ls then if inb (v3 + (3 : Int32)) Ls then if inb (v3 + (4 : Int32)) Ls then ((f_X10_heard (sf (ix (v3 + (1 : Int32)))) (sf (ix (v3 + (2 : Int32)))) (sf (ix (v3 + (3 : Int32)))) (sf (ix (v3 + (4 : Int32)))) q102.2)).bind fun q107 => (if q102.1 = q107.1 then (K18 (v3 + (6 : Int32)) q107.2) else some ((0 : Int32), q107.2)) else none else none else none else none else none else none else none else none else if ((sf (ix v3)) &&& (31 : Int32)) = (14 : Int32) then if inb (v3 + (1 : Int32)) Ls then if inb (v3 + (2 : Int32)) Ls then ((f_X9_gnawed (sf (ix (v3 + (1 : Int32)))) (sf (ix (v3 + (2 : Int32)))) M)).bind fun q112 => if inb (v3 + (1 : Int32)) Ls then if inb (v3 + (2 : Int32)) Ls then ((f_X10_gnawed (sf (ix (v3 + (1 : Int32)))) (sf (ix (v3 + (2 : Int32)))) q112.2)).bind fun q115 => (if q112.1 = q115.1 then (K18 (v3 + (6 : Int32)) q115.2) else some ((0 : Int32), q115.2)) else none else none else none else none else if ((sf (ix v3)) &&& (31 : Int32)) = (15 : Int32) then ((f_X9_forget M)).bind fun q118 => ((f_X10_forget q118.2)).bind fun q119 => (if q118.1 = q119.1 then (K18 (v3 + (6 : Int32)) q119.2) else some ((0 : Int32), q119.2)) else if ((sf (ix v3)) &&& (31 : Int32)) = (16 : Int32) then if inb (v3 + (1 : Int32)) Ls then ((f_X9_fits (sf (ix (v3 + (1 : Int32)))) M)).bind fun r123 => if inb (v3 + (1 : Int32)) Ls then ((f_X10_fits (sf (ix (v3 + (1 : Int32)))) M)).bind fun r125 => (if r123 = r125 then (K18 (v3 + (6 : Int32)) M) else some ((0 : Int32), M)) else none else none else if ((sf (ix v3)) &&& (31 : Int32)) = (17 : Int32) then if inb (v3 + (1 : Int32)) Ls then ((f_X9_ask (sf (ix (v3 + (1 : Int32)))) M)).bind fun q129 => if inb (v3 + (1 : Int32)) Ls then ((f_X10_ask (sf (ix (v3 + (1 : Int32)))) q129.2)).bind fun q131 => (if q129.1 = q131.1 then (K18 (v3 + (6 : Int32)) q131.2) else some ((0 : Int32), q131.2)) else none else none else if ((sf (ix v3)) &&& (31 : Int32)) = (18 : Int32) then if inb (v3 + (1 : Int32)) Ls then if inb (v3 + (2 : Int32)) Ls then if inb (v3 + (3 : Int32)) Ls then ((f_X9_chase (sf (ix (v3 + (1 : Int32)))) (sf (ix (v3 + (2 : Int32)))) (sf (ix (v3 + (3 : Int32)))) M)).bind fun q137 => if inb (v3 + (1 : Int32)) Ls then if inb (v3 + (2 : Int32)) Ls then if inb (v3 + (3 : Int32)) Ls then ((f_X10_chase (sf (ix (v3 + (1 : Int32)))) (sf (ix (v3 + (2 : Int32)))) (sf (ix (v3 + (3 : Int32)))) q137.2)).bind fun q141 => (if q137.1 = q141.1 then (K18 (v3 + (6 : Int32)) q141.2) else some ((0 : Int32), q141.2)) else none else none else none else none else none else none else if ((sf (ix v3)) &&& (31 : Int32)) = (19 : Int32) then if inb (v3 + (1 : Int32)) Ls then if inb (v3 + (2 : Int32)) Ls then if inb (v3 + (3 : Int32)) Ls then if inb (v3 + (4 : Int32)) Ls then ((f_X9_ever (sf (ix (v3 + (1 : Int32)))) (sf (ix (v3 + (2 : Int32)))) (sf (ix (v3 + (3 : Int32)))) (sf (ix (v3 + (4 : Int32)))))).bind fun r148 => if inb (v3 + (1 : Int32)) Ls then if inb (v3 + (2 : Int32)) Ls then if inb (v3 + (3 : Int32)) Ls then if inb (v3 + (4 : Int32)) Ls then ((f_X10_ever (sf (ix (v3 + (1 : Int32)))) (sf (ix (v3 + (2 : Int32)))) (sf (ix (v3 + (3 : Int32)))) (sf (ix (v3 + (4 : Int32)))))).bind fun r153 => (if (lg_cmp r148 r153) = 0 then (K18 (v3 + (6 : Int32)) M) else some ((0 : Int32), M)) else none else none else none else none else none else none else none else none else if ((sf (ix v3)) &&& (31 : Int32)) = (20 : Int32) then if inb (v3 + (1 : Int32)) Ls then if inb (v3 + (2 : Int32)) Ls then if inb (v3 + (3 : Int32)) Ls then ((f_X9_year (sf (ix (v3 + (1 : Int32)))) (sf (ix (v3 + (2 : Int32)))) (sf (ix (v3 + (3 : Int32)))) M)).bind fun q159 => if inb (v3 + (1 : Int32)) Ls then if inb (v3 + (2 : Int32)) Ls then if inb (v3 + (3 : Int32)) Ls then ((f_X10_year (sf (ix (v3 + (1 : Int32)))) (sf (ix (v3 + (2 : Int32)))) (sf (ix (v3 + (3 : Int32)))) q159.2)).bind fun q163 => (if q159.1 = q163.1 then (K18 (v3 + (6 : Int32)) q163.2) else some ((0 : Int32), q163.2)) else none else none else none else none else none else none else if ((sf (ix v3)) &&& (31 : Int32)) = (21 : Int32) then if inb (v3 + (1 : Int32)) Ls then ((f_X9_image (sf (ix (v3 + (1 : Int32)))) M)).bind fun q167 => if inb (v3 + (1 : Int32)) Ls then ((f_X10_image (sf (ix (v3 + (1 : Int32)))) q167.2)).bind fun q169 => (if q167.1 = q169.1 then (K18 (v3 + (6 : Int32)) q169.2) else some ((0 : Int32), q169.2)) else none else none else if ((sf (ix v3)) &&& (31 : Int32)) = (22 : Int32) then if inb (v3 + (1 : Int32)) Ls then ((f_X9_restore (sf (ix (v3 + (1 : Int32)))) M)).bind fun q173 => if inb (v3 + (1 : Int32)) Ls then ((f_X10_restore (sf (ix (v3 + (1 : Int32)))) q173.2)).bind fun q175 => (if q173.1 = q175.1 then (K18 (v3 + (6 : Int32)) q175.2) else some ((0 : Int32), q175.2)) else none else none else if ((sf (ix v3)) &&& (31 : Int32)) = (23 : Int32) then if inb (v3 + (1 : Int32)) Ls then ((f_X9_told (sf (ix (v3 + (1 : Int32)))) M)).bind fun r179 => if inb (v3 + (1 : Int32)) Ls then ((f_X10_told (sf (ix (v3 + (1 : Int32)))) M)).bind fun r181 => (if r179 = r181 then (K18 (v3 + (6 : Int32)) M) else some ((0 : Int32), M)) else none else none else (K18 (v3 + (6 : Int32)) M)) else none)
set_option maxRecDepth 20000 in
set_option maxHeartbeats 2000000 in
theorem ev_bd_L_law_77_0_53_18 (Ls : Nat) (sf : Nat → Int32)  (K18 : Int32 → Mem → Option (Int32 × Mem))  (hK18 : ∀ (v3 : Int32) (M : Mem), Ev (some (Ls, sf)) wI RL cL_law (some .boolean) 8 18 [some (.ref 77), some (.ref 0), some (.ref 53), some (.int v3)] [] M (K18 v3 M)) (v3 : Int32) (M : Mem) : Ev (some (Ls, sf)) wI RL cL_law (some .boolean) 8 18 [some (.ref 77), some (.ref 0), some (.ref 53), some (.int v3)] [] M (bd_L_law_77_0_53_18 Ls sf K18 v3 M) := by
  unfold bd_L_law_77_0_53_18
  refine e_iload_n (dt dk_L_law 10 rfl) rfl ?_
  refine e_aload_n (dt dk_L_law 11 rfl) rfl ?_
  refine e_lenS (dt dk_L_law 12 rfl) ?_
  refine e_bipush (v := (6 : Int32)) (dt dk_L_law 13 rfl) (by decide) ?_
  refine e_isub (dt dk_L_law 14 rfl) ?_
  refine e_icmp_gt 889 (dt dk_L_law 15 rfl) (by decide) (fun h1 => ?_) (fun h1 => ?_)
  · refine e_iconst (v := (1 : Int32)) (dt dk_L_law 611 rfl) (by decide) ?_
    exact e_iret (dt dk_L_law 612 rfl) rfl rfl rfl
  · refine e_aload_n (dt dk_L_law 16 rfl) rfl ?_
    refine e_iload_n (dt dk_L_law 17 rfl) rfl ?_
    refine e_if (fun h2 => ?_)
    refine e_iaS' (dt dk_L_law 18 rfl) h2 ?_
    refine e_bipush (v := (31 : Int32)) (dt dk_L_law 19 rfl) (by decide) ?_
    refine e_iand (dt dk_L_law 20 rfl) ?_
    refine e_split (fun h3 => ?_) (fun h3 => ?_)
    · refine e_tableIn 144 (dt dk_L_law 21 rfl) (by rw [h3]; decide) (by rw [h3]; decide) (by rw [h3]; rfl) (by decide) ?_
      refine e_aload_n (dt dk_L_law 22 rfl) rfl ?_
      refine e_aload_n (dt dk_L_law 23 rfl) rfl ?_
      refine e_iload_n (dt dk_L_law 24 rfl) rfl ?_
      refine e_iconst (v := (1 : Int32)) (dt dk_L_law 25 rfl) (by decide) ?_
      refine e_iadd (dt dk_L_law 26 rfl) ?_
      refine e_if (fun h4 => ?_)
      refine e_iaS' (dt dk_L_law 27 rfl) h4 ?_
      refine e_aload_n (dt dk_L_law 28 rfl) rfl ?_
      refine e_iload_n (dt dk_L_law 29 rfl) rfl ?_
      refine e_iconst (v := (2 : Int32)) (dt dk_L_law 30 rfl) (by decide) ?_
      refine e_iadd (dt dk_L_law 31 rfl) ?_
      refine e_if (fun h5 => ?_)
      refine e_iaS' (dt dk_L_law 32 rfl) h5 ?_
      refine e_aload_n (dt dk_L_law 33 rfl) rfl ?_
      refine e_iload_n (dt dk_L_law 34 rfl) rfl ?_
      refine e_iconst (v := (3 : Int32)) (dt dk_L_law 35 rfl) (by decide) ?_
      refine e_iadd (dt dk_L_law 36 rfl) ?_
      refine e_if (fun h6 => ?_)
      refine e_iaS' (dt dk_L_law 37 rfl) h6 ?_
      refine e_aload_n (dt dk_L_law 38 rfl) rfl ?_
      refine e_iload_n (dt dk_L_law 39 rfl) rfl ?_
      refine e_iconst (v := (4 : Int32)) (dt dk_L_law 40 rfl) (by decide) ?_
      refine e_iadd (dt dk_L_law 41 rfl) ?_
      refine e_if (fun h7 => ?_)
      refine e_iaS' (dt dk_L_law 42 rfl) h7 ?_
      refine e_aload_n (dt dk_L_law 43 rfl) rfl ?_
      refine e_iload_n (dt dk_L_law 44 rfl) rfl ?_
      refine e_iconst (v := (5 : Int32)) (dt dk_L_law 45 rfl) (by decide) ?_
      refine e_iadd (dt dk_L_law 46 rfl) ?_
      refine e_if (fun h8 => ?_)
      refine e_iaS' (dt dk_L_law 47 rfl) h8 ?_
      refine ev_call (ca_V (k := 0) mv_X9_house (sp_X9_house (sf (ix (v3 + (1 : Int32)))) (sf (ix (v3 + (2 : Int32)))) (sf (ix (v3 + (3 : Int32)))) (sf (ix (v3 + (4 : Int32)))) (sf (ix (v3 + (5 : Int32)))) M) (dt dk_L_law 48 rfl) ml_L_13 rfl rfl rfl rfl rfl (by decide) : Ca _ _ _ _ _ _ _ _ [] _ _) (fun q9 hq9 => ?_)
      show Ev _ _ _ _ _ _ 173 [some (.ref 77), some (.ref 0), some (.ref 53), some (.int v3)] [.int q9.1] q9.2 _
      refine e_aload_n (dt dk_L_law 49 rfl) rfl ?_
      refine e_aload_n (dt dk_L_law 50 rfl) rfl ?_
      refine e_iload_n (dt dk_L_law 51 rfl) rfl ?_
      refine e_iconst (v := (1 : Int32)) (dt dk_L_law 52 rfl) (by decide) ?_
      refine e_iadd (dt dk_L_law 53 rfl) ?_
      refine e_if (fun h10 => ?_)
      refine e_iaS' (dt dk_L_law 54 rfl) h10 ?_
      refine e_aload_n (dt dk_L_law 55 rfl) rfl ?_
      refine e_iload_n (dt dk_L_law 56 rfl) rfl ?_
      refine e_iconst (v := (2 : Int32)) (dt dk_L_law 57 rfl) (by decide) ?_
      refine e_iadd (dt dk_L_law 58 rfl) ?_
      refine e_if (fun h11 => ?_)
      refine e_iaS' (dt dk_L_law 59 rfl) h11 ?_
      refine e_aload_n (dt dk_L_law 60 rfl) rfl ?_
      refine e_iload_n (dt dk_L_law 61 rfl) rfl ?_
      refine e_iconst (v := (3 : Int32)) (dt dk_L_law 62 rfl) (by decide) ?_
      refine e_iadd (dt dk_L_law 63 rfl) ?_
      refine e_if (fun h12 => ?_)
      refine e_iaS' (dt dk_L_law 64 rfl) h12 ?_
      refine e_aload_n (dt dk_L_law 65 rfl) rfl ?_
      refine e_iload_n (dt dk_L_law 66 rfl) rfl ?_
      refine e_iconst (v := (4 : Int32)) (dt dk_L_law 67 rfl) (by decide) ?_
      refine e_iadd (dt dk_L_law 68 rfl) ?_
      refine e_if (fun h13 => ?_)
      refine e_iaS' (dt dk_L_law 69 rfl) h13 ?_
      refine e_aload_n (dt dk_L_law 70 rfl) rfl ?_
      refine e_iload_n (dt dk_L_law 71 rfl) rfl ?_
      refine e_iconst (v := (5 : Int32)) (dt dk_L_law 72 rfl) (by decide) ?_
      refine e_iadd (dt dk_L_law 73 rfl) ?_
      refine e_if (fun h14 => ?_)
      refine e_iaS' (dt dk_L_law 74 rfl) h14 ?_
      refine ev_call (ca_V (k := 53) mv_X10_house (sp_X10_house (sf (ix (v3 + (1 : Int32)))) (sf (ix (v3 + (2 : Int32)))) (sf (ix (v3 + (3 : Int32)))) (sf (ix (v3 + (4 : Int32)))) (sf (ix (v3 + (5 : Int32)))) q9.2) (dt dk_L_law 75 rfl) ml_L_17 rfl rfl rfl rfl rfl (by decide) : Ca _ _ _ _ _ _ _ _ [.int q9.1] _ _) (fun q15 hq15 => ?_)
      show Ev _ _ _ _ _ _ 202 [some (.ref 77), some (.ref 0), some (.ref 53), some (.int v3)] [.int q15.1, .int q9.1] q15.2 _
      refine e_icmp_eq 883 (dt dk_L_law 76 rfl) (by decide) (fun h16 => ?_) (fun h16 => ?_)
      · refine e_iinc [some (.ref 77), some (.ref 0), some (.ref 53), some (.int (v3 + (6 : Int32)))] (dt dk_L_law 609 rfl) rfl rfl rfl rfl ?_
        refine e_goto 18 (dt dk_L_law 610 rfl) (by decide) ?_
        exact e_forget [true, true, true, true] [some (.ref 77), some (.ref 0), some (.ref 53), some (.int (v3 + (6 : Int32)))] ⟨rfl, rfl⟩ (hK18 (v3 + (6 : Int32)) q15.2)
      · refine e_iconst (v := (0 : Int32)) (dt dk_L_law 77 rfl) (by decide) ?_
        exact e_iret (dt dk_L_law 78 rfl) rfl rfl rfl
    · skip
      refine e_split (fun h17 => ?_) (fun h17 => ?_)
      · refine e_tableIn 207 (dt dk_L_law 21 rfl) (by rw [h17]; decide) (by rw [h17]; decide) (by rw [h17]; rfl) (by decide) ?_
        refine e_aload_n (dt dk_L_law 79 rfl) rfl ?_
        refine e_aload_n (dt dk_L_law 80 rfl) rfl ?_
        refine e_iload_n (dt dk_L_law 81 rfl) rfl ?_
        refine e_iconst (v := (1 : Int32)) (dt dk_L_law 82 rfl) (by decide) ?_
        refine e_iadd (dt dk_L_law 83 rfl) ?_
        refine e_if (fun h18 => ?_)
        refine e_iaS' (dt dk_L_law 84 rfl) h18 ?_
        refine e_aload_n (dt dk_L_law 85 rfl) rfl ?_
        refine e_iload_n (dt dk_L_law 86 rfl) rfl ?_
        refine e_iconst (v := (2 : Int32)) (dt dk_L_law 87 rfl) (by decide) ?_
        refine e_iadd (dt dk_L_law 88 rfl) ?_
        refine e_if (fun h19 => ?_)
        refine e_iaS' (dt dk_L_law 89 rfl) h19 ?_
        refine e_aload_n (dt dk_L_law 90 rfl) rfl ?_
        refine e_iload_n (dt dk_L_law 91 rfl) rfl ?_
        refine e_iconst (v := (3 : Int32)) (dt dk_L_law 92 rfl) (by decide) ?_
        refine e_iadd (dt dk_L_law 93 rfl) ?_
        refine e_if (fun h20 => ?_)
        refine e_iaS' (dt dk_L_law 94 rfl) h20 ?_
        refine e_if_eq 230 (dt dk_L_law 95 rfl) (by decide) (fun h21 => ?_) (fun h21 => ?_)
        · refine e_iconst (v := (0 : Int32)) (dt dk_L_law 98 rfl) (by decide) ?_
          exact e_forget [true, true, true, true] [some (.ref 77), some (.ref 0), some (.ref 53), some (.int v3)] ⟨rfl, rfl⟩ (ev_lb_L_law_77_0_53_231 Ls sf K18 hK18 v3 (0 : Int32) (sf (ix (v3 + (2 : Int32)))) (sf (ix (v3 + (1 : Int32)))) M)
        · refine e_iconst (v := (1 : Int32)) (dt dk_L_law 96 rfl) (by decide) ?_
          refine e_goto 231 (dt dk_L_law 97 rfl) (by decide) ?_
          exact e_forget [true, true, true, true] [some (.ref 77), some (.ref 0), some (.ref 53), some (.int v3)] ⟨rfl, rfl⟩ (ev_lb_L_law_77_0_53_231 Ls sf K18 hK18 v3 (1 : Int32) (sf (ix (v3 + (2 : Int32)))) (sf (ix (v3 + (1 : Int32)))) M)
      · skip
        refine e_split (fun h29 => ?_) (fun h29 => ?_)
        · refine e_tableIn 266 (dt dk_L_law 21 rfl) (by rw [h29]; decide) (by rw [h29]; decide) (by rw [h29]; rfl) (by decide) ?_
          refine e_aload_n (dt dk_L_law 124 rfl) rfl ?_
          refine e_aload_n (dt dk_L_law 125 rfl) rfl ?_
          refine e_iload_n (dt dk_L_law 126 rfl) rfl ?_
          refine e_iconst (v := (1 : Int32)) (dt dk_L_law 127 rfl) (by decide) ?_
          refine e_iadd (dt dk_L_law 128 rfl) ?_
          refine e_if (fun h30 => ?_)
          refine e_iaS' (dt dk_L_law 129 rfl) h30 ?_
          refine ev_call (ca_V (k := 0) mv_X9_bag (sp_X9_bag (sf (ix (v3 + (1 : Int32)))) M) (dt dk_L_law 130 rfl) ml_L_23 rfl rfl rfl rfl rfl (by decide) : Ca _ _ _ _ _ _ _ _ [] _ _) (fun q31 hq31 => ?_)
          show Ev _ _ _ _ _ _ 275 [some (.ref 77), some (.ref 0), some (.ref 53), some (.int v3)] [.int q31.1] q31.2 _
          refine e_aload_n (dt dk_L_law 131 rfl) rfl ?_
          refine e_aload_n (dt dk_L_law 132 rfl) rfl ?_
          refine e_iload_n (dt dk_L_law 133 rfl) rfl ?_
          refine e_iconst (v := (1 : Int32)) (dt dk_L_law 134 rfl) (by decide) ?_
          refine e_iadd (dt dk_L_law 135 rfl) ?_
          refine e_if (fun h32 => ?_)
          refine e_iaS' (dt dk_L_law 136 rfl) h32 ?_
          refine ev_call (ca_V (k := 53) mv_X10_bag (sp_X10_bag (sf (ix (v3 + (1 : Int32)))) q31.2) (dt dk_L_law 137 rfl) ml_L_27 rfl rfl rfl rfl rfl (by decide) : Ca _ _ _ _ _ _ _ _ [.int q31.1] _ _) (fun q33 hq33 => ?_)
          show Ev _ _ _ _ _ _ 284 [some (.ref 77), some (.ref 0), some (.ref 53), some (.int v3)] [.int q33.1, .int q31.1] q33.2 _
          refine e_icmp_eq 883 (dt dk_L_law 138 rfl) (by decide) (fun h34 => ?_) (fun h34 => ?_)
          · refine e_iinc [some (.ref 77), some (.ref 0), some (.ref 53), some (.int (v3 + (6 : Int32)))] (dt dk_L_law 609 rfl) rfl rfl rfl rfl ?_
            refine e_goto 18 (dt dk_L_law 610 rfl) (by decide) ?_
            exact e_forget [true, true, true, true] [some (.ref 77), some (.ref 0), some (.ref 53), some (.int (v3 + (6 : Int32)))] ⟨rfl, rfl⟩ (hK18 (v3 + (6 : Int32)) q33.2)
          · refine e_iconst (v := (0 : Int32)) (dt dk_L_law 139 rfl) (by decide) ?_
            exact e_iret (dt dk_L_law 140 rfl) rfl rfl rfl
        · skip
          refine e_split (fun h35 => ?_) (fun h35 => ?_)
          · refine e_tableIn 289 (dt dk_L_law 21 rfl) (by rw [h35]; decide) (by rw [h35]; decide) (by rw [h35]; rfl) (by decide) ?_
            refine e_aload_n (dt dk_L_law 141 rfl) rfl ?_
            refine e_aload_n (dt dk_L_law 142 rfl) rfl ?_
            refine e_iload_n (dt dk_L_law 143 rfl) rfl ?_
            refine e_iconst (v := (1 : Int32)) (dt dk_L_law 144 rfl) (by decide) ?_
            refine e_iadd (dt dk_L_law 145 rfl) ?_
            refine e_if (fun h36 => ?_)
            refine e_iaS' (dt dk_L_law 146 rfl) h36 ?_
            refine ev_call (ca_V (k := 0) mv_X9_say (sp_X9_say (sf (ix (v3 + (1 : Int32)))) M) (dt dk_L_law 147 rfl) ml_L_28 rfl rfl rfl rfl rfl (by decide) : Ca _ _ _ _ _ _ _ _ [] _ _) (fun q37 hq37 => ?_)
            show Ev _ _ _ _ _ _ 298 [some (.ref 77), some (.ref 0), some (.ref 53), some (.int v3)] [.int q37.1] q37.2 _
            refine e_aload_n (dt dk_L_law 148 rfl) rfl ?_
            refine e_aload_n (dt dk_L_law 149 rfl) rfl ?_
            refine e_iload_n (dt dk_L_law 150 rfl) rfl ?_
            refine e_iconst (v := (1 : Int32)) (dt dk_L_law 151 rfl) (by decide) ?_
            refine e_iadd (dt dk_L_law 152 rfl) ?_
            refine e_if (fun h38 => ?_)
            refine e_iaS' (dt dk_L_law 153 rfl) h38 ?_
            refine ev_call (ca_V (k := 53) mv_X10_say (sp_X10_say (sf (ix (v3 + (1 : Int32)))) q37.2) (dt dk_L_law 154 rfl) ml_L_31 rfl rfl rfl rfl rfl (by decide) : Ca _ _ _ _ _ _ _ _ [.int q37.1] _ _) (fun q39 hq39 => ?_)
            show Ev _ _ _ _ _ _ 307 [some (.ref 77), some (.ref 0), some (.ref 53), some (.int v3)] [.int q39.1, .int q37.1] q39.2 _
            refine e_icmp_eq 883 (dt dk_L_law 155 rfl) (by decide) (fun h40 => ?_) (fun h40 => ?_)
            · refine e_iinc [some (.ref 77), some (.ref 0), some (.ref 53), some (.int (v3 + (6 : Int32)))] (dt dk_L_law 609 rfl) rfl rfl rfl rfl ?_
              refine e_goto 18 (dt dk_L_law 610 rfl) (by decide) ?_
              exact e_forget [true, true, true, true] [some (.ref 77), some (.ref 0), some (.ref 53), some (.int (v3 + (6 : Int32)))] ⟨rfl, rfl⟩ (hK18 (v3 + (6 : Int32)) q39.2)
            · refine e_iconst (v := (0 : Int32)) (dt dk_L_law 156 rfl) (by decide) ?_
              exact e_iret (dt dk_L_law 157 rfl) rfl rfl rfl
          · skip
            refine e_split (fun h41 => ?_) (fun h41 => ?_)
            · refine e_tableIn 312 (dt dk_L_law 21 rfl) (by rw [h41]; decide) (by rw [h41]; decide) (by rw [h41]; rfl) (by decide) ?_
              refine e_aload_n (dt dk_L_law 158 rfl) rfl ?_
              refine ev_call (ca_V (k := 0) mv_X9_wipe (sp_X9_wipe M) (dt dk_L_law 159 rfl) ml_L_32 rfl rfl rfl rfl rfl (by decide) : Ca _ _ _ _ _ _ _ _ [] _ _) (fun q42 hq42 => ?_)
              show Ev _ _ _ _ _ _ 316 [some (.ref 77), some (.ref 0), some (.ref 53), some (.int v3)] [.int q42.1] q42.2 _
              refine e_aload_n (dt dk_L_law 160 rfl) rfl ?_
              refine ev_call (ca_V (k := 53) mv_X10_wipe (sp_X10_wipe q42.2) (dt dk_L_law 161 rfl) ml_L_36 rfl rfl rfl rfl rfl (by decide) : Ca _ _ _ _ _ _ _ _ [.int q42.1] _ _) (fun q43 hq43 => ?_)
              show Ev _ _ _ _ _ _ 320 [some (.ref 77), some (.ref 0), some (.ref 53), some (.int v3)] [.int q43.1, .int q42.1] q43.2 _
              refine e_icmp_eq 883 (dt dk_L_law 162 rfl) (by decide) (fun h44 => ?_) (fun h44 => ?_)
              · refine e_iinc [some (.ref 77), some (.ref 0), some (.ref 53), some (.int (v3 + (6 : Int32)))] (dt dk_L_law 609 rfl) rfl rfl rfl rfl ?_
                refine e_goto 18 (dt dk_L_law 610 rfl) (by decide) ?_
                exact e_forget [true, true, true, true] [some (.ref 77), some (.ref 0), some (.ref 53), some (.int (v3 + (6 : Int32)))] ⟨rfl, rfl⟩ (hK18 (v3 + (6 : Int32)) q43.2)
              · refine e_iconst (v := (0 : Int32)) (dt dk_L_law 163 rfl) (by decide) ?_
                exact e_iret (dt dk_L_law 164 rfl) rfl rfl rfl
            · skip
              refine e_split (fun h45 => ?_) (fun h45 => ?_)
              · refine e_tableIn 325 (dt dk_L_law 21 rfl) (by rw [h45]; decide) (by rw [h45]; decide) (by rw [h45]; rfl) (by decide) ?_
                refine e_aload_n (dt dk_L_law 165 rfl) rfl ?_
                refine ev_call (ca_V (k := 0) mv_X9_fault (sp_X9_fault M) (dt dk_L_law 166 rfl) ml_L_37 rfl rfl rfl rfl rfl (by decide) : Ca _ _ _ _ _ _ _ _ [] _ _) (fun r46 hr46 => ?_)
                show Ev _ _ _ _ _ _ 329 [some (.ref 77), some (.ref 0), some (.ref 53), some (.int v3)] [.int r46] M _
                refine e_aload_n (dt dk_L_law 167 rfl) rfl ?_
                refine ev_call (ca_V (k := 53) mv_X10_fault (sp_X10_fault M) (dt dk_L_law 168 rfl) ml_L_40 rfl rfl rfl rfl rfl (by decide) : Ca _ _ _ _ _ _ _ _ [.int r46] _ _) (fun q47 hq47 => ?_)
                show Ev _ _ _ _ _ _ 333 [some (.ref 77), some (.ref 0), some (.ref 53), some (.int v3)] [.int q47.1, .int r46] q47.2 _
                refine e_icmp_eq 883 (dt dk_L_law 169 rfl) (by decide) (fun h48 => ?_) (fun h48 => ?_)
                · refine e_iinc [some (.ref 77), some (.ref 0), some (.ref 53), some (.int (v3 + (6 : Int32)))] (dt dk_L_law 609 rfl) rfl rfl rfl rfl ?_
                  refine e_goto 18 (dt dk_L_law 610 rfl) (by decide) ?_
                  exact e_forget [true, true, true, true] [some (.ref 77), some (.ref 0), some (.ref 53), some (.int (v3 + (6 : Int32)))] ⟨rfl, rfl⟩ (hK18 (v3 + (6 : Int32)) q47.2)
                · refine e_iconst (v := (0 : Int32)) (dt dk_L_law 170 rfl) (by decide) ?_
                  exact e_iret (dt dk_L_law 171 rfl) rfl rfl rfl
              · skip
                refine e_split (fun h49 => ?_) (fun h49 => ?_)
                · refine e_tableIn 338 (dt dk_L_law 21 rfl) (by rw [h49]; decide) (by rw [h49]; decide) (by rw [h49]; rfl) (by decide) ?_
                  refine e_aload_n (dt dk_L_law 172 rfl) rfl ?_
                  refine e_aload_n (dt dk_L_law 173 rfl) rfl ?_
                  refine e_iload_n (dt dk_L_law 174 rfl) rfl ?_
                  refine e_iconst (v := (1 : Int32)) (dt dk_L_law 175 rfl) (by decide) ?_
                  refine e_iadd (dt dk_L_law 176 rfl) ?_
                  refine e_if (fun h50 => ?_)
                  refine e_iaS' (dt dk_L_law 177 rfl) h50 ?_
                  refine ev_call (ca_V (k := 0) mv_X9_judge (sp_X9_judge (sf (ix (v3 + (1 : Int32)))) M) (dt dk_L_law 178 rfl) ml_L_41 rfl rfl rfl rfl rfl (by decide) : Ca _ _ _ _ _ _ _ _ [] _ _) (fun q51 hq51 => ?_)
                  show Ev _ _ _ _ _ _ 347 [some (.ref 77), some (.ref 0), some (.ref 53), some (.int v3)] [.int q51.1] q51.2 _
                  refine e_aload_n (dt dk_L_law 179 rfl) rfl ?_
                  refine e_aload_n (dt dk_L_law 180 rfl) rfl ?_
                  refine e_iload_n (dt dk_L_law 181 rfl) rfl ?_
                  refine e_iconst (v := (1 : Int32)) (dt dk_L_law 182 rfl) (by decide) ?_
                  refine e_iadd (dt dk_L_law 183 rfl) ?_
                  refine e_if (fun h52 => ?_)
                  refine e_iaS' (dt dk_L_law 184 rfl) h52 ?_
                  refine ev_call (ca_V (k := 53) mv_X10_judge (sp_X10_judge (sf (ix (v3 + (1 : Int32)))) q51.2) (dt dk_L_law 185 rfl) ml_L_44 rfl rfl rfl rfl rfl (by decide) : Ca _ _ _ _ _ _ _ _ [.int q51.1] _ _) (fun q53 hq53 => ?_)
                  show Ev _ _ _ _ _ _ 356 [some (.ref 77), some (.ref 0), some (.ref 53), some (.int v3)] [.int q53.1, .int q51.1] q53.2 _
                  refine e_icmp_eq 883 (dt dk_L_law 186 rfl) (by decide) (fun h54 => ?_) (fun h54 => ?_)
                  · refine e_iinc [some (.ref 77), some (.ref 0), some (.ref 53), some (.int (v3 + (6 : Int32)))] (dt dk_L_law 609 rfl) rfl rfl rfl rfl ?_
                    refine e_goto 18 (dt dk_L_law 610 rfl) (by decide) ?_
                    exact e_forget [true, true, true, true] [some (.ref 77), some (.ref 0), some (.ref 53), some (.int (v3 + (6 : Int32)))] ⟨rfl, rfl⟩ (hK18 (v3 + (6 : Int32)) q53.2)
                  · refine e_iconst (v := (0 : Int32)) (dt dk_L_law 187 rfl) (by decide) ?_
                    exact e_iret (dt dk_L_law 188 rfl) rfl rfl rfl
                · skip
                  refine e_split (fun h55 => ?_) (fun h55 => ?_)
                  · refine e_tableIn 361 (dt dk_L_law 21 rfl) (by rw [h55]; decide) (by rw [h55]; decide) (by rw [h55]; rfl) (by decide) ?_
                    refine e_aload_n (dt dk_L_law 189 rfl) rfl ?_
                    refine e_aload_n (dt dk_L_law 190 rfl) rfl ?_
                    refine e_iload_n (dt dk_L_law 191 rfl) rfl ?_
                    refine e_iconst (v := (1 : Int32)) (dt dk_L_law 192 rfl) (by decide) ?_
                    refine e_iadd (dt dk_L_law 193 rfl) ?_
                    refine e_if (fun h56 => ?_)
                    refine e_iaS' (dt dk_L_law 194 rfl) h56 ?_
                    refine e_aload_n (dt dk_L_law 195 rfl) rfl ?_
                    refine e_iload_n (dt dk_L_law 196 rfl) rfl ?_
                    refine e_iconst (v := (2 : Int32)) (dt dk_L_law 197 rfl) (by decide) ?_
                    refine e_iadd (dt dk_L_law 198 rfl) ?_
                    refine e_if (fun h57 => ?_)
                    refine e_iaS' (dt dk_L_law 199 rfl) h57 ?_
                    refine ev_call (ca_V (k := 0) mv_X9_behind (sp_X9_behind (sf (ix (v3 + (1 : Int32)))) (sf (ix (v3 + (2 : Int32)))) M) (dt dk_L_law 200 rfl) ml_L_45 rfl rfl rfl rfl rfl (by decide) : Ca _ _ _ _ _ _ _ _ [] _ _) (fun q58 hq58 => ?_)
                    show Ev _ _ _ _ _ _ 375 [some (.ref 77), some (.ref 0), some (.ref 53), some (.int v3)] [.int q58.1] q58.2 _
                    refine e_aload_n (dt dk_L_law 201 rfl) rfl ?_
                    refine e_aload_n (dt dk_L_law 202 rfl) rfl ?_
                    refine e_iload_n (dt dk_L_law 203 rfl) rfl ?_
                    refine e_iconst (v := (1 : Int32)) (dt dk_L_law 204 rfl) (by decide) ?_
                    refine e_iadd (dt dk_L_law 205 rfl) ?_
                    refine e_if (fun h59 => ?_)
                    refine e_iaS' (dt dk_L_law 206 rfl) h59 ?_
                    refine e_aload_n (dt dk_L_law 207 rfl) rfl ?_
                    refine e_iload_n (dt dk_L_law 208 rfl) rfl ?_
                    refine e_iconst (v := (2 : Int32)) (dt dk_L_law 209 rfl) (by decide) ?_
                    refine e_iadd (dt dk_L_law 210 rfl) ?_
                    refine e_if (fun h60 => ?_)
                    refine e_iaS' (dt dk_L_law 211 rfl) h60 ?_
                    refine ev_call (ca_V (k := 53) mv_X10_behind (sp_X10_behind (sf (ix (v3 + (1 : Int32)))) (sf (ix (v3 + (2 : Int32)))) q58.2) (dt dk_L_law 212 rfl) ml_L_49 rfl rfl rfl rfl rfl (by decide) : Ca _ _ _ _ _ _ _ _ [.int q58.1] _ _) (fun q61 hq61 => ?_)
                    show Ev _ _ _ _ _ _ 389 [some (.ref 77), some (.ref 0), some (.ref 53), some (.int v3)] [.int q61.1, .int q58.1] q61.2 _
                    refine e_icmp_eq 883 (dt dk_L_law 213 rfl) (by decide) (fun h62 => ?_) (fun h62 => ?_)
                    · refine e_iinc [some (.ref 77), some (.ref 0), some (.ref 53), some (.int (v3 + (6 : Int32)))] (dt dk_L_law 609 rfl) rfl rfl rfl rfl ?_
                      refine e_goto 18 (dt dk_L_law 610 rfl) (by decide) ?_
                      exact e_forget [true, true, true, true] [some (.ref 77), some (.ref 0), some (.ref 53), some (.int (v3 + (6 : Int32)))] ⟨rfl, rfl⟩ (hK18 (v3 + (6 : Int32)) q61.2)
                    · refine e_iconst (v := (0 : Int32)) (dt dk_L_law 214 rfl) (by decide) ?_
                      exact e_iret (dt dk_L_law 215 rfl) rfl rfl rfl
                  · skip
                    refine e_split (fun h63 => ?_) (fun h63 => ?_)
                    · refine e_tableIn 394 (dt dk_L_law 21 rfl) (by rw [h63]; decide) (by rw [h63]; decide) (by rw [h63]; rfl) (by decide) ?_
                      refine e_aload_n (dt dk_L_law 216 rfl) rfl ?_
                      refine e_aload_n (dt dk_L_law 217 rfl) rfl ?_
                      refine e_iload_n (dt dk_L_law 218 rfl) rfl ?_
                      refine e_iconst (v := (1 : Int32)) (dt dk_L_law 219 rfl) (by decide) ?_
                      refine e_iadd (dt dk_L_law 220 rfl) ?_
                      refine e_if (fun h64 => ?_)
                      refine e_iaS' (dt dk_L_law 221 rfl) h64 ?_
                      refine ev_call (ca_V (k := 0) mv_X9_town (sp_X9_town (sf (ix (v3 + (1 : Int32)))) M) (dt dk_L_law 222 rfl) ml_L_50 rfl rfl rfl rfl rfl (by decide) : Ca _ _ _ _ _ _ _ _ [] _ _) (fun q65 hq65 => ?_)
                      show Ev _ _ _ _ _ _ 403 [some (.ref 77), some (.ref 0), some (.ref 53), some (.int v3)] [.int q65.1] q65.2 _
                      refine e_aload_n (dt dk_L_law 223 rfl) rfl ?_
                      refine e_aload_n (dt dk_L_law 224 rfl) rfl ?_
                      refine e_iload_n (dt dk_L_law 225 rfl) rfl ?_
                      refine e_iconst (v := (1 : Int32)) (dt dk_L_law 226 rfl) (by decide) ?_
                      refine e_iadd (dt dk_L_law 227 rfl) ?_
                      refine e_if (fun h66 => ?_)
                      refine e_iaS' (dt dk_L_law 228 rfl) h66 ?_
                      refine ev_call (ca_V (k := 53) mv_X10_town (sp_X10_town (sf (ix (v3 + (1 : Int32)))) q65.2) (dt dk_L_law 229 rfl) ml_L_53 rfl rfl rfl rfl rfl (by decide) : Ca _ _ _ _ _ _ _ _ [.int q65.1] _ _) (fun q67 hq67 => ?_)
                      show Ev _ _ _ _ _ _ 412 [some (.ref 77), some (.ref 0), some (.ref 53), some (.int v3)] [.int q67.1, .int q65.1] q67.2 _
                      refine e_icmp_eq 883 (dt dk_L_law 230 rfl) (by decide) (fun h68 => ?_) (fun h68 => ?_)
                      · refine e_iinc [some (.ref 77), some (.ref 0), some (.ref 53), some (.int (v3 + (6 : Int32)))] (dt dk_L_law 609 rfl) rfl rfl rfl rfl ?_
                        refine e_goto 18 (dt dk_L_law 610 rfl) (by decide) ?_
                        exact e_forget [true, true, true, true] [some (.ref 77), some (.ref 0), some (.ref 53), some (.int (v3 + (6 : Int32)))] ⟨rfl, rfl⟩ (hK18 (v3 + (6 : Int32)) q67.2)
                      · refine e_iconst (v := (0 : Int32)) (dt dk_L_law 231 rfl) (by decide) ?_
                        exact e_iret (dt dk_L_law 232 rfl) rfl rfl rfl
                    · skip
                      refine e_split (fun h69 => ?_) (fun h69 => ?_)
                      · refine e_tableIn 417 (dt dk_L_law 21 rfl) (by rw [h69]; decide) (by rw [h69]; decide) (by rw [h69]; rfl) (by decide) ?_
                        refine e_aload_n (dt dk_L_law 233 rfl) rfl ?_
                        refine e_aload_n (dt dk_L_law 234 rfl) rfl ?_
                        refine e_iload_n (dt dk_L_law 235 rfl) rfl ?_
                        refine e_iconst (v := (1 : Int32)) (dt dk_L_law 236 rfl) (by decide) ?_
                        refine e_iadd (dt dk_L_law 237 rfl) ?_
                        refine e_if (fun h70 => ?_)
                        refine e_iaS' (dt dk_L_law 238 rfl) h70 ?_
                        refine ev_call (ca_V (k := 0) mv_X9_rid (sp_X9_rid (sf (ix (v3 + (1 : Int32)))) M) (dt dk_L_law 239 rfl) ml_L_54 rfl rfl rfl rfl rfl (by decide) : Ca _ _ _ _ _ _ _ _ [] _ _) (fun q71 hq71 => ?_)
                        show Ev _ _ _ _ _ _ 426 [some (.ref 77), some (.ref 0), some (.ref 53), some (.int v3)] [.int q71.1] q71.2 _
                        refine e_aload_n (dt dk_L_law 240 rfl) rfl ?_
                        refine e_aload_n (dt dk_L_law 241 rfl) rfl ?_
                        refine e_iload_n (dt dk_L_law 242 rfl) rfl ?_
                        refine e_iconst (v := (1 : Int32)) (dt dk_L_law 243 rfl) (by decide) ?_
                        refine e_iadd (dt dk_L_law 244 rfl) ?_
                        refine e_if (fun h72 => ?_)
                        refine e_iaS' (dt dk_L_law 245 rfl) h72 ?_
                        refine ev_call (ca_V (k := 53) mv_X10_rid (sp_X10_rid (sf (ix (v3 + (1 : Int32)))) q71.2) (dt dk_L_law 246 rfl) ml_L_57 rfl rfl rfl rfl rfl (by decide) : Ca _ _ _ _ _ _ _ _ [.int q71.1] _ _) (fun q73 hq73 => ?_)
                        show Ev _ _ _ _ _ _ 435 [some (.ref 77), some (.ref 0), some (.ref 53), some (.int v3)] [.int q73.1, .int q71.1] q73.2 _
                        refine e_icmp_eq 883 (dt dk_L_law 247 rfl) (by decide) (fun h74 => ?_) (fun h74 => ?_)
                        · refine e_iinc [some (.ref 77), some (.ref 0), some (.ref 53), some (.int (v3 + (6 : Int32)))] (dt dk_L_law 609 rfl) rfl rfl rfl rfl ?_
                          refine e_goto 18 (dt dk_L_law 610 rfl) (by decide) ?_
                          exact e_forget [true, true, true, true] [some (.ref 77), some (.ref 0), some (.ref 53), some (.int (v3 + (6 : Int32)))] ⟨rfl, rfl⟩ (hK18 (v3 + (6 : Int32)) q73.2)
                        · refine e_iconst (v := (0 : Int32)) (dt dk_L_law 248 rfl) (by decide) ?_
                          exact e_iret (dt dk_L_law 249 rfl) rfl rfl rfl
                      · skip
                        refine e_split (fun h75 => ?_) (fun h75 => ?_)
                        · refine e_tableIn 440 (dt dk_L_law 21 rfl) (by rw [h75]; decide) (by rw [h75]; decide) (by rw [h75]; rfl) (by decide) ?_
                          refine e_aload_n (dt dk_L_law 250 rfl) rfl ?_
                          refine ev_call (ca_V (k := 0) mv_X9_done (sp_X9_done M) (dt dk_L_law 251 rfl) ml_L_58 rfl rfl rfl rfl rfl (by decide) : Ca _ _ _ _ _ _ _ _ [] _ _) (fun q76 hq76 => ?_)
                          show Ev _ _ _ _ _ _ 444 [some (.ref 77), some (.ref 0), some (.ref 53), some (.int v3)] [.int q76.1] q76.2 _
                          refine e_aload_n (dt dk_L_law 252 rfl) rfl ?_
                          refine ev_call (ca_V (k := 53) mv_X10_done (sp_X10_done q76.2) (dt dk_L_law 253 rfl) ml_L_61 rfl rfl rfl rfl rfl (by decide) : Ca _ _ _ _ _ _ _ _ [.int q76.1] _ _) (fun q77 hq77 => ?_)
                          show Ev _ _ _ _ _ _ 448 [some (.ref 77), some (.ref 0), some (.ref 53), some (.int v3)] [.int q77.1, .int q76.1] q77.2 _
                          refine e_icmp_eq 883 (dt dk_L_law 254 rfl) (by decide) (fun h78 => ?_) (fun h78 => ?_)
                          · refine e_iinc [some (.ref 77), some (.ref 0), some (.ref 53), some (.int (v3 + (6 : Int32)))] (dt dk_L_law 609 rfl) rfl rfl rfl rfl ?_
                            refine e_goto 18 (dt dk_L_law 610 rfl) (by decide) ?_
                            exact e_forget [true, true, true, true] [some (.ref 77), some (.ref 0), some (.ref 53), some (.int (v3 + (6 : Int32)))] ⟨rfl, rfl⟩ (hK18 (v3 + (6 : Int32)) q77.2)
                          · refine e_iconst (v := (0 : Int32)) (dt dk_L_law 255 rfl) (by decide) ?_
                            exact e_iret (dt dk_L_law 256 rfl) rfl rfl rfl
                        · skip
                          refine e_split (fun h79 => ?_) (fun h79 => ?_)
                          · refine e_tableIn 453 (dt dk_L_law 21 rfl) (by rw [h79]; decide) (by rw [h79]; decide) (by rw [h79]; rfl) (by decide) ?_
                            refine e_aload_n (dt dk_L_law 257 rfl) rfl ?_
                            refine e_aload_n (dt dk_L_law 258 rfl) rfl ?_
                            refine e_iload_n (dt dk_L_law 259 rfl) rfl ?_
                            refine e_iconst (v := (1 : Int32)) (dt dk_L_law 260 rfl) (by decide) ?_
                            refine e_iadd (dt dk_L_law 261 rfl) ?_
                            refine e_if (fun h80 => ?_)
                            refine e_iaS' (dt dk_L_law 262 rfl) h80 ?_
                            refine e_aload_n (dt dk_L_law 263 rfl) rfl ?_
                            refine e_iload_n (dt dk_L_law 264 rfl) rfl ?_
                            refine e_iconst (v := (2 : Int32)) (dt dk_L_law 265 rfl) (by decide) ?_
                            refine e_iadd (dt dk_L_law 266 rfl) ?_
                            refine e_if (fun h81 => ?_)
                            refine e_iaS' (dt dk_L_law 267 rfl) h81 ?_
                            refine e_aload_n (dt dk_L_law 268 rfl) rfl ?_
                            refine e_iload_n (dt dk_L_law 269 rfl) rfl ?_
                            refine e_iconst (v := (3 : Int32)) (dt dk_L_law 270 rfl) (by decide) ?_
                            refine e_iadd (dt dk_L_law 271 rfl) ?_
                            refine e_if (fun h82 => ?_)
                            refine e_iaS' (dt dk_L_law 272 rfl) h82 ?_
                            refine e_aload_n (dt dk_L_law 273 rfl) rfl ?_
                            refine e_iload_n (dt dk_L_law 274 rfl) rfl ?_
                            refine e_iconst (v := (4 : Int32)) (dt dk_L_law 275 rfl) (by decide) ?_
                            refine e_iadd (dt dk_L_law 276 rfl) ?_
                            refine e_if (fun h83 => ?_)
                            refine e_iaS' (dt dk_L_law 277 rfl) h83 ?_
                            refine ev_call (ca_V (k := 0) mv_X9_alone (sp_X9_alone (sf (ix (v3 + (1 : Int32)))) (sf (ix (v3 + (2 : Int32)))) (sf (ix (v3 + (3 : Int32)))) (sf (ix (v3 + (4 : Int32)))) M) (dt dk_L_law 278 rfl) ml_L_62 rfl rfl rfl rfl rfl (by decide) : Ca _ _ _ _ _ _ _ _ [] _ _) (fun r84 hr84 => ?_)
                            show Ev _ _ _ _ _ _ 477 [some (.ref 77), some (.ref 0), some (.ref 53), some (.int v3)] [.int r84] M _
                            refine e_aload_n (dt dk_L_law 279 rfl) rfl ?_
                            refine e_aload_n (dt dk_L_law 280 rfl) rfl ?_
                            refine e_iload_n (dt dk_L_law 281 rfl) rfl ?_
                            refine e_iconst (v := (1 : Int32)) (dt dk_L_law 282 rfl) (by decide) ?_
                            refine e_iadd (dt dk_L_law 283 rfl) ?_
                            refine e_if (fun h85 => ?_)
                            refine e_iaS' (dt dk_L_law 284 rfl) h85 ?_
                            refine e_aload_n (dt dk_L_law 285 rfl) rfl ?_
                            refine e_iload_n (dt dk_L_law 286 rfl) rfl ?_
                            refine e_iconst (v := (2 : Int32)) (dt dk_L_law 287 rfl) (by decide) ?_
                            refine e_iadd (dt dk_L_law 288 rfl) ?_
                            refine e_if (fun h86 => ?_)
                            refine e_iaS' (dt dk_L_law 289 rfl) h86 ?_
                            refine e_aload_n (dt dk_L_law 290 rfl) rfl ?_
                            refine e_iload_n (dt dk_L_law 291 rfl) rfl ?_
                            refine e_iconst (v := (3 : Int32)) (dt dk_L_law 292 rfl) (by decide) ?_
                            refine e_iadd (dt dk_L_law 293 rfl) ?_
                            refine e_if (fun h87 => ?_)
                            refine e_iaS' (dt dk_L_law 294 rfl) h87 ?_
                            refine e_aload_n (dt dk_L_law 295 rfl) rfl ?_
                            refine e_iload_n (dt dk_L_law 296 rfl) rfl ?_
                            refine e_iconst (v := (4 : Int32)) (dt dk_L_law 297 rfl) (by decide) ?_
                            refine e_iadd (dt dk_L_law 298 rfl) ?_
                            refine e_if (fun h88 => ?_)
                            refine e_iaS' (dt dk_L_law 299 rfl) h88 ?_
                            refine ev_call (ca_V (k := 53) mv_X10_alone (sp_X10_alone (sf (ix (v3 + (1 : Int32)))) (sf (ix (v3 + (2 : Int32)))) (sf (ix (v3 + (3 : Int32)))) (sf (ix (v3 + (4 : Int32)))) M) (dt dk_L_law 300 rfl) ml_L_66 rfl rfl rfl rfl rfl (by decide) : Ca _ _ _ _ _ _ _ _ [.int r84] _ _) (fun r89 hr89 => ?_)
                            show Ev _ _ _ _ _ _ 501 [some (.ref 77), some (.ref 0), some (.ref 53), some (.int v3)] [.int r89, .int r84] M _
                            refine e_icmp_eq 883 (dt dk_L_law 301 rfl) (by decide) (fun h90 => ?_) (fun h90 => ?_)
                            · refine e_iinc [some (.ref 77), some (.ref 0), some (.ref 53), some (.int (v3 + (6 : Int32)))] (dt dk_L_law 609 rfl) rfl rfl rfl rfl ?_
                              refine e_goto 18 (dt dk_L_law 610 rfl) (by decide) ?_
                              exact e_forget [true, true, true, true] [some (.ref 77), some (.ref 0), some (.ref 53), some (.int (v3 + (6 : Int32)))] ⟨rfl, rfl⟩ (hK18 (v3 + (6 : Int32)) M)
                            · refine e_iconst (v := (0 : Int32)) (dt dk_L_law 302 rfl) (by decide) ?_
                              exact e_iret (dt dk_L_law 303 rfl) rfl rfl rfl
                          · skip
                            refine e_split (fun h91 => ?_) (fun h91 => ?_)
                            · refine e_tableIn 506 (dt dk_L_law 21 rfl) (by rw [h91]; decide) (by rw [h91]; decide) (by rw [h91]; rfl) (by decide) ?_
                              refine e_aload_n (dt dk_L_law 304 rfl) rfl ?_
                              refine e_aload_n (dt dk_L_law 305 rfl) rfl ?_
                              refine e_iload_n (dt dk_L_law 306 rfl) rfl ?_
                              refine e_iconst (v := (1 : Int32)) (dt dk_L_law 307 rfl) (by decide) ?_
                              refine e_iadd (dt dk_L_law 308 rfl) ?_
                              refine e_if (fun h92 => ?_)
                              refine e_iaS' (dt dk_L_law 309 rfl) h92 ?_
                              refine ev_call (ca_V (k := 0) mv_X9_terriers (sp_X9_terriers (sf (ix (v3 + (1 : Int32)))) M) (dt dk_L_law 310 rfl) ml_L_67 rfl rfl rfl rfl rfl (by decide) : Ca _ _ _ _ _ _ _ _ [] _ _) (fun r93 hr93 => ?_)
                              show Ev _ _ _ _ _ _ 515 [some (.ref 77), some (.ref 0), some (.ref 53), some (.int v3)] [.int r93] M _
                              refine e_aload_n (dt dk_L_law 311 rfl) rfl ?_
                              refine e_aload_n (dt dk_L_law 312 rfl) rfl ?_
                              refine e_iload_n (dt dk_L_law 313 rfl) rfl ?_
                              refine e_iconst (v := (1 : Int32)) (dt dk_L_law 314 rfl) (by decide) ?_
                              refine e_iadd (dt dk_L_law 315 rfl) ?_
                              refine e_if (fun h94 => ?_)
                              refine e_iaS' (dt dk_L_law 316 rfl) h94 ?_
                              refine ev_call (ca_V (k := 53) mv_X10_terriers (sp_X10_terriers (sf (ix (v3 + (1 : Int32)))) M) (dt dk_L_law 317 rfl) ml_L_70 rfl rfl rfl rfl rfl (by decide) : Ca _ _ _ _ _ _ _ _ [.int r93] _ _) (fun r95 hr95 => ?_)
                              show Ev _ _ _ _ _ _ 524 [some (.ref 77), some (.ref 0), some (.ref 53), some (.int v3)] [.int r95, .int r93] M _
                              refine e_icmp_eq 883 (dt dk_L_law 318 rfl) (by decide) (fun h96 => ?_) (fun h96 => ?_)
                              · refine e_iinc [some (.ref 77), some (.ref 0), some (.ref 53), some (.int (v3 + (6 : Int32)))] (dt dk_L_law 609 rfl) rfl rfl rfl rfl ?_
                                refine e_goto 18 (dt dk_L_law 610 rfl) (by decide) ?_
                                exact e_forget [true, true, true, true] [some (.ref 77), some (.ref 0), some (.ref 53), some (.int (v3 + (6 : Int32)))] ⟨rfl, rfl⟩ (hK18 (v3 + (6 : Int32)) M)
                              · refine e_iconst (v := (0 : Int32)) (dt dk_L_law 319 rfl) (by decide) ?_
                                exact e_iret (dt dk_L_law 320 rfl) rfl rfl rfl
                            · skip
                              refine e_split (fun h97 => ?_) (fun h97 => ?_)
                              · refine e_tableIn 529 (dt dk_L_law 21 rfl) (by rw [h97]; decide) (by rw [h97]; decide) (by rw [h97]; rfl) (by decide) ?_
                                refine e_aload_n (dt dk_L_law 321 rfl) rfl ?_
                                refine e_aload_n (dt dk_L_law 322 rfl) rfl ?_
                                refine e_iload_n (dt dk_L_law 323 rfl) rfl ?_
                                refine e_iconst (v := (1 : Int32)) (dt dk_L_law 324 rfl) (by decide) ?_
                                refine e_iadd (dt dk_L_law 325 rfl) ?_
                                refine e_if (fun h98 => ?_)
                                refine e_iaS' (dt dk_L_law 326 rfl) h98 ?_
                                refine e_aload_n (dt dk_L_law 327 rfl) rfl ?_
                                refine e_iload_n (dt dk_L_law 328 rfl) rfl ?_
                                refine e_iconst (v := (2 : Int32)) (dt dk_L_law 329 rfl) (by decide) ?_
                                refine e_iadd (dt dk_L_law 330 rfl) ?_
                                refine e_if (fun h99 => ?_)
                                refine e_iaS' (dt dk_L_law 331 rfl) h99 ?_
                                refine e_aload_n (dt dk_L_law 332 rfl) rfl ?_
                                refine e_iload_n (dt dk_L_law 333 rfl) rfl ?_
                                refine e_iconst (v := (3 : Int32)) (dt dk_L_law 334 rfl) (by decide) ?_
                                refine e_iadd (dt dk_L_law 335 rfl) ?_
                                refine e_if (fun h100 => ?_)
                                refine e_iaS' (dt dk_L_law 336 rfl) h100 ?_
                                refine e_aload_n (dt dk_L_law 337 rfl) rfl ?_
                                refine e_iload_n (dt dk_L_law 338 rfl) rfl ?_
                                refine e_iconst (v := (4 : Int32)) (dt dk_L_law 339 rfl) (by decide) ?_
                                refine e_iadd (dt dk_L_law 340 rfl) ?_
                                refine e_if (fun h101 => ?_)
                                refine e_iaS' (dt dk_L_law 341 rfl) h101 ?_
                                refine ev_call (ca_V (k := 0) mv_X9_heard (sp_X9_heard (sf (ix (v3 + (1 : Int32)))) (sf (ix (v3 + (2 : Int32)))) (sf (ix (v3 + (3 : Int32)))) (sf (ix (v3 + (4 : Int32)))) M) (dt dk_L_law 342 rfl) ml_L_71 rfl rfl rfl rfl rfl (by decide) : Ca _ _ _ _ _ _ _ _ [] _ _) (fun q102 hq102 => ?_)
                                show Ev _ _ _ _ _ _ 553 [some (.ref 77), some (.ref 0), some (.ref 53), some (.int v3)] [.int q102.1] q102.2 _
                                refine e_aload_n (dt dk_L_law 343 rfl) rfl ?_
                                refine e_aload_n (dt dk_L_law 344 rfl) rfl ?_
                                refine e_iload_n (dt dk_L_law 345 rfl) rfl ?_
                                refine e_iconst (v := (1 : Int32)) (dt dk_L_law 346 rfl) (by decide) ?_
                                refine e_iadd (dt dk_L_law 347 rfl) ?_
                                refine e_if (fun h103 => ?_)
                                refine e_iaS' (dt dk_L_law 348 rfl) h103 ?_
                                refine e_aload_n (dt dk_L_law 349 rfl) rfl ?_
                                refine e_iload_n (dt dk_L_law 350 rfl) rfl ?_
                                refine e_iconst (v := (2 : Int32)) (dt dk_L_law 351 rfl) (by decide) ?_
                                refine e_iadd (dt dk_L_law 352 rfl) ?_
                                refine e_if (fun h104 => ?_)
                                refine e_iaS' (dt dk_L_law 353 rfl) h104 ?_
                                refine e_aload_n (dt dk_L_law 354 rfl) rfl ?_
                                refine e_iload_n (dt dk_L_law 355 rfl) rfl ?_
                                refine e_iconst (v := (3 : Int32)) (dt dk_L_law 356 rfl) (by decide) ?_
                                refine e_iadd (dt dk_L_law 357 rfl) ?_
                                refine e_if (fun h105 => ?_)
                                refine e_iaS' (dt dk_L_law 358 rfl) h105 ?_
                                refine e_aload_n (dt dk_L_law 359 rfl) rfl ?_
                                refine e_iload_n (dt dk_L_law 360 rfl) rfl ?_
                                refine e_iconst (v := (4 : Int32)) (dt dk_L_law 361 rfl) (by decide) ?_
                                refine e_iadd (dt dk_L_law 362 rfl) ?_
                                refine e_if (fun h106 => ?_)
                                refine e_iaS' (dt dk_L_law 363 rfl) h106 ?_
                                refine ev_call (ca_V (k := 53) mv_X10_heard (sp_X10_heard (sf (ix (v3 + (1 : Int32)))) (sf (ix (v3 + (2 : Int32)))) (sf (ix (v3 + (3 : Int32)))) (sf (ix (v3 + (4 : Int32)))) q102.2) (dt dk_L_law 364 rfl) ml_L_74 rfl rfl rfl rfl rfl (by decide) : Ca _ _ _ _ _ _ _ _ [.int q102.1] _ _) (fun q107 hq107 => ?_)
                                show Ev _ _ _ _ _ _ 577 [some (.ref 77), some (.ref 0), some (.ref 53), some (.int v3)] [.int q107.1, .int q102.1] q107.2 _
                                refine e_icmp_eq 883 (dt dk_L_law 365 rfl) (by decide) (fun h108 => ?_) (fun h108 => ?_)
                                · refine e_iinc [some (.ref 77), some (.ref 0), some (.ref 53), some (.int (v3 + (6 : Int32)))] (dt dk_L_law 609 rfl) rfl rfl rfl rfl ?_
                                  refine e_goto 18 (dt dk_L_law 610 rfl) (by decide) ?_
                                  exact e_forget [true, true, true, true] [some (.ref 77), some (.ref 0), some (.ref 53), some (.int (v3 + (6 : Int32)))] ⟨rfl, rfl⟩ (hK18 (v3 + (6 : Int32)) q107.2)
                                · refine e_iconst (v := (0 : Int32)) (dt dk_L_law 366 rfl) (by decide) ?_
                                  exact e_iret (dt dk_L_law 367 rfl) rfl rfl rfl
                              · skip
                                refine e_split (fun h109 => ?_) (fun h109 => ?_)
                                · refine e_tableIn 582 (dt dk_L_law 21 rfl) (by rw [h109]; decide) (by rw [h109]; decide) (by rw [h109]; rfl) (by decide) ?_
                                  refine e_aload_n (dt dk_L_law 368 rfl) rfl ?_
                                  refine e_aload_n (dt dk_L_law 369 rfl) rfl ?_
                                  refine e_iload_n (dt dk_L_law 370 rfl) rfl ?_
                                  refine e_iconst (v := (1 : Int32)) (dt dk_L_law 371 rfl) (by decide) ?_
                                  refine e_iadd (dt dk_L_law 372 rfl) ?_
                                  refine e_if (fun h110 => ?_)
                                  refine e_iaS' (dt dk_L_law 373 rfl) h110 ?_
                                  refine e_aload_n (dt dk_L_law 374 rfl) rfl ?_
                                  refine e_iload_n (dt dk_L_law 375 rfl) rfl ?_
                                  refine e_iconst (v := (2 : Int32)) (dt dk_L_law 376 rfl) (by decide) ?_
                                  refine e_iadd (dt dk_L_law 377 rfl) ?_
                                  refine e_if (fun h111 => ?_)
                                  refine e_iaS' (dt dk_L_law 378 rfl) h111 ?_
                                  refine ev_call (ca_V (k := 0) mv_X9_gnawed (sp_X9_gnawed (sf (ix (v3 + (1 : Int32)))) (sf (ix (v3 + (2 : Int32)))) M) (dt dk_L_law 379 rfl) ml_L_75 rfl rfl rfl rfl rfl (by decide) : Ca _ _ _ _ _ _ _ _ [] _ _) (fun q112 hq112 => ?_)
                                  show Ev _ _ _ _ _ _ 596 [some (.ref 77), some (.ref 0), some (.ref 53), some (.int v3)] [.int q112.1] q112.2 _
                                  refine e_aload_n (dt dk_L_law 380 rfl) rfl ?_
                                  refine e_aload_n (dt dk_L_law 381 rfl) rfl ?_
                                  refine e_iload_n (dt dk_L_law 382 rfl) rfl ?_
                                  refine e_iconst (v := (1 : Int32)) (dt dk_L_law 383 rfl) (by decide) ?_
                                  refine e_iadd (dt dk_L_law 384 rfl) ?_
                                  refine e_if (fun h113 => ?_)
                                  refine e_iaS' (dt dk_L_law 385 rfl) h113 ?_
                                  refine e_aload_n (dt dk_L_law 386 rfl) rfl ?_
                                  refine e_iload_n (dt dk_L_law 387 rfl) rfl ?_
                                  refine e_iconst (v := (2 : Int32)) (dt dk_L_law 388 rfl) (by decide) ?_
                                  refine e_iadd (dt dk_L_law 389 rfl) ?_
                                  refine e_if (fun h114 => ?_)
                                  refine e_iaS' (dt dk_L_law 390 rfl) h114 ?_
                                  refine ev_call (ca_V (k := 53) mv_X10_gnawed (sp_X10_gnawed (sf (ix (v3 + (1 : Int32)))) (sf (ix (v3 + (2 : Int32)))) q112.2) (dt dk_L_law 391 rfl) ml_L_78 rfl rfl rfl rfl rfl (by decide) : Ca _ _ _ _ _ _ _ _ [.int q112.1] _ _) (fun q115 hq115 => ?_)
                                  show Ev _ _ _ _ _ _ 610 [some (.ref 77), some (.ref 0), some (.ref 53), some (.int v3)] [.int q115.1, .int q112.1] q115.2 _
                                  refine e_icmp_eq 883 (dt dk_L_law 392 rfl) (by decide) (fun h116 => ?_) (fun h116 => ?_)
                                  · refine e_iinc [some (.ref 77), some (.ref 0), some (.ref 53), some (.int (v3 + (6 : Int32)))] (dt dk_L_law 609 rfl) rfl rfl rfl rfl ?_
                                    refine e_goto 18 (dt dk_L_law 610 rfl) (by decide) ?_
                                    exact e_forget [true, true, true, true] [some (.ref 77), some (.ref 0), some (.ref 53), some (.int (v3 + (6 : Int32)))] ⟨rfl, rfl⟩ (hK18 (v3 + (6 : Int32)) q115.2)
                                  · refine e_iconst (v := (0 : Int32)) (dt dk_L_law 393 rfl) (by decide) ?_
                                    exact e_iret (dt dk_L_law 394 rfl) rfl rfl rfl
                                · skip
                                  refine e_split (fun h117 => ?_) (fun h117 => ?_)
                                  · refine e_tableIn 615 (dt dk_L_law 21 rfl) (by rw [h117]; decide) (by rw [h117]; decide) (by rw [h117]; rfl) (by decide) ?_
                                    refine e_aload_n (dt dk_L_law 395 rfl) rfl ?_
                                    refine ev_call (ca_V (k := 0) mv_X9_forget (sp_X9_forget M) (dt dk_L_law 396 rfl) ml_L_79 rfl rfl rfl rfl rfl (by decide) : Ca _ _ _ _ _ _ _ _ [] _ _) (fun q118 hq118 => ?_)
                                    show Ev _ _ _ _ _ _ 619 [some (.ref 77), some (.ref 0), some (.ref 53), some (.int v3)] [.int q118.1] q118.2 _
                                    refine e_aload_n (dt dk_L_law 397 rfl) rfl ?_
                                    refine ev_call (ca_V (k := 53) mv_X10_forget (sp_X10_forget q118.2) (dt dk_L_law 398 rfl) ml_L_82 rfl rfl rfl rfl rfl (by decide) : Ca _ _ _ _ _ _ _ _ [.int q118.1] _ _) (fun q119 hq119 => ?_)
                                    show Ev _ _ _ _ _ _ 623 [some (.ref 77), some (.ref 0), some (.ref 53), some (.int v3)] [.int q119.1, .int q118.1] q119.2 _
                                    refine e_icmp_eq 883 (dt dk_L_law 399 rfl) (by decide) (fun h120 => ?_) (fun h120 => ?_)
                                    · refine e_iinc [some (.ref 77), some (.ref 0), some (.ref 53), some (.int (v3 + (6 : Int32)))] (dt dk_L_law 609 rfl) rfl rfl rfl rfl ?_
                                      refine e_goto 18 (dt dk_L_law 610 rfl) (by decide) ?_
                                      exact e_forget [true, true, true, true] [some (.ref 77), some (.ref 0), some (.ref 53), some (.int (v3 + (6 : Int32)))] ⟨rfl, rfl⟩ (hK18 (v3 + (6 : Int32)) q119.2)
                                    · refine e_iconst (v := (0 : Int32)) (dt dk_L_law 400 rfl) (by decide) ?_
                                      exact e_iret (dt dk_L_law 401 rfl) rfl rfl rfl
                                  · skip
                                    refine e_split (fun h121 => ?_) (fun h121 => ?_)
                                    · refine e_tableIn 628 (dt dk_L_law 21 rfl) (by rw [h121]; decide) (by rw [h121]; decide) (by rw [h121]; rfl) (by decide) ?_
                                      refine e_aload_n (dt dk_L_law 402 rfl) rfl ?_
                                      refine e_aload_n (dt dk_L_law 403 rfl) rfl ?_
                                      refine e_iload_n (dt dk_L_law 404 rfl) rfl ?_
                                      refine e_iconst (v := (1 : Int32)) (dt dk_L_law 405 rfl) (by decide) ?_
                                      refine e_iadd (dt dk_L_law 406 rfl) ?_
                                      refine e_if (fun h122 => ?_)
                                      refine e_iaS' (dt dk_L_law 407 rfl) h122 ?_
                                      refine ev_call (ca_V (k := 0) mv_X9_fits (sp_X9_fits (sf (ix (v3 + (1 : Int32)))) M) (dt dk_L_law 408 rfl) ml_L_83 rfl rfl rfl rfl rfl (by decide) : Ca _ _ _ _ _ _ _ _ [] _ _) (fun r123 hr123 => ?_)
                                      show Ev _ _ _ _ _ _ 637 [some (.ref 77), some (.ref 0), some (.ref 53), some (.int v3)] [.int r123] M _
                                      refine e_aload_n (dt dk_L_law 409 rfl) rfl ?_
                                      refine e_aload_n (dt dk_L_law 410 rfl) rfl ?_
                                      refine e_iload_n (dt dk_L_law 411 rfl) rfl ?_
                                      refine e_iconst (v := (1 : Int32)) (dt dk_L_law 412 rfl) (by decide) ?_
                                      refine e_iadd (dt dk_L_law 413 rfl) ?_
                                      refine e_if (fun h124 => ?_)
                                      refine e_iaS' (dt dk_L_law 414 rfl) h124 ?_
                                      refine ev_call (ca_V (k := 53) mv_X10_fits (sp_X10_fits (sf (ix (v3 + (1 : Int32)))) M) (dt dk_L_law 415 rfl) ml_L_86 rfl rfl rfl rfl rfl (by decide) : Ca _ _ _ _ _ _ _ _ [.int r123] _ _) (fun r125 hr125 => ?_)
                                      show Ev _ _ _ _ _ _ 646 [some (.ref 77), some (.ref 0), some (.ref 53), some (.int v3)] [.int r125, .int r123] M _
                                      refine e_icmp_eq 883 (dt dk_L_law 416 rfl) (by decide) (fun h126 => ?_) (fun h126 => ?_)
                                      · refine e_iinc [some (.ref 77), some (.ref 0), some (.ref 53), some (.int (v3 + (6 : Int32)))] (dt dk_L_law 609 rfl) rfl rfl rfl rfl ?_
                                        refine e_goto 18 (dt dk_L_law 610 rfl) (by decide) ?_
                                        exact e_forget [true, true, true, true] [some (.ref 77), some (.ref 0), some (.ref 53), some (.int (v3 + (6 : Int32)))] ⟨rfl, rfl⟩ (hK18 (v3 + (6 : Int32)) M)
                                      · refine e_iconst (v := (0 : Int32)) (dt dk_L_law 417 rfl) (by decide) ?_
                                        exact e_iret (dt dk_L_law 418 rfl) rfl rfl rfl
                                    · skip
                                      refine e_split (fun h127 => ?_) (fun h127 => ?_)
                                      · refine e_tableIn 651 (dt dk_L_law 21 rfl) (by rw [h127]; decide) (by rw [h127]; decide) (by rw [h127]; rfl) (by decide) ?_
                                        refine e_aload_n (dt dk_L_law 419 rfl) rfl ?_
                                        refine e_aload_n (dt dk_L_law 420 rfl) rfl ?_
                                        refine e_iload_n (dt dk_L_law 421 rfl) rfl ?_
                                        refine e_iconst (v := (1 : Int32)) (dt dk_L_law 422 rfl) (by decide) ?_
                                        refine e_iadd (dt dk_L_law 423 rfl) ?_
                                        refine e_if (fun h128 => ?_)
                                        refine e_iaS' (dt dk_L_law 424 rfl) h128 ?_
                                        refine ev_call (ca_V (k := 0) mv_X9_ask (sp_X9_ask (sf (ix (v3 + (1 : Int32)))) M) (dt dk_L_law 425 rfl) ml_L_87 rfl rfl rfl rfl rfl (by decide) : Ca _ _ _ _ _ _ _ _ [] _ _) (fun q129 hq129 => ?_)
                                        show Ev _ _ _ _ _ _ 660 [some (.ref 77), some (.ref 0), some (.ref 53), some (.int v3)] [.int q129.1] q129.2 _
                                        refine e_aload_n (dt dk_L_law 426 rfl) rfl ?_
                                        refine e_aload_n (dt dk_L_law 427 rfl) rfl ?_
                                        refine e_iload_n (dt dk_L_law 428 rfl) rfl ?_
                                        refine e_iconst (v := (1 : Int32)) (dt dk_L_law 429 rfl) (by decide) ?_
                                        refine e_iadd (dt dk_L_law 430 rfl) ?_
                                        refine e_if (fun h130 => ?_)
                                        refine e_iaS' (dt dk_L_law 431 rfl) h130 ?_
                                        refine ev_call (ca_V (k := 53) mv_X10_ask (sp_X10_ask (sf (ix (v3 + (1 : Int32)))) q129.2) (dt dk_L_law 432 rfl) ml_L_90 rfl rfl rfl rfl rfl (by decide) : Ca _ _ _ _ _ _ _ _ [.int q129.1] _ _) (fun q131 hq131 => ?_)
                                        show Ev _ _ _ _ _ _ 669 [some (.ref 77), some (.ref 0), some (.ref 53), some (.int v3)] [.int q131.1, .int q129.1] q131.2 _
                                        refine e_icmp_eq 883 (dt dk_L_law 433 rfl) (by decide) (fun h132 => ?_) (fun h132 => ?_)
                                        · refine e_iinc [some (.ref 77), some (.ref 0), some (.ref 53), some (.int (v3 + (6 : Int32)))] (dt dk_L_law 609 rfl) rfl rfl rfl rfl ?_
                                          refine e_goto 18 (dt dk_L_law 610 rfl) (by decide) ?_
                                          exact e_forget [true, true, true, true] [some (.ref 77), some (.ref 0), some (.ref 53), some (.int (v3 + (6 : Int32)))] ⟨rfl, rfl⟩ (hK18 (v3 + (6 : Int32)) q131.2)
                                        · refine e_iconst (v := (0 : Int32)) (dt dk_L_law 434 rfl) (by decide) ?_
                                          exact e_iret (dt dk_L_law 435 rfl) rfl rfl rfl
                                      · skip
                                        refine e_split (fun h133 => ?_) (fun h133 => ?_)
                                        · refine e_tableIn 674 (dt dk_L_law 21 rfl) (by rw [h133]; decide) (by rw [h133]; decide) (by rw [h133]; rfl) (by decide) ?_
                                          refine e_aload_n (dt dk_L_law 436 rfl) rfl ?_
                                          refine e_aload_n (dt dk_L_law 437 rfl) rfl ?_
                                          refine e_iload_n (dt dk_L_law 438 rfl) rfl ?_
                                          refine e_iconst (v := (1 : Int32)) (dt dk_L_law 439 rfl) (by decide) ?_
                                          refine e_iadd (dt dk_L_law 440 rfl) ?_
                                          refine e_if (fun h134 => ?_)
                                          refine e_iaS' (dt dk_L_law 441 rfl) h134 ?_
                                          refine e_aload_n (dt dk_L_law 442 rfl) rfl ?_
                                          refine e_iload_n (dt dk_L_law 443 rfl) rfl ?_
                                          refine e_iconst (v := (2 : Int32)) (dt dk_L_law 444 rfl) (by decide) ?_
                                          refine e_iadd (dt dk_L_law 445 rfl) ?_
                                          refine e_if (fun h135 => ?_)
                                          refine e_iaS' (dt dk_L_law 446 rfl) h135 ?_
                                          refine e_aload_n (dt dk_L_law 447 rfl) rfl ?_
                                          refine e_iload_n (dt dk_L_law 448 rfl) rfl ?_
                                          refine e_iconst (v := (3 : Int32)) (dt dk_L_law 449 rfl) (by decide) ?_
                                          refine e_iadd (dt dk_L_law 450 rfl) ?_
                                          refine e_if (fun h136 => ?_)
                                          refine e_iaS' (dt dk_L_law 451 rfl) h136 ?_
                                          refine ev_call (ca_V (k := 0) mv_X9_chase (sp_X9_chase (sf (ix (v3 + (1 : Int32)))) (sf (ix (v3 + (2 : Int32)))) (sf (ix (v3 + (3 : Int32)))) M) (dt dk_L_law 452 rfl) ml_L_91 rfl rfl rfl rfl rfl (by decide) : Ca _ _ _ _ _ _ _ _ [] _ _) (fun q137 hq137 => ?_)
                                          show Ev _ _ _ _ _ _ 693 [some (.ref 77), some (.ref 0), some (.ref 53), some (.int v3)] [.int q137.1] q137.2 _
                                          refine e_aload_n (dt dk_L_law 453 rfl) rfl ?_
                                          refine e_aload_n (dt dk_L_law 454 rfl) rfl ?_
                                          refine e_iload_n (dt dk_L_law 455 rfl) rfl ?_
                                          refine e_iconst (v := (1 : Int32)) (dt dk_L_law 456 rfl) (by decide) ?_
                                          refine e_iadd (dt dk_L_law 457 rfl) ?_
                                          refine e_if (fun h138 => ?_)
                                          refine e_iaS' (dt dk_L_law 458 rfl) h138 ?_
                                          refine e_aload_n (dt dk_L_law 459 rfl) rfl ?_
                                          refine e_iload_n (dt dk_L_law 460 rfl) rfl ?_
                                          refine e_iconst (v := (2 : Int32)) (dt dk_L_law 461 rfl) (by decide) ?_
                                          refine e_iadd (dt dk_L_law 462 rfl) ?_
                                          refine e_if (fun h139 => ?_)
                                          refine e_iaS' (dt dk_L_law 463 rfl) h139 ?_
                                          refine e_aload_n (dt dk_L_law 464 rfl) rfl ?_
                                          refine e_iload_n (dt dk_L_law 465 rfl) rfl ?_
                                          refine e_iconst (v := (3 : Int32)) (dt dk_L_law 466 rfl) (by decide) ?_
                                          refine e_iadd (dt dk_L_law 467 rfl) ?_
                                          refine e_if (fun h140 => ?_)
                                          refine e_iaS' (dt dk_L_law 468 rfl) h140 ?_
                                          refine ev_call (ca_V (k := 53) mv_X10_chase (sp_X10_chase (sf (ix (v3 + (1 : Int32)))) (sf (ix (v3 + (2 : Int32)))) (sf (ix (v3 + (3 : Int32)))) q137.2) (dt dk_L_law 469 rfl) ml_L_95 rfl rfl rfl rfl rfl (by decide) : Ca _ _ _ _ _ _ _ _ [.int q137.1] _ _) (fun q141 hq141 => ?_)
                                          show Ev _ _ _ _ _ _ 712 [some (.ref 77), some (.ref 0), some (.ref 53), some (.int v3)] [.int q141.1, .int q137.1] q141.2 _
                                          refine e_icmp_eq 883 (dt dk_L_law 470 rfl) (by decide) (fun h142 => ?_) (fun h142 => ?_)
                                          · refine e_iinc [some (.ref 77), some (.ref 0), some (.ref 53), some (.int (v3 + (6 : Int32)))] (dt dk_L_law 609 rfl) rfl rfl rfl rfl ?_
                                            refine e_goto 18 (dt dk_L_law 610 rfl) (by decide) ?_
                                            exact e_forget [true, true, true, true] [some (.ref 77), some (.ref 0), some (.ref 53), some (.int (v3 + (6 : Int32)))] ⟨rfl, rfl⟩ (hK18 (v3 + (6 : Int32)) q141.2)
                                          · refine e_iconst (v := (0 : Int32)) (dt dk_L_law 471 rfl) (by decide) ?_
                                            exact e_iret (dt dk_L_law 472 rfl) rfl rfl rfl
                                        · skip
                                          refine e_split (fun h143 => ?_) (fun h143 => ?_)
                                          · refine e_tableIn 717 (dt dk_L_law 21 rfl) (by rw [h143]; decide) (by rw [h143]; decide) (by rw [h143]; rfl) (by decide) ?_
                                            refine e_aload_n (dt dk_L_law 473 rfl) rfl ?_
                                            refine e_aload_n (dt dk_L_law 474 rfl) rfl ?_
                                            refine e_iload_n (dt dk_L_law 475 rfl) rfl ?_
                                            refine e_iconst (v := (1 : Int32)) (dt dk_L_law 476 rfl) (by decide) ?_
                                            refine e_iadd (dt dk_L_law 477 rfl) ?_
                                            refine e_if (fun h144 => ?_)
                                            refine e_iaS' (dt dk_L_law 478 rfl) h144 ?_
                                            refine e_aload_n (dt dk_L_law 479 rfl) rfl ?_
                                            refine e_iload_n (dt dk_L_law 480 rfl) rfl ?_
                                            refine e_iconst (v := (2 : Int32)) (dt dk_L_law 481 rfl) (by decide) ?_
                                            refine e_iadd (dt dk_L_law 482 rfl) ?_
                                            refine e_if (fun h145 => ?_)
                                            refine e_iaS' (dt dk_L_law 483 rfl) h145 ?_
                                            refine e_aload_n (dt dk_L_law 484 rfl) rfl ?_
                                            refine e_iload_n (dt dk_L_law 485 rfl) rfl ?_
                                            refine e_iconst (v := (3 : Int32)) (dt dk_L_law 486 rfl) (by decide) ?_
                                            refine e_iadd (dt dk_L_law 487 rfl) ?_
                                            refine e_if (fun h146 => ?_)
                                            refine e_iaS' (dt dk_L_law 488 rfl) h146 ?_
                                            refine e_aload_n (dt dk_L_law 489 rfl) rfl ?_
                                            refine e_iload_n (dt dk_L_law 490 rfl) rfl ?_
                                            refine e_iconst (v := (4 : Int32)) (dt dk_L_law 491 rfl) (by decide) ?_
                                            refine e_iadd (dt dk_L_law 492 rfl) ?_
                                            refine e_if (fun h147 => ?_)
                                            refine e_iaS' (dt dk_L_law 493 rfl) h147 ?_
                                            refine ev_call (ca_V (k := 0) mv_X9_ever (sp_X9_ever (sf (ix (v3 + (1 : Int32)))) (sf (ix (v3 + (2 : Int32)))) (sf (ix (v3 + (3 : Int32)))) (sf (ix (v3 + (4 : Int32)))) M) (dt dk_L_law 494 rfl) ml_L_96 rfl rfl rfl rfl rfl (by decide) : Ca _ _ _ _ _ _ _ _ [] _ _) (fun r148 hr148 => ?_)
                                            show Ev _ _ _ _ _ _ 741 [some (.ref 77), some (.ref 0), some (.ref 53), some (.int v3)] [.long r148] M _
                                            refine e_aload_n (dt dk_L_law 495 rfl) rfl ?_
                                            refine e_aload_n (dt dk_L_law 496 rfl) rfl ?_
                                            refine e_iload_n (dt dk_L_law 497 rfl) rfl ?_
                                            refine e_iconst (v := (1 : Int32)) (dt dk_L_law 498 rfl) (by decide) ?_
                                            refine e_iadd (dt dk_L_law 499 rfl) ?_
                                            refine e_if (fun h149 => ?_)
                                            refine e_iaS' (dt dk_L_law 500 rfl) h149 ?_
                                            refine e_aload_n (dt dk_L_law 501 rfl) rfl ?_
                                            refine e_iload_n (dt dk_L_law 502 rfl) rfl ?_
                                            refine e_iconst (v := (2 : Int32)) (dt dk_L_law 503 rfl) (by decide) ?_
                                            refine e_iadd (dt dk_L_law 504 rfl) ?_
                                            refine e_if (fun h150 => ?_)
                                            refine e_iaS' (dt dk_L_law 505 rfl) h150 ?_
                                            refine e_aload_n (dt dk_L_law 506 rfl) rfl ?_
                                            refine e_iload_n (dt dk_L_law 507 rfl) rfl ?_
                                            refine e_iconst (v := (3 : Int32)) (dt dk_L_law 508 rfl) (by decide) ?_
                                            refine e_iadd (dt dk_L_law 509 rfl) ?_
                                            refine e_if (fun h151 => ?_)
                                            refine e_iaS' (dt dk_L_law 510 rfl) h151 ?_
                                            refine e_aload_n (dt dk_L_law 511 rfl) rfl ?_
                                            refine e_iload_n (dt dk_L_law 512 rfl) rfl ?_
                                            refine e_iconst (v := (4 : Int32)) (dt dk_L_law 513 rfl) (by decide) ?_
                                            refine e_iadd (dt dk_L_law 514 rfl) ?_
                                            refine e_if (fun h152 => ?_)
                                            refine e_iaS' (dt dk_L_law 515 rfl) h152 ?_
                                            refine ev_call (ca_V (k := 53) mv_X10_ever (sp_X10_ever (sf (ix (v3 + (1 : Int32)))) (sf (ix (v3 + (2 : Int32)))) (sf (ix (v3 + (3 : Int32)))) (sf (ix (v3 + (4 : Int32)))) M) (dt dk_L_law 516 rfl) ml_L_100 rfl rfl rfl rfl rfl (by decide) : Ca _ _ _ _ _ _ _ _ [.long r148] _ _) (fun r153 hr153 => ?_)
                                            show Ev _ _ _ _ _ _ 765 [some (.ref 77), some (.ref 0), some (.ref 53), some (.int v3)] [.long r153, .long r148] M _
                                            refine e_lcmp (dt dk_L_law 517 rfl) ?_
                                            refine e_if_eq 883 (dt dk_L_law 518 rfl) (by decide) (fun h154 => ?_) (fun h154 => ?_)
                                            · refine e_iinc [some (.ref 77), some (.ref 0), some (.ref 53), some (.int (v3 + (6 : Int32)))] (dt dk_L_law 609 rfl) rfl rfl rfl rfl ?_
                                              refine e_goto 18 (dt dk_L_law 610 rfl) (by decide) ?_
                                              exact e_forget [true, true, true, true] [some (.ref 77), some (.ref 0), some (.ref 53), some (.int (v3 + (6 : Int32)))] ⟨rfl, rfl⟩ (hK18 (v3 + (6 : Int32)) M)
                                            · refine e_iconst (v := (0 : Int32)) (dt dk_L_law 519 rfl) (by decide) ?_
                                              exact e_iret (dt dk_L_law 520 rfl) rfl rfl rfl
                                          · skip
                                            refine e_split (fun h155 => ?_) (fun h155 => ?_)
                                            · refine e_tableIn 771 (dt dk_L_law 21 rfl) (by rw [h155]; decide) (by rw [h155]; decide) (by rw [h155]; rfl) (by decide) ?_
                                              refine e_aload_n (dt dk_L_law 521 rfl) rfl ?_
                                              refine e_aload_n (dt dk_L_law 522 rfl) rfl ?_
                                              refine e_iload_n (dt dk_L_law 523 rfl) rfl ?_
                                              refine e_iconst (v := (1 : Int32)) (dt dk_L_law 524 rfl) (by decide) ?_
                                              refine e_iadd (dt dk_L_law 525 rfl) ?_
                                              refine e_if (fun h156 => ?_)
                                              refine e_iaS' (dt dk_L_law 526 rfl) h156 ?_
                                              refine e_aload_n (dt dk_L_law 527 rfl) rfl ?_
                                              refine e_iload_n (dt dk_L_law 528 rfl) rfl ?_
                                              refine e_iconst (v := (2 : Int32)) (dt dk_L_law 529 rfl) (by decide) ?_
                                              refine e_iadd (dt dk_L_law 530 rfl) ?_
                                              refine e_if (fun h157 => ?_)
                                              refine e_iaS' (dt dk_L_law 531 rfl) h157 ?_
                                              refine e_aload_n (dt dk_L_law 532 rfl) rfl ?_
                                              refine e_iload_n (dt dk_L_law 533 rfl) rfl ?_
                                              refine e_iconst (v := (3 : Int32)) (dt dk_L_law 534 rfl) (by decide) ?_
                                              refine e_iadd (dt dk_L_law 535 rfl) ?_
                                              refine e_if (fun h158 => ?_)
                                              refine e_iaS' (dt dk_L_law 536 rfl) h158 ?_
                                              refine ev_call (ca_V (k := 0) mv_X9_year (sp_X9_year (sf (ix (v3 + (1 : Int32)))) (sf (ix (v3 + (2 : Int32)))) (sf (ix (v3 + (3 : Int32)))) M) (dt dk_L_law 537 rfl) ml_L_101 rfl rfl rfl rfl rfl (by decide) : Ca _ _ _ _ _ _ _ _ [] _ _) (fun q159 hq159 => ?_)
                                              show Ev _ _ _ _ _ _ 790 [some (.ref 77), some (.ref 0), some (.ref 53), some (.int v3)] [.int q159.1] q159.2 _
                                              refine e_aload_n (dt dk_L_law 538 rfl) rfl ?_
                                              refine e_aload_n (dt dk_L_law 539 rfl) rfl ?_
                                              refine e_iload_n (dt dk_L_law 540 rfl) rfl ?_
                                              refine e_iconst (v := (1 : Int32)) (dt dk_L_law 541 rfl) (by decide) ?_
                                              refine e_iadd (dt dk_L_law 542 rfl) ?_
                                              refine e_if (fun h160 => ?_)
                                              refine e_iaS' (dt dk_L_law 543 rfl) h160 ?_
                                              refine e_aload_n (dt dk_L_law 544 rfl) rfl ?_
                                              refine e_iload_n (dt dk_L_law 545 rfl) rfl ?_
                                              refine e_iconst (v := (2 : Int32)) (dt dk_L_law 546 rfl) (by decide) ?_
                                              refine e_iadd (dt dk_L_law 547 rfl) ?_
                                              refine e_if (fun h161 => ?_)
                                              refine e_iaS' (dt dk_L_law 548 rfl) h161 ?_
                                              refine e_aload_n (dt dk_L_law 549 rfl) rfl ?_
                                              refine e_iload_n (dt dk_L_law 550 rfl) rfl ?_
                                              refine e_iconst (v := (3 : Int32)) (dt dk_L_law 551 rfl) (by decide) ?_
                                              refine e_iadd (dt dk_L_law 552 rfl) ?_
                                              refine e_if (fun h162 => ?_)
                                              refine e_iaS' (dt dk_L_law 553 rfl) h162 ?_
                                              refine ev_call (ca_V (k := 53) mv_X10_year (sp_X10_year (sf (ix (v3 + (1 : Int32)))) (sf (ix (v3 + (2 : Int32)))) (sf (ix (v3 + (3 : Int32)))) q159.2) (dt dk_L_law 554 rfl) ml_L_104 rfl rfl rfl rfl rfl (by decide) : Ca _ _ _ _ _ _ _ _ [.int q159.1] _ _) (fun q163 hq163 => ?_)
                                              show Ev _ _ _ _ _ _ 809 [some (.ref 77), some (.ref 0), some (.ref 53), some (.int v3)] [.int q163.1, .int q159.1] q163.2 _
                                              refine e_icmp_eq 883 (dt dk_L_law 555 rfl) (by decide) (fun h164 => ?_) (fun h164 => ?_)
                                              · refine e_iinc [some (.ref 77), some (.ref 0), some (.ref 53), some (.int (v3 + (6 : Int32)))] (dt dk_L_law 609 rfl) rfl rfl rfl rfl ?_
                                                refine e_goto 18 (dt dk_L_law 610 rfl) (by decide) ?_
                                                exact e_forget [true, true, true, true] [some (.ref 77), some (.ref 0), some (.ref 53), some (.int (v3 + (6 : Int32)))] ⟨rfl, rfl⟩ (hK18 (v3 + (6 : Int32)) q163.2)
                                              · refine e_iconst (v := (0 : Int32)) (dt dk_L_law 556 rfl) (by decide) ?_
                                                exact e_iret (dt dk_L_law 557 rfl) rfl rfl rfl
                                            · skip
                                              refine e_split (fun h165 => ?_) (fun h165 => ?_)
                                              · refine e_tableIn 814 (dt dk_L_law 21 rfl) (by rw [h165]; decide) (by rw [h165]; decide) (by rw [h165]; rfl) (by decide) ?_
                                                refine e_aload_n (dt dk_L_law 558 rfl) rfl ?_
                                                refine e_aload_n (dt dk_L_law 559 rfl) rfl ?_
                                                refine e_iload_n (dt dk_L_law 560 rfl) rfl ?_
                                                refine e_iconst (v := (1 : Int32)) (dt dk_L_law 561 rfl) (by decide) ?_
                                                refine e_iadd (dt dk_L_law 562 rfl) ?_
                                                refine e_if (fun h166 => ?_)
                                                refine e_iaS' (dt dk_L_law 563 rfl) h166 ?_
                                                refine ev_call (ca_V (k := 0) mv_X9_image (sp_X9_image (sf (ix (v3 + (1 : Int32)))) M) (dt dk_L_law 564 rfl) ml_L_105 rfl rfl rfl rfl rfl (by decide) : Ca _ _ _ _ _ _ _ _ [] _ _) (fun q167 hq167 => ?_)
                                                show Ev _ _ _ _ _ _ 823 [some (.ref 77), some (.ref 0), some (.ref 53), some (.int v3)] [.int q167.1] q167.2 _
                                                refine e_aload_n (dt dk_L_law 565 rfl) rfl ?_
                                                refine e_aload_n (dt dk_L_law 566 rfl) rfl ?_
                                                refine e_iload_n (dt dk_L_law 567 rfl) rfl ?_
                                                refine e_iconst (v := (1 : Int32)) (dt dk_L_law 568 rfl) (by decide) ?_
                                                refine e_iadd (dt dk_L_law 569 rfl) ?_
                                                refine e_if (fun h168 => ?_)
                                                refine e_iaS' (dt dk_L_law 570 rfl) h168 ?_
                                                refine ev_call (ca_V (k := 53) mv_X10_image (sp_X10_image (sf (ix (v3 + (1 : Int32)))) q167.2) (dt dk_L_law 571 rfl) ml_L_108 rfl rfl rfl rfl rfl (by decide) : Ca _ _ _ _ _ _ _ _ [.int q167.1] _ _) (fun q169 hq169 => ?_)
                                                show Ev _ _ _ _ _ _ 832 [some (.ref 77), some (.ref 0), some (.ref 53), some (.int v3)] [.int q169.1, .int q167.1] q169.2 _
                                                refine e_icmp_eq 883 (dt dk_L_law 572 rfl) (by decide) (fun h170 => ?_) (fun h170 => ?_)
                                                · refine e_iinc [some (.ref 77), some (.ref 0), some (.ref 53), some (.int (v3 + (6 : Int32)))] (dt dk_L_law 609 rfl) rfl rfl rfl rfl ?_
                                                  refine e_goto 18 (dt dk_L_law 610 rfl) (by decide) ?_
                                                  exact e_forget [true, true, true, true] [some (.ref 77), some (.ref 0), some (.ref 53), some (.int (v3 + (6 : Int32)))] ⟨rfl, rfl⟩ (hK18 (v3 + (6 : Int32)) q169.2)
                                                · refine e_iconst (v := (0 : Int32)) (dt dk_L_law 573 rfl) (by decide) ?_
                                                  exact e_iret (dt dk_L_law 574 rfl) rfl rfl rfl
                                              · skip
                                                refine e_split (fun h171 => ?_) (fun h171 => ?_)
                                                · refine e_tableIn 837 (dt dk_L_law 21 rfl) (by rw [h171]; decide) (by rw [h171]; decide) (by rw [h171]; rfl) (by decide) ?_
                                                  refine e_aload_n (dt dk_L_law 575 rfl) rfl ?_
                                                  refine e_aload_n (dt dk_L_law 576 rfl) rfl ?_
                                                  refine e_iload_n (dt dk_L_law 577 rfl) rfl ?_
                                                  refine e_iconst (v := (1 : Int32)) (dt dk_L_law 578 rfl) (by decide) ?_
                                                  refine e_iadd (dt dk_L_law 579 rfl) ?_
                                                  refine e_if (fun h172 => ?_)
                                                  refine e_iaS' (dt dk_L_law 580 rfl) h172 ?_
                                                  refine ev_call (ca_V (k := 0) mv_X9_restore (sp_X9_restore (sf (ix (v3 + (1 : Int32)))) M) (dt dk_L_law 581 rfl) ml_L_109 rfl rfl rfl rfl rfl (by decide) : Ca _ _ _ _ _ _ _ _ [] _ _) (fun q173 hq173 => ?_)
                                                  show Ev _ _ _ _ _ _ 846 [some (.ref 77), some (.ref 0), some (.ref 53), some (.int v3)] [.int q173.1] q173.2 _
                                                  refine e_aload_n (dt dk_L_law 582 rfl) rfl ?_
                                                  refine e_aload_n (dt dk_L_law 583 rfl) rfl ?_
                                                  refine e_iload_n (dt dk_L_law 584 rfl) rfl ?_
                                                  refine e_iconst (v := (1 : Int32)) (dt dk_L_law 585 rfl) (by decide) ?_
                                                  refine e_iadd (dt dk_L_law 586 rfl) ?_
                                                  refine e_if (fun h174 => ?_)
                                                  refine e_iaS' (dt dk_L_law 587 rfl) h174 ?_
                                                  refine ev_call (ca_V (k := 53) mv_X10_restore (sp_X10_restore (sf (ix (v3 + (1 : Int32)))) q173.2) (dt dk_L_law 588 rfl) ml_L_112 rfl rfl rfl rfl rfl (by decide) : Ca _ _ _ _ _ _ _ _ [.int q173.1] _ _) (fun q175 hq175 => ?_)
                                                  show Ev _ _ _ _ _ _ 855 [some (.ref 77), some (.ref 0), some (.ref 53), some (.int v3)] [.int q175.1, .int q173.1] q175.2 _
                                                  refine e_icmp_eq 883 (dt dk_L_law 589 rfl) (by decide) (fun h176 => ?_) (fun h176 => ?_)
                                                  · refine e_iinc [some (.ref 77), some (.ref 0), some (.ref 53), some (.int (v3 + (6 : Int32)))] (dt dk_L_law 609 rfl) rfl rfl rfl rfl ?_
                                                    refine e_goto 18 (dt dk_L_law 610 rfl) (by decide) ?_
                                                    exact e_forget [true, true, true, true] [some (.ref 77), some (.ref 0), some (.ref 53), some (.int (v3 + (6 : Int32)))] ⟨rfl, rfl⟩ (hK18 (v3 + (6 : Int32)) q175.2)
                                                  · refine e_iconst (v := (0 : Int32)) (dt dk_L_law 590 rfl) (by decide) ?_
                                                    exact e_iret (dt dk_L_law 591 rfl) rfl rfl rfl
                                                · skip
                                                  refine e_split (fun h177 => ?_) (fun h177 => ?_)
                                                  · refine e_tableIn 860 (dt dk_L_law 21 rfl) (by rw [h177]; decide) (by rw [h177]; decide) (by rw [h177]; rfl) (by decide) ?_
                                                    refine e_aload_n (dt dk_L_law 592 rfl) rfl ?_
                                                    refine e_aload_n (dt dk_L_law 593 rfl) rfl ?_
                                                    refine e_iload_n (dt dk_L_law 594 rfl) rfl ?_
                                                    refine e_iconst (v := (1 : Int32)) (dt dk_L_law 595 rfl) (by decide) ?_
                                                    refine e_iadd (dt dk_L_law 596 rfl) ?_
                                                    refine e_if (fun h178 => ?_)
                                                    refine e_iaS' (dt dk_L_law 597 rfl) h178 ?_
                                                    refine ev_call (ca_V (k := 0) mv_X9_told (sp_X9_told (sf (ix (v3 + (1 : Int32)))) M) (dt dk_L_law 598 rfl) ml_L_113 rfl rfl rfl rfl rfl (by decide) : Ca _ _ _ _ _ _ _ _ [] _ _) (fun r179 hr179 => ?_)
                                                    show Ev _ _ _ _ _ _ 869 [some (.ref 77), some (.ref 0), some (.ref 53), some (.int v3)] [.int r179] M _
                                                    refine e_aload_n (dt dk_L_law 599 rfl) rfl ?_
                                                    refine e_aload_n (dt dk_L_law 600 rfl) rfl ?_
                                                    refine e_iload_n (dt dk_L_law 601 rfl) rfl ?_
                                                    refine e_iconst (v := (1 : Int32)) (dt dk_L_law 602 rfl) (by decide) ?_
                                                    refine e_iadd (dt dk_L_law 603 rfl) ?_
                                                    refine e_if (fun h180 => ?_)
                                                    refine e_iaS' (dt dk_L_law 604 rfl) h180 ?_
                                                    refine ev_call (ca_V (k := 53) mv_X10_told (sp_X10_told (sf (ix (v3 + (1 : Int32)))) M) (dt dk_L_law 605 rfl) ml_L_116 rfl rfl rfl rfl rfl (by decide) : Ca _ _ _ _ _ _ _ _ [.int r179] _ _) (fun r181 hr181 => ?_)
                                                    show Ev _ _ _ _ _ _ 878 [some (.ref 77), some (.ref 0), some (.ref 53), some (.int v3)] [.int r181, .int r179] M _
                                                    refine e_icmp_eq 883 (dt dk_L_law 606 rfl) (by decide) (fun h182 => ?_) (fun h182 => ?_)
                                                    · refine e_iinc [some (.ref 77), some (.ref 0), some (.ref 53), some (.int (v3 + (6 : Int32)))] (dt dk_L_law 609 rfl) rfl rfl rfl rfl ?_
                                                      refine e_goto 18 (dt dk_L_law 610 rfl) (by decide) ?_
                                                      exact e_forget [true, true, true, true] [some (.ref 77), some (.ref 0), some (.ref 53), some (.int (v3 + (6 : Int32)))] ⟨rfl, rfl⟩ (hK18 (v3 + (6 : Int32)) M)
                                                    · refine e_iconst (v := (0 : Int32)) (dt dk_L_law 607 rfl) (by decide) ?_
                                                      exact e_iret (dt dk_L_law 608 rfl) rfl rfl rfl
                                                  · skip
                                                    refine e_tableOut 883 (dt dk_L_law 21 rfl) (sw_out 23 (by simp only [List.range, List.range.loop, List.all_cons, List.all_nil]; simp [h3, h17, h29, h35, h41, h45, h49, h55, h63, h69, h75, h79, h91, h97, h109, h117, h121, h127, h133, h143, h155, h165, h171, h177])) (by decide) ?_
                                                    refine e_iinc [some (.ref 77), some (.ref 0), some (.ref 53), some (.int (v3 + (6 : Int32)))] (dt dk_L_law 609 rfl) rfl rfl rfl rfl ?_
                                                    refine e_goto 18 (dt dk_L_law 610 rfl) (by decide) ?_
                                                    exact e_forget [true, true, true, true] [some (.ref 77), some (.ref 0), some (.ref 53), some (.int (v3 + (6 : Int32)))] ⟨rfl, rfl⟩ (hK18 (v3 + (6 : Int32)) M)
def lp_L_law_77_0_53_18 (Ls : Nat) (sf : Nat → Int32)  : Nat → Int32 → Mem → Option (Int32 × Mem)
  | 0 => fun _ _ => none
  | n + 1 => bd_L_law_77_0_53_18 Ls sf (lp_L_law_77_0_53_18 Ls sf n)
theorem ev_lp_L_law_77_0_53_18 (Ls : Nat) (sf : Nat → Int32)   : ∀ (n : Nat), ∀ (v3 : Int32) (M : Mem), Ev (some (Ls, sf)) wI RL cL_law (some .boolean) 8 18 [some (.ref 77), some (.ref 0), some (.ref 53), some (.int v3)] [] M (lp_L_law_77_0_53_18 Ls sf n v3 M)
  | 0 => fun _ _ => e_none
  | n + 1 => ev_bd_L_law_77_0_53_18 Ls sf (lp_L_law_77_0_53_18 Ls sf n) (ev_lp_L_law_77_0_53_18 Ls sf n)
