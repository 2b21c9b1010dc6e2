theorem ne0_le {x : Int32} (h : ¬ x ≤ 0) : ¬ x = 0 := fun e => h (by rw [e]; decide)
theorem ne0_lt {x : Int32} (h : 0 < x) : ¬ x = 0 := fun e => absurd h (by rw [e]; decide)
theorem ne0_1 {x : Int32} (h : 1 ≤ x) : ¬ x = 0 := fun e => absurd h (by rw [e]; decide)
theorem ne0_n1 {x : Int32} (h : ¬ x < 1) : ¬ x = 0 := fun e => h (by rw [e]; decide)
def sX6_outside (v : Int32) (lo : Int32) (hi : Int32) : Int32 := if lo ≤ v then (if v ≤ hi then 0 else (-6)) else (-4)
set_option maxRecDepth 20000 in
theorem eX6_outside {G : zG} {h : zH} {v lo hi : Int32} : EvF G mX6_outside [.int v, .int lo, .int hi] h (some (.int (sX6_outside v lo hi))) h := by
  generalize hs : (sX6_outside v lo hi) = zz
  refine EvF.of pnX6 rfl ?_
  refine R_iload_n 1 dX6_outside_0 rfl rfl ?_
  refine R_iload_n 2 dX6_outside_1 rfl rfl ?_
  refine R_icmp_ge 5 8 dX6_outside_2 rfl (by decide) (fun c1 => ?_) (fun c1 => ?_)
  ·
    refine R_iload_n 9 dX6_outside_8 rfl rfl ?_
    refine R_iload_n 10 dX6_outside_9 rfl rfl ?_
    refine R_cut 19 [(0, .int v), (1, .int lo), (2, .int hi)] (.int (if v ≤ hi then 0 else (-6)) :: []) h ?_ (fun kj => ?_)
    ·
      refine R_ireturn dX6_outside_19 rfl rfl ?_
      have e : zz = if v ≤ hi then 0 else (-6) := by rw [← hs]; unfold sX6_outside; rw [if_pos c1]
      subst e; exact ⟨rfl, rfl⟩
    refine R_icmp_le 13 18 dX6_outside_10 rfl (by decide) (fun c2 => ?_) (fun c2 => ?_)
    · refine R_iconst 19 dX6_outside_18 rfl (v := 0) (by decide) ?_
      rw [if_pos c2] at kj; exact kj
    · refine R_bipush 15 dX6_outside_13 rfl (v := (-6)) (by decide) ?_
      refine R_goto 19 dX6_outside_15 (by decide) ?_
      rw [if_neg c2] at kj; exact kj
  ·
    refine R_bipush 7 dX6_outside_5 rfl (v := (-4)) (by decide) ?_
    refine R_ireturn dX6_outside_7 rfl rfl ?_
    have e : zz = (-4) := by rw [← hs]; unfold sX6_outside; rw [if_neg c1]
    subst e; exact ⟨rfl, rfl⟩
def sX6_held (v : Int32) (lo : Int32) (hi : Int32) : Int32 := sMax lo (sMin hi v)
set_option maxRecDepth 20000 in
theorem eX6_held {G : zG} {h : zH} {v lo hi : Int32} : EvF G mX6_held [.int v, .int lo, .int hi] h (some (.int (sX6_held v lo hi))) h := by
  generalize hs : (sX6_held v lo hi) = zz
  refine EvF.of pnX6 rfl ?_
  refine R_iload_n 1 dX6_held_0 rfl rfl ?_
  refine R_iload_n 2 dX6_held_1 rfl rfl ?_
  refine R_iload_n 3 dX6_held_2 rfl rfl ?_
  refine R_mmin 6 dX6_held_3 rfl lmX6_226 mw_min rfl rfl rfl ?_
  refine R_top (y := sMin hi v) rfl ?_
  refine R_mmax 9 dX6_held_6 rfl lmX6_231 mw_max rfl rfl rfl ?_
  refine R_top (y := sMax lo (sMin hi v)) rfl ?_
  refine R_ireturn dX6_held_9 rfl rfl ?_
  have e : zz = sMax lo (sMin hi v) := by rw [← hs]; unfold sX6_held; rfl
  subst e; exact ⟨rfl, rfl⟩
def sX7_isIn (v : Int32) (lo : Int32) (hi : Int32) : Bool := if v < lo then false else (!decide (hi < v))
set_option maxRecDepth 20000 in
theorem eX7_isIn {G : zG} {h : zH} {v lo hi : Int32} : EvF G mX7_isIn [.int v, .int lo, .int hi] h (some (.int (b2i (sX7_isIn v lo hi)))) h := by
  generalize hs : (sX7_isIn v lo hi) = zz
  refine EvF.of pnX7 rfl ?_
  refine R_iload_n 1 dX7_isIn_0 rfl rfl ?_
  refine R_iload_n 2 dX7_isIn_1 rfl rfl ?_
  refine R_icmp_lt 5 14 dX7_isIn_2 rfl (by decide) (fun c1 => ?_) (fun c1 => ?_)
  ·
    refine R_iconst 15 dX7_isIn_14 rfl (v := 0) (by decide) ?_
    refine R_ireturn dX7_isIn_15 rfl (by decide) ?_
    have e : zz = false := by rw [← hs]; unfold sX7_isIn; rw [if_pos c1]
    subst e; exact ⟨rfl, rfl⟩
  ·
    refine R_iload_n 6 dX7_isIn_5 rfl rfl ?_
    refine R_iload_n 7 dX7_isIn_6 rfl rfl ?_
    refine R_cut 15 [(0, .int v), (1, .int lo), (2, .int hi)] (.int (b2i (!decide (hi < v))) :: []) h ?_ (fun kj => ?_)
    ·
      refine R_ireturn dX7_isIn_15 rfl (nar_b _) ?_
      have e : zz = (!decide (hi < v)) := by rw [← hs]; unfold sX7_isIn; rw [if_neg c1]
      subst e; exact ⟨rfl, rfl⟩
    refine R_icmp_gt 10 14 dX7_isIn_7 rfl (by decide) (fun c2 => ?_) (fun c2 => ?_)
    · refine R_iconst 15 dX7_isIn_14 rfl (v := 0) (by decide) ?_
      rw [b2i_np c2] at kj; exact kj
    · refine R_iconst 11 dX7_isIn_10 rfl (v := 1) (by decide) ?_
      refine R_goto 15 dX7_isIn_11 (by decide) ?_
      rw [b2i_nn c2] at kj; exact kj
def sX7_bound (v : Int32) (lo : Int32) (hi : Int32) : Int32 := if lo ≤ v then (if v ≤ hi then 0 else (-6)) else (-4)
set_option maxRecDepth 20000 in
theorem eX7_bound {G : zG} {h : zH} {v lo hi : Int32} : EvF G mX7_bound [.int v, .int lo, .int hi] h (some (.int (sX7_bound v lo hi))) h := by
  generalize hs : (sX7_bound v lo hi) = zz
  refine EvF.of pnX7 rfl ?_
  refine R_iload_n 1 dX7_bound_0 rfl rfl ?_
  refine R_iload_n 2 dX7_bound_1 rfl rfl ?_
  refine R_icmp_ge 5 10 dX7_bound_2 rfl (by decide) (fun c1 => ?_) (fun c1 => ?_)
  ·
    refine R_iload_n 11 dX7_bound_10 rfl rfl ?_
    refine R_iload_n 12 dX7_bound_11 rfl rfl ?_
    refine R_cut 21 [(0, .int v), (1, .int lo), (2, .int hi)] (.int (if v ≤ hi then 0 else (-6)) :: []) h ?_ (fun kj => ?_)
    ·
      refine R_ireturn dX7_bound_21 rfl rfl ?_
      have e : zz = if v ≤ hi then 0 else (-6) := by rw [← hs]; unfold sX7_bound; rw [if_pos c1]
      subst e; exact ⟨rfl, rfl⟩
    refine R_icmp_le 15 20 dX7_bound_12 rfl (by decide) (fun c2 => ?_) (fun c2 => ?_)
    · refine R_iconst 21 dX7_bound_20 rfl (v := 0) (by decide) ?_
      rw [if_pos c2] at kj; exact kj
    · refine R_bipush 17 dX7_bound_15 rfl (v := (-6)) (by decide) ?_
      refine R_goto 21 dX7_bound_17 (by decide) ?_
      rw [if_neg c2] at kj; exact kj
  ·
    refine R_bipush 7 dX7_bound_5 rfl (v := (-4)) (by decide) ?_
    refine R_goto 21 dX7_bound_7 (by decide) ?_
    refine R_ireturn dX7_bound_21 rfl rfl ?_
    have e : zz = (-4) := by rw [← hs]; unfold sX7_bound; rw [if_neg c1]
    subst e; exact ⟨rfl, rfl⟩
def sX7_size (v : Int32) : Int32 := if 0 ≤ v then v else -v
set_option maxRecDepth 20000 in
theorem eX7_size {G : zG} {h : zH} {v : Int32} : EvF G mX7_size [.int v] h (some (.int (sX7_size v))) h := by
  generalize hs : (sX7_size v) = zz
  refine EvF.of pnX7 rfl ?_
  refine R_iload_n 1 dX7_size_0 rfl rfl ?_
  refine R_cut 10 [(0, .int v)] (.int (if 0 ≤ v then v else -v) :: []) h ?_ (fun kj => ?_)
  ·
    refine R_ireturn dX7_size_10 rfl rfl ?_
    have e : zz = if 0 ≤ v then v else -v := by rw [← hs]; unfold sX7_size; rfl
    subst e; exact ⟨rfl, rfl⟩
  refine R_if_ge 4 9 dX7_size_1 rfl (by decide) (fun c1 => ?_) (fun c1 => ?_)
  · refine R_iload_n 10 dX7_size_9 rfl rfl ?_
    rw [if_pos c1] at kj; exact kj
  · refine R_iload_n 5 dX7_size_4 rfl rfl ?_
    refine R_ineg 6 dX7_size_5 rfl ?_
    refine R_goto 10 dX7_size_6 (by decide) ?_
    rw [if_neg c1] at kj; exact kj
def sX7_leastOf (w : Int32) : Int32 := if w = 0 then (-99) else if 3 ≤ w then (if w = 3 then (-9) else b2i (decide (w = 4))) else (-20)
set_option maxRecDepth 20000 in
theorem eX7_leastOf {G : zG} {h : zH} {w : Int32} : EvF G mX7_leastOf [.int w] h (some (.int (sX7_leastOf w))) h := by
  generalize hs : (sX7_leastOf w) = zz
  refine EvF.of pnX7 rfl ?_
  refine R_iload_n 1 dX7_leastOf_0 rfl rfl ?_
  refine R_if_ne 4 9 dX7_leastOf_1 rfl (by decide) (fun c1 => ?_) (fun c1 => ?_)
  ·
    refine R_iload_n 10 dX7_leastOf_9 rfl rfl ?_
    refine R_iconst 11 dX7_leastOf_10 rfl (v := 3) (by decide) ?_
    refine R_icmp_ge 14 19 dX7_leastOf_11 rfl (by decide) (fun c2 => ?_) (fun c2 => ?_)
    ·
      refine R_iload_n 20 dX7_leastOf_19 rfl rfl ?_
      refine R_iconst 21 dX7_leastOf_20 rfl (v := 3) (by decide) ?_
      refine R_icmp_ne 24 29 dX7_leastOf_21 rfl (by decide) (fun c3 => ?_) (fun c3 => ?_)
      ·
        refine R_iload_n 30 dX7_leastOf_29 rfl rfl ?_
        refine R_iconst 31 dX7_leastOf_30 rfl (v := 4) (by decide) ?_
        refine R_cut 39 [(0, .int w)] (.int (b2i (decide (w = 4))) :: []) h ?_ (fun kj => ?_)
        ·
          refine R_ireturn dX7_leastOf_39 rfl rfl ?_
          have e : zz = b2i (decide (w = 4)) := by rw [← hs]; unfold sX7_leastOf; rw [if_neg c1, if_pos c2, if_neg c3]
          subst e; exact ⟨rfl, rfl⟩
        refine R_icmp_ne 34 38 dX7_leastOf_31 rfl (by decide) (fun c4 => ?_) (fun c4 => ?_)
        · refine R_iconst 39 dX7_leastOf_38 rfl (v := 0) (by decide) ?_
          rw [b2i_n c4] at kj; exact kj
        · refine R_iconst 35 dX7_leastOf_34 rfl (v := 1) (by decide) ?_
          refine R_goto 39 dX7_leastOf_35 (by decide) ?_
          rw [b2i_p c4] at kj; exact kj
      ·
        refine R_bipush 26 dX7_leastOf_24 rfl (v := (-9)) (by decide) ?_
        refine R_goto 39 dX7_leastOf_26 (by decide) ?_
        refine R_ireturn dX7_leastOf_39 rfl rfl ?_
        have e : zz = (-9) := by rw [← hs]; unfold sX7_leastOf; rw [if_neg c1, if_pos c2, if_pos c3]
        subst e; exact ⟨rfl, rfl⟩
    ·
      refine R_bipush 16 dX7_leastOf_14 rfl (v := (-20)) (by decide) ?_
      refine R_goto 39 dX7_leastOf_16 (by decide) ?_
      refine R_ireturn dX7_leastOf_39 rfl rfl ?_
      have e : zz = (-20) := by rw [← hs]; unfold sX7_leastOf; rw [if_neg c1, if_neg c2]
      subst e; exact ⟨rfl, rfl⟩
  ·
    refine R_bipush 6 dX7_leastOf_4 rfl (v := (-99)) (by decide) ?_
    refine R_goto 39 dX7_leastOf_6 (by decide) ?_
    refine R_ireturn dX7_leastOf_39 rfl rfl ?_
    have e : zz = (-99) := by rw [← hs]; unfold sX7_leastOf; rw [if_pos c1]
    subst e; exact ⟨rfl, rfl⟩
def sX7_mostOf (w : Int32) : Int32 := if w = 0 then 99 else if 3 ≤ w then (if w = 4 then 20 else 9) else 20
set_option maxRecDepth 20000 in
theorem eX7_mostOf {G : zG} {h : zH} {w : Int32} : EvF G mX7_mostOf [.int w] h (some (.int (sX7_mostOf w))) h := by
  generalize hs : (sX7_mostOf w) = zz
  refine EvF.of pnX7 rfl ?_
  refine R_iload_n 1 dX7_mostOf_0 rfl rfl ?_
  refine R_if_ne 4 9 dX7_mostOf_1 rfl (by decide) (fun c1 => ?_) (fun c1 => ?_)
  ·
    refine R_iload_n 10 dX7_mostOf_9 rfl rfl ?_
    refine R_iconst 11 dX7_mostOf_10 rfl (v := 3) (by decide) ?_
    refine R_icmp_ge 14 19 dX7_mostOf_11 rfl (by decide) (fun c2 => ?_) (fun c2 => ?_)
    ·
      refine R_iload_n 20 dX7_mostOf_19 rfl rfl ?_
      refine R_iconst 21 dX7_mostOf_20 rfl (v := 4) (by decide) ?_
      refine R_cut 31 [(0, .int w)] (.int (if w = 4 then 20 else 9) :: []) h ?_ (fun kj => ?_)
      ·
        refine R_ireturn dX7_mostOf_31 rfl rfl ?_
        have e : zz = if w = 4 then 20 else 9 := by rw [← hs]; unfold sX7_mostOf; rw [if_neg c1, if_pos c2]
        subst e; exact ⟨rfl, rfl⟩
      refine R_icmp_ne 24 29 dX7_mostOf_21 rfl (by decide) (fun c3 => ?_) (fun c3 => ?_)
      · refine R_bipush 31 dX7_mostOf_29 rfl (v := 9) (by decide) ?_
        rw [if_neg c3] at kj; exact kj
      · refine R_bipush 26 dX7_mostOf_24 rfl (v := 20) (by decide) ?_
        refine R_goto 31 dX7_mostOf_26 (by decide) ?_
        rw [if_pos c3] at kj; exact kj
    ·
      refine R_bipush 16 dX7_mostOf_14 rfl (v := 20) (by decide) ?_
      refine R_goto 31 dX7_mostOf_16 (by decide) ?_
      refine R_ireturn dX7_mostOf_31 rfl rfl ?_
      have e : zz = 20 := by rw [← hs]; unfold sX7_mostOf; rw [if_neg c1, if_neg c2]
      subst e; exact ⟨rfl, rfl⟩
  ·
    refine R_bipush 6 dX7_mostOf_4 rfl (v := 99) (by decide) ?_
    refine R_goto 31 dX7_mostOf_6 (by decide) ?_
    refine R_ireturn dX7_mostOf_31 rfl rfl ?_
    have e : zz = 99 := by rw [← hs]; unfold sX7_mostOf; rw [if_pos c1]
    subst e; exact ⟨rfl, rfl⟩
def sX7_personOf (b : Int32) : Int32 := if b = 99 then 4 else if b = 100 then 1 else if b = 102 then 2 else if b = 109 then 3 else if b = 112 then 0 else (-1)
set_option maxRecDepth 20000 in
theorem eX7_personOf {G : zG} {h : zH} {b : Int32} : EvF G mX7_personOf [.int b] h (some (.int (sX7_personOf b))) h := by
  generalize hs : (sX7_personOf b) = zz
  refine EvF.of pnX7 rfl ?_
  refine R_iload_n 1 dX7_personOf_0 rfl rfl ?_
  by_cases c1 : b = 99
  ·
    refine R_tableAt 80 (off := 79) 99 c1 dX7_personOf_1 (by decide) (by decide) ?_
    refine R_iconst 81 dX7_personOf_80 rfl (v := 4) (by decide) ?_
    refine R_ireturn dX7_personOf_81 rfl rfl ?_
    have e : zz = 4 := by rw [← hs]; unfold sX7_personOf; rw [if_pos c1]
    subst e; exact ⟨rfl, rfl⟩
  by_cases c2 : b = 100
  ·
    refine R_tableAt 74 (off := 73) 100 c2 dX7_personOf_1 (by decide) (by decide) ?_
    refine R_iconst 75 dX7_personOf_74 rfl (v := 1) (by decide) ?_
    refine R_ireturn dX7_personOf_75 rfl rfl ?_
    have e : zz = 1 := by rw [← hs]; unfold sX7_personOf; rw [if_neg c1, if_pos c2]
    subst e; exact ⟨rfl, rfl⟩
  by_cases c3 : b = 102
  ·
    refine R_tableAt 76 (off := 75) 102 c3 dX7_personOf_1 (by decide) (by decide) ?_
    refine R_iconst 77 dX7_personOf_76 rfl (v := 2) (by decide) ?_
    refine R_ireturn dX7_personOf_77 rfl rfl ?_
    have e : zz = 2 := by rw [← hs]; unfold sX7_personOf; rw [if_neg c1, if_neg c2, if_pos c3]
    subst e; exact ⟨rfl, rfl⟩
  by_cases c4 : b = 109
  ·
    refine R_tableAt 78 (off := 77) 109 c4 dX7_personOf_1 (by decide) (by decide) ?_
    refine R_iconst 79 dX7_personOf_78 rfl (v := 3) (by decide) ?_
    refine R_ireturn dX7_personOf_79 rfl rfl ?_
    have e : zz = 3 := by rw [← hs]; unfold sX7_personOf; rw [if_neg c1, if_neg c2, if_neg c3, if_pos c4]
    subst e; exact ⟨rfl, rfl⟩
  by_cases c5 : b = 112
  ·
    refine R_tableAt 72 (off := 71) 112 c5 dX7_personOf_1 (by decide) (by decide) ?_
    refine R_iconst 73 dX7_personOf_72 rfl (v := 0) (by decide) ?_
    refine R_ireturn dX7_personOf_73 rfl rfl ?_
    have e : zz = 0 := by rw [← hs]; unfold sX7_personOf; rw [if_neg c1, if_neg c2, if_neg c3, if_neg c4, if_pos c5]
    subst e; exact ⟨rfl, rfl⟩
  refine R_tableD 82 [99, 100, 102, 109, 112] dX7_personOf_1 (List.forall_mem_cons.mpr ⟨lv_neT c1 (show (99 : Int32).toInt = 99 by decide), List.forall_mem_cons.mpr ⟨lv_neT c2 (show (100 : Int32).toInt = 100 by decide), List.forall_mem_cons.mpr ⟨lv_neT c3 (show (102 : Int32).toInt = 102 by decide), List.forall_mem_cons.mpr ⟨lv_neT c4 (show (109 : Int32).toInt = 109 by decide), List.forall_mem_cons.mpr ⟨lv_neT c5 (show (112 : Int32).toInt = 112 by decide), fun _ h => absurd h List.not_mem_nil⟩⟩⟩⟩⟩) (by decide) (by decide) ?_
  refine R_iconst 83 dX7_personOf_82 rfl (v := (-1)) (by decide) ?_
  refine R_ireturn dX7_personOf_83 rfl rfl ?_
  have e : zz = (-1) := by rw [← hs]; unfold sX7_personOf; rw [if_neg c1, if_neg c2, if_neg c3, if_neg c4, if_neg c5]
  subst e; exact ⟨rfl, rfl⟩
def sX7_driftOf (b : Int32) : Int32 := if b = 99 then 2 else if b = 106 then 3 else if b = 115 then 0 else if b = 117 then 4 else if b = 119 then 1 else (-1)
set_option maxRecDepth 20000 in
theorem eX7_driftOf {G : zG} {h : zH} {b : Int32} : EvF G mX7_driftOf [.int b] h (some (.int (sX7_driftOf b))) h := by
  generalize hs : (sX7_driftOf b) = zz
  refine EvF.of pnX7 rfl ?_
  refine R_iload_n 1 dX7_driftOf_0 rfl rfl ?_
  by_cases c1 : b = 99
  ·
    refine R_lookAt 56 (off := 55) 99 c1 dX7_driftOf_1 (by decide) (by decide) ?_
    refine R_iconst 57 dX7_driftOf_56 rfl (v := 2) (by decide) ?_
    refine R_ireturn dX7_driftOf_57 rfl rfl ?_
    have e : zz = 2 := by rw [← hs]; unfold sX7_driftOf; rw [if_pos c1]
    subst e; exact ⟨rfl, rfl⟩
  by_cases c2 : b = 106
  ·
    refine R_lookAt 58 (off := 57) 106 c2 dX7_driftOf_1 (by decide) (by decide) ?_
    refine R_iconst 59 dX7_driftOf_58 rfl (v := 3) (by decide) ?_
    refine R_ireturn dX7_driftOf_59 rfl rfl ?_
    have e : zz = 3 := by rw [← hs]; unfold sX7_driftOf; rw [if_neg c1, if_pos c2]
    subst e; exact ⟨rfl, rfl⟩
  by_cases c3 : b = 115
  ·
    refine R_lookAt 52 (off := 51) 115 c3 dX7_driftOf_1 (by decide) (by decide) ?_
    refine R_iconst 53 dX7_driftOf_52 rfl (v := 0) (by decide) ?_
    refine R_ireturn dX7_driftOf_53 rfl rfl ?_
    have e : zz = 0 := by rw [← hs]; unfold sX7_driftOf; rw [if_neg c1, if_neg c2, if_pos c3]
    subst e; exact ⟨rfl, rfl⟩
  by_cases c4 : b = 117
  ·
    refine R_lookAt 60 (off := 59) 117 c4 dX7_driftOf_1 (by decide) (by decide) ?_
    refine R_iconst 61 dX7_driftOf_60 rfl (v := 4) (by decide) ?_
    refine R_ireturn dX7_driftOf_61 rfl rfl ?_
    have e : zz = 4 := by rw [← hs]; unfold sX7_driftOf; rw [if_neg c1, if_neg c2, if_neg c3, if_pos c4]
    subst e; exact ⟨rfl, rfl⟩
  by_cases c5 : b = 119
  ·
    refine R_lookAt 54 (off := 53) 119 c5 dX7_driftOf_1 (by decide) (by decide) ?_
    refine R_iconst 55 dX7_driftOf_54 rfl (v := 1) (by decide) ?_
    refine R_ireturn dX7_driftOf_55 rfl rfl ?_
    have e : zz = 1 := by rw [← hs]; unfold sX7_driftOf; rw [if_neg c1, if_neg c2, if_neg c3, if_neg c4, if_pos c5]
    subst e; exact ⟨rfl, rfl⟩
  refine R_lookup 62 (off := 61) dX7_driftOf_1 (by decide) (by rw [lv_osw c1 (show (99 : Int32).toInt = 99 by decide), lv_osw c2 (show (106 : Int32).toInt = 106 by decide), lv_osw c3 (show (115 : Int32).toInt = 115 by decide), lv_osw c4 (show (117 : Int32).toInt = 117 by decide), lv_osw c5 (show (119 : Int32).toInt = 119 by decide)]; rfl) (by decide) ?_
  refine R_iconst 63 dX7_driftOf_62 rfl (v := (-1)) (by decide) ?_
  refine R_ireturn dX7_driftOf_63 rfl rfl ?_
  have e : zz = (-1) := by rw [← hs]; unfold sX7_driftOf; rw [if_neg c1, if_neg c2, if_neg c3, if_neg c4, if_neg c5]
  subst e; exact ⟨rfl, rfl⟩
def sX7_ruleOf (b : Int32) : Int32 := if b = 98 then 3 else if b = 101 then 0 else if b = 107 then 2 else if b = 108 then 4 else if b = 111 then 1 else (-1)
set_option maxRecDepth 20000 in
theorem eX7_ruleOf {G : zG} {h : zH} {b : Int32} : EvF G mX7_ruleOf [.int b] h (some (.int (sX7_ruleOf b))) h := by
  generalize hs : (sX7_ruleOf b) = zz
  refine EvF.of pnX7 rfl ?_
  refine R_iload_n 1 dX7_ruleOf_0 rfl rfl ?_
  by_cases c1 : b = 98
  ·
    refine R_tableAt 78 (off := 77) 98 c1 dX7_ruleOf_1 (by decide) (by decide) ?_
    refine R_iconst 79 dX7_ruleOf_78 rfl (v := 3) (by decide) ?_
    refine R_ireturn dX7_ruleOf_79 rfl rfl ?_
    have e : zz = 3 := by rw [← hs]; unfold sX7_ruleOf; rw [if_pos c1]
    subst e; exact ⟨rfl, rfl⟩
  by_cases c2 : b = 101
  ·
    refine R_tableAt 72 (off := 71) 101 c2 dX7_ruleOf_1 (by decide) (by decide) ?_
    refine R_iconst 73 dX7_ruleOf_72 rfl (v := 0) (by decide) ?_
    refine R_ireturn dX7_ruleOf_73 rfl rfl ?_
    have e : zz = 0 := by rw [← hs]; unfold sX7_ruleOf; rw [if_neg c1, if_pos c2]
    subst e; exact ⟨rfl, rfl⟩
  by_cases c3 : b = 107
  ·
    refine R_tableAt 76 (off := 75) 107 c3 dX7_ruleOf_1 (by decide) (by decide) ?_
    refine R_iconst 77 dX7_ruleOf_76 rfl (v := 2) (by decide) ?_
    refine R_ireturn dX7_ruleOf_77 rfl rfl ?_
    have e : zz = 2 := by rw [← hs]; unfold sX7_ruleOf; rw [if_neg c1, if_neg c2, if_pos c3]
    subst e; exact ⟨rfl, rfl⟩
  by_cases c4 : b = 108
  ·
    refine R_tableAt 80 (off := 79) 108 c4 dX7_ruleOf_1 (by decide) (by decide) ?_
    refine R_iconst 81 dX7_ruleOf_80 rfl (v := 4) (by decide) ?_
    refine R_ireturn dX7_ruleOf_81 rfl rfl ?_
    have e : zz = 4 := by rw [← hs]; unfold sX7_ruleOf; rw [if_neg c1, if_neg c2, if_neg c3, if_pos c4]
    subst e; exact ⟨rfl, rfl⟩
  by_cases c5 : b = 111
  ·
    refine R_tableAt 74 (off := 73) 111 c5 dX7_ruleOf_1 (by decide) (by decide) ?_
    refine R_iconst 75 dX7_ruleOf_74 rfl (v := 1) (by decide) ?_
    refine R_ireturn dX7_ruleOf_75 rfl rfl ?_
    have e : zz = 1 := by rw [← hs]; unfold sX7_ruleOf; rw [if_neg c1, if_neg c2, if_neg c3, if_neg c4, if_pos c5]
    subst e; exact ⟨rfl, rfl⟩
  refine R_tableD 82 [98, 101, 107, 108, 111] dX7_ruleOf_1 (List.forall_mem_cons.mpr ⟨lv_neT c1 (show (98 : Int32).toInt = 98 by decide), List.forall_mem_cons.mpr ⟨lv_neT c2 (show (101 : Int32).toInt = 101 by decide), List.forall_mem_cons.mpr ⟨lv_neT c3 (show (107 : Int32).toInt = 107 by decide), List.forall_mem_cons.mpr ⟨lv_neT c4 (show (108 : Int32).toInt = 108 by decide), List.forall_mem_cons.mpr ⟨lv_neT c5 (show (111 : Int32).toInt = 111 by decide), fun _ h => absurd h List.not_mem_nil⟩⟩⟩⟩⟩) (by decide) (by decide) ?_
  refine R_iconst 83 dX7_ruleOf_82 rfl (v := (-1)) (by decide) ?_
  refine R_ireturn dX7_ruleOf_83 rfl rfl ?_
  have e : zz = (-1) := by rw [← hs]; unfold sX7_ruleOf; rw [if_neg c1, if_neg c2, if_neg c3, if_neg c4, if_neg c5]
  subst e; exact ⟨rfl, rfl⟩
def sX1_swinging (dk : Int32) (dr : Int32) (t : Int32) : Int32 := if ((t / 10) - (t / 10) / 2 * 2) = 0 then dr else -dr
set_option maxRecDepth 20000 in
theorem eX1_swinging {G : zG} {h : zH} {r : Nat} {dk dr t : Int32} (hg : zg h r = some (.inr (1, [.int dk, .int dr]))) : EvF G mX1_swinging [.ref r, .int t] h (some (.int (sX1_swinging dk dr t))) h := by
  generalize hs : (sX1_swinging dk dr t) = zz
  refine EvF.of pnX1 rfl ?_
  refine R_iload_n 1 dX1_swinging_0 rfl rfl ?_
  refine R_bipush 3 dX1_swinging_1 rfl (v := 10) (by decide) ?_
  refine R_idiv 4 dX1_swinging_3 rfl (by decide) ?_
  refine R_iconst 5 dX1_swinging_4 rfl (v := 2) (by decide) ?_
  refine R_irem 6 dX1_swinging_5 rfl (by decide) ?_
  refine R_cut 21 [(0, .ref r), (1, .int t)] (.int (if ((t / 10) - (t / 10) / 2 * 2) = 0 then dr else -dr) :: []) h ?_ (fun kj => ?_)
  ·
    refine R_ireturn dX1_swinging_21 rfl rfl ?_
    have e : zz = if ((t / 10) - (t / 10) / 2 * 2) = 0 then dr else -dr := by rw [← hs]; unfold sX1_swinging; rfl
    subst e; exact ⟨rfl, rfl⟩
  refine R_if_ne 9 16 dX1_swinging_6 rfl (by decide) (fun c1 => ?_) (fun c1 => ?_)
  · refine R_aload_n 17 dX1_swinging_16 rfl rfl ?_
    refine R_get 20 dX1_swinging_17 rfl fX1_13 hg (v := .int dr) rfl ?_
    refine R_ineg 21 dX1_swinging_20 rfl ?_
    rw [if_neg c1] at kj; exact kj
  · refine R_aload_n 10 dX1_swinging_9 rfl rfl ?_
    refine R_get 13 dX1_swinging_10 rfl fX1_13 hg (v := .int dr) rfl ?_
    refine R_goto 21 dX1_swinging_13 (by decide) ?_
    rw [if_pos c1] at kj; exact kj
def sX1_cooled (dk : Int32) (dr : Int32) (b : Int32) : Int32 := if dr ≤ 0 then (if (-b) ≤ dr then 0 else dr + b) else if dr ≤ b then 0 else dr - b
set_option maxRecDepth 20000 in
theorem eX1_cooled {G : zG} {h : zH} {r : Nat} {dk dr b : Int32} (hg : zg h r = some (.inr (1, [.int dk, .int dr]))) : EvF G mX1_cooled [.ref r, .int b] h (some (.int (sX1_cooled dk dr b))) h := by
  generalize hs : (sX1_cooled dk dr b) = zz
  refine EvF.of pnX1 rfl ?_
  refine R_aload_n 1 dX1_cooled_0 rfl rfl ?_
  refine R_get 4 dX1_cooled_1 rfl fX1_13 hg (v := .int dr) rfl ?_
  refine R_if_le 7 26 dX1_cooled_4 rfl (by decide) (fun c1 => ?_) (fun c1 => ?_)
  ·
    refine R_aload_n 27 dX1_cooled_26 rfl rfl ?_
    refine R_get 30 dX1_cooled_27 rfl fX1_13 hg (v := .int dr) rfl ?_
    refine R_iload_n 31 dX1_cooled_30 rfl rfl ?_
    refine R_ineg 32 dX1_cooled_31 rfl ?_
    refine R_cut 45 [(0, .ref r), (1, .int b)] (.int (if (-b) ≤ dr then 0 else dr + b) :: []) h ?_ (fun kj => ?_)
    ·
      refine R_ireturn dX1_cooled_45 rfl rfl ?_
      have e : zz = if (-b) ≤ dr then 0 else dr + b := by rw [← hs]; unfold sX1_cooled; rw [if_pos c1]
      subst e; exact ⟨rfl, rfl⟩
    refine R_icmp_ge 35 44 dX1_cooled_32 rfl (by decide) (fun c2 => ?_) (fun c2 => ?_)
    · refine R_iconst 45 dX1_cooled_44 rfl (v := 0) (by decide) ?_
      rw [if_pos c2] at kj; exact kj
    · refine R_aload_n 36 dX1_cooled_35 rfl rfl ?_
      refine R_get 39 dX1_cooled_36 rfl fX1_13 hg (v := .int dr) rfl ?_
      refine R_iload_n 40 dX1_cooled_39 rfl rfl ?_
      refine R_iadd 41 dX1_cooled_40 rfl ?_
      refine R_goto 45 dX1_cooled_41 (by decide) ?_
      rw [if_neg c2] at kj; exact kj
  ·
    refine R_aload_n 8 dX1_cooled_7 rfl rfl ?_
    refine R_get 11 dX1_cooled_8 rfl fX1_13 hg (v := .int dr) rfl ?_
    refine R_iload_n 12 dX1_cooled_11 rfl rfl ?_
    refine R_cut 25 [(0, .ref r), (1, .int b)] (.int (if dr ≤ b then 0 else dr - b) :: []) h ?_ (fun kj => ?_)
    ·
      refine R_ireturn dX1_cooled_25 rfl rfl ?_
      have e : zz = if dr ≤ b then 0 else dr - b := by rw [← hs]; unfold sX1_cooled; rw [if_neg c1]
      subst e; exact ⟨rfl, rfl⟩
    refine R_icmp_le 15 24 dX1_cooled_12 rfl (by decide) (fun c3 => ?_) (fun c3 => ?_)
    · refine R_iconst 25 dX1_cooled_24 rfl (v := 0) (by decide) ?_
      rw [if_pos c3] at kj; exact kj
    · refine R_aload_n 16 dX1_cooled_15 rfl rfl ?_
      refine R_get 19 dX1_cooled_16 rfl fX1_13 hg (v := .int dr) rfl ?_
      refine R_iload_n 20 dX1_cooled_19 rfl rfl ?_
      refine R_isub 21 dX1_cooled_20 rfl ?_
      refine R_goto 25 dX1_cooled_21 (by decide) ?_
      rw [if_neg c3] at kj; exact kj
def sX1_amountIn (dk : Int32) (dr : Int32) (t : Int32) : Int32 := if dk = 1 then (sX1_swinging dk dr t) else if dk = 2 then (sX1_cooled dk dr (t / 20)) else if dk = 3 then (if (t - t / 3 * 3) = 0 then 3 * dr else 0) else if dk = 4 then (if (t - t / 2 * 2) = 0 then (sX1_swinging dk dr t) + 1 else (sX1_swinging dk dr t)) else dr
set_option maxRecDepth 20000 in
theorem eX1_amountIn {G : zG} {h : zH} {r : Nat} {dk dr t : Int32} (hg : zg h r = some (.inr (1, [.int dk, .int dr]))) : EvF G mX1_amountIn [.ref r, .int t] h (some (.int (sX1_amountIn dk dr t))) h := by
  generalize hs : (sX1_amountIn dk dr t) = zz
  refine EvF.of pnX1 rfl ?_
  refine R_aload_n 1 dX1_amountIn_0 rfl rfl ?_
  refine R_get 4 dX1_amountIn_1 rfl fX1_7 hg (v := .int dk) rfl ?_
  by_cases c1 : dk = 1
  ·
    refine R_tableAt 36 (off := 32) 1 c1 dX1_amountIn_4 (by decide) (by decide) ?_
    refine R_aload_n 37 dX1_amountIn_36 rfl rfl ?_
    refine R_iload_n 38 dX1_amountIn_37 rfl rfl ?_
    refine R_callVi 41 (eX1_swinging (dk := dk) (dr := dr) hg) dX1_amountIn_38 rfl kX1_swinging lX1_16 rfl rfl rfl rfl rfl hg rfl ?_
    refine R_ireturn dX1_amountIn_41 rfl rfl ?_
    have e : zz = (sX1_swinging dk dr t) := by rw [← hs]; unfold sX1_amountIn; rw [if_pos c1]
    subst e; exact ⟨rfl, rfl⟩
  by_cases c2 : dk = 2
  ·
    refine R_tableAt 42 (off := 38) 2 c2 dX1_amountIn_4 (by decide) (by decide) ?_
    refine R_aload_n 43 dX1_amountIn_42 rfl rfl ?_
    refine R_iload_n 44 dX1_amountIn_43 rfl rfl ?_
    refine R_bipush 46 dX1_amountIn_44 rfl (v := 20) (by decide) ?_
    refine R_idiv 47 dX1_amountIn_46 rfl (by decide) ?_
    refine R_callVi 50 (eX1_cooled (dk := dk) (dr := dr) hg) dX1_amountIn_47 rfl kX1_cooled lX1_20 rfl rfl rfl rfl rfl hg rfl ?_
    refine R_ireturn dX1_amountIn_50 rfl rfl ?_
    have e : zz = (sX1_cooled dk dr (t / 20)) := by rw [← hs]; unfold sX1_amountIn; rw [if_neg c1, if_pos c2]
    subst e; exact ⟨rfl, rfl⟩
  by_cases c3 : dk = 3
  ·
    refine R_tableAt 51 (off := 47) 3 c3 dX1_amountIn_4 (by decide) (by decide) ?_
    refine R_iload_n 52 dX1_amountIn_51 rfl rfl ?_
    refine R_iconst 53 dX1_amountIn_52 rfl (v := 3) (by decide) ?_
    refine R_irem 54 dX1_amountIn_53 rfl (by decide) ?_
    refine R_cut 67 [(0, .ref r), (1, .int t)] (.int (if (t - t / 3 * 3) = 0 then 3 * dr else 0) :: []) h ?_ (fun kj => ?_)
    ·
      refine R_ireturn dX1_amountIn_67 rfl rfl ?_
      have e : zz = if (t - t / 3 * 3) = 0 then 3 * dr else 0 := by rw [← hs]; unfold sX1_amountIn; rw [if_neg c1, if_neg c2, if_pos c3]
      subst e; exact ⟨rfl, rfl⟩
    refine R_if_ne 57 66 dX1_amountIn_54 rfl (by decide) (fun c4 => ?_) (fun c4 => ?_)
    · refine R_iconst 67 dX1_amountIn_66 rfl (v := 0) (by decide) ?_
      rw [if_neg c4] at kj; exact kj
    · refine R_iconst 58 dX1_amountIn_57 rfl (v := 3) (by decide) ?_
      refine R_aload_n 59 dX1_amountIn_58 rfl rfl ?_
      refine R_get 62 dX1_amountIn_59 rfl fX1_13 hg (v := .int dr) rfl ?_
      refine R_imul 63 dX1_amountIn_62 rfl ?_
      refine R_goto 67 dX1_amountIn_63 (by decide) ?_
      rw [if_pos c4] at kj; exact kj
  by_cases c5 : dk = 4
  ·
    refine R_tableAt 68 (off := 64) 4 c5 dX1_amountIn_4 (by decide) (by decide) ?_
    refine R_iload_n 69 dX1_amountIn_68 rfl rfl ?_
    refine R_iconst 70 dX1_amountIn_69 rfl (v := 2) (by decide) ?_
    refine R_irem 71 dX1_amountIn_70 rfl (by decide) ?_
    refine R_if_ne 74 84 dX1_amountIn_71 rfl (by decide) (fun c6 => ?_) (fun c6 => ?_)
    ·
      refine R_aload_n 85 dX1_amountIn_84 rfl rfl ?_
      refine R_iload_n 86 dX1_amountIn_85 rfl rfl ?_
      refine R_callVi 89 (eX1_swinging (dk := dk) (dr := dr) hg) dX1_amountIn_86 rfl kX1_swinging lX1_16 rfl rfl rfl rfl rfl hg rfl ?_
      refine R_ireturn dX1_amountIn_89 rfl rfl ?_
      have e : zz = (sX1_swinging dk dr t) := by rw [← hs]; unfold sX1_amountIn; rw [if_neg c1, if_neg c2, if_neg c3, if_pos c5, if_neg c6]
      subst e; exact ⟨rfl, rfl⟩
    ·
      refine R_aload_n 75 dX1_amountIn_74 rfl rfl ?_
      refine R_iload_n 76 dX1_amountIn_75 rfl rfl ?_
      refine R_callVi 79 (eX1_swinging (dk := dk) (dr := dr) hg) dX1_amountIn_76 rfl kX1_swinging lX1_16 rfl rfl rfl rfl rfl hg rfl ?_
      refine R_iconst 80 dX1_amountIn_79 rfl (v := 1) (by decide) ?_
      refine R_iadd 81 dX1_amountIn_80 rfl ?_
      refine R_goto 89 dX1_amountIn_81 (by decide) ?_
      refine R_ireturn dX1_amountIn_89 rfl rfl ?_
      have e : zz = (sX1_swinging dk dr t) + 1 := by rw [← hs]; unfold sX1_amountIn; rw [if_neg c1, if_neg c2, if_neg c3, if_pos c5, if_pos c6]
      subst e; exact ⟨rfl, rfl⟩
  refine R_tableD 90 [1, 2, 3, 4] dX1_amountIn_4 (List.forall_mem_cons.mpr ⟨lv_neT c1 (show (1 : Int32).toInt = 1 by decide), List.forall_mem_cons.mpr ⟨lv_neT c2 (show (2 : Int32).toInt = 2 by decide), List.forall_mem_cons.mpr ⟨lv_neT c3 (show (3 : Int32).toInt = 3 by decide), List.forall_mem_cons.mpr ⟨lv_neT c5 (show (4 : Int32).toInt = 4 by decide), fun _ h => absurd h List.not_mem_nil⟩⟩⟩⟩) (by decide) (by decide) ?_
  refine R_aload_n 91 dX1_amountIn_90 rfl rfl ?_
  refine R_get 94 dX1_amountIn_91 rfl fX1_13 hg (v := .int dr) rfl ?_
  refine R_ireturn dX1_amountIn_94 rfl rfl ?_
  have e : zz = dr := by rw [← hs]; unfold sX1_amountIn; rw [if_neg c1, if_neg c2, if_neg c3, if_neg c5]
  subst e; exact ⟨rfl, rfl⟩
def sX4_against (rk : Int32) (rl : Int32) (rp : Int32) (own : Int32) (d : Int32) : Int32 := if d = 0 then own else if d ≤ 0 then own + rp else own - rp
set_option maxRecDepth 20000 in
theorem eX4_against {G : zG} {h : zH} {r : Nat} {rk rl rp own d : Int32} (hg : zg h r = some (.inr (4, [.int rk, .int rl, .int rp]))) : EvF G mX4_against [.ref r, .int own, .int d] h (some (.int (sX4_against rk rl rp own d))) h := by
  generalize hs : (sX4_against rk rl rp own d) = zz
  refine EvF.of pnX4 rfl ?_
  refine R_iload_n 1 dX4_against_0 rfl rfl ?_
  refine R_if_ne 4 6 dX4_against_1 rfl (by decide) (fun c1 => ?_) (fun c1 => ?_)
  ·
    refine R_iload_n 7 dX4_against_6 rfl rfl ?_
    refine R_cut 25 [(0, .ref r), (1, .int own), (2, .int d)] (.int (if d ≤ 0 then own + rp else own - rp) :: []) h ?_ (fun kj => ?_)
    ·
      refine R_ireturn dX4_against_25 rfl rfl ?_
      have e : zz = if d ≤ 0 then own + rp else own - rp := by rw [← hs]; unfold sX4_against; rw [if_neg c1]
      subst e; exact ⟨rfl, rfl⟩
    refine R_if_le 10 19 dX4_against_7 rfl (by decide) (fun c2 => ?_) (fun c2 => ?_)
    · refine R_iload_n 20 dX4_against_19 rfl rfl ?_
      refine R_aload_n 21 dX4_against_20 rfl rfl ?_
      refine R_get 24 dX4_against_21 rfl fX4_16 hg (v := .int rp) rfl ?_
      refine R_iadd 25 dX4_against_24 rfl ?_
      rw [if_pos c2] at kj; exact kj
    · refine R_iload_n 11 dX4_against_10 rfl rfl ?_
      refine R_aload_n 12 dX4_against_11 rfl rfl ?_
      refine R_get 15 dX4_against_12 rfl fX4_16 hg (v := .int rp) rfl ?_
      refine R_isub 16 dX4_against_15 rfl ?_
      refine R_goto 25 dX4_against_16 (by decide) ?_
      rw [if_neg c2] at kj; exact kj
  ·
    refine R_iload_n 5 dX4_against_4 rfl rfl ?_
    refine R_ireturn dX4_against_5 rfl rfl ?_
    have e : zz = own := by rw [← hs]; unfold sX4_against; rw [if_pos c1]
    subst e; exact ⟨rfl, rfl⟩
def sX4_rouses (rk : Int32) (rl : Int32) (rp : Int32) (off : Int32) (mi : Int32) : Bool := if rk = 2 then (if rl ≤ 0 then false else decide ((mi - mi / rl * rl) = 0)) else if rk = 4 then (!decide (off ≤ (2 * rl))) else (!decide (off ≤ rl))
set_option maxRecDepth 20000 in
theorem eX4_rouses {G : zG} {h : zH} {r : Nat} {rk rl rp off mi : Int32} (hg : zg h r = some (.inr (4, [.int rk, .int rl, .int rp]))) : EvF G mX4_rouses [.ref r, .int off, .int mi] h (some (.int (b2i (sX4_rouses rk rl rp off mi)))) h := by
  generalize hs : (sX4_rouses rk rl rp off mi) = zz
  refine EvF.of pnX4 rfl ?_
  refine R_aload_n 1 dX4_rouses_0 rfl rfl ?_
  refine R_get 4 dX4_rouses_1 rfl fX4_7 hg (v := .int rk) rfl ?_
  by_cases c1 : rk = 2
  ·
    refine R_lookAt 32 (off := 28) 2 c1 dX4_rouses_4 (by decide) (by decide) ?_
    refine R_aload_n 33 dX4_rouses_32 rfl rfl ?_
    refine R_get 36 dX4_rouses_33 rfl fX4_13 hg (v := .int rl) rfl ?_
    refine R_if_le 39 52 dX4_rouses_36 rfl (by decide) (fun c2 => ?_) (fun c2 => ?_)
    ·
      refine R_iconst 53 dX4_rouses_52 rfl (v := 0) (by decide) ?_
      refine R_ireturn dX4_rouses_53 rfl (by decide) ?_
      have e : zz = false := by rw [← hs]; unfold sX4_rouses; rw [if_pos c1, if_pos c2]
      subst e; exact ⟨rfl, rfl⟩
    ·
      refine R_iload_n 40 dX4_rouses_39 rfl rfl ?_
      refine R_aload_n 41 dX4_rouses_40 rfl rfl ?_
      refine R_get 44 dX4_rouses_41 rfl fX4_13 hg (v := .int rl) rfl ?_
      refine R_irem 45 dX4_rouses_44 rfl (ne0_le c2) ?_
      refine R_cut 53 [(0, .ref r), (1, .int off), (2, .int mi)] (.int (b2i (decide ((mi - mi / rl * rl) = 0))) :: []) h ?_ (fun kj => ?_)
      ·
        refine R_ireturn dX4_rouses_53 rfl (nar_b _) ?_
        have e : zz = decide ((mi - mi / rl * rl) = 0) := by rw [← hs]; unfold sX4_rouses; rw [if_pos c1, if_neg c2]
        subst e; exact ⟨rfl, rfl⟩
      refine R_if_ne 48 52 dX4_rouses_45 rfl (by decide) (fun c3 => ?_) (fun c3 => ?_)
      · refine R_iconst 53 dX4_rouses_52 rfl (v := 0) (by decide) ?_
        rw [b2i_n c3] at kj; exact kj
      · refine R_iconst 49 dX4_rouses_48 rfl (v := 1) (by decide) ?_
        refine R_goto 53 dX4_rouses_49 (by decide) ?_
        rw [b2i_p c3] at kj; exact kj
  by_cases c4 : rk = 4
  ·
    refine R_lookAt 54 (off := 50) 4 c4 dX4_rouses_4 (by decide) (by decide) ?_
    refine R_iload_n 55 dX4_rouses_54 rfl rfl ?_
    refine R_iconst 56 dX4_rouses_55 rfl (v := 2) (by decide) ?_
    refine R_aload_n 57 dX4_rouses_56 rfl rfl ?_
    refine R_get 60 dX4_rouses_57 rfl fX4_13 hg (v := .int rl) rfl ?_
    refine R_imul 61 dX4_rouses_60 rfl ?_
    refine R_cut 69 [(0, .ref r), (1, .int off), (2, .int mi)] (.int (b2i (!decide (off ≤ (2 * rl)))) :: []) h ?_ (fun kj => ?_)
    ·
      refine R_ireturn dX4_rouses_69 rfl (nar_b _) ?_
      have e : zz = (!decide (off ≤ (2 * rl))) := by rw [← hs]; unfold sX4_rouses; rw [if_neg c1, if_pos c4]
      subst e; exact ⟨rfl, rfl⟩
    refine R_icmp_le 64 68 dX4_rouses_61 rfl (by decide) (fun c5 => ?_) (fun c5 => ?_)
    · refine R_iconst 69 dX4_rouses_68 rfl (v := 0) (by decide) ?_
      rw [b2i_np c5] at kj; exact kj
    · refine R_iconst 65 dX4_rouses_64 rfl (v := 1) (by decide) ?_
      refine R_goto 69 dX4_rouses_65 (by decide) ?_
      rw [b2i_nn c5] at kj; exact kj
  refine R_lookup 70 (off := 66) dX4_rouses_4 (by decide) (by rw [lv_osw c1 (show (2 : Int32).toInt = 2 by decide), lv_osw c4 (show (4 : Int32).toInt = 4 by decide)]; rfl) (by decide) ?_
  refine R_iload_n 71 dX4_rouses_70 rfl rfl ?_
  refine R_aload_n 72 dX4_rouses_71 rfl rfl ?_
  refine R_get 75 dX4_rouses_72 rfl fX4_13 hg (v := .int rl) rfl ?_
  refine R_cut 83 [(0, .ref r), (1, .int off), (2, .int mi)] (.int (b2i (!decide (off ≤ rl))) :: []) h ?_ (fun kj => ?_)
  ·
    refine R_ireturn dX4_rouses_83 rfl (nar_b _) ?_
    have e : zz = (!decide (off ≤ rl)) := by rw [← hs]; unfold sX4_rouses; rw [if_neg c1, if_neg c4]
    subst e; exact ⟨rfl, rfl⟩
  refine R_icmp_le 78 82 dX4_rouses_75 rfl (by decide) (fun c6 => ?_) (fun c6 => ?_)
  · refine R_iconst 83 dX4_rouses_82 rfl (v := 0) (by decide) ?_
    rw [b2i_np c6] at kj; exact kj
  · refine R_iconst 79 dX4_rouses_78 rfl (v := 1) (by decide) ?_
    refine R_goto 83 dX4_rouses_79 (by decide) ?_
    rw [b2i_nn c6] at kj; exact kj
def sX4_aim (rk : Int32) (rl : Int32) (rp : Int32) (own : Int32) (mid : Int32) (d : Int32) : Int32 := if rk = 1 then (sX4_against rk rl rp own d) else if rk = 3 then mid else if rk = 4 then (sX4_against rk rl rp own d) else own
set_option maxRecDepth 20000 in
theorem eX4_aim {G : zG} {h : zH} {r : Nat} {rk rl rp own mid d : Int32} (hg : zg h r = some (.inr (4, [.int rk, .int rl, .int rp]))) : EvF G mX4_aim [.ref r, .int own, .int mid, .int d] h (some (.int (sX4_aim rk rl rp own mid d))) h := by
  generalize hs : (sX4_aim rk rl rp own mid d) = zz
  refine EvF.of pnX4 rfl ?_
  refine R_aload_n 1 dX4_aim_0 rfl rfl ?_
  refine R_get 4 dX4_aim_1 rfl fX4_7 hg (v := .int rk) rfl ?_
  by_cases c1 : rk = 1
  ·
    refine R_tableAt 36 (off := 32) 1 c1 dX4_aim_4 (by decide) (by decide) ?_
    refine R_aload_n 37 dX4_aim_36 rfl rfl ?_
    refine R_iload_n 38 dX4_aim_37 rfl rfl ?_
    refine R_iload_n 39 dX4_aim_38 rfl rfl ?_
    refine R_callVi 42 (eX4_against (rk := rk) (rl := rl) (rp := rp) hg) dX4_aim_39 rfl kX4_against lX4_19 rfl rfl rfl rfl rfl hg rfl ?_
    refine R_ireturn dX4_aim_42 rfl rfl ?_
    have e : zz = (sX4_against rk rl rp own d) := by rw [← hs]; unfold sX4_aim; rw [if_pos c1]
    subst e; exact ⟨rfl, rfl⟩
  by_cases c2 : rk = 3
  ·
    refine R_tableAt 43 (off := 39) 3 c2 dX4_aim_4 (by decide) (by decide) ?_
    refine R_iload_n 44 dX4_aim_43 rfl rfl ?_
    refine R_ireturn dX4_aim_44 rfl rfl ?_
    have e : zz = mid := by rw [← hs]; unfold sX4_aim; rw [if_neg c1, if_pos c2]
    subst e; exact ⟨rfl, rfl⟩
  by_cases c3 : rk = 4
  ·
    refine R_tableAt 36 (off := 32) 4 c3 dX4_aim_4 (by decide) (by decide) ?_
    refine R_aload_n 37 dX4_aim_36 rfl rfl ?_
    refine R_iload_n 38 dX4_aim_37 rfl rfl ?_
    refine R_iload_n 39 dX4_aim_38 rfl rfl ?_
    refine R_callVi 42 (eX4_against (rk := rk) (rl := rl) (rp := rp) hg) dX4_aim_39 rfl kX4_against lX4_19 rfl rfl rfl rfl rfl hg rfl ?_
    refine R_ireturn dX4_aim_42 rfl rfl ?_
    have e : zz = (sX4_against rk rl rp own d) := by rw [← hs]; unfold sX4_aim; rw [if_neg c1, if_neg c2, if_pos c3]
    subst e; exact ⟨rfl, rfl⟩
  refine R_tableD 45 [1, 3, 4] dX4_aim_4 (List.forall_mem_cons.mpr ⟨lv_neT c1 (show (1 : Int32).toInt = 1 by decide), List.forall_mem_cons.mpr ⟨lv_neT c2 (show (3 : Int32).toInt = 3 by decide), List.forall_mem_cons.mpr ⟨lv_neT c3 (show (4 : Int32).toInt = 4 by decide), fun _ h => absurd h List.not_mem_nil⟩⟩⟩) (by decide) (by decide) ?_
  refine R_iload_n 46 dX4_aim_45 rfl rfl ?_
  refine R_ireturn dX4_aim_46 rfl rfl ?_
  have e : zz = own := by rw [← hs]; unfold sX4_aim; rw [if_neg c1, if_neg c2, if_neg c3]
  subst e; exact ⟨rfl, rfl⟩
def sX3_deafTo (pk : Int32) (pm : Int32) (pf : Int32) (ps : Int32) (ph : Int32) (pp : Int32) (x : Int32) (u : Int32) : Int32 := if x ≤ u then 0 else (x - u) * pm
set_option maxRecDepth 20000 in
theorem eX3_deafTo {G : zG} {h : zH} {r : Nat} {pk pm pf ps ph pp x u : Int32} (hg : zg h r = some (.inr (3, [.int pk, .int pm, .int pf, .int ps, .int ph, .int pp]))) : EvF G mX3_deafTo [.ref r, .int x, .int u] h (some (.int (sX3_deafTo pk pm pf ps ph pp x u))) h := by
  generalize hs : (sX3_deafTo pk pm pf ps ph pp x u) = zz
  refine EvF.of pnX3 rfl ?_
  refine R_iload_n 1 dX3_deafTo_0 rfl rfl ?_
  refine R_iload_n 2 dX3_deafTo_1 rfl rfl ?_
  refine R_cut 17 [(0, .ref r), (1, .int x), (2, .int u)] (.int (if x ≤ u then 0 else (x - u) * pm) :: []) h ?_ (fun kj => ?_)
  ·
    refine R_ireturn dX3_deafTo_17 rfl rfl ?_
    have e : zz = if x ≤ u then 0 else (x - u) * pm := by rw [← hs]; unfold sX3_deafTo; rfl
    subst e; exact ⟨rfl, rfl⟩
  refine R_icmp_le 5 16 dX3_deafTo_2 rfl (by decide) (fun c1 => ?_) (fun c1 => ?_)
  · refine R_iconst 17 dX3_deafTo_16 rfl (v := 0) (by decide) ?_
    rw [if_pos c1] at kj; exact kj
  · refine R_iload_n 6 dX3_deafTo_5 rfl rfl ?_
    refine R_iload_n 7 dX3_deafTo_6 rfl rfl ?_
    refine R_isub 8 dX3_deafTo_7 rfl ?_
    refine R_aload_n 9 dX3_deafTo_8 rfl rfl ?_
    refine R_get 12 dX3_deafTo_9 rfl fX3_16 hg (v := .int pm) rfl ?_
    refine R_imul 13 dX3_deafTo_12 rfl ?_
    refine R_goto 17 dX3_deafTo_13 (by decide) ?_
    rw [if_neg c1] at kj; exact kj
def sX3_botheredBy (pk : Int32) (pm : Int32) (pf : Int32) (ps : Int32) (ph : Int32) (pp : Int32) (x : Int32) : Int32 := if pk = 1 then (sX3_deafTo pk pm pf ps ph pp x pf) else if pk = 2 then (2 * x) * pm else if pk = 3 then (if x ≤ 2 then (2 * x) * pm else ((2 * x) * pm) + pf) else if pk = 4 then (if x < 20 then (sX3_deafTo pk pm pf ps ph pp x (2 * pf)) else x * pm) else x * pm
set_option maxRecDepth 20000 in
theorem eX3_botheredBy {G : zG} {h : zH} {r : Nat} {pk pm pf ps ph pp x : Int32} (hg : zg h r = some (.inr (3, [.int pk, .int pm, .int pf, .int ps, .int ph, .int pp]))) : EvF G mX3_botheredBy [.ref r, .int x] h (some (.int (sX3_botheredBy pk pm pf ps ph pp x))) h := by
  generalize hs : (sX3_botheredBy pk pm pf ps ph pp x) = zz
  refine EvF.of pnX3 rfl ?_
  refine R_aload_n 1 dX3_botheredBy_0 rfl rfl ?_
  refine R_get 4 dX3_botheredBy_1 rfl fX3_13 hg (v := .int pk) rfl ?_
  by_cases c1 : pk = 1
  ·
    refine R_tableAt 36 (off := 32) 1 c1 dX3_botheredBy_4 (by decide) (by decide) ?_
    refine R_aload_n 37 dX3_botheredBy_36 rfl rfl ?_
    refine R_iload_n 38 dX3_botheredBy_37 rfl rfl ?_
    refine R_aload_n 39 dX3_botheredBy_38 rfl rfl ?_
    refine R_get 42 dX3_botheredBy_39 rfl fX3_19 hg (v := .int pf) rfl ?_
    refine R_callVi 45 (eX3_deafTo (pk := pk) (pm := pm) (pf := pf) (ps := ps) (ph := ph) (pp := pp) hg) dX3_botheredBy_42 rfl kX3_deafTo lX3_28 rfl rfl rfl rfl rfl hg rfl ?_
    refine R_ireturn dX3_botheredBy_45 rfl rfl ?_
    have e : zz = (sX3_deafTo pk pm pf ps ph pp x pf) := by rw [← hs]; unfold sX3_botheredBy; rw [if_pos c1]
    subst e; exact ⟨rfl, rfl⟩
  by_cases c2 : pk = 2
  ·
    refine R_tableAt 46 (off := 42) 2 c2 dX3_botheredBy_4 (by decide) (by decide) ?_
    refine R_iconst 47 dX3_botheredBy_46 rfl (v := 2) (by decide) ?_
    refine R_iload_n 48 dX3_botheredBy_47 rfl rfl ?_
    refine R_imul 49 dX3_botheredBy_48 rfl ?_
    refine R_aload_n 50 dX3_botheredBy_49 rfl rfl ?_
    refine R_get 53 dX3_botheredBy_50 rfl fX3_16 hg (v := .int pm) rfl ?_
    refine R_imul 54 dX3_botheredBy_53 rfl ?_
    refine R_ireturn dX3_botheredBy_54 rfl rfl ?_
    have e : zz = (2 * x) * pm := by rw [← hs]; unfold sX3_botheredBy; rw [if_neg c1, if_pos c2]
    subst e; exact ⟨rfl, rfl⟩
  by_cases c3 : pk = 3
  ·
    refine R_tableAt 55 (off := 51) 3 c3 dX3_botheredBy_4 (by decide) (by decide) ?_
    refine R_iload_n 56 dX3_botheredBy_55 rfl rfl ?_
    refine R_iconst 57 dX3_botheredBy_56 rfl (v := 2) (by decide) ?_
    refine R_cut 84 [(0, .ref r), (1, .int x)] (.int (if x ≤ 2 then (2 * x) * pm else ((2 * x) * pm) + pf) :: []) h ?_ (fun kj => ?_)
    ·
      refine R_ireturn dX3_botheredBy_84 rfl rfl ?_
      have e : zz = if x ≤ 2 then (2 * x) * pm else ((2 * x) * pm) + pf := by rw [← hs]; unfold sX3_botheredBy; rw [if_neg c1, if_neg c2, if_pos c3]
      subst e; exact ⟨rfl, rfl⟩
    refine R_icmp_le 60 76 dX3_botheredBy_57 rfl (by decide) (fun c4 => ?_) (fun c4 => ?_)
    · refine R_iconst 77 dX3_botheredBy_76 rfl (v := 2) (by decide) ?_
      refine R_iload_n 78 dX3_botheredBy_77 rfl rfl ?_
      refine R_imul 79 dX3_botheredBy_78 rfl ?_
      refine R_aload_n 80 dX3_botheredBy_79 rfl rfl ?_
      refine R_get 83 dX3_botheredBy_80 rfl fX3_16 hg (v := .int pm) rfl ?_
      refine R_imul 84 dX3_botheredBy_83 rfl ?_
      rw [if_pos c4] at kj; exact kj
    · refine R_iconst 61 dX3_botheredBy_60 rfl (v := 2) (by decide) ?_
      refine R_iload_n 62 dX3_botheredBy_61 rfl rfl ?_
      refine R_imul 63 dX3_botheredBy_62 rfl ?_
      refine R_aload_n 64 dX3_botheredBy_63 rfl rfl ?_
      refine R_get 67 dX3_botheredBy_64 rfl fX3_16 hg (v := .int pm) rfl ?_
      refine R_imul 68 dX3_botheredBy_67 rfl ?_
      refine R_aload_n 69 dX3_botheredBy_68 rfl rfl ?_
      refine R_get 72 dX3_botheredBy_69 rfl fX3_19 hg (v := .int pf) rfl ?_
      refine R_iadd 73 dX3_botheredBy_72 rfl ?_
      refine R_goto 84 dX3_botheredBy_73 (by decide) ?_
      rw [if_neg c4] at kj; exact kj
  by_cases c5 : pk = 4
  ·
    refine R_tableAt 85 (off := 81) 4 c5 dX3_botheredBy_4 (by decide) (by decide) ?_
    refine R_iload_n 86 dX3_botheredBy_85 rfl rfl ?_
    refine R_bipush 88 dX3_botheredBy_86 rfl (v := 20) (by decide) ?_
    refine R_icmp_lt 91 100 dX3_botheredBy_88 rfl (by decide) (fun c6 => ?_) (fun c6 => ?_)
    ·
      refine R_aload_n 101 dX3_botheredBy_100 rfl rfl ?_
      refine R_iload_n 102 dX3_botheredBy_101 rfl rfl ?_
      refine R_iconst 103 dX3_botheredBy_102 rfl (v := 2) (by decide) ?_
      refine R_aload_n 104 dX3_botheredBy_103 rfl rfl ?_
      refine R_get 107 dX3_botheredBy_104 rfl fX3_19 hg (v := .int pf) rfl ?_
      refine R_imul 108 dX3_botheredBy_107 rfl ?_
      refine R_callVi 111 (eX3_deafTo (pk := pk) (pm := pm) (pf := pf) (ps := ps) (ph := ph) (pp := pp) hg) dX3_botheredBy_108 rfl kX3_deafTo lX3_28 rfl rfl rfl rfl rfl hg rfl ?_
      refine R_ireturn dX3_botheredBy_111 rfl rfl ?_
      have e : zz = (sX3_deafTo pk pm pf ps ph pp x (2 * pf)) := by rw [← hs]; unfold sX3_botheredBy; rw [if_neg c1, if_neg c2, if_neg c3, if_pos c5, if_pos c6]
      subst e; exact ⟨rfl, rfl⟩
    ·
      refine R_iload_n 92 dX3_botheredBy_91 rfl rfl ?_
      refine R_aload_n 93 dX3_botheredBy_92 rfl rfl ?_
      refine R_get 96 dX3_botheredBy_93 rfl fX3_16 hg (v := .int pm) rfl ?_
      refine R_imul 97 dX3_botheredBy_96 rfl ?_
      refine R_goto 111 dX3_botheredBy_97 (by decide) ?_
      refine R_ireturn dX3_botheredBy_111 rfl rfl ?_
      have e : zz = x * pm := by rw [← hs]; unfold sX3_botheredBy; rw [if_neg c1, if_neg c2, if_neg c3, if_pos c5, if_neg c6]
      subst e; exact ⟨rfl, rfl⟩
  refine R_tableD 112 [1, 2, 3, 4] dX3_botheredBy_4 (List.forall_mem_cons.mpr ⟨lv_neT c1 (show (1 : Int32).toInt = 1 by decide), List.forall_mem_cons.mpr ⟨lv_neT c2 (show (2 : Int32).toInt = 2 by decide), List.forall_mem_cons.mpr ⟨lv_neT c3 (show (3 : Int32).toInt = 3 by decide), List.forall_mem_cons.mpr ⟨lv_neT c5 (show (4 : Int32).toInt = 4 by decide), fun _ h => absurd h List.not_mem_nil⟩⟩⟩⟩) (by decide) (by decide) ?_
  refine R_iload_n 113 dX3_botheredBy_112 rfl rfl ?_
  refine R_aload_n 114 dX3_botheredBy_113 rfl rfl ?_
  refine R_get 117 dX3_botheredBy_114 rfl fX3_16 hg (v := .int pm) rfl ?_
  refine R_imul 118 dX3_botheredBy_117 rfl ?_
  refine R_ireturn dX3_botheredBy_118 rfl rfl ?_
  have e : zz = x * pm := by rw [← hs]; unfold sX3_botheredBy; rw [if_neg c1, if_neg c2, if_neg c3, if_neg c5]
  subst e; exact ⟨rfl, rfl⟩
def sX3_detail (pk : Int32) (pm : Int32) (pf : Int32) (ps : Int32) (ph : Int32) (pp : Int32) (w : Int32) : Int32 := if w = 0 then pk else if w = 1 then pm else if w = 2 then pf else if w = 3 then ps else if w = 4 then ph else pp
set_option maxRecDepth 20000 in
theorem eX3_detail {G : zG} {h : zH} {r : Nat} {pk pm pf ps ph pp w : Int32} (hg : zg h r = some (.inr (3, [.int pk, .int pm, .int pf, .int ps, .int ph, .int pp]))) : EvF G mX3_detail [.ref r, .int w] h (some (.int (sX3_detail pk pm pf ps ph pp w))) h := by
  generalize hs : (sX3_detail pk pm pf ps ph pp w) = zz
  refine EvF.of pnX3 rfl ?_
  refine R_iload_n 1 dX3_detail_0 rfl rfl ?_
  by_cases c1 : w = 0
  ·
    refine R_tableAt 36 (off := 35) 0 c1 dX3_detail_1 (by decide) (by decide) ?_
    refine R_aload_n 37 dX3_detail_36 rfl rfl ?_
    refine R_get 40 dX3_detail_37 rfl fX3_13 hg (v := .int pk) rfl ?_
    refine R_ireturn dX3_detail_40 rfl rfl ?_
    have e : zz = pk := by rw [← hs]; unfold sX3_detail; rw [if_pos c1]
    subst e; exact ⟨rfl, rfl⟩
  by_cases c2 : w = 1
  ·
    refine R_tableAt 41 (off := 40) 1 c2 dX3_detail_1 (by decide) (by decide) ?_
    refine R_aload_n 42 dX3_detail_41 rfl rfl ?_
    refine R_get 45 dX3_detail_42 rfl fX3_16 hg (v := .int pm) rfl ?_
    refine R_ireturn dX3_detail_45 rfl rfl ?_
    have e : zz = pm := by rw [← hs]; unfold sX3_detail; rw [if_neg c1, if_pos c2]
    subst e; exact ⟨rfl, rfl⟩
  by_cases c3 : w = 2
  ·
    refine R_tableAt 46 (off := 45) 2 c3 dX3_detail_1 (by decide) (by decide) ?_
    refine R_aload_n 47 dX3_detail_46 rfl rfl ?_
    refine R_get 50 dX3_detail_47 rfl fX3_19 hg (v := .int pf) rfl ?_
    refine R_ireturn dX3_detail_50 rfl rfl ?_
    have e : zz = pf := by rw [← hs]; unfold sX3_detail; rw [if_neg c1, if_neg c2, if_pos c3]
    subst e; exact ⟨rfl, rfl⟩
  by_cases c4 : w = 3
  ·
    refine R_tableAt 51 (off := 50) 3 c4 dX3_detail_1 (by decide) (by decide) ?_
    refine R_aload_n 52 dX3_detail_51 rfl rfl ?_
    refine R_get 55 dX3_detail_52 rfl fX3_22 hg (v := .int ps) rfl ?_
    refine R_ireturn dX3_detail_55 rfl rfl ?_
    have e : zz = ps := by rw [← hs]; unfold sX3_detail; rw [if_neg c1, if_neg c2, if_neg c3, if_pos c4]
    subst e; exact ⟨rfl, rfl⟩
  by_cases c5 : w = 4
  ·
    refine R_tableAt 56 (off := 55) 4 c5 dX3_detail_1 (by decide) (by decide) ?_
    refine R_aload_n 57 dX3_detail_56 rfl rfl ?_
    refine R_get 60 dX3_detail_57 rfl fX3_7 hg (v := .int ph) rfl ?_
    refine R_ireturn dX3_detail_60 rfl rfl ?_
    have e : zz = ph := by rw [← hs]; unfold sX3_detail; rw [if_neg c1, if_neg c2, if_neg c3, if_neg c4, if_pos c5]
    subst e; exact ⟨rfl, rfl⟩
  refine R_tableD 61 [0, 1, 2, 3, 4] dX3_detail_1 (List.forall_mem_cons.mpr ⟨lv_neT c1 (show (0 : Int32).toInt = 0 by decide), List.forall_mem_cons.mpr ⟨lv_neT c2 (show (1 : Int32).toInt = 1 by decide), List.forall_mem_cons.mpr ⟨lv_neT c3 (show (2 : Int32).toInt = 2 by decide), List.forall_mem_cons.mpr ⟨lv_neT c4 (show (3 : Int32).toInt = 3 by decide), List.forall_mem_cons.mpr ⟨lv_neT c5 (show (4 : Int32).toInt = 4 by decide), fun _ h => absurd h List.not_mem_nil⟩⟩⟩⟩⟩) (by decide) (by decide) ?_
  refine R_aload_n 62 dX3_detail_61 rfl rfl ?_
  refine R_get 65 dX3_detail_62 rfl fX3_25 hg (v := .int pp) rfl ?_
  refine R_ireturn dX3_detail_65 rfl rfl ?_
  have e : zz = pp := by rw [← hs]; unfold sX3_detail; rw [if_neg c1, if_neg c2, if_neg c3, if_neg c4, if_neg c5]
  subst e; exact ⟨rfl, rfl⟩
def sX3_turned (pk : Int32) (pm : Int32) (pf : Int32) (ps : Int32) (ph : Int32) (pp : Int32) (fr : Int32) (aim : Int32) : Int32 := if 1 ≤ ph then (if (2 * ((sAbs (aim - fr)) - (sAbs (aim - fr)) / ph * ph)) ≤ ph then (if aim ≤ fr then fr - (((sAbs (aim - fr)) / ph) * ph) else fr + (((sAbs (aim - fr)) / ph) * ph)) else if aim ≤ fr then fr - ((((sAbs (aim - fr)) / ph) + 1) * ph) else fr + ((((sAbs (aim - fr)) / ph) + 1) * ph)) else fr
set_option maxRecDepth 20000 in
theorem eX3_turned {G : zG} {h : zH} {r : Nat} {pk pm pf ps ph pp fr aim : Int32} (hg : zg h r = some (.inr (3, [.int pk, .int pm, .int pf, .int ps, .int ph, .int pp]))) : EvF G mX3_turned [.ref r, .int fr, .int aim] h (some (.int (sX3_turned pk pm pf ps ph pp fr aim))) h := by
  generalize hs : (sX3_turned pk pm pf ps ph pp fr aim) = zz
  refine EvF.of pnX3 rfl ?_
  refine R_aload_n 1 dX3_turned_0 rfl rfl ?_
  refine R_get 4 dX3_turned_1 rfl fX3_7 hg (v := .int ph) rfl ?_
  refine R_iconst 5 dX3_turned_4 rfl (v := 1) (by decide) ?_
  refine R_icmp_ge 8 10 dX3_turned_5 rfl (by decide) (fun c1 => ?_) (fun c1 => ?_)
  ·
    refine R_iload_n 11 dX3_turned_10 rfl rfl ?_
    refine R_iload_n 12 dX3_turned_11 rfl rfl ?_
    refine R_isub 13 dX3_turned_12 rfl ?_
    refine R_mabs 16 dX3_turned_13 rfl lmX3_32 mw_abs rfl rfl rfl ?_
    refine R_top (y := sAbs (aim - fr)) rfl ?_
    refine R_istore_n 17 dX3_turned_16 rfl rfl (by decide) (loc' := [(0, .ref r), (1, .int fr), (2, .int aim), (3, .int (sAbs (aim - fr)))]) rfl ?_
    refine R_iload_n 18 dX3_turned_17 rfl rfl ?_
    refine R_aload_n 19 dX3_turned_18 rfl rfl ?_
    refine R_get 22 dX3_turned_19 rfl fX3_7 hg (v := .int ph) rfl ?_
    refine R_idiv 23 dX3_turned_22 rfl (ne0_1 c1) ?_
    refine R_istore 25 dX3_turned_23 rfl rfl (by decide) (loc' := [(0, .ref r), (1, .int fr), (2, .int aim), (3, .int (sAbs (aim - fr))), (4, .int ((sAbs (aim - fr)) / ph))]) rfl ?_
    refine R_iconst 26 dX3_turned_25 rfl (v := 2) (by decide) ?_
    refine R_iload_n 27 dX3_turned_26 rfl rfl ?_
    refine R_aload_n 28 dX3_turned_27 rfl rfl ?_
    refine R_get 31 dX3_turned_28 rfl fX3_7 hg (v := .int ph) rfl ?_
    refine R_irem 32 dX3_turned_31 rfl (ne0_1 c1) ?_
    refine R_imul 33 dX3_turned_32 rfl ?_
    refine R_aload_n 34 dX3_turned_33 rfl rfl ?_
    refine R_get 37 dX3_turned_34 rfl fX3_7 hg (v := .int ph) rfl ?_
    refine R_icmp_le 40 43 dX3_turned_37 rfl (by decide) (fun c2 => ?_) (fun c2 => ?_)
    ·
      refine R_iload_n 44 dX3_turned_43 rfl rfl ?_
      refine R_iload_n 45 dX3_turned_44 rfl rfl ?_
      refine R_cut 69 [(0, .ref r), (1, .int fr), (2, .int aim), (3, .int (sAbs (aim - fr))), (4, .int ((sAbs (aim - fr)) / ph))] (.int (if aim ≤ fr then fr - (((sAbs (aim - fr)) / ph) * ph) else fr + (((sAbs (aim - fr)) / ph) * ph)) :: []) h ?_ (fun kj => ?_)
      ·
        refine R_ireturn dX3_turned_69 rfl rfl ?_
        have e : zz = if aim ≤ fr then fr - (((sAbs (aim - fr)) / ph) * ph) else fr + (((sAbs (aim - fr)) / ph) * ph) := by rw [← hs]; unfold sX3_turned; rw [if_pos c1, if_pos c2]
        subst e; exact ⟨rfl, rfl⟩
      refine R_icmp_le 48 60 dX3_turned_45 rfl (by decide) (fun c3 => ?_) (fun c3 => ?_)
      · refine R_iload_n 61 dX3_turned_60 rfl rfl ?_
        refine R_iload 63 dX3_turned_61 rfl rfl ?_
        refine R_aload_n 64 dX3_turned_63 rfl rfl ?_
        refine R_get 67 dX3_turned_64 rfl fX3_7 hg (v := .int ph) rfl ?_
        refine R_imul 68 dX3_turned_67 rfl ?_
        refine R_isub 69 dX3_turned_68 rfl ?_
        rw [if_pos c3] at kj; exact kj
      · refine R_iload_n 49 dX3_turned_48 rfl rfl ?_
        refine R_iload 51 dX3_turned_49 rfl rfl ?_
        refine R_aload_n 52 dX3_turned_51 rfl rfl ?_
        refine R_get 55 dX3_turned_52 rfl fX3_7 hg (v := .int ph) rfl ?_
        refine R_imul 56 dX3_turned_55 rfl ?_
        refine R_iadd 57 dX3_turned_56 rfl ?_
        refine R_goto 69 dX3_turned_57 (by decide) ?_
        rw [if_neg c3] at kj; exact kj
    ·
      refine R_iinc 43 dX3_turned_40 rfl rfl (v := (((sAbs (aim - fr)) / ph) + 1)) rfl rfl (by decide) (loc' := [(0, .ref r), (1, .int fr), (2, .int aim), (3, .int (sAbs (aim - fr))), (4, .int (((sAbs (aim - fr)) / ph) + 1))]) rfl ?_
      refine R_iload_n 44 dX3_turned_43 rfl rfl ?_
      refine R_iload_n 45 dX3_turned_44 rfl rfl ?_
      refine R_cut 69 [(0, .ref r), (1, .int fr), (2, .int aim), (3, .int (sAbs (aim - fr))), (4, .int (((sAbs (aim - fr)) / ph) + 1))] (.int (if aim ≤ fr then fr - ((((sAbs (aim - fr)) / ph) + 1) * ph) else fr + ((((sAbs (aim - fr)) / ph) + 1) * ph)) :: []) h ?_ (fun kj => ?_)
      ·
        refine R_ireturn dX3_turned_69 rfl rfl ?_
        have e : zz = if aim ≤ fr then fr - ((((sAbs (aim - fr)) / ph) + 1) * ph) else fr + ((((sAbs (aim - fr)) / ph) + 1) * ph) := by rw [← hs]; unfold sX3_turned; rw [if_pos c1, if_neg c2]
        subst e; exact ⟨rfl, rfl⟩
      refine R_icmp_le 48 60 dX3_turned_45 rfl (by decide) (fun c4 => ?_) (fun c4 => ?_)
      · refine R_iload_n 61 dX3_turned_60 rfl rfl ?_
        refine R_iload 63 dX3_turned_61 rfl rfl ?_
        refine R_aload_n 64 dX3_turned_63 rfl rfl ?_
        refine R_get 67 dX3_turned_64 rfl fX3_7 hg (v := .int ph) rfl ?_
        refine R_imul 68 dX3_turned_67 rfl ?_
        refine R_isub 69 dX3_turned_68 rfl ?_
        rw [if_pos c4] at kj; exact kj
      · refine R_iload_n 49 dX3_turned_48 rfl rfl ?_
        refine R_iload 51 dX3_turned_49 rfl rfl ?_
        refine R_aload_n 52 dX3_turned_51 rfl rfl ?_
        refine R_get 55 dX3_turned_52 rfl fX3_7 hg (v := .int ph) rfl ?_
        refine R_imul 56 dX3_turned_55 rfl ?_
        refine R_iadd 57 dX3_turned_56 rfl ?_
        refine R_goto 69 dX3_turned_57 (by decide) ?_
        rw [if_neg c4] at kj; exact kj
  ·
    refine R_iload_n 9 dX3_turned_8 rfl rfl ?_
    refine R_ireturn dX3_turned_9 rfl rfl ?_
    have e : zz = fr := by rw [← hs]; unfold sX3_turned; rw [if_neg c1]
    subst e; exact ⟨rfl, rfl⟩
def sX2_off (av : Int32) (p0 : Int32) (p1 : Int32) (sz : Int32) (tu : Int32) (mi : Int32) (s : Int32) : Int32 := sAbs (av - (if s = 0 then p0 else p1))
set_option maxRecDepth 20000 in
theorem eX2_off {G : zG} {h : zH} {r d1 d2 d3 : Nat} {av p0 p1 sz tu mi s : Int32} (hg : zg h r = some (.inr (2, [.int av, .int p0, .int p1, .ref d1, .ref d2, .ref d3, .int sz, .int tu, .int mi]))) : EvF G mX2_off [.ref r, .int s] h (some (.int (sX2_off av p0 p1 sz tu mi s))) h := by
  generalize hs : (sX2_off av p0 p1 sz tu mi s) = zz
  refine EvF.of pnX2 rfl ?_
  refine R_aload_n 1 dX2_off_0 rfl rfl ?_
  refine R_get 4 dX2_off_1 rfl fX2_36 hg (v := .int av) rfl ?_
  refine R_iload_n 5 dX2_off_4 rfl rfl ?_
  refine R_cut 19 [(0, .ref r), (1, .int s)] (.int (if s = 0 then p0 else p1) :: [.int av]) h ?_ (fun kj => ?_)
  ·
    refine R_isub 20 dX2_off_19 rfl ?_
    refine R_mabs 23 dX2_off_20 rfl lmX2_142 mw_abs rfl rfl rfl ?_
    refine R_top (y := sAbs (av - (if s = 0 then p0 else p1))) rfl ?_
    refine R_ireturn dX2_off_23 rfl rfl ?_
    have e : zz = sAbs (av - (if s = 0 then p0 else p1)) := by rw [← hs]; unfold sX2_off; rfl
    subst e; exact ⟨rfl, rfl⟩
  refine R_if_ne 8 15 dX2_off_5 rfl (by decide) (fun c1 => ?_) (fun c1 => ?_)
  · refine R_aload_n 16 dX2_off_15 rfl rfl ?_
    refine R_get 19 dX2_off_16 rfl fX2_9 hg (v := .int p1) rfl ?_
    rw [if_neg c1] at kj; exact kj
  · refine R_aload_n 9 dX2_off_8 rfl rfl ?_
    refine R_get 12 dX2_off_9 rfl fX2_39 hg (v := .int p0) rfl ?_
    refine R_goto 19 dX2_off_12 (by decide) ?_
    rw [if_pos c1] at kj; exact kj
def sX2_has (av : Int32) (p0 : Int32) (p1 : Int32) (sz : Int32) (tu : Int32) (mi : Int32) (p : Int32) : Bool := if p < 0 then false else if sz ≤ p then false else (!decide (5 ≤ p))
set_option maxRecDepth 20000 in
theorem eX2_has {G : zG} {h : zH} {r d1 d2 d3 : Nat} {av p0 p1 sz tu mi p : Int32} (hg : zg h r = some (.inr (2, [.int av, .int p0, .int p1, .ref d1, .ref d2, .ref d3, .int sz, .int tu, .int mi]))) : EvF G mX2_has [.ref r, .int p] h (some (.int (b2i (sX2_has av p0 p1 sz tu mi p)))) h := by
  generalize hs : (sX2_has av p0 p1 sz tu mi p) = zz
  refine EvF.of pnX2 rfl ?_
  refine R_iload_n 1 dX2_has_0 rfl rfl ?_
  refine R_if_lt 4 21 dX2_has_1 rfl (by decide) (fun c1 => ?_) (fun c1 => ?_)
  ·
    refine R_iconst 22 dX2_has_21 rfl (v := 0) (by decide) ?_
    refine R_ireturn dX2_has_22 rfl (by decide) ?_
    have e : zz = false := by rw [← hs]; unfold sX2_has; rw [if_pos c1]
    subst e; exact ⟨rfl, rfl⟩
  ·
    refine R_iload_n 5 dX2_has_4 rfl rfl ?_
    refine R_aload_n 6 dX2_has_5 rfl rfl ?_
    refine R_get 9 dX2_has_6 rfl fX2_49 hg (v := .int sz) rfl ?_
    refine R_icmp_ge 12 21 dX2_has_9 rfl (by decide) (fun c2 => ?_) (fun c2 => ?_)
    ·
      refine R_iconst 22 dX2_has_21 rfl (v := 0) (by decide) ?_
      refine R_ireturn dX2_has_22 rfl (by decide) ?_
      have e : zz = false := by rw [← hs]; unfold sX2_has; rw [if_neg c1, if_pos c2]
      subst e; exact ⟨rfl, rfl⟩
    ·
      refine R_iload_n 13 dX2_has_12 rfl rfl ?_
      refine R_iconst 14 dX2_has_13 rfl (v := 5) (by decide) ?_
      refine R_cut 22 [(0, .ref r), (1, .int p)] (.int (b2i (!decide (5 ≤ p))) :: []) h ?_ (fun kj => ?_)
      ·
        refine R_ireturn dX2_has_22 rfl (nar_b _) ?_
        have e : zz = (!decide (5 ≤ p)) := by rw [← hs]; unfold sX2_has; rw [if_neg c1, if_neg c2]
        subst e; exact ⟨rfl, rfl⟩
      refine R_icmp_ge 17 21 dX2_has_14 rfl (by decide) (fun c3 => ?_) (fun c3 => ?_)
      · refine R_iconst 22 dX2_has_21 rfl (v := 0) (by decide) ?_
        rw [b2i_np c3] at kj; exact kj
      · refine R_iconst 18 dX2_has_17 rfl (v := 1) (by decide) ?_
        refine R_goto 22 dX2_has_18 (by decide) ?_
        rw [b2i_nn c3] at kj; exact kj
