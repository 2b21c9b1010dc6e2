theorem vin_d {x : Int32} {n : Nat} (h : ¬ (x < 0 ∨ n ≤ x.toNatClampNeg)) : vp_in x n := h
theorem vlo1 {x : Int32} (h : ¬ x < 0) : 0 ≤ x := Int32.not_lt.mp h
theorem vhi1 {x y : Int32} (h : x < y) : ¬ y ≤ x := Int32.not_le.mpr h
theorem vinN {x y : Int32} {n : Nat} (hy : y.toInt = n) (h0 : 0 ≤ x) (h1 : ¬ y ≤ x) : vp_in x n := by
  rw [vp_in_iff]
  rw [Int32.le_iff_toInt_le] at h0 h1
  rw [hy] at h1
  have : (0 : Int32).toInt = 0 := by decide
  omega
theorem vin5 {x : Int32} (h0 : 0 ≤ x) (h1 : ¬ 5 ≤ x) : vp_in x 5 := vinN (by decide) h0 h1
theorem vin7 {x : Int32} (h0 : 0 ≤ x) (h1 : ¬ 7 ≤ x) : vp_in x 7 := vinN (by decide) h0 h1
theorem vin12 {x : Int32} (h0 : 0 ≤ x) (h1 : ¬ 12 ≤ x) : vp_in x 12 := vinN (by decide) h0 h1
theorem vin96 {x : Int32} (h0 : 0 ≤ x) (h1 : ¬ 96 ≤ x) : vp_in x 96 := vinN (by decide) h0 h1
theorem lt5of {x : Int32} (h0 : ¬ x < 0) (h5 : ¬ 5 ≤ x) (c0 : ¬ x = 0) (c1 : ¬ x = 1) (c2 : ¬ x = 2) (c3 : ¬ x = 3) : x = 4 := by
  rw [Int32.lt_iff_toInt_lt] at h0
  rw [Int32.le_iff_toInt_le] at h5
  have d0 := lv_neT c0 (show (0 : Int32).toInt = 0 by decide)
  have d1 := lv_neT c1 (show (1 : Int32).toInt = 1 by decide)
  have d2 := lv_neT c2 (show (2 : Int32).toInt = 2 by decide)
  have d3 := lv_neT c3 (show (3 : Int32).toInt = 3 by decide)
  have e0 : (0 : Int32).toInt = 0 := by decide
  have e5 : (5 : Int32).toInt = 5 := by decide
  have e4 : (4 : Int32).toInt = 4 := by decide
  exact Int32.toInt_inj.mp (by omega)
theorem has4 {av p0 p1 sz tu mi x : Int32} (h : sX2_has av p0 p1 sz tu mi x = true) (c0 : ¬ x = 0) (c1 : ¬ x = 1) (c2 : ¬ x = 2) (c3 : ¬ x = 3) : x = 4 := by
  unfold sX2_has at h
  by_cases h1 : x < 0
  · rw [if_pos h1] at h; cases h
  · rw [if_neg h1] at h
    by_cases h2 : sz ≤ x
    · rw [if_pos h2] at h; cases h
    · rw [if_neg h2] at h
      by_cases h3 : 5 ≤ x
      · rw [decide_eq_true h3] at h; cases h
      · exact lt5of h1 h3 c0 c1 c2 c3
set_option maxRecDepth 20000 in
theorem eX1_become {G : zG} {h : zH} {r r2 : Nat} {a0 a1 b0 b1 : Int32} (hne : r ≠ r2) (hg : zg h r = some (.inr (1, [.int a0, .int a1]))) (hg2 : zg h r2 = some (.inr (1, [.int b0, .int b1]))) : EvF G mX1_become [.ref r, .ref r2] h (none) (zs h r (.inr (1, [.int b0, .int b1]))) := by
  refine EvF.of pnX1 rfl ?_
  refine R_aload_n 1 dX1_become_0 rfl rfl ?_
  refine R_aload_n 2 dX1_become_1 rfl rfl ?_
  refine R_get 5 dX1_become_2 rfl fX1_7 hg2 (v := .int b0) rfl ?_
  refine R_put 8 dX1_become_5 rfl wX1_7 hg rfl rfl rfl (h2 := (zs h r (.inr (1, [.int b0, .int a1])))) rfl ?_
  refine R_aload_n 9 dX1_become_8 rfl rfl ?_
  refine R_aload_n 10 dX1_become_9 rfl rfl ?_
  refine R_get 13 dX1_become_10 rfl fX1_13 (zg_zn hne hg2) (v := .int b1) rfl ?_
  refine R_put 16 dX1_become_13 rfl wX1_13 (zg_zs hg) rfl rfl rfl (h2 := (zs h r (.inr (1, [.int b0, .int b1])))) (zs_zs _ _ _ _) ?_
  refine R_return dX1_become_16 rfl ?_
  exact ⟨rfl, rfl⟩
set_option maxRecDepth 20000 in
theorem eX4_become {G : zG} {h : zH} {r r2 : Nat} {a0 a1 a2 b0 b1 b2 : Int32} (hne : r ≠ r2) (hg : zg h r = some (.inr (4, [.int a0, .int a1, .int a2]))) (hg2 : zg h r2 = some (.inr (4, [.int b0, .int b1, .int b2]))) : EvF G mX4_become [.ref r, .ref r2] h (none) (zs h r (.inr (4, [.int b0, .int b1, .int b2]))) := by
  refine EvF.of pnX4 rfl ?_
  refine R_aload_n 1 dX4_become_0 rfl rfl ?_
  refine R_aload_n 2 dX4_become_1 rfl rfl ?_
  refine R_get 5 dX4_become_2 rfl fX4_7 hg2 (v := .int b0) rfl ?_
  refine R_put 8 dX4_become_5 rfl wX4_7 hg rfl rfl rfl (h2 := (zs h r (.inr (4, [.int b0, .int a1, .int a2])))) rfl ?_
  refine R_aload_n 9 dX4_become_8 rfl rfl ?_
  refine R_aload_n 10 dX4_become_9 rfl rfl ?_
  refine R_get 13 dX4_become_10 rfl fX4_13 (zg_zn hne hg2) (v := .int b1) rfl ?_
  refine R_put 16 dX4_become_13 rfl wX4_13 (zg_zs hg) rfl rfl rfl (h2 := (zs h r (.inr (4, [.int b0, .int b1, .int a2])))) (zs_zs _ _ _ _) ?_
  refine R_aload_n 17 dX4_become_16 rfl rfl ?_
  refine R_aload_n 18 dX4_become_17 rfl rfl ?_
  refine R_get 21 dX4_become_18 rfl fX4_16 (zg_zn hne hg2) (v := .int b2) rfl ?_
  refine R_put 24 dX4_become_21 rfl wX4_16 (zg_zs hg) rfl rfl rfl (h2 := (zs h r (.inr (4, [.int b0, .int b1, .int b2])))) (zs_zs _ _ _ _) ?_
  refine R_return dX4_become_24 rfl ?_
  exact ⟨rfl, rfl⟩
set_option maxRecDepth 20000 in
theorem eX3_become {G : zG} {h : zH} {r r2 : Nat} {a0 a1 a2 a3 a4 a5 b0 b1 b2 b3 b4 b5 : Int32} (hne : r ≠ r2) (hg : zg h r = some (.inr (3, [.int a0, .int a1, .int a2, .int a3, .int a4, .int a5]))) (hg2 : zg h r2 = some (.inr (3, [.int b0, .int b1, .int b2, .int b3, .int b4, .int b5]))) : EvF G mX3_become [.ref r, .ref r2] h (none) (zs h r (.inr (3, [.int b0, .int b1, .int b2, .int b3, .int b4, .int b5]))) := by
  refine EvF.of pnX3 rfl ?_
  refine R_aload_n 1 dX3_become_0 rfl rfl ?_
  refine R_aload_n 2 dX3_become_1 rfl rfl ?_
  refine R_get 5 dX3_become_2 rfl fX3_13 hg2 (v := .int b0) rfl ?_
  refine R_put 8 dX3_become_5 rfl wX3_13 hg rfl rfl rfl (h2 := (zs h r (.inr (3, [.int b0, .int a1, .int a2, .int a3, .int a4, .int a5])))) rfl ?_
  refine R_aload_n 9 dX3_become_8 rfl rfl ?_
  refine R_aload_n 10 dX3_become_9 rfl rfl ?_
  refine R_get 13 dX3_become_10 rfl fX3_16 (zg_zn hne hg2) (v := .int b1) rfl ?_
  refine R_put 16 dX3_become_13 rfl wX3_16 (zg_zs hg) rfl rfl rfl (h2 := (zs h r (.inr (3, [.int b0, .int b1, .int a2, .int a3, .int a4, .int a5])))) (zs_zs _ _ _ _) ?_
  refine R_aload_n 17 dX3_become_16 rfl rfl ?_
  refine R_aload_n 18 dX3_become_17 rfl rfl ?_
  refine R_get 21 dX3_become_18 rfl fX3_19 (zg_zn hne hg2) (v := .int b2) rfl ?_
  refine R_put 24 dX3_become_21 rfl wX3_19 (zg_zs hg) rfl rfl rfl (h2 := (zs h r (.inr (3, [.int b0, .int b1, .int b2, .int a3, .int a4, .int a5])))) (zs_zs _ _ _ _) ?_
  refine R_aload_n 25 dX3_become_24 rfl rfl ?_
  refine R_aload_n 26 dX3_become_25 rfl rfl ?_
  refine R_get 29 dX3_become_26 rfl fX3_22 (zg_zn hne hg2) (v := .int b3) rfl ?_
  refine R_put 32 dX3_become_29 rfl wX3_22 (zg_zs hg) rfl rfl rfl (h2 := (zs h r (.inr (3, [.int b0, .int b1, .int b2, .int b3, .int a4, .int a5])))) (zs_zs _ _ _ _) ?_
  refine R_aload_n 33 dX3_become_32 rfl rfl ?_
  refine R_aload_n 34 dX3_become_33 rfl rfl ?_
  refine R_get 37 dX3_become_34 rfl fX3_7 (zg_zn hne hg2) (v := .int b4) rfl ?_
  refine R_put 40 dX3_become_37 rfl wX3_7 (zg_zs hg) rfl rfl rfl (h2 := (zs h r (.inr (3, [.int b0, .int b1, .int b2, .int b3, .int b4, .int a5])))) (zs_zs _ _ _ _) ?_
  refine R_aload_n 41 dX3_become_40 rfl rfl ?_
  refine R_aload_n 42 dX3_become_41 rfl rfl ?_
  refine R_get 45 dX3_become_42 rfl fX3_25 (zg_zn hne hg2) (v := .int b5) rfl ?_
  refine R_put 48 dX3_become_45 rfl wX3_25 (zg_zs hg) rfl rfl rfl (h2 := (zs h r (.inr (3, [.int b0, .int b1, .int b2, .int b3, .int b4, .int b5])))) (zs_zs _ _ _ _) ?_
  refine R_return dX3_become_48 rfl ?_
  exact ⟨rfl, rfl⟩
def sX0_sum_29 (ca : Nat → Nat → Int32) : Int32 := ((((0 + (ca 29 0)) + (ca 29 1)) + (ca 29 2)) + (ca 29 3)) + (ca 29 4)
set_option maxRecDepth 20000 in
theorem eX0_sum_29 {G : zG} {h2 : List va_E} {n m i : zP} {cf : Nat → Int32} {ca : Nat → Nat → Int32} : EvF G mX0_sum [.ref 29] (hC G n m i cf ca, h2) (some (.int (sX0_sum_29 ca))) (hC G n m i cf ca, h2) := by
  generalize hs : (sX0_sum_29 ca) = zz
  refine EvF.of pnX0 rfl ?_
  refine R_iconst 1 dX0_sum_0 rfl (v := 0) (by decide) ?_
  refine R_istore_n 2 dX0_sum_1 rfl rfl (by decide) (loc' := [(0, .ref 29), (1, .int 0)]) rfl ?_
  refine R_iconst 3 dX0_sum_2 rfl (v := 0) (by decide) ?_
  refine R_istore_n 4 dX0_sum_3 rfl rfl (by decide) (loc' := [(0, .ref 29), (1, .int 0), (2, .int 0)]) rfl ?_
  refine R_iload_n 5 dX0_sum_4 rfl rfl ?_
  refine R_aload_n 6 dX0_sum_5 rfl rfl ?_
  refine R_alen 7 dX0_sum_6 rfl rfl rfl ?_
  refine R_top (y := 5) (by decide) ?_
  refine R_icmp_ge 10 22 dX0_sum_7 rfl (by decide) (fun c => absurd c (by decide)) (fun _ => ?_)
  refine R_iload_n 11 dX0_sum_10 rfl rfl ?_
  refine R_aload_n 12 dX0_sum_11 rfl rfl ?_
  refine R_iload_n 13 dX0_sum_12 rfl rfl ?_
  refine R_iald 14 dX0_sum_13 rfl rfl rfl (vin_d (by decide)) ?_
  refine R_top (y := (ca 29 0)) rfl ?_
  refine R_iadd 15 dX0_sum_14 rfl ?_
  refine R_istore_n 16 dX0_sum_15 rfl rfl (by decide) (loc' := [(0, .ref 29), (1, .int (0 + (ca 29 0))), (2, .int 0)]) rfl ?_
  refine R_iinc 19 dX0_sum_16 rfl rfl (v := 1) (by decide) rfl (by decide) (loc' := [(0, .ref 29), (1, .int (0 + (ca 29 0))), (2, .int 1)]) rfl ?_
  refine R_goto 4 dX0_sum_19 (by decide) ?_
  refine R_iload_n 5 dX0_sum_4 rfl rfl ?_
  refine R_aload_n 6 dX0_sum_5 rfl rfl ?_
  refine R_alen 7 dX0_sum_6 rfl rfl rfl ?_
  refine R_top (y := 5) (by decide) ?_
  refine R_icmp_ge 10 22 dX0_sum_7 rfl (by decide) (fun c => absurd c (by decide)) (fun _ => ?_)
  refine R_iload_n 11 dX0_sum_10 rfl rfl ?_
  refine R_aload_n 12 dX0_sum_11 rfl rfl ?_
  refine R_iload_n 13 dX0_sum_12 rfl rfl ?_
  refine R_iald 14 dX0_sum_13 rfl rfl rfl (vin_d (by decide)) ?_
  refine R_top (y := (ca 29 1)) rfl ?_
  refine R_iadd 15 dX0_sum_14 rfl ?_
  refine R_istore_n 16 dX0_sum_15 rfl rfl (by decide) (loc' := [(0, .ref 29), (1, .int ((0 + (ca 29 0)) + (ca 29 1))), (2, .int 1)]) rfl ?_
  refine R_iinc 19 dX0_sum_16 rfl rfl (v := 2) (by decide) rfl (by decide) (loc' := [(0, .ref 29), (1, .int ((0 + (ca 29 0)) + (ca 29 1))), (2, .int 2)]) rfl ?_
  refine R_goto 4 dX0_sum_19 (by decide) ?_
  refine R_iload_n 5 dX0_sum_4 rfl rfl ?_
  refine R_aload_n 6 dX0_sum_5 rfl rfl ?_
  refine R_alen 7 dX0_sum_6 rfl rfl rfl ?_
  refine R_top (y := 5) (by decide) ?_
  refine R_icmp_ge 10 22 dX0_sum_7 rfl (by decide) (fun c => absurd c (by decide)) (fun _ => ?_)
  refine R_iload_n 11 dX0_sum_10 rfl rfl ?_
  refine R_aload_n 12 dX0_sum_11 rfl rfl ?_
  refine R_iload_n 13 dX0_sum_12 rfl rfl ?_
  refine R_iald 14 dX0_sum_13 rfl rfl rfl (vin_d (by decide)) ?_
  refine R_top (y := (ca 29 2)) rfl ?_
  refine R_iadd 15 dX0_sum_14 rfl ?_
  refine R_nm (fun z1_ hz1_ => ?_)
  refine R_istore_n 16 dX0_sum_15 rfl rfl (by decide) (loc' := [(0, .ref 29), (1, .int z1_), (2, .int 2)]) rfl ?_
  refine R_iinc 19 dX0_sum_16 rfl rfl (v := 3) (by decide) rfl (by decide) (loc' := [(0, .ref 29), (1, .int z1_), (2, .int 3)]) rfl ?_
  refine R_goto 4 dX0_sum_19 (by decide) ?_
  refine R_iload_n 5 dX0_sum_4 rfl rfl ?_
  refine R_aload_n 6 dX0_sum_5 rfl rfl ?_
  refine R_alen 7 dX0_sum_6 rfl rfl rfl ?_
  refine R_top (y := 5) (by decide) ?_
  refine R_icmp_ge 10 22 dX0_sum_7 rfl (by decide) (fun c => absurd c (by decide)) (fun _ => ?_)
  refine R_iload_n 11 dX0_sum_10 rfl rfl ?_
  refine R_aload_n 12 dX0_sum_11 rfl rfl ?_
  refine R_iload_n 13 dX0_sum_12 rfl rfl ?_
  refine R_iald 14 dX0_sum_13 rfl rfl rfl (vin_d (by decide)) ?_
  refine R_top (y := (ca 29 3)) rfl ?_
  refine R_iadd 15 dX0_sum_14 rfl ?_
  refine R_istore_n 16 dX0_sum_15 rfl rfl (by decide) (loc' := [(0, .ref 29), (1, .int (z1_ + (ca 29 3))), (2, .int 3)]) rfl ?_
  refine R_iinc 19 dX0_sum_16 rfl rfl (v := 4) (by decide) rfl (by decide) (loc' := [(0, .ref 29), (1, .int (z1_ + (ca 29 3))), (2, .int 4)]) rfl ?_
  refine R_goto 4 dX0_sum_19 (by decide) ?_
  refine R_iload_n 5 dX0_sum_4 rfl rfl ?_
  refine R_aload_n 6 dX0_sum_5 rfl rfl ?_
  refine R_alen 7 dX0_sum_6 rfl rfl rfl ?_
  refine R_top (y := 5) (by decide) ?_
  refine R_icmp_ge 10 22 dX0_sum_7 rfl (by decide) (fun c => absurd c (by decide)) (fun _ => ?_)
  refine R_iload_n 11 dX0_sum_10 rfl rfl ?_
  refine R_aload_n 12 dX0_sum_11 rfl rfl ?_
  refine R_iload_n 13 dX0_sum_12 rfl rfl ?_
  refine R_iald 14 dX0_sum_13 rfl rfl rfl (vin_d (by decide)) ?_
  refine R_top (y := (ca 29 4)) rfl ?_
  refine R_iadd 15 dX0_sum_14 rfl ?_
  refine R_istore_n 16 dX0_sum_15 rfl rfl (by decide) (loc' := [(0, .ref 29), (1, .int ((z1_ + (ca 29 3)) + (ca 29 4))), (2, .int 4)]) rfl ?_
  refine R_iinc 19 dX0_sum_16 rfl rfl (v := 5) (by decide) rfl (by decide) (loc' := [(0, .ref 29), (1, .int ((z1_ + (ca 29 3)) + (ca 29 4))), (2, .int 5)]) rfl ?_
  refine R_goto 4 dX0_sum_19 (by decide) ?_
  refine R_iload_n 5 dX0_sum_4 rfl rfl ?_
  refine R_aload_n 6 dX0_sum_5 rfl rfl ?_
  refine R_alen 7 dX0_sum_6 rfl rfl rfl ?_
  refine R_top (y := 5) (by decide) ?_
  refine R_icmp_ge 10 22 dX0_sum_7 rfl (by decide) (fun _ => ?_) (fun c => absurd c (by decide))
  refine R_iload_n 23 dX0_sum_22 rfl rfl ?_
  refine R_ireturn dX0_sum_23 rfl rfl ?_
  subst hz1_
  have e : zz = ((((0 + (ca 29 0)) + (ca 29 1)) + (ca 29 2)) + (ca 29 3)) + (ca 29 4) := by rw [← hs]; unfold sX0_sum_29; rfl
  subst e; exact ⟨rfl, rfl⟩
def sX0_sum_30 (ca : Nat → Nat → Int32) : Int32 := ((((0 + (ca 30 0)) + (ca 30 1)) + (ca 30 2)) + (ca 30 3)) + (ca 30 4)
set_option maxRecDepth 20000 in
theorem eX0_sum_30 {G : zG} {h2 : List va_E} {n m i : zP} {cf : Nat → Int32} {ca : Nat → Nat → Int32} : EvF G mX0_sum [.ref 30] (hC G n m i cf ca, h2) (some (.int (sX0_sum_30 ca))) (hC G n m i cf ca, h2) := by
  generalize hs : (sX0_sum_30 ca) = zz
  refine EvF.of pnX0 rfl ?_
  refine R_iconst 1 dX0_sum_0 rfl (v := 0) (by decide) ?_
  refine R_istore_n 2 dX0_sum_1 rfl rfl (by decide) (loc' := [(0, .ref 30), (1, .int 0)]) rfl ?_
  refine R_iconst 3 dX0_sum_2 rfl (v := 0) (by decide) ?_
  refine R_istore_n 4 dX0_sum_3 rfl rfl (by decide) (loc' := [(0, .ref 30), (1, .int 0), (2, .int 0)]) rfl ?_
  refine R_iload_n 5 dX0_sum_4 rfl rfl ?_
  refine R_aload_n 6 dX0_sum_5 rfl rfl ?_
  refine R_alen 7 dX0_sum_6 rfl rfl rfl ?_
  refine R_top (y := 5) (by decide) ?_
  refine R_icmp_ge 10 22 dX0_sum_7 rfl (by decide) (fun c => absurd c (by decide)) (fun _ => ?_)
  refine R_iload_n 11 dX0_sum_10 rfl rfl ?_
  refine R_aload_n 12 dX0_sum_11 rfl rfl ?_
  refine R_iload_n 13 dX0_sum_12 rfl rfl ?_
  refine R_iald 14 dX0_sum_13 rfl rfl rfl (vin_d (by decide)) ?_
  refine R_top (y := (ca 30 0)) rfl ?_
  refine R_iadd 15 dX0_sum_14 rfl ?_
  refine R_istore_n 16 dX0_sum_15 rfl rfl (by decide) (loc' := [(0, .ref 30), (1, .int (0 + (ca 30 0))), (2, .int 0)]) rfl ?_
  refine R_iinc 19 dX0_sum_16 rfl rfl (v := 1) (by decide) rfl (by decide) (loc' := [(0, .ref 30), (1, .int (0 + (ca 30 0))), (2, .int 1)]) rfl ?_
  refine R_goto 4 dX0_sum_19 (by decide) ?_
  refine R_iload_n 5 dX0_sum_4 rfl rfl ?_
  refine R_aload_n 6 dX0_sum_5 rfl rfl ?_
  refine R_alen 7 dX0_sum_6 rfl rfl rfl ?_
  refine R_top (y := 5) (by decide) ?_
  refine R_icmp_ge 10 22 dX0_sum_7 rfl (by decide) (fun c => absurd c (by decide)) (fun _ => ?_)
  refine R_iload_n 11 dX0_sum_10 rfl rfl ?_
  refine R_aload_n 12 dX0_sum_11 rfl rfl ?_
  refine R_iload_n 13 dX0_sum_12 rfl rfl ?_
  refine R_iald 14 dX0_sum_13 rfl rfl rfl (vin_d (by decide)) ?_
  refine R_top (y := (ca 30 1)) rfl ?_
  refine R_iadd 15 dX0_sum_14 rfl ?_
  refine R_istore_n 16 dX0_sum_15 rfl rfl (by decide) (loc' := [(0, .ref 30), (1, .int ((0 + (ca 30 0)) + (ca 30 1))), (2, .int 1)]) rfl ?_
  refine R_iinc 19 dX0_sum_16 rfl rfl (v := 2) (by decide) rfl (by decide) (loc' := [(0, .ref 30), (1, .int ((0 + (ca 30 0)) + (ca 30 1))), (2, .int 2)]) rfl ?_
  refine R_goto 4 dX0_sum_19 (by decide) ?_
  refine R_iload_n 5 dX0_sum_4 rfl rfl ?_
  refine R_aload_n 6 dX0_sum_5 rfl rfl ?_
  refine R_alen 7 dX0_sum_6 rfl rfl rfl ?_
  refine R_top (y := 5) (by decide) ?_
  refine R_icmp_ge 10 22 dX0_sum_7 rfl (by decide) (fun c => absurd c (by decide)) (fun _ => ?_)
  refine R_iload_n 11 dX0_sum_10 rfl rfl ?_
  refine R_aload_n 12 dX0_sum_11 rfl rfl ?_
  refine R_iload_n 13 dX0_sum_12 rfl rfl ?_
  refine R_iald 14 dX0_sum_13 rfl rfl rfl (vin_d (by decide)) ?_
  refine R_top (y := (ca 30 2)) rfl ?_
  refine R_iadd 15 dX0_sum_14 rfl ?_
  refine R_nm (fun z1_ hz1_ => ?_)
  refine R_istore_n 16 dX0_sum_15 rfl rfl (by decide) (loc' := [(0, .ref 30), (1, .int z1_), (2, .int 2)]) rfl ?_
  refine R_iinc 19 dX0_sum_16 rfl rfl (v := 3) (by decide) rfl (by decide) (loc' := [(0, .ref 30), (1, .int z1_), (2, .int 3)]) rfl ?_
  refine R_goto 4 dX0_sum_19 (by decide) ?_
  refine R_iload_n 5 dX0_sum_4 rfl rfl ?_
  refine R_aload_n 6 dX0_sum_5 rfl rfl ?_
  refine R_alen 7 dX0_sum_6 rfl rfl rfl ?_
  refine R_top (y := 5) (by decide) ?_
  refine R_icmp_ge 10 22 dX0_sum_7 rfl (by decide) (fun c => absurd c (by decide)) (fun _ => ?_)
  refine R_iload_n 11 dX0_sum_10 rfl rfl ?_
  refine R_aload_n 12 dX0_sum_11 rfl rfl ?_
  refine R_iload_n 13 dX0_sum_12 rfl rfl ?_
  refine R_iald 14 dX0_sum_13 rfl rfl rfl (vin_d (by decide)) ?_
  refine R_top (y := (ca 30 3)) rfl ?_
  refine R_iadd 15 dX0_sum_14 rfl ?_
  refine R_istore_n 16 dX0_sum_15 rfl rfl (by decide) (loc' := [(0, .ref 30), (1, .int (z1_ + (ca 30 3))), (2, .int 3)]) rfl ?_
  refine R_iinc 19 dX0_sum_16 rfl rfl (v := 4) (by decide) rfl (by decide) (loc' := [(0, .ref 30), (1, .int (z1_ + (ca 30 3))), (2, .int 4)]) rfl ?_
  refine R_goto 4 dX0_sum_19 (by decide) ?_
  refine R_iload_n 5 dX0_sum_4 rfl rfl ?_
  refine R_aload_n 6 dX0_sum_5 rfl rfl ?_
  refine R_alen 7 dX0_sum_6 rfl rfl rfl ?_
  refine R_top (y := 5) (by decide) ?_
  refine R_icmp_ge 10 22 dX0_sum_7 rfl (by decide) (fun c => absurd c (by decide)) (fun _ => ?_)
  refine R_iload_n 11 dX0_sum_10 rfl rfl ?_
  refine R_aload_n 12 dX0_sum_11 rfl rfl ?_
  refine R_iload_n 13 dX0_sum_12 rfl rfl ?_
  refine R_iald 14 dX0_sum_13 rfl rfl rfl (vin_d (by decide)) ?_
  refine R_top (y := (ca 30 4)) rfl ?_
  refine R_iadd 15 dX0_sum_14 rfl ?_
  refine R_istore_n 16 dX0_sum_15 rfl rfl (by decide) (loc' := [(0, .ref 30), (1, .int ((z1_ + (ca 30 3)) + (ca 30 4))), (2, .int 4)]) rfl ?_
  refine R_iinc 19 dX0_sum_16 rfl rfl (v := 5) (by decide) rfl (by decide) (loc' := [(0, .ref 30), (1, .int ((z1_ + (ca 30 3)) + (ca 30 4))), (2, .int 5)]) rfl ?_
  refine R_goto 4 dX0_sum_19 (by decide) ?_
  refine R_iload_n 5 dX0_sum_4 rfl rfl ?_
  refine R_aload_n 6 dX0_sum_5 rfl rfl ?_
  refine R_alen 7 dX0_sum_6 rfl rfl rfl ?_
  refine R_top (y := 5) (by decide) ?_
  refine R_icmp_ge 10 22 dX0_sum_7 rfl (by decide) (fun _ => ?_) (fun c => absurd c (by decide))
  refine R_iload_n 23 dX0_sum_22 rfl rfl ?_
  refine R_ireturn dX0_sum_23 rfl rfl ?_
  subst hz1_
  have e : zz = ((((0 + (ca 30 0)) + (ca 30 1)) + (ca 30 2)) + (ca 30 3)) + (ca 30 4) := by rw [← hs]; unfold sX0_sum_30; rfl
  subst e; exact ⟨rfl, rfl⟩
def sX0_sum_31 (ca : Nat → Nat → Int32) : Int32 := ((((0 + (ca 31 0)) + (ca 31 1)) + (ca 31 2)) + (ca 31 3)) + (ca 31 4)
set_option maxRecDepth 20000 in
theorem eX0_sum_31 {G : zG} {h2 : List va_E} {n m i : zP} {cf : Nat → Int32} {ca : Nat → Nat → Int32} : EvF G mX0_sum [.ref 31] (hC G n m i cf ca, h2) (some (.int (sX0_sum_31 ca))) (hC G n m i cf ca, h2) := by
  generalize hs : (sX0_sum_31 ca) = zz
  refine EvF.of pnX0 rfl ?_
  refine R_iconst 1 dX0_sum_0 rfl (v := 0) (by decide) ?_
  refine R_istore_n 2 dX0_sum_1 rfl rfl (by decide) (loc' := [(0, .ref 31), (1, .int 0)]) rfl ?_
  refine R_iconst 3 dX0_sum_2 rfl (v := 0) (by decide) ?_
  refine R_istore_n 4 dX0_sum_3 rfl rfl (by decide) (loc' := [(0, .ref 31), (1, .int 0), (2, .int 0)]) rfl ?_
  refine R_iload_n 5 dX0_sum_4 rfl rfl ?_
  refine R_aload_n 6 dX0_sum_5 rfl rfl ?_
  refine R_alen 7 dX0_sum_6 rfl rfl rfl ?_
  refine R_top (y := 5) (by decide) ?_
  refine R_icmp_ge 10 22 dX0_sum_7 rfl (by decide) (fun c => absurd c (by decide)) (fun _ => ?_)
  refine R_iload_n 11 dX0_sum_10 rfl rfl ?_
  refine R_aload_n 12 dX0_sum_11 rfl rfl ?_
  refine R_iload_n 13 dX0_sum_12 rfl rfl ?_
  refine R_iald 14 dX0_sum_13 rfl rfl rfl (vin_d (by decide)) ?_
  refine R_top (y := (ca 31 0)) rfl ?_
  refine R_iadd 15 dX0_sum_14 rfl ?_
  refine R_istore_n 16 dX0_sum_15 rfl rfl (by decide) (loc' := [(0, .ref 31), (1, .int (0 + (ca 31 0))), (2, .int 0)]) rfl ?_
  refine R_iinc 19 dX0_sum_16 rfl rfl (v := 1) (by decide) rfl (by decide) (loc' := [(0, .ref 31), (1, .int (0 + (ca 31 0))), (2, .int 1)]) rfl ?_
  refine R_goto 4 dX0_sum_19 (by decide) ?_
  refine R_iload_n 5 dX0_sum_4 rfl rfl ?_
  refine R_aload_n 6 dX0_sum_5 rfl rfl ?_
  refine R_alen 7 dX0_sum_6 rfl rfl rfl ?_
  refine R_top (y := 5) (by decide) ?_
  refine R_icmp_ge 10 22 dX0_sum_7 rfl (by decide) (fun c => absurd c (by decide)) (fun _ => ?_)
  refine R_iload_n 11 dX0_sum_10 rfl rfl ?_
  refine R_aload_n 12 dX0_sum_11 rfl rfl ?_
  refine R_iload_n 13 dX0_sum_12 rfl rfl ?_
  refine R_iald 14 dX0_sum_13 rfl rfl rfl (vin_d (by decide)) ?_
  refine R_top (y := (ca 31 1)) rfl ?_
  refine R_iadd 15 dX0_sum_14 rfl ?_
  refine R_istore_n 16 dX0_sum_15 rfl rfl (by decide) (loc' := [(0, .ref 31), (1, .int ((0 + (ca 31 0)) + (ca 31 1))), (2, .int 1)]) rfl ?_
  refine R_iinc 19 dX0_sum_16 rfl rfl (v := 2) (by decide) rfl (by decide) (loc' := [(0, .ref 31), (1, .int ((0 + (ca 31 0)) + (ca 31 1))), (2, .int 2)]) rfl ?_
  refine R_goto 4 dX0_sum_19 (by decide) ?_
  refine R_iload_n 5 dX0_sum_4 rfl rfl ?_
  refine R_aload_n 6 dX0_sum_5 rfl rfl ?_
  refine R_alen 7 dX0_sum_6 rfl rfl rfl ?_
  refine R_top (y := 5) (by decide) ?_
  refine R_icmp_ge 10 22 dX0_sum_7 rfl (by decide) (fun c => absurd c (by decide)) (fun _ => ?_)
  refine R_iload_n 11 dX0_sum_10 rfl rfl ?_
  refine R_aload_n 12 dX0_sum_11 rfl rfl ?_
  refine R_iload_n 13 dX0_sum_12 rfl rfl ?_
  refine R_iald 14 dX0_sum_13 rfl rfl rfl (vin_d (by decide)) ?_
  refine R_top (y := (ca 31 2)) rfl ?_
  refine R_iadd 15 dX0_sum_14 rfl ?_
  refine R_nm (fun z1_ hz1_ => ?_)
  refine R_istore_n 16 dX0_sum_15 rfl rfl (by decide) (loc' := [(0, .ref 31), (1, .int z1_), (2, .int 2)]) rfl ?_
  refine R_iinc 19 dX0_sum_16 rfl rfl (v := 3) (by decide) rfl (by decide) (loc' := [(0, .ref 31), (1, .int z1_), (2, .int 3)]) rfl ?_
  refine R_goto 4 dX0_sum_19 (by decide) ?_
  refine R_iload_n 5 dX0_sum_4 rfl rfl ?_
  refine R_aload_n 6 dX0_sum_5 rfl rfl ?_
  refine R_alen 7 dX0_sum_6 rfl rfl rfl ?_
  refine R_top (y := 5) (by decide) ?_
  refine R_icmp_ge 10 22 dX0_sum_7 rfl (by decide) (fun c => absurd c (by decide)) (fun _ => ?_)
  refine R_iload_n 11 dX0_sum_10 rfl rfl ?_
  refine R_aload_n 12 dX0_sum_11 rfl rfl ?_
  refine R_iload_n 13 dX0_sum_12 rfl rfl ?_
  refine R_iald 14 dX0_sum_13 rfl rfl rfl (vin_d (by decide)) ?_
  refine R_top (y := (ca 31 3)) rfl ?_
  refine R_iadd 15 dX0_sum_14 rfl ?_
  refine R_istore_n 16 dX0_sum_15 rfl rfl (by decide) (loc' := [(0, .ref 31), (1, .int (z1_ + (ca 31 3))), (2, .int 3)]) rfl ?_
  refine R_iinc 19 dX0_sum_16 rfl rfl (v := 4) (by decide) rfl (by decide) (loc' := [(0, .ref 31), (1, .int (z1_ + (ca 31 3))), (2, .int 4)]) rfl ?_
  refine R_goto 4 dX0_sum_19 (by decide) ?_
  refine R_iload_n 5 dX0_sum_4 rfl rfl ?_
  refine R_aload_n 6 dX0_sum_5 rfl rfl ?_
  refine R_alen 7 dX0_sum_6 rfl rfl rfl ?_
  refine R_top (y := 5) (by decide) ?_
  refine R_icmp_ge 10 22 dX0_sum_7 rfl (by decide) (fun c => absurd c (by decide)) (fun _ => ?_)
  refine R_iload_n 11 dX0_sum_10 rfl rfl ?_
  refine R_aload_n 12 dX0_sum_11 rfl rfl ?_
  refine R_iload_n 13 dX0_sum_12 rfl rfl ?_
  refine R_iald 14 dX0_sum_13 rfl rfl rfl (vin_d (by decide)) ?_
  refine R_top (y := (ca 31 4)) rfl ?_
  refine R_iadd 15 dX0_sum_14 rfl ?_
  refine R_istore_n 16 dX0_sum_15 rfl rfl (by decide) (loc' := [(0, .ref 31), (1, .int ((z1_ + (ca 31 3)) + (ca 31 4))), (2, .int 4)]) rfl ?_
  refine R_iinc 19 dX0_sum_16 rfl rfl (v := 5) (by decide) rfl (by decide) (loc' := [(0, .ref 31), (1, .int ((z1_ + (ca 31 3)) + (ca 31 4))), (2, .int 5)]) rfl ?_
  refine R_goto 4 dX0_sum_19 (by decide) ?_
  refine R_iload_n 5 dX0_sum_4 rfl rfl ?_
  refine R_aload_n 6 dX0_sum_5 rfl rfl ?_
  refine R_alen 7 dX0_sum_6 rfl rfl rfl ?_
  refine R_top (y := 5) (by decide) ?_
  refine R_icmp_ge 10 22 dX0_sum_7 rfl (by decide) (fun _ => ?_) (fun c => absurd c (by decide))
  refine R_iload_n 23 dX0_sum_22 rfl rfl ?_
  refine R_ireturn dX0_sum_23 rfl rfl ?_
  subst hz1_
  have e : zz = ((((0 + (ca 31 0)) + (ca 31 1)) + (ca 31 2)) + (ca 31 3)) + (ca 31 4) := by rw [← hs]; unfold sX0_sum_31; rfl
  subst e; exact ⟨rfl, rfl⟩
def sX0_allUps (ca : Nat → Nat → Int32) : Int32 := (sX0_sum_30 ca)
set_option maxRecDepth 20000 in
theorem eX0_allUps_28 {G : zG} {h2 : List va_E} {n m i : zP} {cf : Nat → Int32} {ca : Nat → Nat → Int32} : EvF G mX0_allUps [.ref 28] (hC G n m i cf ca, h2) (some (.int (sX0_allUps ca))) (hC G n m i cf ca, h2) := by
  generalize hs : (sX0_allUps ca) = zz
  refine EvF.of pnX0 rfl ?_
  refine R_aload_n 1 dX0_allUps_0 rfl rfl ?_
  refine R_get 4 dX0_allUps_1 rfl fX0_15 rfl (v := .ref 30) rfl ?_
  refine R_callSi 7 eX0_sum_30 dX0_allUps_4 rfl kX0_sum lX0_44 rfl rfl rfl rfl rfl ?_
  refine R_ireturn dX0_allUps_7 rfl rfl ?_
  have e : zz = (sX0_sum_30 ca) := by rw [← hs]; unfold sX0_allUps; rfl
  subst e; exact ⟨rfl, rfl⟩
def sX0_allCost (ca : Nat → Nat → Int32) : Int32 := (sX0_sum_29 ca) + (sX0_sum_31 ca)
set_option maxRecDepth 20000 in
theorem eX0_allCost_28 {G : zG} {h2 : List va_E} {n m i : zP} {cf : Nat → Int32} {ca : Nat → Nat → Int32} : EvF G mX0_allCost [.ref 28] (hC G n m i cf ca, h2) (some (.int (sX0_allCost ca))) (hC G n m i cf ca, h2) := by
  generalize hs : (sX0_allCost ca) = zz
  refine EvF.of pnX0 rfl ?_
  refine R_aload_n 1 dX0_allCost_0 rfl rfl ?_
  refine R_get 4 dX0_allCost_1 rfl fX0_9 rfl (v := .ref 29) rfl ?_
  refine R_callSi 7 eX0_sum_29 dX0_allCost_4 rfl kX0_sum lX0_44 rfl rfl rfl rfl rfl ?_
  refine R_aload_n 8 dX0_allCost_7 rfl rfl ?_
  refine R_get 11 dX0_allCost_8 rfl fX0_18 rfl (v := .ref 31) rfl ?_
  refine R_callSi 14 eX0_sum_31 dX0_allCost_11 rfl kX0_sum lX0_44 rfl rfl rfl rfl rfl ?_
  refine R_iadd 15 dX0_allCost_14 rfl ?_
  refine R_ireturn dX0_allCost_15 rfl rfl ?_
  have e : zz = (sX0_sum_29 ca) + (sX0_sum_31 ca) := by rw [← hs]; unfold sX0_allCost; rfl
  subst e; exact ⟨rfl, rfl⟩
def sX0_told (cf : Nat → Int32) (ca : Nat → Nat → Int32) (w : Int32) : Int32 := if w = 0 then (sX0_allCost ca) else if w = 1 then (sX0_allUps ca) else if w = 2 then (sX0_sum_31 ca) else if w = 3 then cf 3 else cf 4
set_option maxRecDepth 20000 in
theorem eX0_told_28 {G : zG} {h2 : List va_E} {n m i : zP} {cf : Nat → Int32} {ca : Nat → Nat → Int32} {w : Int32} : EvF G mX0_told [.ref 28, .int w] (hC G n m i cf ca, h2) (some (.int (sX0_told cf ca w))) (hC G n m i cf ca, h2) := by
  generalize hs : (sX0_told cf ca w) = zz
  refine EvF.of pnX0 rfl ?_
  refine R_iload_n 1 dX0_told_0 rfl rfl ?_
  by_cases c1 : w = 0
  ·
    refine R_tableAt 32 (off := 31) 0 c1 dX0_told_1 (by decide) (by decide) ?_
    refine R_aload_n 33 dX0_told_32 rfl rfl ?_
    refine R_callVi 36 eX0_allCost_28 dX0_told_33 rfl kX0_allCost lX0_37 rfl rfl rfl rfl rfl rfl rfl ?_
    refine R_ireturn dX0_told_36 rfl rfl ?_
    have e : zz = (sX0_allCost ca) := by rw [← hs]; unfold sX0_told; rw [if_pos c1]
    subst e; exact ⟨rfl, rfl⟩
  by_cases c2 : w = 1
  ·
    refine R_tableAt 37 (off := 36) 1 c2 dX0_told_1 (by decide) (by decide) ?_
    refine R_aload_n 38 dX0_told_37 rfl rfl ?_
    refine R_callVi 41 eX0_allUps_28 dX0_told_38 rfl kX0_allUps lX0_41 rfl rfl rfl rfl rfl rfl rfl ?_
    refine R_ireturn dX0_told_41 rfl rfl ?_
    have e : zz = (sX0_allUps ca) := by rw [← hs]; unfold sX0_told; rw [if_neg c1, if_pos c2]
    subst e; exact ⟨rfl, rfl⟩
  by_cases c3 : w = 2
  ·
    refine R_tableAt 42 (off := 41) 2 c3 dX0_told_1 (by decide) (by decide) ?_
    refine R_aload_n 43 dX0_told_42 rfl rfl ?_
    refine R_get 46 dX0_told_43 rfl fX0_18 rfl (v := .ref 31) rfl ?_
    refine R_callSi 49 eX0_sum_31 dX0_told_46 rfl kX0_sum lX0_44 rfl rfl rfl rfl rfl ?_
    refine R_ireturn dX0_told_49 rfl rfl ?_
    have e : zz = (sX0_sum_31 ca) := by rw [← hs]; unfold sX0_told; rw [if_neg c1, if_neg c2, if_pos c3]
    subst e; exact ⟨rfl, rfl⟩
  by_cases c4 : w = 3
  ·
    refine R_tableAt 50 (off := 49) 3 c4 dX0_told_1 (by decide) (by decide) ?_
    refine R_aload_n 51 dX0_told_50 rfl rfl ?_
    refine R_get 54 dX0_told_51 rfl fX0_25 rfl (v := .int (cf 3)) rfl ?_
    refine R_ireturn dX0_told_54 rfl rfl ?_
    have e : zz = cf 3 := by rw [← hs]; unfold sX0_told; rw [if_neg c1, if_neg c2, if_neg c3, if_pos c4]
    subst e; exact ⟨rfl, rfl⟩
  refine R_tableD 55 [0, 1, 2, 3] dX0_told_1 (List.forall_mem_cons.mpr ⟨lv_neT c1 (show (0 : Int32).toInt = 0 by decide), List.forall_mem_cons.mpr ⟨lv_neT c2 (show (1 : Int32).toInt = 1 by decide), List.forall_mem_cons.mpr ⟨lv_neT c3 (show (2 : Int32).toInt = 2 by decide), List.forall_mem_cons.mpr ⟨lv_neT c4 (show (3 : Int32).toInt = 3 by decide), fun _ h => absurd h List.not_mem_nil⟩⟩⟩⟩) (by decide) (by decide) ?_
  refine R_aload_n 56 dX0_told_55 rfl rfl ?_
  refine R_get 59 dX0_told_56 rfl fX0_28 rfl (v := .int (cf 4)) rfl ?_
  refine R_ireturn dX0_told_59 rfl rfl ?_
  have e : zz = cf 4 := by rw [← hs]; unfold sX0_told; rw [if_neg c1, if_neg c2, if_neg c3, if_neg c4]
  subst e; exact ⟨rfl, rfl⟩
def sX0_toldOf (cf : Nat → Int32) (ca : Nat → Nat → Int32) (p : Int32) (w : Int32) : Int32 := if p < 0 then 0 else if p < 5 then (if w = 0 then ca 29 p.toNatClampNeg else if w = 1 then ca 30 p.toNatClampNeg else (ca 29 p.toNatClampNeg) + (ca 31 p.toNatClampNeg)) else 0
set_option maxRecDepth 20000 in
theorem eX0_toldOf_28 {G : zG} {h2 : List va_E} {n m i : zP} {cf : Nat → Int32} {ca : Nat → Nat → Int32} {p w : Int32} : EvF G mX0_toldOf [.ref 28, .int p, .int w] (hC G n m i cf ca, h2) (some (.int (sX0_toldOf cf ca p w))) (hC G n m i cf ca, h2) := by
  generalize hs : (sX0_toldOf cf ca p w) = zz
  refine EvF.of pnX0 rfl ?_
  refine R_iload_n 1 dX0_toldOf_0 rfl rfl ?_
  refine R_if_lt 4 9 dX0_toldOf_1 rfl (by decide) (fun c1 => ?_) (fun c1 => ?_)
  ·
    refine R_iconst 10 dX0_toldOf_9 rfl (v := 0) (by decide) ?_
    refine R_ireturn dX0_toldOf_10 rfl rfl ?_
    have e : zz = 0 := by rw [← hs]; unfold sX0_toldOf; rw [if_pos c1]
    subst e; exact ⟨rfl, rfl⟩
  ·
    refine R_iload_n 5 dX0_toldOf_4 rfl rfl ?_
    refine R_iconst 6 dX0_toldOf_5 rfl (v := 5) (by decide) ?_
    refine R_icmp_lt 9 11 dX0_toldOf_6 rfl (by decide) (fun c2 => ?_) (fun c2 => ?_)
    ·
      refine R_iload_n 12 dX0_toldOf_11 rfl rfl ?_
      by_cases c3 : w = 0
      ·
        refine R_lookAt 40 (off := 28) 0 c3 dX0_toldOf_12 (by decide) (by decide) ?_
        refine R_aload_n 41 dX0_toldOf_40 rfl rfl ?_
        refine R_get 44 dX0_toldOf_41 rfl fX0_9 rfl (v := .ref 29) rfl ?_
        refine R_iload_n 45 dX0_toldOf_44 rfl rfl ?_
        refine R_iald 46 dX0_toldOf_45 rfl rfl rfl (vin5 (vlo1 c1) (vhi1 c2)) ?_
        refine R_ireturn dX0_toldOf_46 rfl rfl ?_
        have e : zz = ca 29 p.toNatClampNeg := by rw [← hs]; unfold sX0_toldOf; rw [if_neg c1, if_pos c2, if_pos c3]
        subst e; exact ⟨rfl, rfl⟩
      by_cases c4 : w = 1
      ·
        refine R_lookAt 47 (off := 35) 1 c4 dX0_toldOf_12 (by decide) (by decide) ?_
        refine R_aload_n 48 dX0_toldOf_47 rfl rfl ?_
        refine R_get 51 dX0_toldOf_48 rfl fX0_15 rfl (v := .ref 30) rfl ?_
        refine R_iload_n 52 dX0_toldOf_51 rfl rfl ?_
        refine R_iald 53 dX0_toldOf_52 rfl rfl rfl (vin5 (vlo1 c1) (vhi1 c2)) ?_
        refine R_ireturn dX0_toldOf_53 rfl rfl ?_
        have e : zz = ca 30 p.toNatClampNeg := by rw [← hs]; unfold sX0_toldOf; rw [if_neg c1, if_pos c2, if_neg c3, if_pos c4]
        subst e; exact ⟨rfl, rfl⟩
      refine R_lookup 54 (off := 42) dX0_toldOf_12 (by decide) (by rw [lv_osw c3 (show (0 : Int32).toInt = 0 by decide), lv_osw c4 (show (1 : Int32).toInt = 1 by decide)]; rfl) (by decide) ?_
      refine R_aload_n 55 dX0_toldOf_54 rfl rfl ?_
      refine R_get 58 dX0_toldOf_55 rfl fX0_9 rfl (v := .ref 29) rfl ?_
      refine R_iload_n 59 dX0_toldOf_58 rfl rfl ?_
      refine R_iald 60 dX0_toldOf_59 rfl rfl rfl (vin5 (vlo1 c1) (vhi1 c2)) ?_
      refine R_aload_n 61 dX0_toldOf_60 rfl rfl ?_
      refine R_get 64 dX0_toldOf_61 rfl fX0_18 rfl (v := .ref 31) rfl ?_
      refine R_iload_n 65 dX0_toldOf_64 rfl rfl ?_
      refine R_iald 66 dX0_toldOf_65 rfl rfl rfl (vin5 (vlo1 c1) (vhi1 c2)) ?_
      refine R_iadd 67 dX0_toldOf_66 rfl ?_
      refine R_ireturn dX0_toldOf_67 rfl rfl ?_
      have e : zz = (ca 29 p.toNatClampNeg) + (ca 31 p.toNatClampNeg) := by rw [← hs]; unfold sX0_toldOf; rw [if_neg c1, if_pos c2, if_neg c3, if_neg c4]
      subst e; exact ⟨rfl, rfl⟩
    ·
      refine R_iconst 10 dX0_toldOf_9 rfl (v := 0) (by decide) ?_
      refine R_ireturn dX0_toldOf_10 rfl rfl ?_
      have e : zz = 0 := by rw [← hs]; unfold sX0_toldOf; rw [if_neg c1, if_neg c2]
      subst e; exact ⟨rfl, rfl⟩
def sX0_clear (cf : Nat → Int32) (ca : Nat → Nat → Int32) : (Nat → Int32) × (Nat → Nat → Int32) := ((upd (upd (upd cf 3 0) 4 0) 5 (-9)), (up2 (up2 (up2 ca 29 (upd (upd (upd (upd (upd (ca 29) 0 0) 1 0) 2 0) 3 0) 4 0)) 30 (upd (upd (upd (upd (upd (ca 30) 0 0) 1 0) 2 0) 3 0) 4 0)) 31 (upd (upd (upd (upd (upd (ca 31) 0 0) 1 0) 2 0) 3 0) 4 0)))
set_option maxRecDepth 20000 in
theorem eX0_clear_28 {G : zG} {h2 : List va_E} {n m i : zP} {cf : Nat → Int32} {ca : Nat → Nat → Int32} : EvF G mX0_clear [.ref 28] (hC G n m i cf ca, h2) (none) (hC G n m i ((sX0_clear cf ca).1) ((sX0_clear cf ca).2), h2) := by
  generalize hs : (sX0_clear cf ca) = zz
  refine EvF.of pnX0 rfl ?_
  refine R_iconst 1 dX0_clear_0 rfl (v := 0) (by decide) ?_
  refine R_istore_n 2 dX0_clear_1 rfl rfl (by decide) (loc' := [(0, .ref 28), (1, .int 0)]) rfl ?_
  refine R_iload_n 3 dX0_clear_2 rfl rfl ?_
  refine R_iconst 4 dX0_clear_3 rfl (v := 5) (by decide) ?_
  refine R_icmp_ge 7 34 dX0_clear_4 rfl (by decide) (fun c => absurd c (by decide)) (fun _ => ?_)
  refine R_aload_n 8 dX0_clear_7 rfl rfl ?_
  refine R_get 11 dX0_clear_8 rfl fX0_9 rfl (v := .ref 29) rfl ?_
  refine R_iload_n 12 dX0_clear_11 rfl rfl ?_
  refine R_iconst 13 dX0_clear_12 rfl (v := 0) (by decide) ?_
  refine R_iast 14 dX0_clear_13 rfl rfl rfl (vin_d (by decide)) (h2 := (hC G n m i cf (up2 ca 29 (upd (ca 29) 0 0)), h2)) rfl ?_
  refine R_aload_n 15 dX0_clear_14 rfl rfl ?_
  refine R_get 18 dX0_clear_15 rfl fX0_15 rfl (v := .ref 30) rfl ?_
  refine R_iload_n 19 dX0_clear_18 rfl rfl ?_
  refine R_iconst 20 dX0_clear_19 rfl (v := 0) (by decide) ?_
  refine R_iast 21 dX0_clear_20 rfl rfl rfl (vin_d (by decide)) (h2 := (hC G n m i cf (up2 (up2 ca 29 (upd (ca 29) 0 0)) 30 (upd (ca 30) 0 0)), h2)) rfl ?_
  refine R_aload_n 22 dX0_clear_21 rfl rfl ?_
  refine R_get 25 dX0_clear_22 rfl fX0_18 rfl (v := .ref 31) rfl ?_
  refine R_iload_n 26 dX0_clear_25 rfl rfl ?_
  refine R_iconst 27 dX0_clear_26 rfl (v := 0) (by decide) ?_
  refine R_iast 28 dX0_clear_27 rfl rfl rfl (vin_d (by decide)) (h2 := (hC G n m i cf (up2 (up2 (up2 ca 29 (upd (ca 29) 0 0)) 30 (upd (ca 30) 0 0)) 31 (upd (ca 31) 0 0)), h2)) rfl ?_
  refine R_iinc 31 dX0_clear_28 rfl rfl (v := 1) (by decide) rfl (by decide) (loc' := [(0, .ref 28), (1, .int 1)]) rfl ?_
  refine R_goto 2 dX0_clear_31 (by decide) ?_
  refine R_iload_n 3 dX0_clear_2 rfl rfl ?_
  refine R_iconst 4 dX0_clear_3 rfl (v := 5) (by decide) ?_
  refine R_icmp_ge 7 34 dX0_clear_4 rfl (by decide) (fun c => absurd c (by decide)) (fun _ => ?_)
  refine R_aload_n 8 dX0_clear_7 rfl rfl ?_
  refine R_get 11 dX0_clear_8 rfl fX0_9 rfl (v := .ref 29) rfl ?_
  refine R_iload_n 12 dX0_clear_11 rfl rfl ?_
  refine R_iconst 13 dX0_clear_12 rfl (v := 0) (by decide) ?_
  refine R_iast 14 dX0_clear_13 rfl rfl rfl (vin_d (by decide)) (h2 := (hC G n m i cf (up2 (up2 (up2 ca 29 (upd (upd (ca 29) 0 0) 1 0)) 30 (upd (ca 30) 0 0)) 31 (upd (ca 31) 0 0)), h2)) rfl ?_
  refine R_aload_n 15 dX0_clear_14 rfl rfl ?_
  refine R_get 18 dX0_clear_15 rfl fX0_15 rfl (v := .ref 30) rfl ?_
  refine R_iload_n 19 dX0_clear_18 rfl rfl ?_
  refine R_iconst 20 dX0_clear_19 rfl (v := 0) (by decide) ?_
  refine R_iast 21 dX0_clear_20 rfl rfl rfl (vin_d (by decide)) (h2 := (hC G n m i cf (up2 (up2 (up2 ca 29 (upd (upd (ca 29) 0 0) 1 0)) 30 (upd (upd (ca 30) 0 0) 1 0)) 31 (upd (ca 31) 0 0)), h2)) rfl ?_
  refine R_aload_n 22 dX0_clear_21 rfl rfl ?_
  refine R_get 25 dX0_clear_22 rfl fX0_18 rfl (v := .ref 31) rfl ?_
  refine R_iload_n 26 dX0_clear_25 rfl rfl ?_
  refine R_iconst 27 dX0_clear_26 rfl (v := 0) (by decide) ?_
  refine R_iast 28 dX0_clear_27 rfl rfl rfl (vin_d (by decide)) (h2 := (hC G n m i cf (up2 (up2 (up2 ca 29 (upd (upd (ca 29) 0 0) 1 0)) 30 (upd (upd (ca 30) 0 0) 1 0)) 31 (upd (upd (ca 31) 0 0) 1 0)), h2)) rfl ?_
  refine R_iinc 31 dX0_clear_28 rfl rfl (v := 2) (by decide) rfl (by decide) (loc' := [(0, .ref 28), (1, .int 2)]) rfl ?_
  refine R_goto 2 dX0_clear_31 (by decide) ?_
  refine R_iload_n 3 dX0_clear_2 rfl rfl ?_
  refine R_iconst 4 dX0_clear_3 rfl (v := 5) (by decide) ?_
  refine R_icmp_ge 7 34 dX0_clear_4 rfl (by decide) (fun c => absurd c (by decide)) (fun _ => ?_)
  refine R_aload_n 8 dX0_clear_7 rfl rfl ?_
  refine R_get 11 dX0_clear_8 rfl fX0_9 rfl (v := .ref 29) rfl ?_
  refine R_iload_n 12 dX0_clear_11 rfl rfl ?_
  refine R_iconst 13 dX0_clear_12 rfl (v := 0) (by decide) ?_
  refine R_iast 14 dX0_clear_13 rfl rfl rfl (vin_d (by decide)) (h2 := (hC G n m i cf (up2 (up2 (up2 ca 29 (upd (upd (upd (ca 29) 0 0) 1 0) 2 0)) 30 (upd (upd (ca 30) 0 0) 1 0)) 31 (upd (upd (ca 31) 0 0) 1 0)), h2)) rfl ?_
  refine R_aload_n 15 dX0_clear_14 rfl rfl ?_
  refine R_get 18 dX0_clear_15 rfl fX0_15 rfl (v := .ref 30) rfl ?_
  refine R_iload_n 19 dX0_clear_18 rfl rfl ?_
  refine R_iconst 20 dX0_clear_19 rfl (v := 0) (by decide) ?_
  refine R_iast 21 dX0_clear_20 rfl rfl rfl (vin_d (by decide)) (h2 := (hC G n m i cf (up2 (up2 (up2 ca 29 (upd (upd (upd (ca 29) 0 0) 1 0) 2 0)) 30 (upd (upd (upd (ca 30) 0 0) 1 0) 2 0)) 31 (upd (upd (ca 31) 0 0) 1 0)), h2)) rfl ?_
  refine R_aload_n 22 dX0_clear_21 rfl rfl ?_
  refine R_get 25 dX0_clear_22 rfl fX0_18 rfl (v := .ref 31) rfl ?_
  refine R_iload_n 26 dX0_clear_25 rfl rfl ?_
  refine R_iconst 27 dX0_clear_26 rfl (v := 0) (by decide) ?_
  refine R_iast 28 dX0_clear_27 rfl rfl rfl (vin_d (by decide)) (h2 := (hC G n m i cf (up2 (up2 (up2 ca 29 (upd (upd (upd (ca 29) 0 0) 1 0) 2 0)) 30 (upd (upd (upd (ca 30) 0 0) 1 0) 2 0)) 31 (upd (upd (upd (ca 31) 0 0) 1 0) 2 0)), h2)) rfl ?_
  refine R_iinc 31 dX0_clear_28 rfl rfl (v := 3) (by decide) rfl (by decide) (loc' := [(0, .ref 28), (1, .int 3)]) rfl ?_
  refine R_goto 2 dX0_clear_31 (by decide) ?_
  refine R_iload_n 3 dX0_clear_2 rfl rfl ?_
  refine R_iconst 4 dX0_clear_3 rfl (v := 5) (by decide) ?_
  refine R_icmp_ge 7 34 dX0_clear_4 rfl (by decide) (fun c => absurd c (by decide)) (fun _ => ?_)
  refine R_aload_n 8 dX0_clear_7 rfl rfl ?_
  refine R_get 11 dX0_clear_8 rfl fX0_9 rfl (v := .ref 29) rfl ?_
  refine R_iload_n 12 dX0_clear_11 rfl rfl ?_
  refine R_iconst 13 dX0_clear_12 rfl (v := 0) (by decide) ?_
  refine R_iast 14 dX0_clear_13 rfl rfl rfl (vin_d (by decide)) (h2 := (hC G n m i cf (up2 (up2 (up2 ca 29 (upd (upd (upd (upd (ca 29) 0 0) 1 0) 2 0) 3 0)) 30 (upd (upd (upd (ca 30) 0 0) 1 0) 2 0)) 31 (upd (upd (upd (ca 31) 0 0) 1 0) 2 0)), h2)) rfl ?_
  refine R_aload_n 15 dX0_clear_14 rfl rfl ?_
  refine R_get 18 dX0_clear_15 rfl fX0_15 rfl (v := .ref 30) rfl ?_
  refine R_iload_n 19 dX0_clear_18 rfl rfl ?_
  refine R_iconst 20 dX0_clear_19 rfl (v := 0) (by decide) ?_
  refine R_iast 21 dX0_clear_20 rfl rfl rfl (vin_d (by decide)) (h2 := (hC G n m i cf (up2 (up2 (up2 ca 29 (upd (upd (upd (upd (ca 29) 0 0) 1 0) 2 0) 3 0)) 30 (upd (upd (upd (upd (ca 30) 0 0) 1 0) 2 0) 3 0)) 31 (upd (upd (upd (ca 31) 0 0) 1 0) 2 0)), h2)) rfl ?_
  refine R_aload_n 22 dX0_clear_21 rfl rfl ?_
  refine R_get 25 dX0_clear_22 rfl fX0_18 rfl (v := .ref 31) rfl ?_
  refine R_iload_n 26 dX0_clear_25 rfl rfl ?_
  refine R_iconst 27 dX0_clear_26 rfl (v := 0) (by decide) ?_
  refine R_iast 28 dX0_clear_27 rfl rfl rfl (vin_d (by decide)) (h2 := (hC G n m i cf (up2 (up2 (up2 ca 29 (upd (upd (upd (upd (ca 29) 0 0) 1 0) 2 0) 3 0)) 30 (upd (upd (upd (upd (ca 30) 0 0) 1 0) 2 0) 3 0)) 31 (upd (upd (upd (upd (ca 31) 0 0) 1 0) 2 0) 3 0)), h2)) rfl ?_
  refine R_iinc 31 dX0_clear_28 rfl rfl (v := 4) (by decide) rfl (by decide) (loc' := [(0, .ref 28), (1, .int 4)]) rfl ?_
  refine R_goto 2 dX0_clear_31 (by decide) ?_
  refine R_iload_n 3 dX0_clear_2 rfl rfl ?_
  refine R_iconst 4 dX0_clear_3 rfl (v := 5) (by decide) ?_
  refine R_icmp_ge 7 34 dX0_clear_4 rfl (by decide) (fun c => absurd c (by decide)) (fun _ => ?_)
  refine R_aload_n 8 dX0_clear_7 rfl rfl ?_
  refine R_get 11 dX0_clear_8 rfl fX0_9 rfl (v := .ref 29) rfl ?_
  refine R_iload_n 12 dX0_clear_11 rfl rfl ?_
  refine R_iconst 13 dX0_clear_12 rfl (v := 0) (by decide) ?_
  refine R_iast 14 dX0_clear_13 rfl rfl rfl (vin_d (by decide)) (h2 := (hC G n m i cf (up2 (up2 (up2 ca 29 (upd (upd (upd (upd (upd (ca 29) 0 0) 1 0) 2 0) 3 0) 4 0)) 30 (upd (upd (upd (upd (ca 30) 0 0) 1 0) 2 0) 3 0)) 31 (upd (upd (upd (upd (ca 31) 0 0) 1 0) 2 0) 3 0)), h2)) rfl ?_
  refine R_aload_n 15 dX0_clear_14 rfl rfl ?_
  refine R_get 18 dX0_clear_15 rfl fX0_15 rfl (v := .ref 30) rfl ?_
  refine R_iload_n 19 dX0_clear_18 rfl rfl ?_
  refine R_iconst 20 dX0_clear_19 rfl (v := 0) (by decide) ?_
  refine R_iast 21 dX0_clear_20 rfl rfl rfl (vin_d (by decide)) (h2 := (hC G n m i cf (up2 (up2 (up2 ca 29 (upd (upd (upd (upd (upd (ca 29) 0 0) 1 0) 2 0) 3 0) 4 0)) 30 (upd (upd (upd (upd (upd (ca 30) 0 0) 1 0) 2 0) 3 0) 4 0)) 31 (upd (upd (upd (upd (ca 31) 0 0) 1 0) 2 0) 3 0)), h2)) rfl ?_
  refine R_aload_n 22 dX0_clear_21 rfl rfl ?_
  refine R_get 25 dX0_clear_22 rfl fX0_18 rfl (v := .ref 31) rfl ?_
  refine R_iload_n 26 dX0_clear_25 rfl rfl ?_
  refine R_iconst 27 dX0_clear_26 rfl (v := 0) (by decide) ?_
  refine R_iast 28 dX0_clear_27 rfl rfl rfl (vin_d (by decide)) (h2 := (hC G n m i cf (up2 (up2 (up2 ca 29 (upd (upd (upd (upd (upd (ca 29) 0 0) 1 0) 2 0) 3 0) 4 0)) 30 (upd (upd (upd (upd (upd (ca 30) 0 0) 1 0) 2 0) 3 0) 4 0)) 31 (upd (upd (upd (upd (upd (ca 31) 0 0) 1 0) 2 0) 3 0) 4 0)), h2)) rfl ?_
  refine R_iinc 31 dX0_clear_28 rfl rfl (v := 5) (by decide) rfl (by decide) (loc' := [(0, .ref 28), (1, .int 5)]) rfl ?_
  refine R_goto 2 dX0_clear_31 (by decide) ?_
  refine R_iload_n 3 dX0_clear_2 rfl rfl ?_
  refine R_iconst 4 dX0_clear_3 rfl (v := 5) (by decide) ?_
  refine R_icmp_ge 7 34 dX0_clear_4 rfl (by decide) (fun _ => ?_) (fun c => absurd c (by decide))
  refine R_aload_n 35 dX0_clear_34 rfl rfl ?_
  refine R_iconst 36 dX0_clear_35 rfl (v := 0) (by decide) ?_
  refine R_put 39 dX0_clear_36 rfl wX0_25 rfl rfl rfl rfl (h2 := (hC G n m i (upd cf 3 0) (up2 (up2 (up2 ca 29 (upd (upd (upd (upd (upd (ca 29) 0 0) 1 0) 2 0) 3 0) 4 0)) 30 (upd (upd (upd (upd (upd (ca 30) 0 0) 1 0) 2 0) 3 0) 4 0)) 31 (upd (upd (upd (upd (upd (ca 31) 0 0) 1 0) 2 0) 3 0) 4 0)), h2)) rfl ?_
  refine R_aload_n 40 dX0_clear_39 rfl rfl ?_
  refine R_iconst 41 dX0_clear_40 rfl (v := 0) (by decide) ?_
  refine R_put 44 dX0_clear_41 rfl wX0_28 rfl rfl rfl rfl (h2 := (hC G n m i (upd (upd cf 3 0) 4 0) (up2 (up2 (up2 ca 29 (upd (upd (upd (upd (upd (ca 29) 0 0) 1 0) 2 0) 3 0) 4 0)) 30 (upd (upd (upd (upd (upd (ca 30) 0 0) 1 0) 2 0) 3 0) 4 0)) 31 (upd (upd (upd (upd (upd (ca 31) 0 0) 1 0) 2 0) 3 0) 4 0)), h2)) rfl ?_
  refine R_aload_n 45 dX0_clear_44 rfl rfl ?_
  refine R_bipush 47 dX0_clear_45 rfl (v := (-9)) (by decide) ?_
  refine R_put 50 dX0_clear_47 rfl wX0_21 rfl rfl rfl rfl (h2 := (hC G n m i (upd (upd (upd cf 3 0) 4 0) 5 (-9)) (up2 (up2 (up2 ca 29 (upd (upd (upd (upd (upd (ca 29) 0 0) 1 0) 2 0) 3 0) 4 0)) 30 (upd (upd (upd (upd (upd (ca 30) 0 0) 1 0) 2 0) 3 0) 4 0)) 31 (upd (upd (upd (upd (upd (ca 31) 0 0) 1 0) 2 0) 3 0) 4 0)), h2)) rfl ?_
  refine R_return dX0_clear_50 rfl ?_
  have e : zz = ((upd (upd (upd cf 3 0) 4 0) 5 (-9)), (up2 (up2 (up2 ca 29 (upd (upd (upd (upd (upd (ca 29) 0 0) 1 0) 2 0) 3 0) 4 0)) 30 (upd (upd (upd (upd (upd (ca 30) 0 0) 1 0) 2 0) 3 0) 4 0)) 31 (upd (upd (upd (upd (upd (ca 31) 0 0) 1 0) 2 0) 3 0) 4 0))) := by rw [← hs]; unfold sX0_clear; rfl
  rw [pr1 e, pr2 e]; exact ⟨rfl, rfl⟩
def sX0_noteUp (cf : Nat → Int32) (ca : Nat → Nat → Int32) (p : Int32) (pr : Int32) : (Nat → Int32) × (Nat → Nat → Int32) := if p < 0 then (cf, ca) else if 5 ≤ p then (cf, ca) else ((upd cf 5 p), (up2 (up2 ca 30 (upd (ca 30) p.toNatClampNeg ((ca 30 p.toNatClampNeg) + 1))) 31 (upd (ca 31) p.toNatClampNeg ((ca 31 p.toNatClampNeg) + pr))))
set_option maxRecDepth 20000 in
theorem eX0_noteUp_28 {G : zG} {h2 : List va_E} {n m i : zP} {cf : Nat → Int32} {ca : Nat → Nat → Int32} {p pr : Int32} : EvF G mX0_noteUp [.ref 28, .int p, .int pr] (hC G n m i cf ca, h2) (none) (hC G n m i ((sX0_noteUp cf ca p pr).1) ((sX0_noteUp cf ca p pr).2), h2) := by
  generalize hs : (sX0_noteUp cf ca p pr) = zz
  refine EvF.of pnX0 rfl ?_
  refine R_iload_n 1 dX0_noteUp_0 rfl rfl ?_
  refine R_if_lt 4 34 dX0_noteUp_1 rfl (by decide) (fun c1 => ?_) (fun c1 => ?_)
  ·
    refine R_return dX0_noteUp_34 rfl ?_
    have e : zz = (cf, ca) := by rw [← hs]; unfold sX0_noteUp; rw [if_pos c1]
    rw [pr1 e, pr2 e]; exact ⟨rfl, rfl⟩
  ·
    refine R_iload_n 5 dX0_noteUp_4 rfl rfl ?_
    refine R_iconst 6 dX0_noteUp_5 rfl (v := 5) (by decide) ?_
    refine R_icmp_ge 9 34 dX0_noteUp_6 rfl (by decide) (fun c2 => ?_) (fun c2 => ?_)
    ·
      refine R_return dX0_noteUp_34 rfl ?_
      have e : zz = (cf, ca) := by rw [← hs]; unfold sX0_noteUp; rw [if_neg c1, if_pos c2]
      rw [pr1 e, pr2 e]; exact ⟨rfl, rfl⟩
    ·
      refine R_aload_n 10 dX0_noteUp_9 rfl rfl ?_
      refine R_get 13 dX0_noteUp_10 rfl fX0_15 rfl (v := .ref 30) rfl ?_
      refine R_iload_n 14 dX0_noteUp_13 rfl rfl ?_
      refine R_dup2 15 dX0_noteUp_14 rfl rfl rfl ?_
      refine R_iald 16 dX0_noteUp_15 rfl rfl rfl (vin5 (vlo1 c1) c2) ?_
      refine R_iconst 17 dX0_noteUp_16 rfl (v := 1) (by decide) ?_
      refine R_iadd 18 dX0_noteUp_17 rfl ?_
      refine R_nm (fun z1_ hz1_ => ?_)
      refine R_iast 19 dX0_noteUp_18 rfl rfl rfl (vin5 (vlo1 c1) c2) (h2 := (hC G n m i cf (up2 ca 30 (upd (ca 30) p.toNatClampNeg z1_)), h2)) rfl ?_
      refine R_aload_n 20 dX0_noteUp_19 rfl rfl ?_
      refine R_get 23 dX0_noteUp_20 rfl fX0_18 rfl (v := .ref 31) rfl ?_
      refine R_iload_n 24 dX0_noteUp_23 rfl rfl ?_
      refine R_dup2 25 dX0_noteUp_24 rfl rfl rfl ?_
      refine R_iald 26 dX0_noteUp_25 rfl rfl rfl (vin5 (vlo1 c1) c2) ?_
      refine R_iload_n 27 dX0_noteUp_26 rfl rfl ?_
      refine R_iadd 28 dX0_noteUp_27 rfl ?_
      refine R_nm (fun z2_ hz2_ => ?_)
      refine R_iast 29 dX0_noteUp_28 rfl rfl rfl (vin5 (vlo1 c1) c2) (h2 := (hC G n m i cf (up2 (up2 ca 30 (upd (ca 30) p.toNatClampNeg z1_)) 31 (upd (ca 31) p.toNatClampNeg z2_)), h2)) rfl ?_
      refine R_aload_n 30 dX0_noteUp_29 rfl rfl ?_
      refine R_iload_n 31 dX0_noteUp_30 rfl rfl ?_
      refine R_put 34 dX0_noteUp_31 rfl wX0_21 rfl rfl rfl rfl (h2 := (hC G n m i (upd cf 5 p) (up2 (up2 ca 30 (upd (ca 30) p.toNatClampNeg z1_)) 31 (upd (ca 31) p.toNatClampNeg z2_)), h2)) rfl ?_
      refine R_return dX0_noteUp_34 rfl ?_
      subst hz1_ hz2_
      have e : zz = ((upd cf 5 p), (up2 (up2 ca 30 (upd (ca 30) p.toNatClampNeg ((ca 30 p.toNatClampNeg) + 1))) 31 (upd (ca 31) p.toNatClampNeg ((ca 31 p.toNatClampNeg) + pr)))) := by rw [← hs]; unfold sX0_noteUp; rw [if_neg c1, if_neg c2]
      rw [pr1 e, pr2 e]; exact ⟨rfl, rfl⟩
def sX0_noteBother (cf : Nat → Int32) (ca : Nat → Nat → Int32) (p : Int32) (mu : Int32) : (Nat → Nat → Int32) := if p < 0 then ca else if 5 ≤ p then ca else (up2 ca 29 (upd (ca 29) p.toNatClampNeg ((ca 29 p.toNatClampNeg) + mu)))
set_option maxRecDepth 20000 in
theorem eX0_noteBother_28 {G : zG} {h2 : List va_E} {n m i : zP} {cf : Nat → Int32} {ca : Nat → Nat → Int32} {p mu : Int32} : EvF G mX0_noteBother [.ref 28, .int p, .int mu] (hC G n m i cf ca, h2) (none) (hC G n m i cf (sX0_noteBother cf ca p mu), h2) := by
  generalize hs : (sX0_noteBother cf ca p mu) = zz
  refine EvF.of pnX0 rfl ?_
  refine R_iload_n 1 dX0_noteBother_0 rfl rfl ?_
  refine R_if_lt 4 19 dX0_noteBother_1 rfl (by decide) (fun c1 => ?_) (fun c1 => ?_)
  ·
    refine R_return dX0_noteBother_19 rfl ?_
    have e : zz = ca := by rw [← hs]; unfold sX0_noteBother; rw [if_pos c1]
    subst e; exact ⟨rfl, rfl⟩
  ·
    refine R_iload_n 5 dX0_noteBother_4 rfl rfl ?_
    refine R_iconst 6 dX0_noteBother_5 rfl (v := 5) (by decide) ?_
    refine R_icmp_ge 9 19 dX0_noteBother_6 rfl (by decide) (fun c2 => ?_) (fun c2 => ?_)
    ·
      refine R_return dX0_noteBother_19 rfl ?_
      have e : zz = ca := by rw [← hs]; unfold sX0_noteBother; rw [if_neg c1, if_pos c2]
      subst e; exact ⟨rfl, rfl⟩
    ·
      refine R_aload_n 10 dX0_noteBother_9 rfl rfl ?_
      refine R_get 13 dX0_noteBother_10 rfl fX0_9 rfl (v := .ref 29) rfl ?_
      refine R_iload_n 14 dX0_noteBother_13 rfl rfl ?_
      refine R_dup2 15 dX0_noteBother_14 rfl rfl rfl ?_
      refine R_iald 16 dX0_noteBother_15 rfl rfl rfl (vin5 (vlo1 c1) c2) ?_
      refine R_iload_n 17 dX0_noteBother_16 rfl rfl ?_
      refine R_iadd 18 dX0_noteBother_17 rfl ?_
      refine R_nm (fun z1_ hz1_ => ?_)
      refine R_iast 19 dX0_noteBother_18 rfl rfl rfl (vin5 (vlo1 c1) c2) (h2 := (hC G n m i cf (up2 ca 29 (upd (ca 29) p.toNatClampNeg z1_)), h2)) rfl ?_
      refine R_return dX0_noteBother_19 rfl ?_
      subst hz1_
      have e : zz = (up2 ca 29 (upd (ca 29) p.toNatClampNeg ((ca 29 p.toNatClampNeg) + mu))) := by rw [← hs]; unfold sX0_noteBother; rw [if_neg c1, if_neg c2]
      subst e; exact ⟨rfl, rfl⟩
def sX0_noteOff (cf : Nat → Int32) (ca : Nat → Nat → Int32) (o0 : Int32) (o1 : Int32) : (Nat → Int32) := (upd (upd cf 3 (sMax (cf 3) o0)) 4 (sMax (cf 4) o1))
set_option maxRecDepth 20000 in
theorem eX0_noteOff_28 {G : zG} {h2 : List va_E} {n m i : zP} {cf : Nat → Int32} {ca : Nat → Nat → Int32} {o0 o1 : Int32} : EvF G mX0_noteOff [.ref 28, .int o0, .int o1] (hC G n m i cf ca, h2) (none) (hC G n m i (sX0_noteOff cf ca o0 o1) ca, h2) := by
  generalize hs : (sX0_noteOff cf ca o0 o1) = zz
  refine EvF.of pnX0 rfl ?_
  refine R_aload_n 1 dX0_noteOff_0 rfl rfl ?_
  refine R_aload_n 2 dX0_noteOff_1 rfl rfl ?_
  refine R_get 5 dX0_noteOff_2 rfl fX0_25 rfl (v := .int (cf 3)) rfl ?_
  refine R_iload_n 6 dX0_noteOff_5 rfl rfl ?_
  refine R_mmax 9 dX0_noteOff_6 rfl lmX0_31 mw_max rfl rfl rfl ?_
  refine R_top (y := sMax (cf 3) o0) rfl ?_
  refine R_nm (fun z1_ hz1_ => ?_)
  refine R_put 12 dX0_noteOff_9 rfl wX0_25 rfl rfl rfl rfl (h2 := (hC G n m i (upd cf 3 z1_) ca, h2)) rfl ?_
  refine R_aload_n 13 dX0_noteOff_12 rfl rfl ?_
  refine R_aload_n 14 dX0_noteOff_13 rfl rfl ?_
  refine R_get 17 dX0_noteOff_14 rfl fX0_28 rfl (v := .int (cf 4)) rfl ?_
  refine R_iload_n 18 dX0_noteOff_17 rfl rfl ?_
  refine R_mmax 21 dX0_noteOff_18 rfl lmX0_31 mw_max rfl rfl rfl ?_
  refine R_top (y := sMax (cf 4) o1) rfl ?_
  refine R_nm (fun z2_ hz2_ => ?_)
  refine R_put 24 dX0_noteOff_21 rfl wX0_28 rfl rfl rfl rfl (h2 := (hC G n m i (upd (upd cf 3 z1_) 4 z2_) ca, h2)) rfl ?_
  refine R_return dX0_noteOff_24 rfl ?_
  subst hz1_ hz2_
  have e : zz = (upd (upd cf 3 (sMax (cf 3) o0)) 4 (sMax (cf 4) o1)) := by rw [← hs]; unfold sX0_noteOff; rfl
  subst e; exact ⟨rfl, rfl⟩
def sX2_told (m : zP) (w : Int32) : Int32 := if w = 0 then m.1 0 else if w = 1 then m.1 1 else if w = 2 then m.1 2 else if w = 3 then m.1 10 else if w = 4 then m.1 12 else if w = 5 then m.1 13 else if w = 6 then m.1 9 else if w = 7 then m.1 11 else m.1 7
set_option maxRecDepth 20000 in
theorem eX2_told_1 {G : zG} {h2 : List va_E} {m k i : zP} {cf : Nat → Int32} {ca : Nat → Nat → Int32} {w : Int32} : EvF G mX2_told [.ref 1, .int w] (hC G m k i cf ca, h2) (some (.int (sX2_told m w))) (hC G m k i cf ca, h2) := by
  generalize hs : (sX2_told m w) = zz
  refine EvF.of pnX2 rfl ?_
  refine R_iload_n 1 dX2_told_0 rfl rfl ?_
  by_cases c1 : w = 0
  ·
    refine R_tableAt 48 (off := 47) 0 c1 dX2_told_1 (by decide) (by decide) ?_
    refine R_aload_n 49 dX2_told_48 rfl rfl ?_
    refine R_get 52 dX2_told_49 rfl fX2_36 rfl (v := .int (m.1 0)) rfl ?_
    refine R_ireturn dX2_told_52 rfl rfl ?_
    have e : zz = m.1 0 := by rw [← hs]; unfold sX2_told; rw [if_pos c1]
    subst e; exact ⟨rfl, rfl⟩
  by_cases c2 : w = 1
  ·
    refine R_tableAt 53 (off := 52) 1 c2 dX2_told_1 (by decide) (by decide) ?_
    refine R_aload_n 54 dX2_told_53 rfl rfl ?_
    refine R_get 57 dX2_told_54 rfl fX2_39 rfl (v := .int (m.1 1)) rfl ?_
    refine R_ireturn dX2_told_57 rfl rfl ?_
    have e : zz = m.1 1 := by rw [← hs]; unfold sX2_told; rw [if_neg c1, if_pos c2]
    subst e; exact ⟨rfl, rfl⟩
  by_cases c3 : w = 2
  ·
    refine R_tableAt 58 (off := 57) 2 c3 dX2_told_1 (by decide) (by decide) ?_
    refine R_aload_n 59 dX2_told_58 rfl rfl ?_
    refine R_get 62 dX2_told_59 rfl fX2_9 rfl (v := .int (m.1 2)) rfl ?_
    refine R_ireturn dX2_told_62 rfl rfl ?_
    have e : zz = m.1 2 := by rw [← hs]; unfold sX2_told; rw [if_neg c1, if_neg c2, if_pos c3]
    subst e; exact ⟨rfl, rfl⟩
  by_cases c4 : w = 3
  ·
    refine R_tableAt 63 (off := 62) 3 c4 dX2_told_1 (by decide) (by decide) ?_
    refine R_aload_n 64 dX2_told_63 rfl rfl ?_
    refine R_get 67 dX2_told_64 rfl fX2_18 rfl (v := .ref 2) rfl ?_
    refine R_get 70 dX2_told_67 rfl fX2_61 rfl (v := .int (m.1 10)) rfl ?_
    refine R_ireturn dX2_told_70 rfl rfl ?_
    have e : zz = m.1 10 := by rw [← hs]; unfold sX2_told; rw [if_neg c1, if_neg c2, if_neg c3, if_pos c4]
    subst e; exact ⟨rfl, rfl⟩
  by_cases c5 : w = 4
  ·
    refine R_tableAt 71 (off := 70) 4 c5 dX2_told_1 (by decide) (by decide) ?_
    refine R_aload_n 72 dX2_told_71 rfl rfl ?_
    refine R_get 75 dX2_told_72 rfl fX2_25 rfl (v := .ref 3) rfl ?_
    refine R_get 78 dX2_told_75 rfl fX2_64 rfl (v := .int (m.1 12)) rfl ?_
    refine R_ireturn dX2_told_78 rfl rfl ?_
    have e : zz = m.1 12 := by rw [← hs]; unfold sX2_told; rw [if_neg c1, if_neg c2, if_neg c3, if_neg c4, if_pos c5]
    subst e; exact ⟨rfl, rfl⟩
  by_cases c6 : w = 5
  ·
    refine R_tableAt 79 (off := 78) 5 c6 dX2_told_1 (by decide) (by decide) ?_
    refine R_aload_n 80 dX2_told_79 rfl rfl ?_
    refine R_get 83 dX2_told_80 rfl fX2_25 rfl (v := .ref 3) rfl ?_
    refine R_get 86 dX2_told_83 rfl fX2_67 rfl (v := .int (m.1 13)) rfl ?_
    refine R_ireturn dX2_told_86 rfl rfl ?_
    have e : zz = m.1 13 := by rw [← hs]; unfold sX2_told; rw [if_neg c1, if_neg c2, if_neg c3, if_neg c4, if_neg c5, if_pos c6]
    subst e; exact ⟨rfl, rfl⟩
  by_cases c7 : w = 6
  ·
    refine R_tableAt 87 (off := 86) 6 c7 dX2_told_1 (by decide) (by decide) ?_
    refine R_aload_n 88 dX2_told_87 rfl rfl ?_
    refine R_get 91 dX2_told_88 rfl fX2_18 rfl (v := .ref 2) rfl ?_
    refine R_get 94 dX2_told_91 rfl fX2_70 rfl (v := .int (m.1 9)) rfl ?_
    refine R_ireturn dX2_told_94 rfl rfl ?_
    have e : zz = m.1 9 := by rw [← hs]; unfold sX2_told; rw [if_neg c1, if_neg c2, if_neg c3, if_neg c4, if_neg c5, if_neg c6, if_pos c7]
    subst e; exact ⟨rfl, rfl⟩
  by_cases c8 : w = 7
  ·
    refine R_tableAt 95 (off := 94) 7 c8 dX2_told_1 (by decide) (by decide) ?_
    refine R_aload_n 96 dX2_told_95 rfl rfl ?_
    refine R_get 99 dX2_told_96 rfl fX2_25 rfl (v := .ref 3) rfl ?_
    refine R_get 102 dX2_told_99 rfl fX2_73 rfl (v := .int (m.1 11)) rfl ?_
    refine R_ireturn dX2_told_102 rfl rfl ?_
    have e : zz = m.1 11 := by rw [← hs]; unfold sX2_told; rw [if_neg c1, if_neg c2, if_neg c3, if_neg c4, if_neg c5, if_neg c6, if_neg c7, if_pos c8]
    subst e; exact ⟨rfl, rfl⟩
  refine R_tableD 103 [0, 1, 2, 3, 4, 5, 6, 7] dX2_told_1 (List.forall_mem_cons.mpr ⟨lv_neT c1 (show (0 : Int32).toInt = 0 by decide), List.forall_mem_cons.mpr ⟨lv_neT c2 (show (1 : Int32).toInt = 1 by decide), List.forall_mem_cons.mpr ⟨lv_neT c3 (show (2 : Int32).toInt = 2 by decide), List.forall_mem_cons.mpr ⟨lv_neT c4 (show (3 : Int32).toInt = 3 by decide), List.forall_mem_cons.mpr ⟨lv_neT c5 (show (4 : Int32).toInt = 4 by decide), List.forall_mem_cons.mpr ⟨lv_neT c6 (show (5 : Int32).toInt = 5 by decide), List.forall_mem_cons.mpr ⟨lv_neT c7 (show (6 : Int32).toInt = 6 by decide), List.forall_mem_cons.mpr ⟨lv_neT c8 (show (7 : Int32).toInt = 7 by decide), fun _ h => absurd h List.not_mem_nil⟩⟩⟩⟩⟩⟩⟩⟩) (by decide) (by decide) ?_
  refine R_aload_n 104 dX2_told_103 rfl rfl ?_
  refine R_get 107 dX2_told_104 rfl fX2_55 rfl (v := .int (m.1 7)) rfl ?_
  refine R_ireturn dX2_told_107 rfl rfl ?_
  have e : zz = m.1 7 := by rw [← hs]; unfold sX2_told; rw [if_neg c1, if_neg c2, if_neg c3, if_neg c4, if_neg c5, if_neg c6, if_neg c7, if_neg c8]
  subst e; exact ⟨rfl, rfl⟩
def sX2_change (m : zP) (w : Int32) (v : Int32) : Int32 × zP := if w = 0 then ((sX2_told m w), ((upd m.1 0 v), m.2)) else if w = 1 then ((sX2_told m w), ((upd m.1 1 v), m.2)) else if w = 2 then ((sX2_told m w), ((upd m.1 2 v), m.2)) else if w = 3 then ((sX2_told m w), ((upd m.1 10 v), m.2)) else if w = 4 then ((sX2_told m w), ((upd m.1 12 v), m.2)) else if w = 5 then ((sX2_told m w), ((upd m.1 13 v), m.2)) else if w = 6 then ((sX2_told m w), ((upd m.1 9 v), m.2)) else if w = 7 then ((sX2_told m w), ((upd m.1 11 v), m.2)) else ((sX2_told m w), ((upd m.1 7 v), m.2))
set_option maxRecDepth 20000 in
theorem eX2_change_1 {G : zG} {h2 : List va_E} {m k i : zP} {cf : Nat → Int32} {ca : Nat → Nat → Int32} {w v : Int32} : EvF G mX2_change [.ref 1, .int w, .int v] (hC G m k i cf ca, h2) (some (.int ((sX2_change m w v).1))) (hC G ((sX2_change m w v).2) k i cf ca, h2) := by
  generalize hs : (sX2_change m w v) = zz
  refine EvF.of pnX2 rfl ?_
  refine R_aload_n 1 dX2_change_0 rfl rfl ?_
  refine R_iload_n 2 dX2_change_1 rfl rfl ?_
  refine R_callVi 5 eX2_told_1 dX2_change_2 rfl kX2_told lX2_74 rfl rfl rfl rfl rfl rfl rfl ?_
  refine R_istore_n 6 dX2_change_5 rfl rfl (by decide) (loc' := [(0, .ref 1), (1, .int w), (2, .int v), (3, .int (sX2_told m w))]) rfl ?_
  refine R_iload_n 7 dX2_change_6 rfl rfl ?_
  by_cases c1 : w = 0
  ·
    refine R_tableAt 52 (off := 45) 0 c1 dX2_change_7 (by decide) (by decide) ?_
    refine R_aload_n 53 dX2_change_52 rfl rfl ?_
    refine R_iload_n 54 dX2_change_53 rfl rfl ?_
    refine R_put 57 dX2_change_54 rfl wX2_36 rfl rfl rfl rfl (h2 := (hC G ((upd m.1 0 v), m.2) k i cf ca, h2)) rfl ?_
    refine R_goto 136 dX2_change_57 (by decide) ?_
    refine R_iload_n 137 dX2_change_136 rfl rfl ?_
    refine R_ireturn dX2_change_137 rfl rfl ?_
    have e : zz = ((sX2_told m w), ((upd m.1 0 v), m.2)) := by rw [← hs]; unfold sX2_change; rw [if_pos c1]
    rw [pr1 e, pr2 e]; exact ⟨rfl, rfl⟩
  by_cases c2 : w = 1
  ·
    refine R_tableAt 60 (off := 53) 1 c2 dX2_change_7 (by decide) (by decide) ?_
    refine R_aload_n 61 dX2_change_60 rfl rfl ?_
    refine R_iload_n 62 dX2_change_61 rfl rfl ?_
    refine R_put 65 dX2_change_62 rfl wX2_39 rfl rfl rfl rfl (h2 := (hC G ((upd m.1 1 v), m.2) k i cf ca, h2)) rfl ?_
    refine R_goto 136 dX2_change_65 (by decide) ?_
    refine R_iload_n 137 dX2_change_136 rfl rfl ?_
    refine R_ireturn dX2_change_137 rfl rfl ?_
    have e : zz = ((sX2_told m w), ((upd m.1 1 v), m.2)) := by rw [← hs]; unfold sX2_change; rw [if_neg c1, if_pos c2]
    rw [pr1 e, pr2 e]; exact ⟨rfl, rfl⟩
  by_cases c3 : w = 2
  ·
    refine R_tableAt 68 (off := 61) 2 c3 dX2_change_7 (by decide) (by decide) ?_
    refine R_aload_n 69 dX2_change_68 rfl rfl ?_
    refine R_iload_n 70 dX2_change_69 rfl rfl ?_
    refine R_put 73 dX2_change_70 rfl wX2_9 rfl rfl rfl rfl (h2 := (hC G ((upd m.1 2 v), m.2) k i cf ca, h2)) rfl ?_
    refine R_goto 136 dX2_change_73 (by decide) ?_
    refine R_iload_n 137 dX2_change_136 rfl rfl ?_
    refine R_ireturn dX2_change_137 rfl rfl ?_
    have e : zz = ((sX2_told m w), ((upd m.1 2 v), m.2)) := by rw [← hs]; unfold sX2_change; rw [if_neg c1, if_neg c2, if_pos c3]
    rw [pr1 e, pr2 e]; exact ⟨rfl, rfl⟩
  by_cases c4 : w = 3
  ·
    refine R_tableAt 76 (off := 69) 3 c4 dX2_change_7 (by decide) (by decide) ?_
    refine R_aload_n 77 dX2_change_76 rfl rfl ?_
    refine R_get 80 dX2_change_77 rfl fX2_18 rfl (v := .ref 2) rfl ?_
    refine R_iload_n 81 dX2_change_80 rfl rfl ?_
    refine R_put 84 dX2_change_81 rfl wX2_61 rfl rfl rfl rfl (h2 := (hC G ((upd m.1 10 v), m.2) k i cf ca, h2)) rfl ?_
    refine R_goto 136 dX2_change_84 (by decide) ?_
    refine R_iload_n 137 dX2_change_136 rfl rfl ?_
    refine R_ireturn dX2_change_137 rfl rfl ?_
    have e : zz = ((sX2_told m w), ((upd m.1 10 v), m.2)) := by rw [← hs]; unfold sX2_change; rw [if_neg c1, if_neg c2, if_neg c3, if_pos c4]
    rw [pr1 e, pr2 e]; exact ⟨rfl, rfl⟩
  by_cases c5 : w = 4
  ·
    refine R_tableAt 87 (off := 80) 4 c5 dX2_change_7 (by decide) (by decide) ?_
    refine R_aload_n 88 dX2_change_87 rfl rfl ?_
    refine R_get 91 dX2_change_88 rfl fX2_25 rfl (v := .ref 3) rfl ?_
    refine R_iload_n 92 dX2_change_91 rfl rfl ?_
    refine R_put 95 dX2_change_92 rfl wX2_64 rfl rfl rfl rfl (h2 := (hC G ((upd m.1 12 v), m.2) k i cf ca, h2)) rfl ?_
    refine R_goto 136 dX2_change_95 (by decide) ?_
    refine R_iload_n 137 dX2_change_136 rfl rfl ?_
    refine R_ireturn dX2_change_137 rfl rfl ?_
    have e : zz = ((sX2_told m w), ((upd m.1 12 v), m.2)) := by rw [← hs]; unfold sX2_change; rw [if_neg c1, if_neg c2, if_neg c3, if_neg c4, if_pos c5]
    rw [pr1 e, pr2 e]; exact ⟨rfl, rfl⟩
  by_cases c6 : w = 5
  ·
    refine R_tableAt 98 (off := 91) 5 c6 dX2_change_7 (by decide) (by decide) ?_
    refine R_aload_n 99 dX2_change_98 rfl rfl ?_
    refine R_get 102 dX2_change_99 rfl fX2_25 rfl (v := .ref 3) rfl ?_
    refine R_iload_n 103 dX2_change_102 rfl rfl ?_
    refine R_put 106 dX2_change_103 rfl wX2_67 rfl rfl rfl rfl (h2 := (hC G ((upd m.1 13 v), m.2) k i cf ca, h2)) rfl ?_
    refine R_goto 136 dX2_change_106 (by decide) ?_
    refine R_iload_n 137 dX2_change_136 rfl rfl ?_
    refine R_ireturn dX2_change_137 rfl rfl ?_
    have e : zz = ((sX2_told m w), ((upd m.1 13 v), m.2)) := by rw [← hs]; unfold sX2_change; rw [if_neg c1, if_neg c2, if_neg c3, if_neg c4, if_neg c5, if_pos c6]
    rw [pr1 e, pr2 e]; exact ⟨rfl, rfl⟩
  by_cases c7 : w = 6
  ·
    refine R_tableAt 109 (off := 102) 6 c7 dX2_change_7 (by decide) (by decide) ?_
    refine R_aload_n 110 dX2_change_109 rfl rfl ?_
    refine R_get 113 dX2_change_110 rfl fX2_18 rfl (v := .ref 2) rfl ?_
    refine R_iload_n 114 dX2_change_113 rfl rfl ?_
    refine R_put 117 dX2_change_114 rfl wX2_70 rfl rfl rfl rfl (h2 := (hC G ((upd m.1 9 v), m.2) k i cf ca, h2)) rfl ?_
    refine R_goto 136 dX2_change_117 (by decide) ?_
    refine R_iload_n 137 dX2_change_136 rfl rfl ?_
    refine R_ireturn dX2_change_137 rfl rfl ?_
    have e : zz = ((sX2_told m w), ((upd m.1 9 v), m.2)) := by rw [← hs]; unfold sX2_change; rw [if_neg c1, if_neg c2, if_neg c3, if_neg c4, if_neg c5, if_neg c6, if_pos c7]
    rw [pr1 e, pr2 e]; exact ⟨rfl, rfl⟩
  by_cases c8 : w = 7
  ·
    refine R_tableAt 120 (off := 113) 7 c8 dX2_change_7 (by decide) (by decide) ?_
    refine R_aload_n 121 dX2_change_120 rfl rfl ?_
    refine R_get 124 dX2_change_121 rfl fX2_25 rfl (v := .ref 3) rfl ?_
    refine R_iload_n 125 dX2_change_124 rfl rfl ?_
    refine R_put 128 dX2_change_125 rfl wX2_73 rfl rfl rfl rfl (h2 := (hC G ((upd m.1 11 v), m.2) k i cf ca, h2)) rfl ?_
    refine R_goto 136 dX2_change_128 (by decide) ?_
    refine R_iload_n 137 dX2_change_136 rfl rfl ?_
    refine R_ireturn dX2_change_137 rfl rfl ?_
    have e : zz = ((sX2_told m w), ((upd m.1 11 v), m.2)) := by rw [← hs]; unfold sX2_change; rw [if_neg c1, if_neg c2, if_neg c3, if_neg c4, if_neg c5, if_neg c6, if_neg c7, if_pos c8]
    rw [pr1 e, pr2 e]; exact ⟨rfl, rfl⟩
  refine R_tableD 131 [0, 1, 2, 3, 4, 5, 6, 7] dX2_change_7 (List.forall_mem_cons.mpr ⟨lv_neT c1 (show (0 : Int32).toInt = 0 by decide), List.forall_mem_cons.mpr ⟨lv_neT c2 (show (1 : Int32).toInt = 1 by decide), List.forall_mem_cons.mpr ⟨lv_neT c3 (show (2 : Int32).toInt = 2 by decide), List.forall_mem_cons.mpr ⟨lv_neT c4 (show (3 : Int32).toInt = 3 by decide), List.forall_mem_cons.mpr ⟨lv_neT c5 (show (4 : Int32).toInt = 4 by decide), List.forall_mem_cons.mpr ⟨lv_neT c6 (show (5 : Int32).toInt = 5 by decide), List.forall_mem_cons.mpr ⟨lv_neT c7 (show (6 : Int32).toInt = 6 by decide), List.forall_mem_cons.mpr ⟨lv_neT c8 (show (7 : Int32).toInt = 7 by decide), fun _ h => absurd h List.not_mem_nil⟩⟩⟩⟩⟩⟩⟩⟩) (by decide) (by decide) ?_
  refine R_aload_n 132 dX2_change_131 rfl rfl ?_
  refine R_iload_n 133 dX2_change_132 rfl rfl ?_
  refine R_put 136 dX2_change_133 rfl wX2_55 rfl rfl rfl rfl (h2 := (hC G ((upd m.1 7 v), m.2) k i cf ca, h2)) rfl ?_
  refine R_iload_n 137 dX2_change_136 rfl rfl ?_
  refine R_ireturn dX2_change_137 rfl rfl ?_
  have e : zz = ((sX2_told m w), ((upd m.1 7 v), m.2)) := by rw [← hs]; unfold sX2_change; rw [if_neg c1, if_neg c2, if_neg c3, if_neg c4, if_neg c5, if_neg c6, if_neg c7, if_neg c8]
  rw [pr1 e, pr2 e]; exact ⟨rfl, rfl⟩
def sX2_driftOnce (m : zP) : Int32 × zP := ((sX1_amountIn (m.1 9) (m.1 10) (m.1 8)), ((upd m.1 0 (sX6_held ((m.1 0) + (sX1_amountIn (m.1 9) (m.1 10) (m.1 8))) (-99) 99)), m.2))
set_option maxRecDepth 20000 in
theorem eX2_driftOnce_1 {G : zG} {h2 : List va_E} {m k i : zP} {cf : Nat → Int32} {ca : Nat → Nat → Int32} : EvF G mX2_driftOnce [.ref 1] (hC G m k i cf ca, h2) (some (.int ((sX2_driftOnce m).1))) (hC G ((sX2_driftOnce m).2) k i cf ca, h2) := by
  generalize hs : (sX2_driftOnce m) = zz
  refine EvF.of pnX2 rfl ?_
  refine R_aload_n 1 dX2_driftOnce_0 rfl rfl ?_
  refine R_get 4 dX2_driftOnce_1 rfl fX2_18 rfl (v := .ref 2) rfl ?_
  refine R_aload_n 5 dX2_driftOnce_4 rfl rfl ?_
  refine R_get 8 dX2_driftOnce_5 rfl fX2_58 rfl (v := .int (m.1 8)) rfl ?_
  refine R_callVi 11 (eX1_amountIn (dk := m.1 9) (dr := m.1 10) rfl) dX2_driftOnce_8 rfl kX1_amountIn lX2_96 rfl rfl rfl rfl rfl rfl rfl ?_
  refine R_istore_n 12 dX2_driftOnce_11 rfl rfl (by decide) (loc' := [(0, .ref 1), (1, .int (sX1_amountIn (m.1 9) (m.1 10) (m.1 8)))]) rfl ?_
  refine R_aload_n 13 dX2_driftOnce_12 rfl rfl ?_
  refine R_aload_n 14 dX2_driftOnce_13 rfl rfl ?_
  refine R_get 17 dX2_driftOnce_14 rfl fX2_36 rfl (v := .int (m.1 0)) rfl ?_
  refine R_iload_n 18 dX2_driftOnce_17 rfl rfl ?_
  refine R_iadd 19 dX2_driftOnce_18 rfl ?_
  refine R_bipush 21 dX2_driftOnce_19 rfl (v := (-99)) (by decide) ?_
  refine R_bipush 23 dX2_driftOnce_21 rfl (v := 99) (by decide) ?_
  refine R_callSNi 26 eX6_held dX2_driftOnce_23 rfl kX6_held nm_X2_99 rfl rfl rfl rfl rfl ?_
  refine R_nm (fun z1_ hz1_ => ?_)
  refine R_put 29 dX2_driftOnce_26 rfl wX2_36 rfl rfl rfl rfl (h2 := (hC G ((upd m.1 0 z1_), m.2) k i cf ca, h2)) rfl ?_
  refine R_iload_n 30 dX2_driftOnce_29 rfl rfl ?_
  refine R_ireturn dX2_driftOnce_30 rfl rfl ?_
  subst hz1_
  have e : zz = ((sX1_amountIn (m.1 9) (m.1 10) (m.1 8)), ((upd m.1 0 (sX6_held ((m.1 0) + (sX1_amountIn (m.1 9) (m.1 10) (m.1 8))) (-99) 99)), m.2)) := by rw [← hs]; unfold sX2_driftOnce; rfl
  rw [pr1 e, pr2 e]; exact ⟨rfl, rfl⟩
def sX2_letOneGetUp (m : zP) (cf : Nat → Int32) (ca : Nat → Nat → Int32) (dr : Int32) : zP × (Nat → Int32) × (Nat → Nat → Int32) := if (sX2_has (m.1 0) (m.1 1) (m.1 2) (m.1 6) (m.1 7) (m.1 8) (m.1 7)) = true then (if (m.1 7) = 0 then (if (sX4_rouses (m.1 11) (m.1 12) (m.1 13) (sX2_off (m.1 0) (m.1 1) (m.1 2) (m.1 6) (m.1 7) (m.1 8) (m.2 0 3)) (m.1 8)) = true then (((upd (upd m.1 0 (sX3_turned (m.2 0 0) (m.2 0 1) (m.2 0 2) (m.2 0 3) (m.2 0 4) (m.2 0 5) (m.1 0) (sX4_aim (m.1 11) (m.1 12) (m.1 13) (if (m.2 0 3) = 0 then m.1 1 else m.1 2) (((m.1 1) + (m.1 2)) / 2) dr))) 7 (if (m.1 6) ≤ ((m.1 7) + 1) then 0 else (m.1 7) + 1)), m.2), (sX0_noteUp cf ca (m.1 7) (m.2 0 5)).1, (sX0_noteUp cf ca (m.1 7) (m.2 0 5)).2) else (m, cf, ca)) else if (m.1 7) = 1 then (if (sX4_rouses (m.1 11) (m.1 12) (m.1 13) (sX2_off (m.1 0) (m.1 1) (m.1 2) (m.1 6) (m.1 7) (m.1 8) (m.2 1 3)) (m.1 8)) = true then (((upd (upd m.1 0 (sX3_turned (m.2 1 0) (m.2 1 1) (m.2 1 2) (m.2 1 3) (m.2 1 4) (m.2 1 5) (m.1 0) (sX4_aim (m.1 11) (m.1 12) (m.1 13) (if (m.2 1 3) = 0 then m.1 1 else m.1 2) (((m.1 1) + (m.1 2)) / 2) dr))) 7 (if (m.1 6) ≤ ((m.1 7) + 1) then 0 else (m.1 7) + 1)), m.2), (sX0_noteUp cf ca (m.1 7) (m.2 1 5)).1, (sX0_noteUp cf ca (m.1 7) (m.2 1 5)).2) else (m, cf, ca)) else if (m.1 7) = 2 then (if (sX4_rouses (m.1 11) (m.1 12) (m.1 13) (sX2_off (m.1 0) (m.1 1) (m.1 2) (m.1 6) (m.1 7) (m.1 8) (m.2 2 3)) (m.1 8)) = true then (((upd (upd m.1 0 (sX3_turned (m.2 2 0) (m.2 2 1) (m.2 2 2) (m.2 2 3) (m.2 2 4) (m.2 2 5) (m.1 0) (sX4_aim (m.1 11) (m.1 12) (m.1 13) (if (m.2 2 3) = 0 then m.1 1 else m.1 2) (((m.1 1) + (m.1 2)) / 2) dr))) 7 (if (m.1 6) ≤ ((m.1 7) + 1) then 0 else (m.1 7) + 1)), m.2), (sX0_noteUp cf ca (m.1 7) (m.2 2 5)).1, (sX0_noteUp cf ca (m.1 7) (m.2 2 5)).2) else (m, cf, ca)) else if (m.1 7) = 3 then (if (sX4_rouses (m.1 11) (m.1 12) (m.1 13) (sX2_off (m.1 0) (m.1 1) (m.1 2) (m.1 6) (m.1 7) (m.1 8) (m.2 3 3)) (m.1 8)) = true then (((upd (upd m.1 0 (sX3_turned (m.2 3 0) (m.2 3 1) (m.2 3 2) (m.2 3 3) (m.2 3 4) (m.2 3 5) (m.1 0) (sX4_aim (m.1 11) (m.1 12) (m.1 13) (if (m.2 3 3) = 0 then m.1 1 else m.1 2) (((m.1 1) + (m.1 2)) / 2) dr))) 7 (if (m.1 6) ≤ ((m.1 7) + 1) then 0 else (m.1 7) + 1)), m.2), (sX0_noteUp cf ca (m.1 7) (m.2 3 5)).1, (sX0_noteUp cf ca (m.1 7) (m.2 3 5)).2) else (m, cf, ca)) else if (sX4_rouses (m.1 11) (m.1 12) (m.1 13) (sX2_off (m.1 0) (m.1 1) (m.1 2) (m.1 6) (m.1 7) (m.1 8) (m.2 4 3)) (m.1 8)) = true then (((upd (upd m.1 0 (sX3_turned (m.2 4 0) (m.2 4 1) (m.2 4 2) (m.2 4 3) (m.2 4 4) (m.2 4 5) (m.1 0) (sX4_aim (m.1 11) (m.1 12) (m.1 13) (if (m.2 4 3) = 0 then m.1 1 else m.1 2) (((m.1 1) + (m.1 2)) / 2) dr))) 7 (if (m.1 6) ≤ ((m.1 7) + 1) then 0 else (m.1 7) + 1)), m.2), (sX0_noteUp cf ca (m.1 7) (m.2 4 5)).1, (sX0_noteUp cf ca (m.1 7) (m.2 4 5)).2) else (m, cf, ca)) else (m, cf, ca)
set_option maxRecDepth 20000 in
theorem eX2_letOneGetUp_1 {G : zG} {h2 : List va_E} {m k i : zP} {cf : Nat → Int32} {ca : Nat → Nat → Int32} {dr : Int32} : EvF G mX2_letOneGetUp [.ref 1, .int dr, .ref 28] (hC G m k i cf ca, h2) (none) (hC G ((sX2_letOneGetUp m cf ca dr).1) k i ((sX2_letOneGetUp m cf ca dr).2.1) ((sX2_letOneGetUp m cf ca dr).2.2), h2) := by
  generalize hs : (sX2_letOneGetUp m cf ca dr) = zz
  refine EvF.of pnX2 rfl ?_
  refine R_aload_n 1 dX2_letOneGetUp_0 rfl rfl ?_
  refine R_aload_n 2 dX2_letOneGetUp_1 rfl rfl ?_
  refine R_get 5 dX2_letOneGetUp_2 rfl fX2_55 rfl (v := .int (m.1 7)) rfl ?_
  refine R_callVi 8 (eX2_has (av := m.1 0) (p0 := m.1 1) (p1 := m.1 2) (sz := m.1 6) (tu := m.1 7) (mi := m.1 8) rfl) dX2_letOneGetUp_5 rfl kX2_has lX2_106 rfl rfl rfl rfl rfl rfl rfl ?_
  refine R_ifb_ne 11 12 dX2_letOneGetUp_8 rfl (by decide) (fun c1 => ?_) (fun c1 => ?_)
  ·
    refine R_aload_n 13 dX2_letOneGetUp_12 rfl rfl ?_
    refine R_get 16 dX2_letOneGetUp_13 rfl fX2_31 rfl (v := .ref 4) rfl ?_
    refine R_aload_n 17 dX2_letOneGetUp_16 rfl rfl ?_
    refine R_get 20 dX2_letOneGetUp_17 rfl fX2_55 rfl (v := .int (m.1 7)) rfl ?_
    by_cases c2 : (m.1 7) = 0
    ·
      refine R_aaldAt 21 0 c2 dX2_letOneGetUp_20 rfl rfl rfl (vin_d (by decide)) (y := 5) rfl ?_
      refine R_astore_n 22 dX2_letOneGetUp_21 rfl rfl (by decide) (loc' := [(0, .ref 1), (1, .int dr), (2, .ref 28), (3, .ref 5)]) rfl ?_
      refine R_aload_n 23 dX2_letOneGetUp_22 rfl rfl ?_
      refine R_get 26 dX2_letOneGetUp_23 rfl fX2_25 rfl (v := .ref 3) rfl ?_
      refine R_aload_n 27 dX2_letOneGetUp_26 rfl rfl ?_
      refine R_aload_n 28 dX2_letOneGetUp_27 rfl rfl ?_
      refine R_get 31 dX2_letOneGetUp_28 rfl fX2_110 rfl (v := .int (m.2 0 3)) rfl ?_
      refine R_callVi 34 (eX2_off (av := m.1 0) (p0 := m.1 1) (p1 := m.1 2) (sz := m.1 6) (tu := m.1 7) (mi := m.1 8) rfl) dX2_letOneGetUp_31 rfl kX2_off lX2_103 rfl rfl rfl rfl rfl rfl rfl ?_
      refine R_aload_n 35 dX2_letOneGetUp_34 rfl rfl ?_
      refine R_get 38 dX2_letOneGetUp_35 rfl fX2_58 rfl (v := .int (m.1 8)) rfl ?_
      refine R_callVi 41 (eX4_rouses (rk := m.1 11) (rl := m.1 12) (rp := m.1 13) rfl) dX2_letOneGetUp_38 rfl kX4_rouses lX2_113 rfl rfl rfl rfl rfl rfl rfl ?_
      refine R_ifb_ne 44 45 dX2_letOneGetUp_41 rfl (by decide) (fun c3 => ?_) (fun c3 => ?_)
      ·
        refine R_aload_n 46 dX2_letOneGetUp_45 rfl rfl ?_
        refine R_get 49 dX2_letOneGetUp_46 rfl fX2_110 rfl (v := .int (m.2 0 3)) rfl ?_
        refine R_cut 63 [(0, .ref 1), (1, .int dr), (2, .ref 28), (3, .ref 5)] (.int (if (m.2 0 3) = 0 then m.1 1 else m.1 2) :: []) (hC G m k i cf ca, h2) ?_ (fun kj => ?_)
        ·
          refine R_istore 65 dX2_letOneGetUp_63 rfl rfl (by decide) (loc' := [(0, .ref 1), (1, .int dr), (2, .ref 28), (3, .ref 5), (4, .int (if (m.2 0 3) = 0 then m.1 1 else m.1 2))]) rfl ?_
          refine R_aload_n 66 dX2_letOneGetUp_65 rfl rfl ?_
          refine R_aload_n 67 dX2_letOneGetUp_66 rfl rfl ?_
          refine R_aload_n 68 dX2_letOneGetUp_67 rfl rfl ?_
          refine R_get 71 dX2_letOneGetUp_68 rfl fX2_36 rfl (v := .int (m.1 0)) rfl ?_
          refine R_aload_n 72 dX2_letOneGetUp_71 rfl rfl ?_
          refine R_get 75 dX2_letOneGetUp_72 rfl fX2_25 rfl (v := .ref 3) rfl ?_
          refine R_iload 77 dX2_letOneGetUp_75 rfl rfl ?_
          refine R_aload_n 78 dX2_letOneGetUp_77 rfl rfl ?_
          refine R_get 81 dX2_letOneGetUp_78 rfl fX2_39 rfl (v := .int (m.1 1)) rfl ?_
          refine R_aload_n 82 dX2_letOneGetUp_81 rfl rfl ?_
          refine R_get 85 dX2_letOneGetUp_82 rfl fX2_9 rfl (v := .int (m.1 2)) rfl ?_
          refine R_iadd 86 dX2_letOneGetUp_85 rfl ?_
          refine R_iconst 87 dX2_letOneGetUp_86 rfl (v := 2) (by decide) ?_
          refine R_idiv 88 dX2_letOneGetUp_87 rfl (by decide) ?_
          refine R_iload_n 89 dX2_letOneGetUp_88 rfl rfl ?_
          refine R_callVi 92 (eX4_aim (rk := m.1 11) (rl := m.1 12) (rp := m.1 13) rfl) dX2_letOneGetUp_89 rfl kX4_aim lX2_117 rfl rfl rfl rfl rfl rfl rfl ?_
          refine R_callVi 95 (eX3_turned (pk := m.2 0 0) (pm := m.2 0 1) (pf := m.2 0 2) (ps := m.2 0 3) (ph := m.2 0 4) (pp := m.2 0 5) rfl) dX2_letOneGetUp_92 rfl kX3_turned lX2_120 rfl rfl rfl rfl rfl rfl rfl ?_
          refine R_nm (fun z1_ hz1_ => ?_)
          refine R_put 98 dX2_letOneGetUp_95 rfl wX2_36 rfl rfl rfl rfl (h2 := (hC G ((upd m.1 0 z1_), m.2) k i cf ca, h2)) rfl ?_
          refine R_aload_n 99 dX2_letOneGetUp_98 rfl rfl ?_
          refine R_aload_n 100 dX2_letOneGetUp_99 rfl rfl ?_
          refine R_get 103 dX2_letOneGetUp_100 rfl fX2_55 rfl (v := .int (m.1 7)) rfl ?_
          refine R_aload_n 104 dX2_letOneGetUp_103 rfl rfl ?_
          refine R_get 107 dX2_letOneGetUp_104 rfl fX2_124 rfl (v := .int (m.2 0 5)) rfl ?_
          refine R_callVv 110 eX0_noteUp_28 dX2_letOneGetUp_107 rfl kX0_noteUp lX2_127 rfl rfl rfl rfl rfl rfl rfl ?_
          refine R_aload_n 111 dX2_letOneGetUp_110 rfl rfl ?_
          refine R_aload_n 112 dX2_letOneGetUp_111 rfl rfl ?_
          refine R_get 115 dX2_letOneGetUp_112 rfl fX2_55 rfl (v := .int (m.1 7)) rfl ?_
          refine R_iconst 116 dX2_letOneGetUp_115 rfl (v := 1) (by decide) ?_
          refine R_iadd 117 dX2_letOneGetUp_116 rfl ?_
          refine R_aload_n 118 dX2_letOneGetUp_117 rfl rfl ?_
          refine R_get 121 dX2_letOneGetUp_118 rfl fX2_49 rfl (v := .int (m.1 6)) rfl ?_
          refine R_cut 134 [(0, .ref 1), (1, .int dr), (2, .ref 28), (3, .ref 5), (4, .int (if (m.2 0 3) = 0 then m.1 1 else m.1 2))] (.int (if (m.1 6) ≤ ((m.1 7) + 1) then 0 else (m.1 7) + 1) :: [.ref 1]) (hC G ((upd m.1 0 z1_), m.2) k i ((sX0_noteUp cf ca (m.1 7) (m.2 0 5)).1) ((sX0_noteUp cf ca (m.1 7) (m.2 0 5)).2), h2) ?_ (fun kj => ?_)
          ·
            refine R_nm (fun z2_ hz2_ => ?_)
            refine R_put 137 dX2_letOneGetUp_134 rfl wX2_55 rfl rfl rfl rfl (h2 := (hC G ((upd (upd m.1 0 z1_) 7 z2_), m.2) k i ((sX0_noteUp cf ca (m.1 7) (m.2 0 5)).1) ((sX0_noteUp cf ca (m.1 7) (m.2 0 5)).2), h2)) rfl ?_
            refine R_return dX2_letOneGetUp_137 rfl ?_
            subst hz1_ hz2_
            have e : zz = (((upd (upd m.1 0 (sX3_turned (m.2 0 0) (m.2 0 1) (m.2 0 2) (m.2 0 3) (m.2 0 4) (m.2 0 5) (m.1 0) (sX4_aim (m.1 11) (m.1 12) (m.1 13) (if (m.2 0 3) = 0 then m.1 1 else m.1 2) (((m.1 1) + (m.1 2)) / 2) dr))) 7 (if (m.1 6) ≤ ((m.1 7) + 1) then 0 else (m.1 7) + 1)), m.2), (sX0_noteUp cf ca (m.1 7) (m.2 0 5)).1, (sX0_noteUp cf ca (m.1 7) (m.2 0 5)).2) := by rw [← hs]; unfold sX2_letOneGetUp; rw [if_pos c1, if_pos c2, if_pos c3]
            rw [pr1 e, pr1 (pr2 e), pr2 (pr2 e)]; exact ⟨rfl, rfl⟩
          refine R_icmp_ge 124 133 dX2_letOneGetUp_121 rfl (by decide) (fun c5 => ?_) (fun c5 => ?_)
          · refine R_iconst 134 dX2_letOneGetUp_133 rfl (v := 0) (by decide) ?_
            rw [if_pos c5] at kj; exact kj
          · refine R_aload_n 125 dX2_letOneGetUp_124 rfl rfl ?_
            refine R_get 128 dX2_letOneGetUp_125 rfl fX2_55 rfl (v := .int (m.1 7)) rfl ?_
            refine R_iconst 129 dX2_letOneGetUp_128 rfl (v := 1) (by decide) ?_
            refine R_iadd 130 dX2_letOneGetUp_129 rfl ?_
            refine R_goto 134 dX2_letOneGetUp_130 (by decide) ?_
            rw [if_neg c5] at kj; exact kj
        refine R_if_ne 52 59 dX2_letOneGetUp_49 rfl (by decide) (fun c4 => ?_) (fun c4 => ?_)
        · refine R_aload_n 60 dX2_letOneGetUp_59 rfl rfl ?_
          refine R_get 63 dX2_letOneGetUp_60 rfl fX2_9 rfl (v := .int (m.1 2)) rfl ?_
          rw [if_neg c4] at kj; exact kj
        · refine R_aload_n 53 dX2_letOneGetUp_52 rfl rfl ?_
          refine R_get 56 dX2_letOneGetUp_53 rfl fX2_39 rfl (v := .int (m.1 1)) rfl ?_
          refine R_goto 63 dX2_letOneGetUp_56 (by decide) ?_
          rw [if_pos c4] at kj; exact kj
      ·
        refine R_return dX2_letOneGetUp_44 rfl ?_
        have e : zz = (m, cf, ca) := by rw [← hs]; unfold sX2_letOneGetUp; rw [if_pos c1, if_pos c2, if_neg c3]
        rw [pr1 e, pr1 (pr2 e), pr2 (pr2 e)]; exact ⟨rfl, rfl⟩
    by_cases c6 : (m.1 7) = 1
    ·
      refine R_aaldAt 21 1 c6 dX2_letOneGetUp_20 rfl rfl rfl (vin_d (by decide)) (y := 6) rfl ?_
      refine R_astore_n 22 dX2_letOneGetUp_21 rfl rfl (by decide) (loc' := [(0, .ref 1), (1, .int dr), (2, .ref 28), (3, .ref 6)]) rfl ?_
      refine R_aload_n 23 dX2_letOneGetUp_22 rfl rfl ?_
      refine R_get 26 dX2_letOneGetUp_23 rfl fX2_25 rfl (v := .ref 3) rfl ?_
      refine R_aload_n 27 dX2_letOneGetUp_26 rfl rfl ?_
      refine R_aload_n 28 dX2_letOneGetUp_27 rfl rfl ?_
      refine R_get 31 dX2_letOneGetUp_28 rfl fX2_110 rfl (v := .int (m.2 1 3)) rfl ?_
      refine R_callVi 34 (eX2_off (av := m.1 0) (p0 := m.1 1) (p1 := m.1 2) (sz := m.1 6) (tu := m.1 7) (mi := m.1 8) rfl) dX2_letOneGetUp_31 rfl kX2_off lX2_103 rfl rfl rfl rfl rfl rfl rfl ?_
      refine R_aload_n 35 dX2_letOneGetUp_34 rfl rfl ?_
      refine R_get 38 dX2_letOneGetUp_35 rfl fX2_58 rfl (v := .int (m.1 8)) rfl ?_
      refine R_callVi 41 (eX4_rouses (rk := m.1 11) (rl := m.1 12) (rp := m.1 13) rfl) dX2_letOneGetUp_38 rfl kX4_rouses lX2_113 rfl rfl rfl rfl rfl rfl rfl ?_
      refine R_ifb_ne 44 45 dX2_letOneGetUp_41 rfl (by decide) (fun c7 => ?_) (fun c7 => ?_)
      ·
        refine R_aload_n 46 dX2_letOneGetUp_45 rfl rfl ?_
        refine R_get 49 dX2_letOneGetUp_46 rfl fX2_110 rfl (v := .int (m.2 1 3)) rfl ?_
        refine R_cut 63 [(0, .ref 1), (1, .int dr), (2, .ref 28), (3, .ref 6)] (.int (if (m.2 1 3) = 0 then m.1 1 else m.1 2) :: []) (hC G m k i cf ca, h2) ?_ (fun kj => ?_)
        ·
          refine R_istore 65 dX2_letOneGetUp_63 rfl rfl (by decide) (loc' := [(0, .ref 1), (1, .int dr), (2, .ref 28), (3, .ref 6), (4, .int (if (m.2 1 3) = 0 then m.1 1 else m.1 2))]) rfl ?_
          refine R_aload_n 66 dX2_letOneGetUp_65 rfl rfl ?_
          refine R_aload_n 67 dX2_letOneGetUp_66 rfl rfl ?_
          refine R_aload_n 68 dX2_letOneGetUp_67 rfl rfl ?_
          refine R_get 71 dX2_letOneGetUp_68 rfl fX2_36 rfl (v := .int (m.1 0)) rfl ?_
          refine R_aload_n 72 dX2_letOneGetUp_71 rfl rfl ?_
          refine R_get 75 dX2_letOneGetUp_72 rfl fX2_25 rfl (v := .ref 3) rfl ?_
          refine R_iload 77 dX2_letOneGetUp_75 rfl rfl ?_
          refine R_aload_n 78 dX2_letOneGetUp_77 rfl rfl ?_
          refine R_get 81 dX2_letOneGetUp_78 rfl fX2_39 rfl (v := .int (m.1 1)) rfl ?_
          refine R_aload_n 82 dX2_letOneGetUp_81 rfl rfl ?_
          refine R_get 85 dX2_letOneGetUp_82 rfl fX2_9 rfl (v := .int (m.1 2)) rfl ?_
          refine R_iadd 86 dX2_letOneGetUp_85 rfl ?_
          refine R_iconst 87 dX2_letOneGetUp_86 rfl (v := 2) (by decide) ?_
          refine R_idiv 88 dX2_letOneGetUp_87 rfl (by decide) ?_
          refine R_iload_n 89 dX2_letOneGetUp_88 rfl rfl ?_
          refine R_callVi 92 (eX4_aim (rk := m.1 11) (rl := m.1 12) (rp := m.1 13) rfl) dX2_letOneGetUp_89 rfl kX4_aim lX2_117 rfl rfl rfl rfl rfl rfl rfl ?_
          refine R_callVi 95 (eX3_turned (pk := m.2 1 0) (pm := m.2 1 1) (pf := m.2 1 2) (ps := m.2 1 3) (ph := m.2 1 4) (pp := m.2 1 5) rfl) dX2_letOneGetUp_92 rfl kX3_turned lX2_120 rfl rfl rfl rfl rfl rfl rfl ?_
          refine R_nm (fun z3_ hz3_ => ?_)
          refine R_put 98 dX2_letOneGetUp_95 rfl wX2_36 rfl rfl rfl rfl (h2 := (hC G ((upd m.1 0 z3_), m.2) k i cf ca, h2)) rfl ?_
          refine R_aload_n 99 dX2_letOneGetUp_98 rfl rfl ?_
          refine R_aload_n 100 dX2_letOneGetUp_99 rfl rfl ?_
          refine R_get 103 dX2_letOneGetUp_100 rfl fX2_55 rfl (v := .int (m.1 7)) rfl ?_
          refine R_aload_n 104 dX2_letOneGetUp_103 rfl rfl ?_
          refine R_get 107 dX2_letOneGetUp_104 rfl fX2_124 rfl (v := .int (m.2 1 5)) rfl ?_
          refine R_callVv 110 eX0_noteUp_28 dX2_letOneGetUp_107 rfl kX0_noteUp lX2_127 rfl rfl rfl rfl rfl rfl rfl ?_
          refine R_aload_n 111 dX2_letOneGetUp_110 rfl rfl ?_
          refine R_aload_n 112 dX2_letOneGetUp_111 rfl rfl ?_
          refine R_get 115 dX2_letOneGetUp_112 rfl fX2_55 rfl (v := .int (m.1 7)) rfl ?_
          refine R_iconst 116 dX2_letOneGetUp_115 rfl (v := 1) (by decide) ?_
          refine R_iadd 117 dX2_letOneGetUp_116 rfl ?_
          refine R_aload_n 118 dX2_letOneGetUp_117 rfl rfl ?_
          refine R_get 121 dX2_letOneGetUp_118 rfl fX2_49 rfl (v := .int (m.1 6)) rfl ?_
          refine R_cut 134 [(0, .ref 1), (1, .int dr), (2, .ref 28), (3, .ref 6), (4, .int (if (m.2 1 3) = 0 then m.1 1 else m.1 2))] (.int (if (m.1 6) ≤ ((m.1 7) + 1) then 0 else (m.1 7) + 1) :: [.ref 1]) (hC G ((upd m.1 0 z3_), m.2) k i ((sX0_noteUp cf ca (m.1 7) (m.2 1 5)).1) ((sX0_noteUp cf ca (m.1 7) (m.2 1 5)).2), h2) ?_ (fun kj => ?_)
          ·
            refine R_nm (fun z4_ hz4_ => ?_)
            refine R_put 137 dX2_letOneGetUp_134 rfl wX2_55 rfl rfl rfl rfl (h2 := (hC G ((upd (upd m.1 0 z3_) 7 z4_), m.2) k i ((sX0_noteUp cf ca (m.1 7) (m.2 1 5)).1) ((sX0_noteUp cf ca (m.1 7) (m.2 1 5)).2), h2)) rfl ?_
            refine R_return dX2_letOneGetUp_137 rfl ?_
            subst hz3_ hz4_
            have e : zz = (((upd (upd m.1 0 (sX3_turned (m.2 1 0) (m.2 1 1) (m.2 1 2) (m.2 1 3) (m.2 1 4) (m.2 1 5) (m.1 0) (sX4_aim (m.1 11) (m.1 12) (m.1 13) (if (m.2 1 3) = 0 then m.1 1 else m.1 2) (((m.1 1) + (m.1 2)) / 2) dr))) 7 (if (m.1 6) ≤ ((m.1 7) + 1) then 0 else (m.1 7) + 1)), m.2), (sX0_noteUp cf ca (m.1 7) (m.2 1 5)).1, (sX0_noteUp cf ca (m.1 7) (m.2 1 5)).2) := by rw [← hs]; unfold sX2_letOneGetUp; rw [if_pos c1, if_neg c2, if_pos c6, if_pos c7]
            rw [pr1 e, pr1 (pr2 e), pr2 (pr2 e)]; exact ⟨rfl, rfl⟩
          refine R_icmp_ge 124 133 dX2_letOneGetUp_121 rfl (by decide) (fun c9 => ?_) (fun c9 => ?_)
          · refine R_iconst 134 dX2_letOneGetUp_133 rfl (v := 0) (by decide) ?_
            rw [if_pos c9] at kj; exact kj
          · refine R_aload_n 125 dX2_letOneGetUp_124 rfl rfl ?_
            refine R_get 128 dX2_letOneGetUp_125 rfl fX2_55 rfl (v := .int (m.1 7)) rfl ?_
            refine R_iconst 129 dX2_letOneGetUp_128 rfl (v := 1) (by decide) ?_
            refine R_iadd 130 dX2_letOneGetUp_129 rfl ?_
            refine R_goto 134 dX2_letOneGetUp_130 (by decide) ?_
            rw [if_neg c9] at kj; exact kj
        refine R_if_ne 52 59 dX2_letOneGetUp_49 rfl (by decide) (fun c8 => ?_) (fun c8 => ?_)
        · refine R_aload_n 60 dX2_letOneGetUp_59 rfl rfl ?_
          refine R_get 63 dX2_letOneGetUp_60 rfl fX2_9 rfl (v := .int (m.1 2)) rfl ?_
          rw [if_neg c8] at kj; exact kj
        · refine R_aload_n 53 dX2_letOneGetUp_52 rfl rfl ?_
          refine R_get 56 dX2_letOneGetUp_53 rfl fX2_39 rfl (v := .int (m.1 1)) rfl ?_
          refine R_goto 63 dX2_letOneGetUp_56 (by decide) ?_
          rw [if_pos c8] at kj; exact kj
      ·
        refine R_return dX2_letOneGetUp_44 rfl ?_
        have e : zz = (m, cf, ca) := by rw [← hs]; unfold sX2_letOneGetUp; rw [if_pos c1, if_neg c2, if_pos c6, if_neg c7]
        rw [pr1 e, pr1 (pr2 e), pr2 (pr2 e)]; exact ⟨rfl, rfl⟩
    by_cases c10 : (m.1 7) = 2
    ·
      refine R_aaldAt 21 2 c10 dX2_letOneGetUp_20 rfl rfl rfl (vin_d (by decide)) (y := 7) rfl ?_
      refine R_astore_n 22 dX2_letOneGetUp_21 rfl rfl (by decide) (loc' := [(0, .ref 1), (1, .int dr), (2, .ref 28), (3, .ref 7)]) rfl ?_
      refine R_aload_n 23 dX2_letOneGetUp_22 rfl rfl ?_
      refine R_get 26 dX2_letOneGetUp_23 rfl fX2_25 rfl (v := .ref 3) rfl ?_
      refine R_aload_n 27 dX2_letOneGetUp_26 rfl rfl ?_
      refine R_aload_n 28 dX2_letOneGetUp_27 rfl rfl ?_
      refine R_get 31 dX2_letOneGetUp_28 rfl fX2_110 rfl (v := .int (m.2 2 3)) rfl ?_
      refine R_callVi 34 (eX2_off (av := m.1 0) (p0 := m.1 1) (p1 := m.1 2) (sz := m.1 6) (tu := m.1 7) (mi := m.1 8) rfl) dX2_letOneGetUp_31 rfl kX2_off lX2_103 rfl rfl rfl rfl rfl rfl rfl ?_
      refine R_aload_n 35 dX2_letOneGetUp_34 rfl rfl ?_
      refine R_get 38 dX2_letOneGetUp_35 rfl fX2_58 rfl (v := .int (m.1 8)) rfl ?_
      refine R_callVi 41 (eX4_rouses (rk := m.1 11) (rl := m.1 12) (rp := m.1 13) rfl) dX2_letOneGetUp_38 rfl kX4_rouses lX2_113 rfl rfl rfl rfl rfl rfl rfl ?_
      refine R_ifb_ne 44 45 dX2_letOneGetUp_41 rfl (by decide) (fun c11 => ?_) (fun c11 => ?_)
      ·
        refine R_aload_n 46 dX2_letOneGetUp_45 rfl rfl ?_
        refine R_get 49 dX2_letOneGetUp_46 rfl fX2_110 rfl (v := .int (m.2 2 3)) rfl ?_
        refine R_cut 63 [(0, .ref 1), (1, .int dr), (2, .ref 28), (3, .ref 7)] (.int (if (m.2 2 3) = 0 then m.1 1 else m.1 2) :: []) (hC G m k i cf ca, h2) ?_ (fun kj => ?_)
        ·
          refine R_istore 65 dX2_letOneGetUp_63 rfl rfl (by decide) (loc' := [(0, .ref 1), (1, .int dr), (2, .ref 28), (3, .ref 7), (4, .int (if (m.2 2 3) = 0 then m.1 1 else m.1 2))]) rfl ?_
          refine R_aload_n 66 dX2_letOneGetUp_65 rfl rfl ?_
          refine R_aload_n 67 dX2_letOneGetUp_66 rfl rfl ?_
          refine R_aload_n 68 dX2_letOneGetUp_67 rfl rfl ?_
          refine R_get 71 dX2_letOneGetUp_68 rfl fX2_36 rfl (v := .int (m.1 0)) rfl ?_
          refine R_aload_n 72 dX2_letOneGetUp_71 rfl rfl ?_
          refine R_get 75 dX2_letOneGetUp_72 rfl fX2_25 rfl (v := .ref 3) rfl ?_
          refine R_iload 77 dX2_letOneGetUp_75 rfl rfl ?_
          refine R_aload_n 78 dX2_letOneGetUp_77 rfl rfl ?_
          refine R_get 81 dX2_letOneGetUp_78 rfl fX2_39 rfl (v := .int (m.1 1)) rfl ?_
          refine R_aload_n 82 dX2_letOneGetUp_81 rfl rfl ?_
          refine R_get 85 dX2_letOneGetUp_82 rfl fX2_9 rfl (v := .int (m.1 2)) rfl ?_
          refine R_iadd 86 dX2_letOneGetUp_85 rfl ?_
          refine R_iconst 87 dX2_letOneGetUp_86 rfl (v := 2) (by decide) ?_
          refine R_idiv 88 dX2_letOneGetUp_87 rfl (by decide) ?_
          refine R_iload_n 89 dX2_letOneGetUp_88 rfl rfl ?_
          refine R_callVi 92 (eX4_aim (rk := m.1 11) (rl := m.1 12) (rp := m.1 13) rfl) dX2_letOneGetUp_89 rfl kX4_aim lX2_117 rfl rfl rfl rfl rfl rfl rfl ?_
          refine R_callVi 95 (eX3_turned (pk := m.2 2 0) (pm := m.2 2 1) (pf := m.2 2 2) (ps := m.2 2 3) (ph := m.2 2 4) (pp := m.2 2 5) rfl) dX2_letOneGetUp_92 rfl kX3_turned lX2_120 rfl rfl rfl rfl rfl rfl rfl ?_
          refine R_nm (fun z5_ hz5_ => ?_)
          refine R_put 98 dX2_letOneGetUp_95 rfl wX2_36 rfl rfl rfl rfl (h2 := (hC G ((upd m.1 0 z5_), m.2) k i cf ca, h2)) rfl ?_
          refine R_aload_n 99 dX2_letOneGetUp_98 rfl rfl ?_
          refine R_aload_n 100 dX2_letOneGetUp_99 rfl rfl ?_
          refine R_get 103 dX2_letOneGetUp_100 rfl fX2_55 rfl (v := .int (m.1 7)) rfl ?_
          refine R_aload_n 104 dX2_letOneGetUp_103 rfl rfl ?_
          refine R_get 107 dX2_letOneGetUp_104 rfl fX2_124 rfl (v := .int (m.2 2 5)) rfl ?_
          refine R_callVv 110 eX0_noteUp_28 dX2_letOneGetUp_107 rfl kX0_noteUp lX2_127 rfl rfl rfl rfl rfl rfl rfl ?_
          refine R_aload_n 111 dX2_letOneGetUp_110 rfl rfl ?_
          refine R_aload_n 112 dX2_letOneGetUp_111 rfl rfl ?_
          refine R_get 115 dX2_letOneGetUp_112 rfl fX2_55 rfl (v := .int (m.1 7)) rfl ?_
          refine R_iconst 116 dX2_letOneGetUp_115 rfl (v := 1) (by decide) ?_
          refine R_iadd 117 dX2_letOneGetUp_116 rfl ?_
          refine R_aload_n 118 dX2_letOneGetUp_117 rfl rfl ?_
          refine R_get 121 dX2_letOneGetUp_118 rfl fX2_49 rfl (v := .int (m.1 6)) rfl ?_
          refine R_cut 134 [(0, .ref 1), (1, .int dr), (2, .ref 28), (3, .ref 7), (4, .int (if (m.2 2 3) = 0 then m.1 1 else m.1 2))] (.int (if (m.1 6) ≤ ((m.1 7) + 1) then 0 else (m.1 7) + 1) :: [.ref 1]) (hC G ((upd m.1 0 z5_), m.2) k i ((sX0_noteUp cf ca (m.1 7) (m.2 2 5)).1) ((sX0_noteUp cf ca (m.1 7) (m.2 2 5)).2), h2) ?_ (fun kj => ?_)
          ·
            refine R_nm (fun z6_ hz6_ => ?_)
            refine R_put 137 dX2_letOneGetUp_134 rfl wX2_55 rfl rfl rfl rfl (h2 := (hC G ((upd (upd m.1 0 z5_) 7 z6_), m.2) k i ((sX0_noteUp cf ca (m.1 7) (m.2 2 5)).1) ((sX0_noteUp cf ca (m.1 7) (m.2 2 5)).2), h2)) rfl ?_
            refine R_return dX2_letOneGetUp_137 rfl ?_
            subst hz5_ hz6_
            have e : zz = (((upd (upd m.1 0 (sX3_turned (m.2 2 0) (m.2 2 1) (m.2 2 2) (m.2 2 3) (m.2 2 4) (m.2 2 5) (m.1 0) (sX4_aim (m.1 11) (m.1 12) (m.1 13) (if (m.2 2 3) = 0 then m.1 1 else m.1 2) (((m.1 1) + (m.1 2)) / 2) dr))) 7 (if (m.1 6) ≤ ((m.1 7) + 1) then 0 else (m.1 7) + 1)), m.2), (sX0_noteUp cf ca (m.1 7) (m.2 2 5)).1, (sX0_noteUp cf ca (m.1 7) (m.2 2 5)).2) := by rw [← hs]; unfold sX2_letOneGetUp; rw [if_pos c1, if_neg c2, if_neg c6, if_pos c10, if_pos c11]
            rw [pr1 e, pr1 (pr2 e), pr2 (pr2 e)]; exact ⟨rfl, rfl⟩
          refine R_icmp_ge 124 133 dX2_letOneGetUp_121 rfl (by decide) (fun c13 => ?_) (fun c13 => ?_)
          · refine R_iconst 134 dX2_letOneGetUp_133 rfl (v := 0) (by decide) ?_
            rw [if_pos c13] at kj; exact kj
          · refine R_aload_n 125 dX2_letOneGetUp_124 rfl rfl ?_
            refine R_get 128 dX2_letOneGetUp_125 rfl fX2_55 rfl (v := .int (m.1 7)) rfl ?_
            refine R_iconst 129 dX2_letOneGetUp_128 rfl (v := 1) (by decide) ?_
            refine R_iadd 130 dX2_letOneGetUp_129 rfl ?_
            refine R_goto 134 dX2_letOneGetUp_130 (by decide) ?_
            rw [if_neg c13] at kj; exact kj
        refine R_if_ne 52 59 dX2_letOneGetUp_49 rfl (by decide) (fun c12 => ?_) (fun c12 => ?_)
        · refine R_aload_n 60 dX2_letOneGetUp_59 rfl rfl ?_
          refine R_get 63 dX2_letOneGetUp_60 rfl fX2_9 rfl (v := .int (m.1 2)) rfl ?_
          rw [if_neg c12] at kj; exact kj
        · refine R_aload_n 53 dX2_letOneGetUp_52 rfl rfl ?_
          refine R_get 56 dX2_letOneGetUp_53 rfl fX2_39 rfl (v := .int (m.1 1)) rfl ?_
          refine R_goto 63 dX2_letOneGetUp_56 (by decide) ?_
          rw [if_pos c12] at kj; exact kj
      ·
        refine R_return dX2_letOneGetUp_44 rfl ?_
        have e : zz = (m, cf, ca) := by rw [← hs]; unfold sX2_letOneGetUp; rw [if_pos c1, if_neg c2, if_neg c6, if_pos c10, if_neg c11]
        rw [pr1 e, pr1 (pr2 e), pr2 (pr2 e)]; exact ⟨rfl, rfl⟩
    by_cases c14 : (m.1 7) = 3
    ·
      refine R_aaldAt 21 3 c14 dX2_letOneGetUp_20 rfl rfl rfl (vin_d (by decide)) (y := 8) rfl ?_
      refine R_astore_n 22 dX2_letOneGetUp_21 rfl rfl (by decide) (loc' := [(0, .ref 1), (1, .int dr), (2, .ref 28), (3, .ref 8)]) rfl ?_
      refine R_aload_n 23 dX2_letOneGetUp_22 rfl rfl ?_
      refine R_get 26 dX2_letOneGetUp_23 rfl fX2_25 rfl (v := .ref 3) rfl ?_
      refine R_aload_n 27 dX2_letOneGetUp_26 rfl rfl ?_
      refine R_aload_n 28 dX2_letOneGetUp_27 rfl rfl ?_
      refine R_get 31 dX2_letOneGetUp_28 rfl fX2_110 rfl (v := .int (m.2 3 3)) rfl ?_
      refine R_callVi 34 (eX2_off (av := m.1 0) (p0 := m.1 1) (p1 := m.1 2) (sz := m.1 6) (tu := m.1 7) (mi := m.1 8) rfl) dX2_letOneGetUp_31 rfl kX2_off lX2_103 rfl rfl rfl rfl rfl rfl rfl ?_
      refine R_aload_n 35 dX2_letOneGetUp_34 rfl rfl ?_
      refine R_get 38 dX2_letOneGetUp_35 rfl fX2_58 rfl (v := .int (m.1 8)) rfl ?_
      refine R_callVi 41 (eX4_rouses (rk := m.1 11) (rl := m.1 12) (rp := m.1 13) rfl) dX2_letOneGetUp_38 rfl kX4_rouses lX2_113 rfl rfl rfl rfl rfl rfl rfl ?_
      refine R_ifb_ne 44 45 dX2_letOneGetUp_41 rfl (by decide) (fun c15 => ?_) (fun c15 => ?_)
      ·
        refine R_aload_n 46 dX2_letOneGetUp_45 rfl rfl ?_
        refine R_get 49 dX2_letOneGetUp_46 rfl fX2_110 rfl (v := .int (m.2 3 3)) rfl ?_
        refine R_cut 63 [(0, .ref 1), (1, .int dr), (2, .ref 28), (3, .ref 8)] (.int (if (m.2 3 3) = 0 then m.1 1 else m.1 2) :: []) (hC G m k i cf ca, h2) ?_ (fun kj => ?_)
        ·
          refine R_istore 65 dX2_letOneGetUp_63 rfl rfl (by decide) (loc' := [(0, .ref 1), (1, .int dr), (2, .ref 28), (3, .ref 8), (4, .int (if (m.2 3 3) = 0 then m.1 1 else m.1 2))]) rfl ?_
          refine R_aload_n 66 dX2_letOneGetUp_65 rfl rfl ?_
          refine R_aload_n 67 dX2_letOneGetUp_66 rfl rfl ?_
          refine R_aload_n 68 dX2_letOneGetUp_67 rfl rfl ?_
          refine R_get 71 dX2_letOneGetUp_68 rfl fX2_36 rfl (v := .int (m.1 0)) rfl ?_
          refine R_aload_n 72 dX2_letOneGetUp_71 rfl rfl ?_
          refine R_get 75 dX2_letOneGetUp_72 rfl fX2_25 rfl (v := .ref 3) rfl ?_
          refine R_iload 77 dX2_letOneGetUp_75 rfl rfl ?_
          refine R_aload_n 78 dX2_letOneGetUp_77 rfl rfl ?_
          refine R_get 81 dX2_letOneGetUp_78 rfl fX2_39 rfl (v := .int (m.1 1)) rfl ?_
          refine R_aload_n 82 dX2_letOneGetUp_81 rfl rfl ?_
          refine R_get 85 dX2_letOneGetUp_82 rfl fX2_9 rfl (v := .int (m.1 2)) rfl ?_
          refine R_iadd 86 dX2_letOneGetUp_85 rfl ?_
          refine R_iconst 87 dX2_letOneGetUp_86 rfl (v := 2) (by decide) ?_
          refine R_idiv 88 dX2_letOneGetUp_87 rfl (by decide) ?_
          refine R_iload_n 89 dX2_letOneGetUp_88 rfl rfl ?_
          refine R_callVi 92 (eX4_aim (rk := m.1 11) (rl := m.1 12) (rp := m.1 13) rfl) dX2_letOneGetUp_89 rfl kX4_aim lX2_117 rfl rfl rfl rfl rfl rfl rfl ?_
          refine R_callVi 95 (eX3_turned (pk := m.2 3 0) (pm := m.2 3 1) (pf := m.2 3 2) (ps := m.2 3 3) (ph := m.2 3 4) (pp := m.2 3 5) rfl) dX2_letOneGetUp_92 rfl kX3_turned lX2_120 rfl rfl rfl rfl rfl rfl rfl ?_
          refine R_nm (fun z7_ hz7_ => ?_)
          refine R_put 98 dX2_letOneGetUp_95 rfl wX2_36 rfl rfl rfl rfl (h2 := (hC G ((upd m.1 0 z7_), m.2) k i cf ca, h2)) rfl ?_
          refine R_aload_n 99 dX2_letOneGetUp_98 rfl rfl ?_
          refine R_aload_n 100 dX2_letOneGetUp_99 rfl rfl ?_
          refine R_get 103 dX2_letOneGetUp_100 rfl fX2_55 rfl (v := .int (m.1 7)) rfl ?_
          refine R_aload_n 104 dX2_letOneGetUp_103 rfl rfl ?_
          refine R_get 107 dX2_letOneGetUp_104 rfl fX2_124 rfl (v := .int (m.2 3 5)) rfl ?_
          refine R_callVv 110 eX0_noteUp_28 dX2_letOneGetUp_107 rfl kX0_noteUp lX2_127 rfl rfl rfl rfl rfl rfl rfl ?_
          refine R_aload_n 111 dX2_letOneGetUp_110 rfl rfl ?_
          refine R_aload_n 112 dX2_letOneGetUp_111 rfl rfl ?_
          refine R_get 115 dX2_letOneGetUp_112 rfl fX2_55 rfl (v := .int (m.1 7)) rfl ?_
          refine R_iconst 116 dX2_letOneGetUp_115 rfl (v := 1) (by decide) ?_
          refine R_iadd 117 dX2_letOneGetUp_116 rfl ?_
          refine R_aload_n 118 dX2_letOneGetUp_117 rfl rfl ?_
          refine R_get 121 dX2_letOneGetUp_118 rfl fX2_49 rfl (v := .int (m.1 6)) rfl ?_
          refine R_cut 134 [(0, .ref 1), (1, .int dr), (2, .ref 28), (3, .ref 8), (4, .int (if (m.2 3 3) = 0 then m.1 1 else m.1 2))] (.int (if (m.1 6) ≤ ((m.1 7) + 1) then 0 else (m.1 7) + 1) :: [.ref 1]) (hC G ((upd m.1 0 z7_), m.2) k i ((sX0_noteUp cf ca (m.1 7) (m.2 3 5)).1) ((sX0_noteUp cf ca (m.1 7) (m.2 3 5)).2), h2) ?_ (fun kj => ?_)
          ·
            refine R_nm (fun z8_ hz8_ => ?_)
            refine R_put 137 dX2_letOneGetUp_134 rfl wX2_55 rfl rfl rfl rfl (h2 := (hC G ((upd (upd m.1 0 z7_) 7 z8_), m.2) k i ((sX0_noteUp cf ca (m.1 7) (m.2 3 5)).1) ((sX0_noteUp cf ca (m.1 7) (m.2 3 5)).2), h2)) rfl ?_
            refine R_return dX2_letOneGetUp_137 rfl ?_
            subst hz7_ hz8_
            have e : zz = (((upd (upd m.1 0 (sX3_turned (m.2 3 0) (m.2 3 1) (m.2 3 2) (m.2 3 3) (m.2 3 4) (m.2 3 5) (m.1 0) (sX4_aim (m.1 11) (m.1 12) (m.1 13) (if (m.2 3 3) = 0 then m.1 1 else m.1 2) (((m.1 1) + (m.1 2)) / 2) dr))) 7 (if (m.1 6) ≤ ((m.1 7) + 1) then 0 else (m.1 7) + 1)), m.2), (sX0_noteUp cf ca (m.1 7) (m.2 3 5)).1, (sX0_noteUp cf ca (m.1 7) (m.2 3 5)).2) := by rw [← hs]; unfold sX2_letOneGetUp; rw [if_pos c1, if_neg c2, if_neg c6, if_neg c10, if_pos c14, if_pos c15]
            rw [pr1 e, pr1 (pr2 e), pr2 (pr2 e)]; exact ⟨rfl, rfl⟩
          refine R_icmp_ge 124 133 dX2_letOneGetUp_121 rfl (by decide) (fun c17 => ?_) (fun c17 => ?_)
          · refine R_iconst 134 dX2_letOneGetUp_133 rfl (v := 0) (by decide) ?_
            rw [if_pos c17] at kj; exact kj
          · refine R_aload_n 125 dX2_letOneGetUp_124 rfl rfl ?_
            refine R_get 128 dX2_letOneGetUp_125 rfl fX2_55 rfl (v := .int (m.1 7)) rfl ?_
            refine R_iconst 129 dX2_letOneGetUp_128 rfl (v := 1) (by decide) ?_
            refine R_iadd 130 dX2_letOneGetUp_129 rfl ?_
            refine R_goto 134 dX2_letOneGetUp_130 (by decide) ?_
            rw [if_neg c17] at kj; exact kj
        refine R_if_ne 52 59 dX2_letOneGetUp_49 rfl (by decide) (fun c16 => ?_) (fun c16 => ?_)
        · refine R_aload_n 60 dX2_letOneGetUp_59 rfl rfl ?_
          refine R_get 63 dX2_letOneGetUp_60 rfl fX2_9 rfl (v := .int (m.1 2)) rfl ?_
          rw [if_neg c16] at kj; exact kj
        · refine R_aload_n 53 dX2_letOneGetUp_52 rfl rfl ?_
          refine R_get 56 dX2_letOneGetUp_53 rfl fX2_39 rfl (v := .int (m.1 1)) rfl ?_
          refine R_goto 63 dX2_letOneGetUp_56 (by decide) ?_
          rw [if_pos c16] at kj; exact kj
      ·
        refine R_return dX2_letOneGetUp_44 rfl ?_
        have e : zz = (m, cf, ca) := by rw [← hs]; unfold sX2_letOneGetUp; rw [if_pos c1, if_neg c2, if_neg c6, if_neg c10, if_pos c14, if_neg c15]
        rw [pr1 e, pr1 (pr2 e), pr2 (pr2 e)]; exact ⟨rfl, rfl⟩
    have c18 : (m.1 7) = 4 := has4 c1 c2 c6 c10 c14
    refine R_aaldAt 21 4 c18 dX2_letOneGetUp_20 rfl rfl rfl (vin_d (by decide)) (y := 9) rfl ?_
    refine R_astore_n 22 dX2_letOneGetUp_21 rfl rfl (by decide) (loc' := [(0, .ref 1), (1, .int dr), (2, .ref 28), (3, .ref 9)]) rfl ?_
    refine R_aload_n 23 dX2_letOneGetUp_22 rfl rfl ?_
    refine R_get 26 dX2_letOneGetUp_23 rfl fX2_25 rfl (v := .ref 3) rfl ?_
    refine R_aload_n 27 dX2_letOneGetUp_26 rfl rfl ?_
    refine R_aload_n 28 dX2_letOneGetUp_27 rfl rfl ?_
    refine R_get 31 dX2_letOneGetUp_28 rfl fX2_110 rfl (v := .int (m.2 4 3)) rfl ?_
    refine R_callVi 34 (eX2_off (av := m.1 0) (p0 := m.1 1) (p1 := m.1 2) (sz := m.1 6) (tu := m.1 7) (mi := m.1 8) rfl) dX2_letOneGetUp_31 rfl kX2_off lX2_103 rfl rfl rfl rfl rfl rfl rfl ?_
    refine R_aload_n 35 dX2_letOneGetUp_34 rfl rfl ?_
    refine R_get 38 dX2_letOneGetUp_35 rfl fX2_58 rfl (v := .int (m.1 8)) rfl ?_
    refine R_callVi 41 (eX4_rouses (rk := m.1 11) (rl := m.1 12) (rp := m.1 13) rfl) dX2_letOneGetUp_38 rfl kX4_rouses lX2_113 rfl rfl rfl rfl rfl rfl rfl ?_
    refine R_ifb_ne 44 45 dX2_letOneGetUp_41 rfl (by decide) (fun c19 => ?_) (fun c19 => ?_)
    ·
      refine R_aload_n 46 dX2_letOneGetUp_45 rfl rfl ?_
      refine R_get 49 dX2_letOneGetUp_46 rfl fX2_110 rfl (v := .int (m.2 4 3)) rfl ?_
      refine R_cut 63 [(0, .ref 1), (1, .int dr), (2, .ref 28), (3, .ref 9)] (.int (if (m.2 4 3) = 0 then m.1 1 else m.1 2) :: []) (hC G m k i cf ca, h2) ?_ (fun kj => ?_)
      ·
        refine R_istore 65 dX2_letOneGetUp_63 rfl rfl (by decide) (loc' := [(0, .ref 1), (1, .int dr), (2, .ref 28), (3, .ref 9), (4, .int (if (m.2 4 3) = 0 then m.1 1 else m.1 2))]) rfl ?_
        refine R_aload_n 66 dX2_letOneGetUp_65 rfl rfl ?_
        refine R_aload_n 67 dX2_letOneGetUp_66 rfl rfl ?_
        refine R_aload_n 68 dX2_letOneGetUp_67 rfl rfl ?_
        refine R_get 71 dX2_letOneGetUp_68 rfl fX2_36 rfl (v := .int (m.1 0)) rfl ?_
        refine R_aload_n 72 dX2_letOneGetUp_71 rfl rfl ?_
        refine R_get 75 dX2_letOneGetUp_72 rfl fX2_25 rfl (v := .ref 3) rfl ?_
        refine R_iload 77 dX2_letOneGetUp_75 rfl rfl ?_
        refine R_aload_n 78 dX2_letOneGetUp_77 rfl rfl ?_
        refine R_get 81 dX2_letOneGetUp_78 rfl fX2_39 rfl (v := .int (m.1 1)) rfl ?_
        refine R_aload_n 82 dX2_letOneGetUp_81 rfl rfl ?_
        refine R_get 85 dX2_letOneGetUp_82 rfl fX2_9 rfl (v := .int (m.1 2)) rfl ?_
        refine R_iadd 86 dX2_letOneGetUp_85 rfl ?_
        refine R_iconst 87 dX2_letOneGetUp_86 rfl (v := 2) (by decide) ?_
        refine R_idiv 88 dX2_letOneGetUp_87 rfl (by decide) ?_
        refine R_iload_n 89 dX2_letOneGetUp_88 rfl rfl ?_
        refine R_callVi 92 (eX4_aim (rk := m.1 11) (rl := m.1 12) (rp := m.1 13) rfl) dX2_letOneGetUp_89 rfl kX4_aim lX2_117 rfl rfl rfl rfl rfl rfl rfl ?_
        refine R_callVi 95 (eX3_turned (pk := m.2 4 0) (pm := m.2 4 1) (pf := m.2 4 2) (ps := m.2 4 3) (ph := m.2 4 4) (pp := m.2 4 5) rfl) dX2_letOneGetUp_92 rfl kX3_turned lX2_120 rfl rfl rfl rfl rfl rfl rfl ?_
        refine R_nm (fun z9_ hz9_ => ?_)
        refine R_put 98 dX2_letOneGetUp_95 rfl wX2_36 rfl rfl rfl rfl (h2 := (hC G ((upd m.1 0 z9_), m.2) k i cf ca, h2)) rfl ?_
        refine R_aload_n 99 dX2_letOneGetUp_98 rfl rfl ?_
        refine R_aload_n 100 dX2_letOneGetUp_99 rfl rfl ?_
        refine R_get 103 dX2_letOneGetUp_100 rfl fX2_55 rfl (v := .int (m.1 7)) rfl ?_
        refine R_aload_n 104 dX2_letOneGetUp_103 rfl rfl ?_
        refine R_get 107 dX2_letOneGetUp_104 rfl fX2_124 rfl (v := .int (m.2 4 5)) rfl ?_
        refine R_callVv 110 eX0_noteUp_28 dX2_letOneGetUp_107 rfl kX0_noteUp lX2_127 rfl rfl rfl rfl rfl rfl rfl ?_
        refine R_aload_n 111 dX2_letOneGetUp_110 rfl rfl ?_
        refine R_aload_n 112 dX2_letOneGetUp_111 rfl rfl ?_
        refine R_get 115 dX2_letOneGetUp_112 rfl fX2_55 rfl (v := .int (m.1 7)) rfl ?_
        refine R_iconst 116 dX2_letOneGetUp_115 rfl (v := 1) (by decide) ?_
        refine R_iadd 117 dX2_letOneGetUp_116 rfl ?_
        refine R_aload_n 118 dX2_letOneGetUp_117 rfl rfl ?_
        refine R_get 121 dX2_letOneGetUp_118 rfl fX2_49 rfl (v := .int (m.1 6)) rfl ?_
        refine R_cut 134 [(0, .ref 1), (1, .int dr), (2, .ref 28), (3, .ref 9), (4, .int (if (m.2 4 3) = 0 then m.1 1 else m.1 2))] (.int (if (m.1 6) ≤ ((m.1 7) + 1) then 0 else (m.1 7) + 1) :: [.ref 1]) (hC G ((upd m.1 0 z9_), m.2) k i ((sX0_noteUp cf ca (m.1 7) (m.2 4 5)).1) ((sX0_noteUp cf ca (m.1 7) (m.2 4 5)).2), h2) ?_ (fun kj => ?_)
        ·
          refine R_nm (fun z10_ hz10_ => ?_)
          refine R_put 137 dX2_letOneGetUp_134 rfl wX2_55 rfl rfl rfl rfl (h2 := (hC G ((upd (upd m.1 0 z9_) 7 z10_), m.2) k i ((sX0_noteUp cf ca (m.1 7) (m.2 4 5)).1) ((sX0_noteUp cf ca (m.1 7) (m.2 4 5)).2), h2)) rfl ?_
          refine R_return dX2_letOneGetUp_137 rfl ?_
          subst hz9_ hz10_
          have e : zz = (((upd (upd m.1 0 (sX3_turned (m.2 4 0) (m.2 4 1) (m.2 4 2) (m.2 4 3) (m.2 4 4) (m.2 4 5) (m.1 0) (sX4_aim (m.1 11) (m.1 12) (m.1 13) (if (m.2 4 3) = 0 then m.1 1 else m.1 2) (((m.1 1) + (m.1 2)) / 2) dr))) 7 (if (m.1 6) ≤ ((m.1 7) + 1) then 0 else (m.1 7) + 1)), m.2), (sX0_noteUp cf ca (m.1 7) (m.2 4 5)).1, (sX0_noteUp cf ca (m.1 7) (m.2 4 5)).2) := by rw [← hs]; unfold sX2_letOneGetUp; rw [if_pos c1, if_neg c2, if_neg c6, if_neg c10, if_neg c14, if_pos c19]
          rw [pr1 e, pr1 (pr2 e), pr2 (pr2 e)]; exact ⟨rfl, rfl⟩
        refine R_icmp_ge 124 133 dX2_letOneGetUp_121 rfl (by decide) (fun c21 => ?_) (fun c21 => ?_)
        · refine R_iconst 134 dX2_letOneGetUp_133 rfl (v := 0) (by decide) ?_
          rw [if_pos c21] at kj; exact kj
        · refine R_aload_n 125 dX2_letOneGetUp_124 rfl rfl ?_
          refine R_get 128 dX2_letOneGetUp_125 rfl fX2_55 rfl (v := .int (m.1 7)) rfl ?_
          refine R_iconst 129 dX2_letOneGetUp_128 rfl (v := 1) (by decide) ?_
          refine R_iadd 130 dX2_letOneGetUp_129 rfl ?_
          refine R_goto 134 dX2_letOneGetUp_130 (by decide) ?_
          rw [if_neg c21] at kj; exact kj
      refine R_if_ne 52 59 dX2_letOneGetUp_49 rfl (by decide) (fun c20 => ?_) (fun c20 => ?_)
      · refine R_aload_n 60 dX2_letOneGetUp_59 rfl rfl ?_
        refine R_get 63 dX2_letOneGetUp_60 rfl fX2_9 rfl (v := .int (m.1 2)) rfl ?_
        rw [if_neg c20] at kj; exact kj
      · refine R_aload_n 53 dX2_letOneGetUp_52 rfl rfl ?_
        refine R_get 56 dX2_letOneGetUp_53 rfl fX2_39 rfl (v := .int (m.1 1)) rfl ?_
        refine R_goto 63 dX2_letOneGetUp_56 (by decide) ?_
        rw [if_pos c20] at kj; exact kj
    ·
      refine R_return dX2_letOneGetUp_44 rfl ?_
      have e : zz = (m, cf, ca) := by rw [← hs]; unfold sX2_letOneGetUp; rw [if_pos c1, if_neg c2, if_neg c6, if_neg c10, if_neg c14, if_neg c19]
      rw [pr1 e, pr1 (pr2 e), pr2 (pr2 e)]; exact ⟨rfl, rfl⟩
  ·
    refine R_return dX2_letOneGetUp_11 rfl ?_
    have e : zz = (m, cf, ca) := by rw [← hs]; unfold sX2_letOneGetUp; rw [if_neg c1]
    rw [pr1 e, pr1 (pr2 e), pr2 (pr2 e)]; exact ⟨rfl, rfl⟩
def sX2_botherAll (m : zP) (cf : Nat → Int32) (ca : Nat → Nat → Int32) : (Nat → Int32) × (Nat → Nat → Int32) := if (m.1 6) ≤ 0 then ((sX0_noteOff cf ca (sX2_off (m.1 0) (m.1 1) (m.1 2) (m.1 6) (m.1 7) (m.1 8) 0) (sX2_off (m.1 0) (m.1 1) (m.1 2) (m.1 6) (m.1 7) (m.1 8) 1)), ca) else if (m.1 6) ≤ 1 then ((sX0_noteOff cf (sX0_noteBother cf ca 0 (sX3_botheredBy (m.2 0 0) (m.2 0 1) (m.2 0 2) (m.2 0 3) (m.2 0 4) (m.2 0 5) (if (m.2 0 3) = 0 then (sX2_off (m.1 0) (m.1 1) (m.1 2) (m.1 6) (m.1 7) (m.1 8) 0) else (sX2_off (m.1 0) (m.1 1) (m.1 2) (m.1 6) (m.1 7) (m.1 8) 1)))) (sX2_off (m.1 0) (m.1 1) (m.1 2) (m.1 6) (m.1 7) (m.1 8) 0) (sX2_off (m.1 0) (m.1 1) (m.1 2) (m.1 6) (m.1 7) (m.1 8) 1)), (sX0_noteBother cf ca 0 (sX3_botheredBy (m.2 0 0) (m.2 0 1) (m.2 0 2) (m.2 0 3) (m.2 0 4) (m.2 0 5) (if (m.2 0 3) = 0 then (sX2_off (m.1 0) (m.1 1) (m.1 2) (m.1 6) (m.1 7) (m.1 8) 0) else (sX2_off (m.1 0) (m.1 1) (m.1 2) (m.1 6) (m.1 7) (m.1 8) 1))))) else if (m.1 6) ≤ 2 then ((sX0_noteOff cf (sX0_noteBother cf (sX0_noteBother cf ca 0 (sX3_botheredBy (m.2 0 0) (m.2 0 1) (m.2 0 2) (m.2 0 3) (m.2 0 4) (m.2 0 5) (if (m.2 0 3) = 0 then (sX2_off (m.1 0) (m.1 1) (m.1 2) (m.1 6) (m.1 7) (m.1 8) 0) else (sX2_off (m.1 0) (m.1 1) (m.1 2) (m.1 6) (m.1 7) (m.1 8) 1)))) 1 (sX3_botheredBy (m.2 1 0) (m.2 1 1) (m.2 1 2) (m.2 1 3) (m.2 1 4) (m.2 1 5) (if (m.2 1 3) = 0 then (sX2_off (m.1 0) (m.1 1) (m.1 2) (m.1 6) (m.1 7) (m.1 8) 0) else (sX2_off (m.1 0) (m.1 1) (m.1 2) (m.1 6) (m.1 7) (m.1 8) 1)))) (sX2_off (m.1 0) (m.1 1) (m.1 2) (m.1 6) (m.1 7) (m.1 8) 0) (sX2_off (m.1 0) (m.1 1) (m.1 2) (m.1 6) (m.1 7) (m.1 8) 1)), (sX0_noteBother cf (sX0_noteBother cf ca 0 (sX3_botheredBy (m.2 0 0) (m.2 0 1) (m.2 0 2) (m.2 0 3) (m.2 0 4) (m.2 0 5) (if (m.2 0 3) = 0 then (sX2_off (m.1 0) (m.1 1) (m.1 2) (m.1 6) (m.1 7) (m.1 8) 0) else (sX2_off (m.1 0) (m.1 1) (m.1 2) (m.1 6) (m.1 7) (m.1 8) 1)))) 1 (sX3_botheredBy (m.2 1 0) (m.2 1 1) (m.2 1 2) (m.2 1 3) (m.2 1 4) (m.2 1 5) (if (m.2 1 3) = 0 then (sX2_off (m.1 0) (m.1 1) (m.1 2) (m.1 6) (m.1 7) (m.1 8) 0) else (sX2_off (m.1 0) (m.1 1) (m.1 2) (m.1 6) (m.1 7) (m.1 8) 1))))) else if (m.1 6) ≤ 3 then ((sX0_noteOff cf (sX0_noteBother cf (sX0_noteBother cf (sX0_noteBother cf ca 0 (sX3_botheredBy (m.2 0 0) (m.2 0 1) (m.2 0 2) (m.2 0 3) (m.2 0 4) (m.2 0 5) (if (m.2 0 3) = 0 then (sX2_off (m.1 0) (m.1 1) (m.1 2) (m.1 6) (m.1 7) (m.1 8) 0) else (sX2_off (m.1 0) (m.1 1) (m.1 2) (m.1 6) (m.1 7) (m.1 8) 1)))) 1 (sX3_botheredBy (m.2 1 0) (m.2 1 1) (m.2 1 2) (m.2 1 3) (m.2 1 4) (m.2 1 5) (if (m.2 1 3) = 0 then (sX2_off (m.1 0) (m.1 1) (m.1 2) (m.1 6) (m.1 7) (m.1 8) 0) else (sX2_off (m.1 0) (m.1 1) (m.1 2) (m.1 6) (m.1 7) (m.1 8) 1)))) 2 (sX3_botheredBy (m.2 2 0) (m.2 2 1) (m.2 2 2) (m.2 2 3) (m.2 2 4) (m.2 2 5) (if (m.2 2 3) = 0 then (sX2_off (m.1 0) (m.1 1) (m.1 2) (m.1 6) (m.1 7) (m.1 8) 0) else (sX2_off (m.1 0) (m.1 1) (m.1 2) (m.1 6) (m.1 7) (m.1 8) 1)))) (sX2_off (m.1 0) (m.1 1) (m.1 2) (m.1 6) (m.1 7) (m.1 8) 0) (sX2_off (m.1 0) (m.1 1) (m.1 2) (m.1 6) (m.1 7) (m.1 8) 1)), (sX0_noteBother cf (sX0_noteBother cf (sX0_noteBother cf ca 0 (sX3_botheredBy (m.2 0 0) (m.2 0 1) (m.2 0 2) (m.2 0 3) (m.2 0 4) (m.2 0 5) (if (m.2 0 3) = 0 then (sX2_off (m.1 0) (m.1 1) (m.1 2) (m.1 6) (m.1 7) (m.1 8) 0) else (sX2_off (m.1 0) (m.1 1) (m.1 2) (m.1 6) (m.1 7) (m.1 8) 1)))) 1 (sX3_botheredBy (m.2 1 0) (m.2 1 1) (m.2 1 2) (m.2 1 3) (m.2 1 4) (m.2 1 5) (if (m.2 1 3) = 0 then (sX2_off (m.1 0) (m.1 1) (m.1 2) (m.1 6) (m.1 7) (m.1 8) 0) else (sX2_off (m.1 0) (m.1 1) (m.1 2) (m.1 6) (m.1 7) (m.1 8) 1)))) 2 (sX3_botheredBy (m.2 2 0) (m.2 2 1) (m.2 2 2) (m.2 2 3) (m.2 2 4) (m.2 2 5) (if (m.2 2 3) = 0 then (sX2_off (m.1 0) (m.1 1) (m.1 2) (m.1 6) (m.1 7) (m.1 8) 0) else (sX2_off (m.1 0) (m.1 1) (m.1 2) (m.1 6) (m.1 7) (m.1 8) 1))))) else if (m.1 6) ≤ 4 then ((sX0_noteOff cf (sX0_noteBother cf (sX0_noteBother cf (sX0_noteBother cf (sX0_noteBother cf ca 0 (sX3_botheredBy (m.2 0 0) (m.2 0 1) (m.2 0 2) (m.2 0 3) (m.2 0 4) (m.2 0 5) (if (m.2 0 3) = 0 then (sX2_off (m.1 0) (m.1 1) (m.1 2) (m.1 6) (m.1 7) (m.1 8) 0) else (sX2_off (m.1 0) (m.1 1) (m.1 2) (m.1 6) (m.1 7) (m.1 8) 1)))) 1 (sX3_botheredBy (m.2 1 0) (m.2 1 1) (m.2 1 2) (m.2 1 3) (m.2 1 4) (m.2 1 5) (if (m.2 1 3) = 0 then (sX2_off (m.1 0) (m.1 1) (m.1 2) (m.1 6) (m.1 7) (m.1 8) 0) else (sX2_off (m.1 0) (m.1 1) (m.1 2) (m.1 6) (m.1 7) (m.1 8) 1)))) 2 (sX3_botheredBy (m.2 2 0) (m.2 2 1) (m.2 2 2) (m.2 2 3) (m.2 2 4) (m.2 2 5) (if (m.2 2 3) = 0 then (sX2_off (m.1 0) (m.1 1) (m.1 2) (m.1 6) (m.1 7) (m.1 8) 0) else (sX2_off (m.1 0) (m.1 1) (m.1 2) (m.1 6) (m.1 7) (m.1 8) 1)))) 3 (sX3_botheredBy (m.2 3 0) (m.2 3 1) (m.2 3 2) (m.2 3 3) (m.2 3 4) (m.2 3 5) (if (m.2 3 3) = 0 then (sX2_off (m.1 0) (m.1 1) (m.1 2) (m.1 6) (m.1 7) (m.1 8) 0) else (sX2_off (m.1 0) (m.1 1) (m.1 2) (m.1 6) (m.1 7) (m.1 8) 1)))) (sX2_off (m.1 0) (m.1 1) (m.1 2) (m.1 6) (m.1 7) (m.1 8) 0) (sX2_off (m.1 0) (m.1 1) (m.1 2) (m.1 6) (m.1 7) (m.1 8) 1)), (sX0_noteBother cf (sX0_noteBother cf (sX0_noteBother cf (sX0_noteBother cf ca 0 (sX3_botheredBy (m.2 0 0) (m.2 0 1) (m.2 0 2) (m.2 0 3) (m.2 0 4) (m.2 0 5) (if (m.2 0 3) = 0 then (sX2_off (m.1 0) (m.1 1) (m.1 2) (m.1 6) (m.1 7) (m.1 8) 0) else (sX2_off (m.1 0) (m.1 1) (m.1 2) (m.1 6) (m.1 7) (m.1 8) 1)))) 1 (sX3_botheredBy (m.2 1 0) (m.2 1 1) (m.2 1 2) (m.2 1 3) (m.2 1 4) (m.2 1 5) (if (m.2 1 3) = 0 then (sX2_off (m.1 0) (m.1 1) (m.1 2) (m.1 6) (m.1 7) (m.1 8) 0) else (sX2_off (m.1 0) (m.1 1) (m.1 2) (m.1 6) (m.1 7) (m.1 8) 1)))) 2 (sX3_botheredBy (m.2 2 0) (m.2 2 1) (m.2 2 2) (m.2 2 3) (m.2 2 4) (m.2 2 5) (if (m.2 2 3) = 0 then (sX2_off (m.1 0) (m.1 1) (m.1 2) (m.1 6) (m.1 7) (m.1 8) 0) else (sX2_off (m.1 0) (m.1 1) (m.1 2) (m.1 6) (m.1 7) (m.1 8) 1)))) 3 (sX3_botheredBy (m.2 3 0) (m.2 3 1) (m.2 3 2) (m.2 3 3) (m.2 3 4) (m.2 3 5) (if (m.2 3 3) = 0 then (sX2_off (m.1 0) (m.1 1) (m.1 2) (m.1 6) (m.1 7) (m.1 8) 0) else (sX2_off (m.1 0) (m.1 1) (m.1 2) (m.1 6) (m.1 7) (m.1 8) 1))))) else if (m.1 6) ≤ 5 then ((sX0_noteOff cf (sX0_noteBother cf (sX0_noteBother cf (sX0_noteBother cf (sX0_noteBother cf (sX0_noteBother cf ca 0 (sX3_botheredBy (m.2 0 0) (m.2 0 1) (m.2 0 2) (m.2 0 3) (m.2 0 4) (m.2 0 5) (if (m.2 0 3) = 0 then (sX2_off (m.1 0) (m.1 1) (m.1 2) (m.1 6) (m.1 7) (m.1 8) 0) else (sX2_off (m.1 0) (m.1 1) (m.1 2) (m.1 6) (m.1 7) (m.1 8) 1)))) 1 (sX3_botheredBy (m.2 1 0) (m.2 1 1) (m.2 1 2) (m.2 1 3) (m.2 1 4) (m.2 1 5) (if (m.2 1 3) = 0 then (sX2_off (m.1 0) (m.1 1) (m.1 2) (m.1 6) (m.1 7) (m.1 8) 0) else (sX2_off (m.1 0) (m.1 1) (m.1 2) (m.1 6) (m.1 7) (m.1 8) 1)))) 2 (sX3_botheredBy (m.2 2 0) (m.2 2 1) (m.2 2 2) (m.2 2 3) (m.2 2 4) (m.2 2 5) (if (m.2 2 3) = 0 then (sX2_off (m.1 0) (m.1 1) (m.1 2) (m.1 6) (m.1 7) (m.1 8) 0) else (sX2_off (m.1 0) (m.1 1) (m.1 2) (m.1 6) (m.1 7) (m.1 8) 1)))) 3 (sX3_botheredBy (m.2 3 0) (m.2 3 1) (m.2 3 2) (m.2 3 3) (m.2 3 4) (m.2 3 5) (if (m.2 3 3) = 0 then (sX2_off (m.1 0) (m.1 1) (m.1 2) (m.1 6) (m.1 7) (m.1 8) 0) else (sX2_off (m.1 0) (m.1 1) (m.1 2) (m.1 6) (m.1 7) (m.1 8) 1)))) 4 (sX3_botheredBy (m.2 4 0) (m.2 4 1) (m.2 4 2) (m.2 4 3) (m.2 4 4) (m.2 4 5) (if (m.2 4 3) = 0 then (sX2_off (m.1 0) (m.1 1) (m.1 2) (m.1 6) (m.1 7) (m.1 8) 0) else (sX2_off (m.1 0) (m.1 1) (m.1 2) (m.1 6) (m.1 7) (m.1 8) 1)))) (sX2_off (m.1 0) (m.1 1) (m.1 2) (m.1 6) (m.1 7) (m.1 8) 0) (sX2_off (m.1 0) (m.1 1) (m.1 2) (m.1 6) (m.1 7) (m.1 8) 1)), (sX0_noteBother cf (sX0_noteBother cf (sX0_noteBother cf (sX0_noteBother cf (sX0_noteBother cf ca 0 (sX3_botheredBy (m.2 0 0) (m.2 0 1) (m.2 0 2) (m.2 0 3) (m.2 0 4) (m.2 0 5) (if (m.2 0 3) = 0 then (sX2_off (m.1 0) (m.1 1) (m.1 2) (m.1 6) (m.1 7) (m.1 8) 0) else (sX2_off (m.1 0) (m.1 1) (m.1 2) (m.1 6) (m.1 7) (m.1 8) 1)))) 1 (sX3_botheredBy (m.2 1 0) (m.2 1 1) (m.2 1 2) (m.2 1 3) (m.2 1 4) (m.2 1 5) (if (m.2 1 3) = 0 then (sX2_off (m.1 0) (m.1 1) (m.1 2) (m.1 6) (m.1 7) (m.1 8) 0) else (sX2_off (m.1 0) (m.1 1) (m.1 2) (m.1 6) (m.1 7) (m.1 8) 1)))) 2 (sX3_botheredBy (m.2 2 0) (m.2 2 1) (m.2 2 2) (m.2 2 3) (m.2 2 4) (m.2 2 5) (if (m.2 2 3) = 0 then (sX2_off (m.1 0) (m.1 1) (m.1 2) (m.1 6) (m.1 7) (m.1 8) 0) else (sX2_off (m.1 0) (m.1 1) (m.1 2) (m.1 6) (m.1 7) (m.1 8) 1)))) 3 (sX3_botheredBy (m.2 3 0) (m.2 3 1) (m.2 3 2) (m.2 3 3) (m.2 3 4) (m.2 3 5) (if (m.2 3 3) = 0 then (sX2_off (m.1 0) (m.1 1) (m.1 2) (m.1 6) (m.1 7) (m.1 8) 0) else (sX2_off (m.1 0) (m.1 1) (m.1 2) (m.1 6) (m.1 7) (m.1 8) 1)))) 4 (sX3_botheredBy (m.2 4 0) (m.2 4 1) (m.2 4 2) (m.2 4 3) (m.2 4 4) (m.2 4 5) (if (m.2 4 3) = 0 then (sX2_off (m.1 0) (m.1 1) (m.1 2) (m.1 6) (m.1 7) (m.1 8) 0) else (sX2_off (m.1 0) (m.1 1) (m.1 2) (m.1 6) (m.1 7) (m.1 8) 1))))) else ((sX0_noteOff cf (sX0_noteBother cf (sX0_noteBother cf (sX0_noteBother cf (sX0_noteBother cf (sX0_noteBother cf ca 0 (sX3_botheredBy (m.2 0 0) (m.2 0 1) (m.2 0 2) (m.2 0 3) (m.2 0 4) (m.2 0 5) (if (m.2 0 3) = 0 then (sX2_off (m.1 0) (m.1 1) (m.1 2) (m.1 6) (m.1 7) (m.1 8) 0) else (sX2_off (m.1 0) (m.1 1) (m.1 2) (m.1 6) (m.1 7) (m.1 8) 1)))) 1 (sX3_botheredBy (m.2 1 0) (m.2 1 1) (m.2 1 2) (m.2 1 3) (m.2 1 4) (m.2 1 5) (if (m.2 1 3) = 0 then (sX2_off (m.1 0) (m.1 1) (m.1 2) (m.1 6) (m.1 7) (m.1 8) 0) else (sX2_off (m.1 0) (m.1 1) (m.1 2) (m.1 6) (m.1 7) (m.1 8) 1)))) 2 (sX3_botheredBy (m.2 2 0) (m.2 2 1) (m.2 2 2) (m.2 2 3) (m.2 2 4) (m.2 2 5) (if (m.2 2 3) = 0 then (sX2_off (m.1 0) (m.1 1) (m.1 2) (m.1 6) (m.1 7) (m.1 8) 0) else (sX2_off (m.1 0) (m.1 1) (m.1 2) (m.1 6) (m.1 7) (m.1 8) 1)))) 3 (sX3_botheredBy (m.2 3 0) (m.2 3 1) (m.2 3 2) (m.2 3 3) (m.2 3 4) (m.2 3 5) (if (m.2 3 3) = 0 then (sX2_off (m.1 0) (m.1 1) (m.1 2) (m.1 6) (m.1 7) (m.1 8) 0) else (sX2_off (m.1 0) (m.1 1) (m.1 2) (m.1 6) (m.1 7) (m.1 8) 1)))) 4 (sX3_botheredBy (m.2 4 0) (m.2 4 1) (m.2 4 2) (m.2 4 3) (m.2 4 4) (m.2 4 5) (if (m.2 4 3) = 0 then (sX2_off (m.1 0) (m.1 1) (m.1 2) (m.1 6) (m.1 7) (m.1 8) 0) else (sX2_off (m.1 0) (m.1 1) (m.1 2) (m.1 6) (m.1 7) (m.1 8) 1)))) (sX2_off (m.1 0) (m.1 1) (m.1 2) (m.1 6) (m.1 7) (m.1 8) 0) (sX2_off (m.1 0) (m.1 1) (m.1 2) (m.1 6) (m.1 7) (m.1 8) 1)), (sX0_noteBother cf (sX0_noteBother cf (sX0_noteBother cf (sX0_noteBother cf (sX0_noteBother cf ca 0 (sX3_botheredBy (m.2 0 0) (m.2 0 1) (m.2 0 2) (m.2 0 3) (m.2 0 4) (m.2 0 5) (if (m.2 0 3) = 0 then (sX2_off (m.1 0) (m.1 1) (m.1 2) (m.1 6) (m.1 7) (m.1 8) 0) else (sX2_off (m.1 0) (m.1 1) (m.1 2) (m.1 6) (m.1 7) (m.1 8) 1)))) 1 (sX3_botheredBy (m.2 1 0) (m.2 1 1) (m.2 1 2) (m.2 1 3) (m.2 1 4) (m.2 1 5) (if (m.2 1 3) = 0 then (sX2_off (m.1 0) (m.1 1) (m.1 2) (m.1 6) (m.1 7) (m.1 8) 0) else (sX2_off (m.1 0) (m.1 1) (m.1 2) (m.1 6) (m.1 7) (m.1 8) 1)))) 2 (sX3_botheredBy (m.2 2 0) (m.2 2 1) (m.2 2 2) (m.2 2 3) (m.2 2 4) (m.2 2 5) (if (m.2 2 3) = 0 then (sX2_off (m.1 0) (m.1 1) (m.1 2) (m.1 6) (m.1 7) (m.1 8) 0) else (sX2_off (m.1 0) (m.1 1) (m.1 2) (m.1 6) (m.1 7) (m.1 8) 1)))) 3 (sX3_botheredBy (m.2 3 0) (m.2 3 1) (m.2 3 2) (m.2 3 3) (m.2 3 4) (m.2 3 5) (if (m.2 3 3) = 0 then (sX2_off (m.1 0) (m.1 1) (m.1 2) (m.1 6) (m.1 7) (m.1 8) 0) else (sX2_off (m.1 0) (m.1 1) (m.1 2) (m.1 6) (m.1 7) (m.1 8) 1)))) 4 (sX3_botheredBy (m.2 4 0) (m.2 4 1) (m.2 4 2) (m.2 4 3) (m.2 4 4) (m.2 4 5) (if (m.2 4 3) = 0 then (sX2_off (m.1 0) (m.1 1) (m.1 2) (m.1 6) (m.1 7) (m.1 8) 0) else (sX2_off (m.1 0) (m.1 1) (m.1 2) (m.1 6) (m.1 7) (m.1 8) 1)))))
set_option maxRecDepth 20000 in
theorem eX2_botherAll_1 {G : zG} {h2 : List va_E} {m k i : zP} {cf : Nat → Int32} {ca : Nat → Nat → Int32} : EvF G mX2_botherAll [.ref 1, .ref 28] (hC G m k i cf ca, h2) (none) (hC G m k i ((sX2_botherAll m cf ca).1) ((sX2_botherAll m cf ca).2), h2) := by
  generalize hs : (sX2_botherAll m cf ca) = zz
  refine EvF.of pnX2 rfl ?_
  refine R_aload_n 1 dX2_botherAll_0 rfl rfl ?_
  refine R_iconst 2 dX2_botherAll_1 rfl (v := 0) (by decide) ?_
  refine R_callVi 5 (eX2_off (av := m.1 0) (p0 := m.1 1) (p1 := m.1 2) (sz := m.1 6) (tu := m.1 7) (mi := m.1 8) rfl) dX2_botherAll_2 rfl kX2_off lX2_103 rfl rfl rfl rfl rfl rfl rfl ?_
  refine R_nm (fun z1_ hz1_ => ?_)
  refine R_istore_n 6 dX2_botherAll_5 rfl rfl (by decide) (loc' := [(0, .ref 1), (1, .ref 28), (2, .int z1_)]) rfl ?_
  refine R_aload_n 7 dX2_botherAll_6 rfl rfl ?_
  refine R_iconst 8 dX2_botherAll_7 rfl (v := 1) (by decide) ?_
  refine R_callVi 11 (eX2_off (av := m.1 0) (p0 := m.1 1) (p1 := m.1 2) (sz := m.1 6) (tu := m.1 7) (mi := m.1 8) rfl) dX2_botherAll_8 rfl kX2_off lX2_103 rfl rfl rfl rfl rfl rfl rfl ?_
  refine R_nm (fun z2_ hz2_ => ?_)
  refine R_istore_n 12 dX2_botherAll_11 rfl rfl (by decide) (loc' := [(0, .ref 1), (1, .ref 28), (2, .int z1_), (3, .int z2_)]) rfl ?_
  refine R_iconst 13 dX2_botherAll_12 rfl (v := 0) (by decide) ?_
  refine R_istore 15 dX2_botherAll_13 rfl rfl (by decide) (loc' := [(0, .ref 1), (1, .ref 28), (2, .int z1_), (3, .int z2_), (4, .int 0)]) rfl ?_
  refine R_iload 17 dX2_botherAll_15 rfl rfl ?_
  refine R_aload_n 18 dX2_botherAll_17 rfl rfl ?_
  refine R_get 21 dX2_botherAll_18 rfl fX2_49 rfl (v := .int (m.1 6)) rfl ?_
  refine R_icmp_ge 24 69 dX2_botherAll_21 rfl (by decide) (fun c1 => ?_) (fun c1 => ?_)
  ·
    refine R_aload_n 70 dX2_botherAll_69 rfl rfl ?_
    refine R_iload_n 71 dX2_botherAll_70 rfl rfl ?_
    refine R_iload_n 72 dX2_botherAll_71 rfl rfl ?_
    refine R_callVv 75 eX0_noteOff_28 dX2_botherAll_72 rfl kX0_noteOff lX2_139 rfl rfl rfl rfl rfl rfl rfl ?_
    refine R_return dX2_botherAll_75 rfl ?_
    subst hz1_ hz2_
    have e : zz = ((sX0_noteOff cf ca (sX2_off (m.1 0) (m.1 1) (m.1 2) (m.1 6) (m.1 7) (m.1 8) 0) (sX2_off (m.1 0) (m.1 1) (m.1 2) (m.1 6) (m.1 7) (m.1 8) 1)), ca) := by rw [← hs]; unfold sX2_botherAll; rw [if_pos c1]
    rw [pr1 e, pr2 e]; exact ⟨rfl, rfl⟩
  ·
    refine R_iload 26 dX2_botherAll_24 rfl rfl ?_
    refine R_iconst 27 dX2_botherAll_26 rfl (v := 5) (by decide) ?_
    refine R_icmp_ge 30 69 dX2_botherAll_27 rfl (by decide) (fun c => absurd c (by decide)) (fun _ => ?_)
    refine R_aload_n 31 dX2_botherAll_30 rfl rfl ?_
    refine R_get 34 dX2_botherAll_31 rfl fX2_31 rfl (v := .ref 4) rfl ?_
    refine R_iload 36 dX2_botherAll_34 rfl rfl ?_
    refine R_aald 37 dX2_botherAll_36 rfl rfl rfl (vin_d (by decide)) (y := 5) rfl ?_
    refine R_astore 39 dX2_botherAll_37 rfl rfl (by decide) (loc' := [(0, .ref 1), (1, .ref 28), (2, .int z1_), (3, .int z2_), (4, .int 0), (5, .ref 5)]) rfl ?_
    refine R_aload_n 40 dX2_botherAll_39 rfl rfl ?_
    refine R_iload 42 dX2_botherAll_40 rfl rfl ?_
    refine R_aload 44 dX2_botherAll_42 rfl rfl ?_
    refine R_aload 46 dX2_botherAll_44 rfl rfl ?_
    refine R_get 49 dX2_botherAll_46 rfl fX2_110 rfl (v := .int (m.2 0 3)) rfl ?_
    refine R_cut 57 [(0, .ref 1), (1, .ref 28), (2, .int z1_), (3, .int z2_), (4, .int 0), (5, .ref 5)] (.int (if (m.2 0 3) = 0 then z1_ else z2_) :: [.ref 5, .int 0, .ref 28]) (hC G m k i cf ca, h2) ?_ (fun kj => ?_)
    ·
      refine R_callVi 60 (eX3_botheredBy (pk := m.2 0 0) (pm := m.2 0 1) (pf := m.2 0 2) (ps := m.2 0 3) (ph := m.2 0 4) (pp := m.2 0 5) rfl) dX2_botherAll_57 rfl kX3_botheredBy lX2_133 rfl rfl rfl rfl rfl rfl rfl ?_
      refine R_callVv 63 eX0_noteBother_28 dX2_botherAll_60 rfl kX0_noteBother lX2_136 rfl rfl rfl rfl rfl rfl rfl ?_
      refine R_iinc 66 dX2_botherAll_63 rfl rfl (v := 1) (by decide) rfl (by decide) (loc' := [(0, .ref 1), (1, .ref 28), (2, .int z1_), (3, .int z2_), (4, .int 1), (5, .ref 5)]) rfl ?_
      refine R_goto 15 dX2_botherAll_66 (by decide) ?_
      refine R_iload 17 dX2_botherAll_15 rfl rfl ?_
      refine R_aload_n 18 dX2_botherAll_17 rfl rfl ?_
      refine R_get 21 dX2_botherAll_18 rfl fX2_49 rfl (v := .int (m.1 6)) rfl ?_
      refine R_icmp_ge 24 69 dX2_botherAll_21 rfl (by decide) (fun c3 => ?_) (fun c3 => ?_)
      ·
        refine R_aload_n 70 dX2_botherAll_69 rfl rfl ?_
        refine R_iload_n 71 dX2_botherAll_70 rfl rfl ?_
        refine R_iload_n 72 dX2_botherAll_71 rfl rfl ?_
        refine R_callVv 75 eX0_noteOff_28 dX2_botherAll_72 rfl kX0_noteOff lX2_139 rfl rfl rfl rfl rfl rfl rfl ?_
        refine R_return dX2_botherAll_75 rfl ?_
        subst hz1_ hz2_
        have e : zz = ((sX0_noteOff cf (sX0_noteBother cf ca 0 (sX3_botheredBy (m.2 0 0) (m.2 0 1) (m.2 0 2) (m.2 0 3) (m.2 0 4) (m.2 0 5) (if (m.2 0 3) = 0 then (sX2_off (m.1 0) (m.1 1) (m.1 2) (m.1 6) (m.1 7) (m.1 8) 0) else (sX2_off (m.1 0) (m.1 1) (m.1 2) (m.1 6) (m.1 7) (m.1 8) 1)))) (sX2_off (m.1 0) (m.1 1) (m.1 2) (m.1 6) (m.1 7) (m.1 8) 0) (sX2_off (m.1 0) (m.1 1) (m.1 2) (m.1 6) (m.1 7) (m.1 8) 1)), (sX0_noteBother cf ca 0 (sX3_botheredBy (m.2 0 0) (m.2 0 1) (m.2 0 2) (m.2 0 3) (m.2 0 4) (m.2 0 5) (if (m.2 0 3) = 0 then (sX2_off (m.1 0) (m.1 1) (m.1 2) (m.1 6) (m.1 7) (m.1 8) 0) else (sX2_off (m.1 0) (m.1 1) (m.1 2) (m.1 6) (m.1 7) (m.1 8) 1))))) := by rw [← hs]; unfold sX2_botherAll; rw [if_neg c1, if_pos c3]
        rw [pr1 e, pr2 e]; exact ⟨rfl, rfl⟩
      ·
        refine R_iload 26 dX2_botherAll_24 rfl rfl ?_
        refine R_iconst 27 dX2_botherAll_26 rfl (v := 5) (by decide) ?_
        refine R_icmp_ge 30 69 dX2_botherAll_27 rfl (by decide) (fun c => absurd c (by decide)) (fun _ => ?_)
        refine R_aload_n 31 dX2_botherAll_30 rfl rfl ?_
        refine R_get 34 dX2_botherAll_31 rfl fX2_31 rfl (v := .ref 4) rfl ?_
        refine R_iload 36 dX2_botherAll_34 rfl rfl ?_
        refine R_aald 37 dX2_botherAll_36 rfl rfl rfl (vin_d (by decide)) (y := 6) rfl ?_
        refine R_astore 39 dX2_botherAll_37 rfl rfl (by decide) (loc' := [(0, .ref 1), (1, .ref 28), (2, .int z1_), (3, .int z2_), (4, .int 1), (5, .ref 6)]) rfl ?_
        refine R_aload_n 40 dX2_botherAll_39 rfl rfl ?_
        refine R_iload 42 dX2_botherAll_40 rfl rfl ?_
        refine R_aload 44 dX2_botherAll_42 rfl rfl ?_
        refine R_aload 46 dX2_botherAll_44 rfl rfl ?_
        refine R_get 49 dX2_botherAll_46 rfl fX2_110 rfl (v := .int (m.2 1 3)) rfl ?_
        refine R_cut 57 [(0, .ref 1), (1, .ref 28), (2, .int z1_), (3, .int z2_), (4, .int 1), (5, .ref 6)] (.int (if (m.2 1 3) = 0 then z1_ else z2_) :: [.ref 6, .int 1, .ref 28]) (hC G m k i cf (sX0_noteBother cf ca 0 (sX3_botheredBy (m.2 0 0) (m.2 0 1) (m.2 0 2) (m.2 0 3) (m.2 0 4) (m.2 0 5) (if (m.2 0 3) = 0 then z1_ else z2_))), h2) ?_ (fun kj => ?_)
        ·
          refine R_callVi 60 (eX3_botheredBy (pk := m.2 1 0) (pm := m.2 1 1) (pf := m.2 1 2) (ps := m.2 1 3) (ph := m.2 1 4) (pp := m.2 1 5) rfl) dX2_botherAll_57 rfl kX3_botheredBy lX2_133 rfl rfl rfl rfl rfl rfl rfl ?_
          refine R_callVv 63 eX0_noteBother_28 dX2_botherAll_60 rfl kX0_noteBother lX2_136 rfl rfl rfl rfl rfl rfl rfl ?_
          refine R_iinc 66 dX2_botherAll_63 rfl rfl (v := 2) (by decide) rfl (by decide) (loc' := [(0, .ref 1), (1, .ref 28), (2, .int z1_), (3, .int z2_), (4, .int 2), (5, .ref 6)]) rfl ?_
          refine R_goto 15 dX2_botherAll_66 (by decide) ?_
          refine R_iload 17 dX2_botherAll_15 rfl rfl ?_
          refine R_aload_n 18 dX2_botherAll_17 rfl rfl ?_
          refine R_get 21 dX2_botherAll_18 rfl fX2_49 rfl (v := .int (m.1 6)) rfl ?_
          refine R_icmp_ge 24 69 dX2_botherAll_21 rfl (by decide) (fun c5 => ?_) (fun c5 => ?_)
          ·
            refine R_aload_n 70 dX2_botherAll_69 rfl rfl ?_
            refine R_iload_n 71 dX2_botherAll_70 rfl rfl ?_
            refine R_iload_n 72 dX2_botherAll_71 rfl rfl ?_
            refine R_callVv 75 eX0_noteOff_28 dX2_botherAll_72 rfl kX0_noteOff lX2_139 rfl rfl rfl rfl rfl rfl rfl ?_
            refine R_return dX2_botherAll_75 rfl ?_
            subst hz1_ hz2_
            have e : zz = ((sX0_noteOff cf (sX0_noteBother cf (sX0_noteBother cf ca 0 (sX3_botheredBy (m.2 0 0) (m.2 0 1) (m.2 0 2) (m.2 0 3) (m.2 0 4) (m.2 0 5) (if (m.2 0 3) = 0 then (sX2_off (m.1 0) (m.1 1) (m.1 2) (m.1 6) (m.1 7) (m.1 8) 0) else (sX2_off (m.1 0) (m.1 1) (m.1 2) (m.1 6) (m.1 7) (m.1 8) 1)))) 1 (sX3_botheredBy (m.2 1 0) (m.2 1 1) (m.2 1 2) (m.2 1 3) (m.2 1 4) (m.2 1 5) (if (m.2 1 3) = 0 then (sX2_off (m.1 0) (m.1 1) (m.1 2) (m.1 6) (m.1 7) (m.1 8) 0) else (sX2_off (m.1 0) (m.1 1) (m.1 2) (m.1 6) (m.1 7) (m.1 8) 1)))) (sX2_off (m.1 0) (m.1 1) (m.1 2) (m.1 6) (m.1 7) (m.1 8) 0) (sX2_off (m.1 0) (m.1 1) (m.1 2) (m.1 6) (m.1 7) (m.1 8) 1)), (sX0_noteBother cf (sX0_noteBother cf ca 0 (sX3_botheredBy (m.2 0 0) (m.2 0 1) (m.2 0 2) (m.2 0 3) (m.2 0 4) (m.2 0 5) (if (m.2 0 3) = 0 then (sX2_off (m.1 0) (m.1 1) (m.1 2) (m.1 6) (m.1 7) (m.1 8) 0) else (sX2_off (m.1 0) (m.1 1) (m.1 2) (m.1 6) (m.1 7) (m.1 8) 1)))) 1 (sX3_botheredBy (m.2 1 0) (m.2 1 1) (m.2 1 2) (m.2 1 3) (m.2 1 4) (m.2 1 5) (if (m.2 1 3) = 0 then (sX2_off (m.1 0) (m.1 1) (m.1 2) (m.1 6) (m.1 7) (m.1 8) 0) else (sX2_off (m.1 0) (m.1 1) (m.1 2) (m.1 6) (m.1 7) (m.1 8) 1))))) := by rw [← hs]; unfold sX2_botherAll; rw [if_neg c1, if_neg c3, if_pos c5]
            rw [pr1 e, pr2 e]; exact ⟨rfl, rfl⟩
          ·
            refine R_iload 26 dX2_botherAll_24 rfl rfl ?_
            refine R_iconst 27 dX2_botherAll_26 rfl (v := 5) (by decide) ?_
            refine R_icmp_ge 30 69 dX2_botherAll_27 rfl (by decide) (fun c => absurd c (by decide)) (fun _ => ?_)
            refine R_aload_n 31 dX2_botherAll_30 rfl rfl ?_
            refine R_get 34 dX2_botherAll_31 rfl fX2_31 rfl (v := .ref 4) rfl ?_
            refine R_iload 36 dX2_botherAll_34 rfl rfl ?_
            refine R_aald 37 dX2_botherAll_36 rfl rfl rfl (vin_d (by decide)) (y := 7) rfl ?_
            refine R_astore 39 dX2_botherAll_37 rfl rfl (by decide) (loc' := [(0, .ref 1), (1, .ref 28), (2, .int z1_), (3, .int z2_), (4, .int 2), (5, .ref 7)]) rfl ?_
            refine R_aload_n 40 dX2_botherAll_39 rfl rfl ?_
            refine R_iload 42 dX2_botherAll_40 rfl rfl ?_
            refine R_aload 44 dX2_botherAll_42 rfl rfl ?_
            refine R_aload 46 dX2_botherAll_44 rfl rfl ?_
            refine R_get 49 dX2_botherAll_46 rfl fX2_110 rfl (v := .int (m.2 2 3)) rfl ?_
            refine R_cut 57 [(0, .ref 1), (1, .ref 28), (2, .int z1_), (3, .int z2_), (4, .int 2), (5, .ref 7)] (.int (if (m.2 2 3) = 0 then z1_ else z2_) :: [.ref 7, .int 2, .ref 28]) (hC G m k i cf (sX0_noteBother cf (sX0_noteBother cf ca 0 (sX3_botheredBy (m.2 0 0) (m.2 0 1) (m.2 0 2) (m.2 0 3) (m.2 0 4) (m.2 0 5) (if (m.2 0 3) = 0 then z1_ else z2_))) 1 (sX3_botheredBy (m.2 1 0) (m.2 1 1) (m.2 1 2) (m.2 1 3) (m.2 1 4) (m.2 1 5) (if (m.2 1 3) = 0 then z1_ else z2_))), h2) ?_ (fun kj => ?_)
            ·
              refine R_callVi 60 (eX3_botheredBy (pk := m.2 2 0) (pm := m.2 2 1) (pf := m.2 2 2) (ps := m.2 2 3) (ph := m.2 2 4) (pp := m.2 2 5) rfl) dX2_botherAll_57 rfl kX3_botheredBy lX2_133 rfl rfl rfl rfl rfl rfl rfl ?_
              refine R_callVv 63 eX0_noteBother_28 dX2_botherAll_60 rfl kX0_noteBother lX2_136 rfl rfl rfl rfl rfl rfl rfl ?_
              refine R_iinc 66 dX2_botherAll_63 rfl rfl (v := 3) (by decide) rfl (by decide) (loc' := [(0, .ref 1), (1, .ref 28), (2, .int z1_), (3, .int z2_), (4, .int 3), (5, .ref 7)]) rfl ?_
              refine R_goto 15 dX2_botherAll_66 (by decide) ?_
              refine R_iload 17 dX2_botherAll_15 rfl rfl ?_
              refine R_aload_n 18 dX2_botherAll_17 rfl rfl ?_
              refine R_get 21 dX2_botherAll_18 rfl fX2_49 rfl (v := .int (m.1 6)) rfl ?_
              refine R_icmp_ge 24 69 dX2_botherAll_21 rfl (by decide) (fun c7 => ?_) (fun c7 => ?_)
              ·
                refine R_aload_n 70 dX2_botherAll_69 rfl rfl ?_
                refine R_iload_n 71 dX2_botherAll_70 rfl rfl ?_
                refine R_iload_n 72 dX2_botherAll_71 rfl rfl ?_
                refine R_callVv 75 eX0_noteOff_28 dX2_botherAll_72 rfl kX0_noteOff lX2_139 rfl rfl rfl rfl rfl rfl rfl ?_
                refine R_return dX2_botherAll_75 rfl ?_
                subst hz1_ hz2_
                have e : zz = ((sX0_noteOff cf (sX0_noteBother cf (sX0_noteBother cf (sX0_noteBother cf ca 0 (sX3_botheredBy (m.2 0 0) (m.2 0 1) (m.2 0 2) (m.2 0 3) (m.2 0 4) (m.2 0 5) (if (m.2 0 3) = 0 then (sX2_off (m.1 0) (m.1 1) (m.1 2) (m.1 6) (m.1 7) (m.1 8) 0) else (sX2_off (m.1 0) (m.1 1) (m.1 2) (m.1 6) (m.1 7) (m.1 8) 1)))) 1 (sX3_botheredBy (m.2 1 0) (m.2 1 1) (m.2 1 2) (m.2 1 3) (m.2 1 4) (m.2 1 5) (if (m.2 1 3) = 0 then (sX2_off (m.1 0) (m.1 1) (m.1 2) (m.1 6) (m.1 7) (m.1 8) 0) else (sX2_off (m.1 0) (m.1 1) (m.1 2) (m.1 6) (m.1 7) (m.1 8) 1)))) 2 (sX3_botheredBy (m.2 2 0) (m.2 2 1) (m.2 2 2) (m.2 2 3) (m.2 2 4) (m.2 2 5) (if (m.2 2 3) = 0 then (sX2_off (m.1 0) (m.1 1) (m.1 2) (m.1 6) (m.1 7) (m.1 8) 0) else (sX2_off (m.1 0) (m.1 1) (m.1 2) (m.1 6) (m.1 7) (m.1 8) 1)))) (sX2_off (m.1 0) (m.1 1) (m.1 2) (m.1 6) (m.1 7) (m.1 8) 0) (sX2_off (m.1 0) (m.1 1) (m.1 2) (m.1 6) (m.1 7) (m.1 8) 1)), (sX0_noteBother cf (sX0_noteBother cf (sX0_noteBother cf ca 0 (sX3_botheredBy (m.2 0 0) (m.2 0 1) (m.2 0 2) (m.2 0 3) (m.2 0 4) (m.2 0 5) (if (m.2 0 3) = 0 then (sX2_off (m.1 0) (m.1 1) (m.1 2) (m.1 6) (m.1 7) (m.1 8) 0) else (sX2_off (m.1 0) (m.1 1) (m.1 2) (m.1 6) (m.1 7) (m.1 8) 1)))) 1 (sX3_botheredBy (m.2 1 0) (m.2 1 1) (m.2 1 2) (m.2 1 3) (m.2 1 4) (m.2 1 5) (if (m.2 1 3) = 0 then (sX2_off (m.1 0) (m.1 1) (m.1 2) (m.1 6) (m.1 7) (m.1 8) 0) else (sX2_off (m.1 0) (m.1 1) (m.1 2) (m.1 6) (m.1 7) (m.1 8) 1)))) 2 (sX3_botheredBy (m.2 2 0) (m.2 2 1) (m.2 2 2) (m.2 2 3) (m.2 2 4) (m.2 2 5) (if (m.2 2 3) = 0 then (sX2_off (m.1 0) (m.1 1) (m.1 2) (m.1 6) (m.1 7) (m.1 8) 0) else (sX2_off (m.1 0) (m.1 1) (m.1 2) (m.1 6) (m.1 7) (m.1 8) 1))))) := by rw [← hs]; unfold sX2_botherAll; rw [if_neg c1, if_neg c3, if_neg c5, if_pos c7]
                rw [pr1 e, pr2 e]; exact ⟨rfl, rfl⟩
              ·
                refine R_iload 26 dX2_botherAll_24 rfl rfl ?_
                refine R_iconst 27 dX2_botherAll_26 rfl (v := 5) (by decide) ?_
                refine R_icmp_ge 30 69 dX2_botherAll_27 rfl (by decide) (fun c => absurd c (by decide)) (fun _ => ?_)
                refine R_aload_n 31 dX2_botherAll_30 rfl rfl ?_
                refine R_get 34 dX2_botherAll_31 rfl fX2_31 rfl (v := .ref 4) rfl ?_
                refine R_iload 36 dX2_botherAll_34 rfl rfl ?_
                refine R_aald 37 dX2_botherAll_36 rfl rfl rfl (vin_d (by decide)) (y := 8) rfl ?_
                refine R_astore 39 dX2_botherAll_37 rfl rfl (by decide) (loc' := [(0, .ref 1), (1, .ref 28), (2, .int z1_), (3, .int z2_), (4, .int 3), (5, .ref 8)]) rfl ?_
                refine R_aload_n 40 dX2_botherAll_39 rfl rfl ?_
                refine R_iload 42 dX2_botherAll_40 rfl rfl ?_
                refine R_aload 44 dX2_botherAll_42 rfl rfl ?_
                refine R_aload 46 dX2_botherAll_44 rfl rfl ?_
                refine R_get 49 dX2_botherAll_46 rfl fX2_110 rfl (v := .int (m.2 3 3)) rfl ?_
                refine R_cut 57 [(0, .ref 1), (1, .ref 28), (2, .int z1_), (3, .int z2_), (4, .int 3), (5, .ref 8)] (.int (if (m.2 3 3) = 0 then z1_ else z2_) :: [.ref 8, .int 3, .ref 28]) (hC G m k i cf (sX0_noteBother cf (sX0_noteBother cf (sX0_noteBother cf ca 0 (sX3_botheredBy (m.2 0 0) (m.2 0 1) (m.2 0 2) (m.2 0 3) (m.2 0 4) (m.2 0 5) (if (m.2 0 3) = 0 then z1_ else z2_))) 1 (sX3_botheredBy (m.2 1 0) (m.2 1 1) (m.2 1 2) (m.2 1 3) (m.2 1 4) (m.2 1 5) (if (m.2 1 3) = 0 then z1_ else z2_))) 2 (sX3_botheredBy (m.2 2 0) (m.2 2 1) (m.2 2 2) (m.2 2 3) (m.2 2 4) (m.2 2 5) (if (m.2 2 3) = 0 then z1_ else z2_))), h2) ?_ (fun kj => ?_)
                ·
                  refine R_callVi 60 (eX3_botheredBy (pk := m.2 3 0) (pm := m.2 3 1) (pf := m.2 3 2) (ps := m.2 3 3) (ph := m.2 3 4) (pp := m.2 3 5) rfl) dX2_botherAll_57 rfl kX3_botheredBy lX2_133 rfl rfl rfl rfl rfl rfl rfl ?_
                  refine R_callVv 63 eX0_noteBother_28 dX2_botherAll_60 rfl kX0_noteBother lX2_136 rfl rfl rfl rfl rfl rfl rfl ?_
                  refine R_iinc 66 dX2_botherAll_63 rfl rfl (v := 4) (by decide) rfl (by decide) (loc' := [(0, .ref 1), (1, .ref 28), (2, .int z1_), (3, .int z2_), (4, .int 4), (5, .ref 8)]) rfl ?_
                  refine R_goto 15 dX2_botherAll_66 (by decide) ?_
                  refine R_iload 17 dX2_botherAll_15 rfl rfl ?_
                  refine R_aload_n 18 dX2_botherAll_17 rfl rfl ?_
                  refine R_get 21 dX2_botherAll_18 rfl fX2_49 rfl (v := .int (m.1 6)) rfl ?_
                  refine R_icmp_ge 24 69 dX2_botherAll_21 rfl (by decide) (fun c9 => ?_) (fun c9 => ?_)
                  ·
                    refine R_aload_n 70 dX2_botherAll_69 rfl rfl ?_
                    refine R_iload_n 71 dX2_botherAll_70 rfl rfl ?_
                    refine R_iload_n 72 dX2_botherAll_71 rfl rfl ?_
                    refine R_callVv 75 eX0_noteOff_28 dX2_botherAll_72 rfl kX0_noteOff lX2_139 rfl rfl rfl rfl rfl rfl rfl ?_
                    refine R_return dX2_botherAll_75 rfl ?_
                    subst hz1_ hz2_
                    have e : zz = ((sX0_noteOff cf (sX0_noteBother cf (sX0_noteBother cf (sX0_noteBother cf (sX0_noteBother cf ca 0 (sX3_botheredBy (m.2 0 0) (m.2 0 1) (m.2 0 2) (m.2 0 3) (m.2 0 4) (m.2 0 5) (if (m.2 0 3) = 0 then (sX2_off (m.1 0) (m.1 1) (m.1 2) (m.1 6) (m.1 7) (m.1 8) 0) else (sX2_off (m.1 0) (m.1 1) (m.1 2) (m.1 6) (m.1 7) (m.1 8) 1)))) 1 (sX3_botheredBy (m.2 1 0) (m.2 1 1) (m.2 1 2) (m.2 1 3) (m.2 1 4) (m.2 1 5) (if (m.2 1 3) = 0 then (sX2_off (m.1 0) (m.1 1) (m.1 2) (m.1 6) (m.1 7) (m.1 8) 0) else (sX2_off (m.1 0) (m.1 1) (m.1 2) (m.1 6) (m.1 7) (m.1 8) 1)))) 2 (sX3_botheredBy (m.2 2 0) (m.2 2 1) (m.2 2 2) (m.2 2 3) (m.2 2 4) (m.2 2 5) (if (m.2 2 3) = 0 then (sX2_off (m.1 0) (m.1 1) (m.1 2) (m.1 6) (m.1 7) (m.1 8) 0) else (sX2_off (m.1 0) (m.1 1) (m.1 2) (m.1 6) (m.1 7) (m.1 8) 1)))) 3 (sX3_botheredBy (m.2 3 0) (m.2 3 1) (m.2 3 2) (m.2 3 3) (m.2 3 4) (m.2 3 5) (if (m.2 3 3) = 0 then (sX2_off (m.1 0) (m.1 1) (m.1 2) (m.1 6) (m.1 7) (m.1 8) 0) else (sX2_off (m.1 0) (m.1 1) (m.1 2) (m.1 6) (m.1 7) (m.1 8) 1)))) (sX2_off (m.1 0) (m.1 1) (m.1 2) (m.1 6) (m.1 7) (m.1 8) 0) (sX2_off (m.1 0) (m.1 1) (m.1 2) (m.1 6) (m.1 7) (m.1 8) 1)), (sX0_noteBother cf (sX0_noteBother cf (sX0_noteBother cf (sX0_noteBother cf ca 0 (sX3_botheredBy (m.2 0 0) (m.2 0 1) (m.2 0 2) (m.2 0 3) (m.2 0 4) (m.2 0 5) (if (m.2 0 3) = 0 then (sX2_off (m.1 0) (m.1 1) (m.1 2) (m.1 6) (m.1 7) (m.1 8) 0) else (sX2_off (m.1 0) (m.1 1) (m.1 2) (m.1 6) (m.1 7) (m.1 8) 1)))) 1 (sX3_botheredBy (m.2 1 0) (m.2 1 1) (m.2 1 2) (m.2 1 3) (m.2 1 4) (m.2 1 5) (if (m.2 1 3) = 0 then (sX2_off (m.1 0) (m.1 1) (m.1 2) (m.1 6) (m.1 7) (m.1 8) 0) else (sX2_off (m.1 0) (m.1 1) (m.1 2) (m.1 6) (m.1 7) (m.1 8) 1)))) 2 (sX3_botheredBy (m.2 2 0) (m.2 2 1) (m.2 2 2) (m.2 2 3) (m.2 2 4) (m.2 2 5) (if (m.2 2 3) = 0 then (sX2_off (m.1 0) (m.1 1) (m.1 2) (m.1 6) (m.1 7) (m.1 8) 0) else (sX2_off (m.1 0) (m.1 1) (m.1 2) (m.1 6) (m.1 7) (m.1 8) 1)))) 3 (sX3_botheredBy (m.2 3 0) (m.2 3 1) (m.2 3 2) (m.2 3 3) (m.2 3 4) (m.2 3 5) (if (m.2 3 3) = 0 then (sX2_off (m.1 0) (m.1 1) (m.1 2) (m.1 6) (m.1 7) (m.1 8) 0) else (sX2_off (m.1 0) (m.1 1) (m.1 2) (m.1 6) (m.1 7) (m.1 8) 1))))) := by rw [← hs]; unfold sX2_botherAll; rw [if_neg c1, if_neg c3, if_neg c5, if_neg c7, if_pos c9]
                    rw [pr1 e, pr2 e]; exact ⟨rfl, rfl⟩
                  ·
                    refine R_iload 26 dX2_botherAll_24 rfl rfl ?_
                    refine R_iconst 27 dX2_botherAll_26 rfl (v := 5) (by decide) ?_
                    refine R_icmp_ge 30 69 dX2_botherAll_27 rfl (by decide) (fun c => absurd c (by decide)) (fun _ => ?_)
                    refine R_aload_n 31 dX2_botherAll_30 rfl rfl ?_
                    refine R_get 34 dX2_botherAll_31 rfl fX2_31 rfl (v := .ref 4) rfl ?_
                    refine R_iload 36 dX2_botherAll_34 rfl rfl ?_
                    refine R_aald 37 dX2_botherAll_36 rfl rfl rfl (vin_d (by decide)) (y := 9) rfl ?_
                    refine R_astore 39 dX2_botherAll_37 rfl rfl (by decide) (loc' := [(0, .ref 1), (1, .ref 28), (2, .int z1_), (3, .int z2_), (4, .int 4), (5, .ref 9)]) rfl ?_
                    refine R_aload_n 40 dX2_botherAll_39 rfl rfl ?_
                    refine R_iload 42 dX2_botherAll_40 rfl rfl ?_
                    refine R_aload 44 dX2_botherAll_42 rfl rfl ?_
                    refine R_aload 46 dX2_botherAll_44 rfl rfl ?_
                    refine R_get 49 dX2_botherAll_46 rfl fX2_110 rfl (v := .int (m.2 4 3)) rfl ?_
                    refine R_cut 57 [(0, .ref 1), (1, .ref 28), (2, .int z1_), (3, .int z2_), (4, .int 4), (5, .ref 9)] (.int (if (m.2 4 3) = 0 then z1_ else z2_) :: [.ref 9, .int 4, .ref 28]) (hC G m k i cf (sX0_noteBother cf (sX0_noteBother cf (sX0_noteBother cf (sX0_noteBother cf ca 0 (sX3_botheredBy (m.2 0 0) (m.2 0 1) (m.2 0 2) (m.2 0 3) (m.2 0 4) (m.2 0 5) (if (m.2 0 3) = 0 then z1_ else z2_))) 1 (sX3_botheredBy (m.2 1 0) (m.2 1 1) (m.2 1 2) (m.2 1 3) (m.2 1 4) (m.2 1 5) (if (m.2 1 3) = 0 then z1_ else z2_))) 2 (sX3_botheredBy (m.2 2 0) (m.2 2 1) (m.2 2 2) (m.2 2 3) (m.2 2 4) (m.2 2 5) (if (m.2 2 3) = 0 then z1_ else z2_))) 3 (sX3_botheredBy (m.2 3 0) (m.2 3 1) (m.2 3 2) (m.2 3 3) (m.2 3 4) (m.2 3 5) (if (m.2 3 3) = 0 then z1_ else z2_))), h2) ?_ (fun kj => ?_)
                    ·
                      refine R_callVi 60 (eX3_botheredBy (pk := m.2 4 0) (pm := m.2 4 1) (pf := m.2 4 2) (ps := m.2 4 3) (ph := m.2 4 4) (pp := m.2 4 5) rfl) dX2_botherAll_57 rfl kX3_botheredBy lX2_133 rfl rfl rfl rfl rfl rfl rfl ?_
                      refine R_callVv 63 eX0_noteBother_28 dX2_botherAll_60 rfl kX0_noteBother lX2_136 rfl rfl rfl rfl rfl rfl rfl ?_
                      refine R_iinc 66 dX2_botherAll_63 rfl rfl (v := 5) (by decide) rfl (by decide) (loc' := [(0, .ref 1), (1, .ref 28), (2, .int z1_), (3, .int z2_), (4, .int 5), (5, .ref 9)]) rfl ?_
                      refine R_goto 15 dX2_botherAll_66 (by decide) ?_
                      refine R_iload 17 dX2_botherAll_15 rfl rfl ?_
                      refine R_aload_n 18 dX2_botherAll_17 rfl rfl ?_
                      refine R_get 21 dX2_botherAll_18 rfl fX2_49 rfl (v := .int (m.1 6)) rfl ?_
                      refine R_icmp_ge 24 69 dX2_botherAll_21 rfl (by decide) (fun c11 => ?_) (fun c11 => ?_)
                      ·
                        refine R_aload_n 70 dX2_botherAll_69 rfl rfl ?_
                        refine R_iload_n 71 dX2_botherAll_70 rfl rfl ?_
                        refine R_iload_n 72 dX2_botherAll_71 rfl rfl ?_
                        refine R_callVv 75 eX0_noteOff_28 dX2_botherAll_72 rfl kX0_noteOff lX2_139 rfl rfl rfl rfl rfl rfl rfl ?_
                        refine R_return dX2_botherAll_75 rfl ?_
                        subst hz1_ hz2_
                        have e : zz = ((sX0_noteOff cf (sX0_noteBother cf (sX0_noteBother cf (sX0_noteBother cf (sX0_noteBother cf (sX0_noteBother cf ca 0 (sX3_botheredBy (m.2 0 0) (m.2 0 1) (m.2 0 2) (m.2 0 3) (m.2 0 4) (m.2 0 5) (if (m.2 0 3) = 0 then (sX2_off (m.1 0) (m.1 1) (m.1 2) (m.1 6) (m.1 7) (m.1 8) 0) else (sX2_off (m.1 0) (m.1 1) (m.1 2) (m.1 6) (m.1 7) (m.1 8) 1)))) 1 (sX3_botheredBy (m.2 1 0) (m.2 1 1) (m.2 1 2) (m.2 1 3) (m.2 1 4) (m.2 1 5) (if (m.2 1 3) = 0 then (sX2_off (m.1 0) (m.1 1) (m.1 2) (m.1 6) (m.1 7) (m.1 8) 0) else (sX2_off (m.1 0) (m.1 1) (m.1 2) (m.1 6) (m.1 7) (m.1 8) 1)))) 2 (sX3_botheredBy (m.2 2 0) (m.2 2 1) (m.2 2 2) (m.2 2 3) (m.2 2 4) (m.2 2 5) (if (m.2 2 3) = 0 then (sX2_off (m.1 0) (m.1 1) (m.1 2) (m.1 6) (m.1 7) (m.1 8) 0) else (sX2_off (m.1 0) (m.1 1) (m.1 2) (m.1 6) (m.1 7) (m.1 8) 1)))) 3 (sX3_botheredBy (m.2 3 0) (m.2 3 1) (m.2 3 2) (m.2 3 3) (m.2 3 4) (m.2 3 5) (if (m.2 3 3) = 0 then (sX2_off (m.1 0) (m.1 1) (m.1 2) (m.1 6) (m.1 7) (m.1 8) 0) else (sX2_off (m.1 0) (m.1 1) (m.1 2) (m.1 6) (m.1 7) (m.1 8) 1)))) 4 (sX3_botheredBy (m.2 4 0) (m.2 4 1) (m.2 4 2) (m.2 4 3) (m.2 4 4) (m.2 4 5) (if (m.2 4 3) = 0 then (sX2_off (m.1 0) (m.1 1) (m.1 2) (m.1 6) (m.1 7) (m.1 8) 0) else (sX2_off (m.1 0) (m.1 1) (m.1 2) (m.1 6) (m.1 7) (m.1 8) 1)))) (sX2_off (m.1 0) (m.1 1) (m.1 2) (m.1 6) (m.1 7) (m.1 8) 0) (sX2_off (m.1 0) (m.1 1) (m.1 2) (m.1 6) (m.1 7) (m.1 8) 1)), (sX0_noteBother cf (sX0_noteBother cf (sX0_noteBother cf (sX0_noteBother cf (sX0_noteBother cf ca 0 (sX3_botheredBy (m.2 0 0) (m.2 0 1) (m.2 0 2) (m.2 0 3) (m.2 0 4) (m.2 0 5) (if (m.2 0 3) = 0 then (sX2_off (m.1 0) (m.1 1) (m.1 2) (m.1 6) (m.1 7) (m.1 8) 0) else (sX2_off (m.1 0) (m.1 1) (m.1 2) (m.1 6) (m.1 7) (m.1 8) 1)))) 1 (sX3_botheredBy (m.2 1 0) (m.2 1 1) (m.2 1 2) (m.2 1 3) (m.2 1 4) (m.2 1 5) (if (m.2 1 3) = 0 then (sX2_off (m.1 0) (m.1 1) (m.1 2) (m.1 6) (m.1 7) (m.1 8) 0) else (sX2_off (m.1 0) (m.1 1) (m.1 2) (m.1 6) (m.1 7) (m.1 8) 1)))) 2 (sX3_botheredBy (m.2 2 0) (m.2 2 1) (m.2 2 2) (m.2 2 3) (m.2 2 4) (m.2 2 5) (if (m.2 2 3) = 0 then (sX2_off (m.1 0) (m.1 1) (m.1 2) (m.1 6) (m.1 7) (m.1 8) 0) else (sX2_off (m.1 0) (m.1 1) (m.1 2) (m.1 6) (m.1 7) (m.1 8) 1)))) 3 (sX3_botheredBy (m.2 3 0) (m.2 3 1) (m.2 3 2) (m.2 3 3) (m.2 3 4) (m.2 3 5) (if (m.2 3 3) = 0 then (sX2_off (m.1 0) (m.1 1) (m.1 2) (m.1 6) (m.1 7) (m.1 8) 0) else (sX2_off (m.1 0) (m.1 1) (m.1 2) (m.1 6) (m.1 7) (m.1 8) 1)))) 4 (sX3_botheredBy (m.2 4 0) (m.2 4 1) (m.2 4 2) (m.2 4 3) (m.2 4 4) (m.2 4 5) (if (m.2 4 3) = 0 then (sX2_off (m.1 0) (m.1 1) (m.1 2) (m.1 6) (m.1 7) (m.1 8) 0) else (sX2_off (m.1 0) (m.1 1) (m.1 2) (m.1 6) (m.1 7) (m.1 8) 1))))) := by rw [← hs]; unfold sX2_botherAll; rw [if_neg c1, if_neg c3, if_neg c5, if_neg c7, if_neg c9, if_pos c11]
                        rw [pr1 e, pr2 e]; exact ⟨rfl, rfl⟩
                      ·
                        refine R_iload 26 dX2_botherAll_24 rfl rfl ?_
                        refine R_iconst 27 dX2_botherAll_26 rfl (v := 5) (by decide) ?_
                        refine R_icmp_ge 30 69 dX2_botherAll_27 rfl (by decide) (fun _ => ?_) (fun c => absurd c (by decide))
                        refine R_aload_n 70 dX2_botherAll_69 rfl rfl ?_
                        refine R_iload_n 71 dX2_botherAll_70 rfl rfl ?_
                        refine R_iload_n 72 dX2_botherAll_71 rfl rfl ?_
                        refine R_callVv 75 eX0_noteOff_28 dX2_botherAll_72 rfl kX0_noteOff lX2_139 rfl rfl rfl rfl rfl rfl rfl ?_
                        refine R_return dX2_botherAll_75 rfl ?_
                        subst hz1_ hz2_
                        have e : zz = ((sX0_noteOff cf (sX0_noteBother cf (sX0_noteBother cf (sX0_noteBother cf (sX0_noteBother cf (sX0_noteBother cf ca 0 (sX3_botheredBy (m.2 0 0) (m.2 0 1) (m.2 0 2) (m.2 0 3) (m.2 0 4) (m.2 0 5) (if (m.2 0 3) = 0 then (sX2_off (m.1 0) (m.1 1) (m.1 2) (m.1 6) (m.1 7) (m.1 8) 0) else (sX2_off (m.1 0) (m.1 1) (m.1 2) (m.1 6) (m.1 7) (m.1 8) 1)))) 1 (sX3_botheredBy (m.2 1 0) (m.2 1 1) (m.2 1 2) (m.2 1 3) (m.2 1 4) (m.2 1 5) (if (m.2 1 3) = 0 then (sX2_off (m.1 0) (m.1 1) (m.1 2) (m.1 6) (m.1 7) (m.1 8) 0) else (sX2_off (m.1 0) (m.1 1) (m.1 2) (m.1 6) (m.1 7) (m.1 8) 1)))) 2 (sX3_botheredBy (m.2 2 0) (m.2 2 1) (m.2 2 2) (m.2 2 3) (m.2 2 4) (m.2 2 5) (if (m.2 2 3) = 0 then (sX2_off (m.1 0) (m.1 1) (m.1 2) (m.1 6) (m.1 7) (m.1 8) 0) else (sX2_off (m.1 0) (m.1 1) (m.1 2) (m.1 6) (m.1 7) (m.1 8) 1)))) 3 (sX3_botheredBy (m.2 3 0) (m.2 3 1) (m.2 3 2) (m.2 3 3) (m.2 3 4) (m.2 3 5) (if (m.2 3 3) = 0 then (sX2_off (m.1 0) (m.1 1) (m.1 2) (m.1 6) (m.1 7) (m.1 8) 0) else (sX2_off (m.1 0) (m.1 1) (m.1 2) (m.1 6) (m.1 7) (m.1 8) 1)))) 4 (sX3_botheredBy (m.2 4 0) (m.2 4 1) (m.2 4 2) (m.2 4 3) (m.2 4 4) (m.2 4 5) (if (m.2 4 3) = 0 then (sX2_off (m.1 0) (m.1 1) (m.1 2) (m.1 6) (m.1 7) (m.1 8) 0) else (sX2_off (m.1 0) (m.1 1) (m.1 2) (m.1 6) (m.1 7) (m.1 8) 1)))) (sX2_off (m.1 0) (m.1 1) (m.1 2) (m.1 6) (m.1 7) (m.1 8) 0) (sX2_off (m.1 0) (m.1 1) (m.1 2) (m.1 6) (m.1 7) (m.1 8) 1)), (sX0_noteBother cf (sX0_noteBother cf (sX0_noteBother cf (sX0_noteBother cf (sX0_noteBother cf ca 0 (sX3_botheredBy (m.2 0 0) (m.2 0 1) (m.2 0 2) (m.2 0 3) (m.2 0 4) (m.2 0 5) (if (m.2 0 3) = 0 then (sX2_off (m.1 0) (m.1 1) (m.1 2) (m.1 6) (m.1 7) (m.1 8) 0) else (sX2_off (m.1 0) (m.1 1) (m.1 2) (m.1 6) (m.1 7) (m.1 8) 1)))) 1 (sX3_botheredBy (m.2 1 0) (m.2 1 1) (m.2 1 2) (m.2 1 3) (m.2 1 4) (m.2 1 5) (if (m.2 1 3) = 0 then (sX2_off (m.1 0) (m.1 1) (m.1 2) (m.1 6) (m.1 7) (m.1 8) 0) else (sX2_off (m.1 0) (m.1 1) (m.1 2) (m.1 6) (m.1 7) (m.1 8) 1)))) 2 (sX3_botheredBy (m.2 2 0) (m.2 2 1) (m.2 2 2) (m.2 2 3) (m.2 2 4) (m.2 2 5) (if (m.2 2 3) = 0 then (sX2_off (m.1 0) (m.1 1) (m.1 2) (m.1 6) (m.1 7) (m.1 8) 0) else (sX2_off (m.1 0) (m.1 1) (m.1 2) (m.1 6) (m.1 7) (m.1 8) 1)))) 3 (sX3_botheredBy (m.2 3 0) (m.2 3 1) (m.2 3 2) (m.2 3 3) (m.2 3 4) (m.2 3 5) (if (m.2 3 3) = 0 then (sX2_off (m.1 0) (m.1 1) (m.1 2) (m.1 6) (m.1 7) (m.1 8) 0) else (sX2_off (m.1 0) (m.1 1) (m.1 2) (m.1 6) (m.1 7) (m.1 8) 1)))) 4 (sX3_botheredBy (m.2 4 0) (m.2 4 1) (m.2 4 2) (m.2 4 3) (m.2 4 4) (m.2 4 5) (if (m.2 4 3) = 0 then (sX2_off (m.1 0) (m.1 1) (m.1 2) (m.1 6) (m.1 7) (m.1 8) 0) else (sX2_off (m.1 0) (m.1 1) (m.1 2) (m.1 6) (m.1 7) (m.1 8) 1))))) := by rw [← hs]; unfold sX2_botherAll; rw [if_neg c1, if_neg c3, if_neg c5, if_neg c7, if_neg c9, if_neg c11]
                        rw [pr1 e, pr2 e]; exact ⟨rfl, rfl⟩
                    refine R_if_ne 52 56 dX2_botherAll_49 rfl (by decide) (fun c10 => ?_) (fun c10 => ?_)
                    · refine R_iload_n 57 dX2_botherAll_56 rfl rfl ?_
                      rw [if_neg c10] at kj; exact kj
                    · refine R_iload_n 53 dX2_botherAll_52 rfl rfl ?_
                      refine R_goto 57 dX2_botherAll_53 (by decide) ?_
                      rw [if_pos c10] at kj; exact kj
                refine R_if_ne 52 56 dX2_botherAll_49 rfl (by decide) (fun c8 => ?_) (fun c8 => ?_)
                · refine R_iload_n 57 dX2_botherAll_56 rfl rfl ?_
                  rw [if_neg c8] at kj; exact kj
                · refine R_iload_n 53 dX2_botherAll_52 rfl rfl ?_
                  refine R_goto 57 dX2_botherAll_53 (by decide) ?_
                  rw [if_pos c8] at kj; exact kj
            refine R_if_ne 52 56 dX2_botherAll_49 rfl (by decide) (fun c6 => ?_) (fun c6 => ?_)
            · refine R_iload_n 57 dX2_botherAll_56 rfl rfl ?_
              rw [if_neg c6] at kj; exact kj
            · refine R_iload_n 53 dX2_botherAll_52 rfl rfl ?_
              refine R_goto 57 dX2_botherAll_53 (by decide) ?_
              rw [if_pos c6] at kj; exact kj
        refine R_if_ne 52 56 dX2_botherAll_49 rfl (by decide) (fun c4 => ?_) (fun c4 => ?_)
        · refine R_iload_n 57 dX2_botherAll_56 rfl rfl ?_
          rw [if_neg c4] at kj; exact kj
        · refine R_iload_n 53 dX2_botherAll_52 rfl rfl ?_
          refine R_goto 57 dX2_botherAll_53 (by decide) ?_
          rw [if_pos c4] at kj; exact kj
    refine R_if_ne 52 56 dX2_botherAll_49 rfl (by decide) (fun c2 => ?_) (fun c2 => ?_)
    · refine R_iload_n 57 dX2_botherAll_56 rfl rfl ?_
      rw [if_neg c2] at kj; exact kj
    · refine R_iload_n 53 dX2_botherAll_52 rfl rfl ?_
      refine R_goto 57 dX2_botherAll_53 (by decide) ?_
      rw [if_pos c2] at kj; exact kj
set_option maxRecDepth 20000 in
theorem eX2_told_10 {G : zG} {h2 : List va_E} {n m i : zP} {cf : Nat → Int32} {ca : Nat → Nat → Int32} {w : Int32} : EvF G mX2_told [.ref 10, .int w] (hC G n m i cf ca, h2) (some (.int (sX2_told m w))) (hC G n m i cf ca, h2) := by
  generalize hs : (sX2_told m w) = zz
  refine EvF.of pnX2 rfl ?_
  refine R_iload_n 1 dX2_told_0 rfl rfl ?_
  by_cases c1 : w = 0
  ·
    refine R_tableAt 48 (off := 47) 0 c1 dX2_told_1 (by decide) (by decide) ?_
    refine R_aload_n 49 dX2_told_48 rfl rfl ?_
    refine R_get 52 dX2_told_49 rfl fX2_36 rfl (v := .int (m.1 0)) rfl ?_
    refine R_ireturn dX2_told_52 rfl rfl ?_
    have e : zz = m.1 0 := by rw [← hs]; unfold sX2_told; rw [if_pos c1]
    subst e; exact ⟨rfl, rfl⟩
  by_cases c2 : w = 1
  ·
    refine R_tableAt 53 (off := 52) 1 c2 dX2_told_1 (by decide) (by decide) ?_
    refine R_aload_n 54 dX2_told_53 rfl rfl ?_
    refine R_get 57 dX2_told_54 rfl fX2_39 rfl (v := .int (m.1 1)) rfl ?_
    refine R_ireturn dX2_told_57 rfl rfl ?_
    have e : zz = m.1 1 := by rw [← hs]; unfold sX2_told; rw [if_neg c1, if_pos c2]
    subst e; exact ⟨rfl, rfl⟩
  by_cases c3 : w = 2
  ·
    refine R_tableAt 58 (off := 57) 2 c3 dX2_told_1 (by decide) (by decide) ?_
    refine R_aload_n 59 dX2_told_58 rfl rfl ?_
    refine R_get 62 dX2_told_59 rfl fX2_9 rfl (v := .int (m.1 2)) rfl ?_
    refine R_ireturn dX2_told_62 rfl rfl ?_
    have e : zz = m.1 2 := by rw [← hs]; unfold sX2_told; rw [if_neg c1, if_neg c2, if_pos c3]
    subst e; exact ⟨rfl, rfl⟩
  by_cases c4 : w = 3
  ·
    refine R_tableAt 63 (off := 62) 3 c4 dX2_told_1 (by decide) (by decide) ?_
    refine R_aload_n 64 dX2_told_63 rfl rfl ?_
    refine R_get 67 dX2_told_64 rfl fX2_18 rfl (v := .ref 11) rfl ?_
    refine R_get 70 dX2_told_67 rfl fX2_61 rfl (v := .int (m.1 10)) rfl ?_
    refine R_ireturn dX2_told_70 rfl rfl ?_
    have e : zz = m.1 10 := by rw [← hs]; unfold sX2_told; rw [if_neg c1, if_neg c2, if_neg c3, if_pos c4]
    subst e; exact ⟨rfl, rfl⟩
  by_cases c5 : w = 4
  ·
    refine R_tableAt 71 (off := 70) 4 c5 dX2_told_1 (by decide) (by decide) ?_
    refine R_aload_n 72 dX2_told_71 rfl rfl ?_
    refine R_get 75 dX2_told_72 rfl fX2_25 rfl (v := .ref 12) rfl ?_
    refine R_get 78 dX2_told_75 rfl fX2_64 rfl (v := .int (m.1 12)) rfl ?_
    refine R_ireturn dX2_told_78 rfl rfl ?_
    have e : zz = m.1 12 := by rw [← hs]; unfold sX2_told; rw [if_neg c1, if_neg c2, if_neg c3, if_neg c4, if_pos c5]
    subst e; exact ⟨rfl, rfl⟩
  by_cases c6 : w = 5
  ·
    refine R_tableAt 79 (off := 78) 5 c6 dX2_told_1 (by decide) (by decide) ?_
    refine R_aload_n 80 dX2_told_79 rfl rfl ?_
    refine R_get 83 dX2_told_80 rfl fX2_25 rfl (v := .ref 12) rfl ?_
    refine R_get 86 dX2_told_83 rfl fX2_67 rfl (v := .int (m.1 13)) rfl ?_
    refine R_ireturn dX2_told_86 rfl rfl ?_
    have e : zz = m.1 13 := by rw [← hs]; unfold sX2_told; rw [if_neg c1, if_neg c2, if_neg c3, if_neg c4, if_neg c5, if_pos c6]
    subst e; exact ⟨rfl, rfl⟩
  by_cases c7 : w = 6
  ·
    refine R_tableAt 87 (off := 86) 6 c7 dX2_told_1 (by decide) (by decide) ?_
    refine R_aload_n 88 dX2_told_87 rfl rfl ?_
    refine R_get 91 dX2_told_88 rfl fX2_18 rfl (v := .ref 11) rfl ?_
    refine R_get 94 dX2_told_91 rfl fX2_70 rfl (v := .int (m.1 9)) rfl ?_
    refine R_ireturn dX2_told_94 rfl rfl ?_
    have e : zz = m.1 9 := by rw [← hs]; unfold sX2_told; rw [if_neg c1, if_neg c2, if_neg c3, if_neg c4, if_neg c5, if_neg c6, if_pos c7]
    subst e; exact ⟨rfl, rfl⟩
  by_cases c8 : w = 7
  ·
    refine R_tableAt 95 (off := 94) 7 c8 dX2_told_1 (by decide) (by decide) ?_
    refine R_aload_n 96 dX2_told_95 rfl rfl ?_
    refine R_get 99 dX2_told_96 rfl fX2_25 rfl (v := .ref 12) rfl ?_
    refine R_get 102 dX2_told_99 rfl fX2_73 rfl (v := .int (m.1 11)) rfl ?_
    refine R_ireturn dX2_told_102 rfl rfl ?_
    have e : zz = m.1 11 := by rw [← hs]; unfold sX2_told; rw [if_neg c1, if_neg c2, if_neg c3, if_neg c4, if_neg c5, if_neg c6, if_neg c7, if_pos c8]
    subst e; exact ⟨rfl, rfl⟩
  refine R_tableD 103 [0, 1, 2, 3, 4, 5, 6, 7] dX2_told_1 (List.forall_mem_cons.mpr ⟨lv_neT c1 (show (0 : Int32).toInt = 0 by decide), List.forall_mem_cons.mpr ⟨lv_neT c2 (show (1 : Int32).toInt = 1 by decide), List.forall_mem_cons.mpr ⟨lv_neT c3 (show (2 : Int32).toInt = 2 by decide), List.forall_mem_cons.mpr ⟨lv_neT c4 (show (3 : Int32).toInt = 3 by decide), List.forall_mem_cons.mpr ⟨lv_neT c5 (show (4 : Int32).toInt = 4 by decide), List.forall_mem_cons.mpr ⟨lv_neT c6 (show (5 : Int32).toInt = 5 by decide), List.forall_mem_cons.mpr ⟨lv_neT c7 (show (6 : Int32).toInt = 6 by decide), List.forall_mem_cons.mpr ⟨lv_neT c8 (show (7 : Int32).toInt = 7 by decide), fun _ h => absurd h List.not_mem_nil⟩⟩⟩⟩⟩⟩⟩⟩) (by decide) (by decide) ?_
  refine R_aload_n 104 dX2_told_103 rfl rfl ?_
  refine R_get 107 dX2_told_104 rfl fX2_55 rfl (v := .int (m.1 7)) rfl ?_
  refine R_ireturn dX2_told_107 rfl rfl ?_
  have e : zz = m.1 7 := by rw [← hs]; unfold sX2_told; rw [if_neg c1, if_neg c2, if_neg c3, if_neg c4, if_neg c5, if_neg c6, if_neg c7, if_neg c8]
  subst e; exact ⟨rfl, rfl⟩
set_option maxRecDepth 20000 in
theorem eX2_change_10 {G : zG} {h2 : List va_E} {n m i : zP} {cf : Nat → Int32} {ca : Nat → Nat → Int32} {w v : Int32} : EvF G mX2_change [.ref 10, .int w, .int v] (hC G n m i cf ca, h2) (some (.int ((sX2_change m w v).1))) (hC G n ((sX2_change m w v).2) i cf ca, h2) := by
  generalize hs : (sX2_change m w v) = zz
  refine EvF.of pnX2 rfl ?_
  refine R_aload_n 1 dX2_change_0 rfl rfl ?_
  refine R_iload_n 2 dX2_change_1 rfl rfl ?_
  refine R_callVi 5 eX2_told_10 dX2_change_2 rfl kX2_told lX2_74 rfl rfl rfl rfl rfl rfl rfl ?_
  refine R_istore_n 6 dX2_change_5 rfl rfl (by decide) (loc' := [(0, .ref 10), (1, .int w), (2, .int v), (3, .int (sX2_told m w))]) rfl ?_
  refine R_iload_n 7 dX2_change_6 rfl rfl ?_
  by_cases c1 : w = 0
  ·
    refine R_tableAt 52 (off := 45) 0 c1 dX2_change_7 (by decide) (by decide) ?_
    refine R_aload_n 53 dX2_change_52 rfl rfl ?_
    refine R_iload_n 54 dX2_change_53 rfl rfl ?_
    refine R_put 57 dX2_change_54 rfl wX2_36 rfl rfl rfl rfl (h2 := (hC G n ((upd m.1 0 v), m.2) i cf ca, h2)) rfl ?_
    refine R_goto 136 dX2_change_57 (by decide) ?_
    refine R_iload_n 137 dX2_change_136 rfl rfl ?_
    refine R_ireturn dX2_change_137 rfl rfl ?_
    have e : zz = ((sX2_told m w), ((upd m.1 0 v), m.2)) := by rw [← hs]; unfold sX2_change; rw [if_pos c1]
    rw [pr1 e, pr2 e]; exact ⟨rfl, rfl⟩
  by_cases c2 : w = 1
  ·
    refine R_tableAt 60 (off := 53) 1 c2 dX2_change_7 (by decide) (by decide) ?_
    refine R_aload_n 61 dX2_change_60 rfl rfl ?_
    refine R_iload_n 62 dX2_change_61 rfl rfl ?_
    refine R_put 65 dX2_change_62 rfl wX2_39 rfl rfl rfl rfl (h2 := (hC G n ((upd m.1 1 v), m.2) i cf ca, h2)) rfl ?_
    refine R_goto 136 dX2_change_65 (by decide) ?_
    refine R_iload_n 137 dX2_change_136 rfl rfl ?_
    refine R_ireturn dX2_change_137 rfl rfl ?_
    have e : zz = ((sX2_told m w), ((upd m.1 1 v), m.2)) := by rw [← hs]; unfold sX2_change; rw [if_neg c1, if_pos c2]
    rw [pr1 e, pr2 e]; exact ⟨rfl, rfl⟩
  by_cases c3 : w = 2
  ·
    refine R_tableAt 68 (off := 61) 2 c3 dX2_change_7 (by decide) (by decide) ?_
    refine R_aload_n 69 dX2_change_68 rfl rfl ?_
    refine R_iload_n 70 dX2_change_69 rfl rfl ?_
    refine R_put 73 dX2_change_70 rfl wX2_9 rfl rfl rfl rfl (h2 := (hC G n ((upd m.1 2 v), m.2) i cf ca, h2)) rfl ?_
    refine R_goto 136 dX2_change_73 (by decide) ?_
    refine R_iload_n 137 dX2_change_136 rfl rfl ?_
    refine R_ireturn dX2_change_137 rfl rfl ?_
    have e : zz = ((sX2_told m w), ((upd m.1 2 v), m.2)) := by rw [← hs]; unfold sX2_change; rw [if_neg c1, if_neg c2, if_pos c3]
    rw [pr1 e, pr2 e]; exact ⟨rfl, rfl⟩
  by_cases c4 : w = 3
  ·
    refine R_tableAt 76 (off := 69) 3 c4 dX2_change_7 (by decide) (by decide) ?_
    refine R_aload_n 77 dX2_change_76 rfl rfl ?_
    refine R_get 80 dX2_change_77 rfl fX2_18 rfl (v := .ref 11) rfl ?_
    refine R_iload_n 81 dX2_change_80 rfl rfl ?_
    refine R_put 84 dX2_change_81 rfl wX2_61 rfl rfl rfl rfl (h2 := (hC G n ((upd m.1 10 v), m.2) i cf ca, h2)) rfl ?_
    refine R_goto 136 dX2_change_84 (by decide) ?_
    refine R_iload_n 137 dX2_change_136 rfl rfl ?_
    refine R_ireturn dX2_change_137 rfl rfl ?_
    have e : zz = ((sX2_told m w), ((upd m.1 10 v), m.2)) := by rw [← hs]; unfold sX2_change; rw [if_neg c1, if_neg c2, if_neg c3, if_pos c4]
    rw [pr1 e, pr2 e]; exact ⟨rfl, rfl⟩
  by_cases c5 : w = 4
  ·
    refine R_tableAt 87 (off := 80) 4 c5 dX2_change_7 (by decide) (by decide) ?_
    refine R_aload_n 88 dX2_change_87 rfl rfl ?_
    refine R_get 91 dX2_change_88 rfl fX2_25 rfl (v := .ref 12) rfl ?_
    refine R_iload_n 92 dX2_change_91 rfl rfl ?_
    refine R_put 95 dX2_change_92 rfl wX2_64 rfl rfl rfl rfl (h2 := (hC G n ((upd m.1 12 v), m.2) i cf ca, h2)) rfl ?_
    refine R_goto 136 dX2_change_95 (by decide) ?_
    refine R_iload_n 137 dX2_change_136 rfl rfl ?_
    refine R_ireturn dX2_change_137 rfl rfl ?_
    have e : zz = ((sX2_told m w), ((upd m.1 12 v), m.2)) := by rw [← hs]; unfold sX2_change; rw [if_neg c1, if_neg c2, if_neg c3, if_neg c4, if_pos c5]
    rw [pr1 e, pr2 e]; exact ⟨rfl, rfl⟩
  by_cases c6 : w = 5
  ·
    refine R_tableAt 98 (off := 91) 5 c6 dX2_change_7 (by decide) (by decide) ?_
    refine R_aload_n 99 dX2_change_98 rfl rfl ?_
    refine R_get 102 dX2_change_99 rfl fX2_25 rfl (v := .ref 12) rfl ?_
    refine R_iload_n 103 dX2_change_102 rfl rfl ?_
    refine R_put 106 dX2_change_103 rfl wX2_67 rfl rfl rfl rfl (h2 := (hC G n ((upd m.1 13 v), m.2) i cf ca, h2)) rfl ?_
    refine R_goto 136 dX2_change_106 (by decide) ?_
    refine R_iload_n 137 dX2_change_136 rfl rfl ?_
    refine R_ireturn dX2_change_137 rfl rfl ?_
    have e : zz = ((sX2_told m w), ((upd m.1 13 v), m.2)) := by rw [← hs]; unfold sX2_change; rw [if_neg c1, if_neg c2, if_neg c3, if_neg c4, if_neg c5, if_pos c6]
    rw [pr1 e, pr2 e]; exact ⟨rfl, rfl⟩
  by_cases c7 : w = 6
  ·
    refine R_tableAt 109 (off := 102) 6 c7 dX2_change_7 (by decide) (by decide) ?_
    refine R_aload_n 110 dX2_change_109 rfl rfl ?_
    refine R_get 113 dX2_change_110 rfl fX2_18 rfl (v := .ref 11) rfl ?_
    refine R_iload_n 114 dX2_change_113 rfl rfl ?_
    refine R_put 117 dX2_change_114 rfl wX2_70 rfl rfl rfl rfl (h2 := (hC G n ((upd m.1 9 v), m.2) i cf ca, h2)) rfl ?_
    refine R_goto 136 dX2_change_117 (by decide) ?_
    refine R_iload_n 137 dX2_change_136 rfl rfl ?_
    refine R_ireturn dX2_change_137 rfl rfl ?_
    have e : zz = ((sX2_told m w), ((upd m.1 9 v), m.2)) := by rw [← hs]; unfold sX2_change; rw [if_neg c1, if_neg c2, if_neg c3, if_neg c4, if_neg c5, if_neg c6, if_pos c7]
    rw [pr1 e, pr2 e]; exact ⟨rfl, rfl⟩
  by_cases c8 : w = 7
  ·
    refine R_tableAt 120 (off := 113) 7 c8 dX2_change_7 (by decide) (by decide) ?_
    refine R_aload_n 121 dX2_change_120 rfl rfl ?_
    refine R_get 124 dX2_change_121 rfl fX2_25 rfl (v := .ref 12) rfl ?_
    refine R_iload_n 125 dX2_change_124 rfl rfl ?_
    refine R_put 128 dX2_change_125 rfl wX2_73 rfl rfl rfl rfl (h2 := (hC G n ((upd m.1 11 v), m.2) i cf ca, h2)) rfl ?_
    refine R_goto 136 dX2_change_128 (by decide) ?_
    refine R_iload_n 137 dX2_change_136 rfl rfl ?_
    refine R_ireturn dX2_change_137 rfl rfl ?_
    have e : zz = ((sX2_told m w), ((upd m.1 11 v), m.2)) := by rw [← hs]; unfold sX2_change; rw [if_neg c1, if_neg c2, if_neg c3, if_neg c4, if_neg c5, if_neg c6, if_neg c7, if_pos c8]
    rw [pr1 e, pr2 e]; exact ⟨rfl, rfl⟩
  refine R_tableD 131 [0, 1, 2, 3, 4, 5, 6, 7] dX2_change_7 (List.forall_mem_cons.mpr ⟨lv_neT c1 (show (0 : Int32).toInt = 0 by decide), List.forall_mem_cons.mpr ⟨lv_neT c2 (show (1 : Int32).toInt = 1 by decide), List.forall_mem_cons.mpr ⟨lv_neT c3 (show (2 : Int32).toInt = 2 by decide), List.forall_mem_cons.mpr ⟨lv_neT c4 (show (3 : Int32).toInt = 3 by decide), List.forall_mem_cons.mpr ⟨lv_neT c5 (show (4 : Int32).toInt = 4 by decide), List.forall_mem_cons.mpr ⟨lv_neT c6 (show (5 : Int32).toInt = 5 by decide), List.forall_mem_cons.mpr ⟨lv_neT c7 (show (6 : Int32).toInt = 6 by decide), List.forall_mem_cons.mpr ⟨lv_neT c8 (show (7 : Int32).toInt = 7 by decide), fun _ h => absurd h List.not_mem_nil⟩⟩⟩⟩⟩⟩⟩⟩) (by decide) (by decide) ?_
  refine R_aload_n 132 dX2_change_131 rfl rfl ?_
  refine R_iload_n 133 dX2_change_132 rfl rfl ?_
  refine R_put 136 dX2_change_133 rfl wX2_55 rfl rfl rfl rfl (h2 := (hC G n ((upd m.1 7 v), m.2) i cf ca, h2)) rfl ?_
  refine R_iload_n 137 dX2_change_136 rfl rfl ?_
  refine R_ireturn dX2_change_137 rfl rfl ?_
  have e : zz = ((sX2_told m w), ((upd m.1 7 v), m.2)) := by rw [← hs]; unfold sX2_change; rw [if_neg c1, if_neg c2, if_neg c3, if_neg c4, if_neg c5, if_neg c6, if_neg c7, if_neg c8]
  rw [pr1 e, pr2 e]; exact ⟨rfl, rfl⟩
set_option maxRecDepth 20000 in
theorem eX2_driftOnce_10 {G : zG} {h2 : List va_E} {n m i : zP} {cf : Nat → Int32} {ca : Nat → Nat → Int32} : EvF G mX2_driftOnce [.ref 10] (hC G n m i cf ca, h2) (some (.int ((sX2_driftOnce m).1))) (hC G n ((sX2_driftOnce m).2) i cf ca, h2) := by
  generalize hs : (sX2_driftOnce m) = zz
  refine EvF.of pnX2 rfl ?_
  refine R_aload_n 1 dX2_driftOnce_0 rfl rfl ?_
  refine R_get 4 dX2_driftOnce_1 rfl fX2_18 rfl (v := .ref 11) rfl ?_
  refine R_aload_n 5 dX2_driftOnce_4 rfl rfl ?_
  refine R_get 8 dX2_driftOnce_5 rfl fX2_58 rfl (v := .int (m.1 8)) rfl ?_
  refine R_callVi 11 (eX1_amountIn (dk := m.1 9) (dr := m.1 10) rfl) dX2_driftOnce_8 rfl kX1_amountIn lX2_96 rfl rfl rfl rfl rfl rfl rfl ?_
  refine R_istore_n 12 dX2_driftOnce_11 rfl rfl (by decide) (loc' := [(0, .ref 10), (1, .int (sX1_amountIn (m.1 9) (m.1 10) (m.1 8)))]) rfl ?_
  refine R_aload_n 13 dX2_driftOnce_12 rfl rfl ?_
  refine R_aload_n 14 dX2_driftOnce_13 rfl rfl ?_
  refine R_get 17 dX2_driftOnce_14 rfl fX2_36 rfl (v := .int (m.1 0)) rfl ?_
  refine R_iload_n 18 dX2_driftOnce_17 rfl rfl ?_
  refine R_iadd 19 dX2_driftOnce_18 rfl ?_
  refine R_bipush 21 dX2_driftOnce_19 rfl (v := (-99)) (by decide) ?_
  refine R_bipush 23 dX2_driftOnce_21 rfl (v := 99) (by decide) ?_
  refine R_callSNi 26 eX6_held dX2_driftOnce_23 rfl kX6_held nm_X2_99 rfl rfl rfl rfl rfl ?_
  refine R_nm (fun z1_ hz1_ => ?_)
  refine R_put 29 dX2_driftOnce_26 rfl wX2_36 rfl rfl rfl rfl (h2 := (hC G n ((upd m.1 0 z1_), m.2) i cf ca, h2)) rfl ?_
  refine R_iload_n 30 dX2_driftOnce_29 rfl rfl ?_
  refine R_ireturn dX2_driftOnce_30 rfl rfl ?_
  subst hz1_
  have e : zz = ((sX1_amountIn (m.1 9) (m.1 10) (m.1 8)), ((upd m.1 0 (sX6_held ((m.1 0) + (sX1_amountIn (m.1 9) (m.1 10) (m.1 8))) (-99) 99)), m.2)) := by rw [← hs]; unfold sX2_driftOnce; rfl
  rw [pr1 e, pr2 e]; exact ⟨rfl, rfl⟩
set_option maxRecDepth 20000 in
theorem eX2_letOneGetUp_10 {G : zG} {h2 : List va_E} {n m i : zP} {cf : Nat → Int32} {ca : Nat → Nat → Int32} {dr : Int32} : EvF G mX2_letOneGetUp [.ref 10, .int dr, .ref 28] (hC G n m i cf ca, h2) (none) (hC G n ((sX2_letOneGetUp m cf ca dr).1) i ((sX2_letOneGetUp m cf ca dr).2.1) ((sX2_letOneGetUp m cf ca dr).2.2), h2) := by
  generalize hs : (sX2_letOneGetUp m cf ca dr) = zz
  refine EvF.of pnX2 rfl ?_
  refine R_aload_n 1 dX2_letOneGetUp_0 rfl rfl ?_
  refine R_aload_n 2 dX2_letOneGetUp_1 rfl rfl ?_
  refine R_get 5 dX2_letOneGetUp_2 rfl fX2_55 rfl (v := .int (m.1 7)) rfl ?_
  refine R_callVi 8 (eX2_has (av := m.1 0) (p0 := m.1 1) (p1 := m.1 2) (sz := m.1 6) (tu := m.1 7) (mi := m.1 8) rfl) dX2_letOneGetUp_5 rfl kX2_has lX2_106 rfl rfl rfl rfl rfl rfl rfl ?_
  refine R_ifb_ne 11 12 dX2_letOneGetUp_8 rfl (by decide) (fun c1 => ?_) (fun c1 => ?_)
  ·
    refine R_aload_n 13 dX2_letOneGetUp_12 rfl rfl ?_
    refine R_get 16 dX2_letOneGetUp_13 rfl fX2_31 rfl (v := .ref 13) rfl ?_
    refine R_aload_n 17 dX2_letOneGetUp_16 rfl rfl ?_
    refine R_get 20 dX2_letOneGetUp_17 rfl fX2_55 rfl (v := .int (m.1 7)) rfl ?_
    by_cases c2 : (m.1 7) = 0
    ·
      refine R_aaldAt 21 0 c2 dX2_letOneGetUp_20 rfl rfl rfl (vin_d (by decide)) (y := 14) rfl ?_
      refine R_astore_n 22 dX2_letOneGetUp_21 rfl rfl (by decide) (loc' := [(0, .ref 10), (1, .int dr), (2, .ref 28), (3, .ref 14)]) rfl ?_
      refine R_aload_n 23 dX2_letOneGetUp_22 rfl rfl ?_
      refine R_get 26 dX2_letOneGetUp_23 rfl fX2_25 rfl (v := .ref 12) rfl ?_
      refine R_aload_n 27 dX2_letOneGetUp_26 rfl rfl ?_
      refine R_aload_n 28 dX2_letOneGetUp_27 rfl rfl ?_
      refine R_get 31 dX2_letOneGetUp_28 rfl fX2_110 rfl (v := .int (m.2 0 3)) rfl ?_
      refine R_callVi 34 (eX2_off (av := m.1 0) (p0 := m.1 1) (p1 := m.1 2) (sz := m.1 6) (tu := m.1 7) (mi := m.1 8) rfl) dX2_letOneGetUp_31 rfl kX2_off lX2_103 rfl rfl rfl rfl rfl rfl rfl ?_
      refine R_aload_n 35 dX2_letOneGetUp_34 rfl rfl ?_
      refine R_get 38 dX2_letOneGetUp_35 rfl fX2_58 rfl (v := .int (m.1 8)) rfl ?_
      refine R_callVi 41 (eX4_rouses (rk := m.1 11) (rl := m.1 12) (rp := m.1 13) rfl) dX2_letOneGetUp_38 rfl kX4_rouses lX2_113 rfl rfl rfl rfl rfl rfl rfl ?_
      refine R_ifb_ne 44 45 dX2_letOneGetUp_41 rfl (by decide) (fun c3 => ?_) (fun c3 => ?_)
      ·
        refine R_aload_n 46 dX2_letOneGetUp_45 rfl rfl ?_
        refine R_get 49 dX2_letOneGetUp_46 rfl fX2_110 rfl (v := .int (m.2 0 3)) rfl ?_
        refine R_cut 63 [(0, .ref 10), (1, .int dr), (2, .ref 28), (3, .ref 14)] (.int (if (m.2 0 3) = 0 then m.1 1 else m.1 2) :: []) (hC G n m i cf ca, h2) ?_ (fun kj => ?_)
        ·
          refine R_istore 65 dX2_letOneGetUp_63 rfl rfl (by decide) (loc' := [(0, .ref 10), (1, .int dr), (2, .ref 28), (3, .ref 14), (4, .int (if (m.2 0 3) = 0 then m.1 1 else m.1 2))]) rfl ?_
          refine R_aload_n 66 dX2_letOneGetUp_65 rfl rfl ?_
          refine R_aload_n 67 dX2_letOneGetUp_66 rfl rfl ?_
          refine R_aload_n 68 dX2_letOneGetUp_67 rfl rfl ?_
          refine R_get 71 dX2_letOneGetUp_68 rfl fX2_36 rfl (v := .int (m.1 0)) rfl ?_
          refine R_aload_n 72 dX2_letOneGetUp_71 rfl rfl ?_
          refine R_get 75 dX2_letOneGetUp_72 rfl fX2_25 rfl (v := .ref 12) rfl ?_
          refine R_iload 77 dX2_letOneGetUp_75 rfl rfl ?_
          refine R_aload_n 78 dX2_letOneGetUp_77 rfl rfl ?_
          refine R_get 81 dX2_letOneGetUp_78 rfl fX2_39 rfl (v := .int (m.1 1)) rfl ?_
          refine R_aload_n 82 dX2_letOneGetUp_81 rfl rfl ?_
          refine R_get 85 dX2_letOneGetUp_82 rfl fX2_9 rfl (v := .int (m.1 2)) rfl ?_
          refine R_iadd 86 dX2_letOneGetUp_85 rfl ?_
          refine R_iconst 87 dX2_letOneGetUp_86 rfl (v := 2) (by decide) ?_
          refine R_idiv 88 dX2_letOneGetUp_87 rfl (by decide) ?_
          refine R_iload_n 89 dX2_letOneGetUp_88 rfl rfl ?_
          refine R_callVi 92 (eX4_aim (rk := m.1 11) (rl := m.1 12) (rp := m.1 13) rfl) dX2_letOneGetUp_89 rfl kX4_aim lX2_117 rfl rfl rfl rfl rfl rfl rfl ?_
          refine R_callVi 95 (eX3_turned (pk := m.2 0 0) (pm := m.2 0 1) (pf := m.2 0 2) (ps := m.2 0 3) (ph := m.2 0 4) (pp := m.2 0 5) rfl) dX2_letOneGetUp_92 rfl kX3_turned lX2_120 rfl rfl rfl rfl rfl rfl rfl ?_
          refine R_nm (fun z1_ hz1_ => ?_)
          refine R_put 98 dX2_letOneGetUp_95 rfl wX2_36 rfl rfl rfl rfl (h2 := (hC G n ((upd m.1 0 z1_), m.2) i cf ca, h2)) rfl ?_
          refine R_aload_n 99 dX2_letOneGetUp_98 rfl rfl ?_
          refine R_aload_n 100 dX2_letOneGetUp_99 rfl rfl ?_
          refine R_get 103 dX2_letOneGetUp_100 rfl fX2_55 rfl (v := .int (m.1 7)) rfl ?_
          refine R_aload_n 104 dX2_letOneGetUp_103 rfl rfl ?_
          refine R_get 107 dX2_letOneGetUp_104 rfl fX2_124 rfl (v := .int (m.2 0 5)) rfl ?_
          refine R_callVv 110 eX0_noteUp_28 dX2_letOneGetUp_107 rfl kX0_noteUp lX2_127 rfl rfl rfl rfl rfl rfl rfl ?_
          refine R_aload_n 111 dX2_letOneGetUp_110 rfl rfl ?_
          refine R_aload_n 112 dX2_letOneGetUp_111 rfl rfl ?_
          refine R_get 115 dX2_letOneGetUp_112 rfl fX2_55 rfl (v := .int (m.1 7)) rfl ?_
          refine R_iconst 116 dX2_letOneGetUp_115 rfl (v := 1) (by decide) ?_
          refine R_iadd 117 dX2_letOneGetUp_116 rfl ?_
          refine R_aload_n 118 dX2_letOneGetUp_117 rfl rfl ?_
          refine R_get 121 dX2_letOneGetUp_118 rfl fX2_49 rfl (v := .int (m.1 6)) rfl ?_
          refine R_cut 134 [(0, .ref 10), (1, .int dr), (2, .ref 28), (3, .ref 14), (4, .int (if (m.2 0 3) = 0 then m.1 1 else m.1 2))] (.int (if (m.1 6) ≤ ((m.1 7) + 1) then 0 else (m.1 7) + 1) :: [.ref 10]) (hC G n ((upd m.1 0 z1_), m.2) i ((sX0_noteUp cf ca (m.1 7) (m.2 0 5)).1) ((sX0_noteUp cf ca (m.1 7) (m.2 0 5)).2), h2) ?_ (fun kj => ?_)
          ·
            refine R_nm (fun z2_ hz2_ => ?_)
            refine R_put 137 dX2_letOneGetUp_134 rfl wX2_55 rfl rfl rfl rfl (h2 := (hC G n ((upd (upd m.1 0 z1_) 7 z2_), m.2) i ((sX0_noteUp cf ca (m.1 7) (m.2 0 5)).1) ((sX0_noteUp cf ca (m.1 7) (m.2 0 5)).2), h2)) rfl ?_
            refine R_return dX2_letOneGetUp_137 rfl ?_
            subst hz1_ hz2_
            have e : zz = (((upd (upd m.1 0 (sX3_turned (m.2 0 0) (m.2 0 1) (m.2 0 2) (m.2 0 3) (m.2 0 4) (m.2 0 5) (m.1 0) (sX4_aim (m.1 11) (m.1 12) (m.1 13) (if (m.2 0 3) = 0 then m.1 1 else m.1 2) (((m.1 1) + (m.1 2)) / 2) dr))) 7 (if (m.1 6) ≤ ((m.1 7) + 1) then 0 else (m.1 7) + 1)), m.2), (sX0_noteUp cf ca (m.1 7) (m.2 0 5)).1, (sX0_noteUp cf ca (m.1 7) (m.2 0 5)).2) := by rw [← hs]; unfold sX2_letOneGetUp; rw [if_pos c1, if_pos c2, if_pos c3]
            rw [pr1 e, pr1 (pr2 e), pr2 (pr2 e)]; exact ⟨rfl, rfl⟩
          refine R_icmp_ge 124 133 dX2_letOneGetUp_121 rfl (by decide) (fun c5 => ?_) (fun c5 => ?_)
          · refine R_iconst 134 dX2_letOneGetUp_133 rfl (v := 0) (by decide) ?_
            rw [if_pos c5] at kj; exact kj
          · refine R_aload_n 125 dX2_letOneGetUp_124 rfl rfl ?_
            refine R_get 128 dX2_letOneGetUp_125 rfl fX2_55 rfl (v := .int (m.1 7)) rfl ?_
            refine R_iconst 129 dX2_letOneGetUp_128 rfl (v := 1) (by decide) ?_
            refine R_iadd 130 dX2_letOneGetUp_129 rfl ?_
            refine R_goto 134 dX2_letOneGetUp_130 (by decide) ?_
            rw [if_neg c5] at kj; exact kj
        refine R_if_ne 52 59 dX2_letOneGetUp_49 rfl (by decide) (fun c4 => ?_) (fun c4 => ?_)
        · refine R_aload_n 60 dX2_letOneGetUp_59 rfl rfl ?_
          refine R_get 63 dX2_letOneGetUp_60 rfl fX2_9 rfl (v := .int (m.1 2)) rfl ?_
          rw [if_neg c4] at kj; exact kj
        · refine R_aload_n 53 dX2_letOneGetUp_52 rfl rfl ?_
          refine R_get 56 dX2_letOneGetUp_53 rfl fX2_39 rfl (v := .int (m.1 1)) rfl ?_
          refine R_goto 63 dX2_letOneGetUp_56 (by decide) ?_
          rw [if_pos c4] at kj; exact kj
      ·
        refine R_return dX2_letOneGetUp_44 rfl ?_
        have e : zz = (m, cf, ca) := by rw [← hs]; unfold sX2_letOneGetUp; rw [if_pos c1, if_pos c2, if_neg c3]
        rw [pr1 e, pr1 (pr2 e), pr2 (pr2 e)]; exact ⟨rfl, rfl⟩
    by_cases c6 : (m.1 7) = 1
    ·
      refine R_aaldAt 21 1 c6 dX2_letOneGetUp_20 rfl rfl rfl (vin_d (by decide)) (y := 15) rfl ?_
      refine R_astore_n 22 dX2_letOneGetUp_21 rfl rfl (by decide) (loc' := [(0, .ref 10), (1, .int dr), (2, .ref 28), (3, .ref 15)]) rfl ?_
      refine R_aload_n 23 dX2_letOneGetUp_22 rfl rfl ?_
      refine R_get 26 dX2_letOneGetUp_23 rfl fX2_25 rfl (v := .ref 12) rfl ?_
      refine R_aload_n 27 dX2_letOneGetUp_26 rfl rfl ?_
      refine R_aload_n 28 dX2_letOneGetUp_27 rfl rfl ?_
      refine R_get 31 dX2_letOneGetUp_28 rfl fX2_110 rfl (v := .int (m.2 1 3)) rfl ?_
      refine R_callVi 34 (eX2_off (av := m.1 0) (p0 := m.1 1) (p1 := m.1 2) (sz := m.1 6) (tu := m.1 7) (mi := m.1 8) rfl) dX2_letOneGetUp_31 rfl kX2_off lX2_103 rfl rfl rfl rfl rfl rfl rfl ?_
      refine R_aload_n 35 dX2_letOneGetUp_34 rfl rfl ?_
      refine R_get 38 dX2_letOneGetUp_35 rfl fX2_58 rfl (v := .int (m.1 8)) rfl ?_
      refine R_callVi 41 (eX4_rouses (rk := m.1 11) (rl := m.1 12) (rp := m.1 13) rfl) dX2_letOneGetUp_38 rfl kX4_rouses lX2_113 rfl rfl rfl rfl rfl rfl rfl ?_
      refine R_ifb_ne 44 45 dX2_letOneGetUp_41 rfl (by decide) (fun c7 => ?_) (fun c7 => ?_)
      ·
        refine R_aload_n 46 dX2_letOneGetUp_45 rfl rfl ?_
        refine R_get 49 dX2_letOneGetUp_46 rfl fX2_110 rfl (v := .int (m.2 1 3)) rfl ?_
        refine R_cut 63 [(0, .ref 10), (1, .int dr), (2, .ref 28), (3, .ref 15)] (.int (if (m.2 1 3) = 0 then m.1 1 else m.1 2) :: []) (hC G n m i cf ca, h2) ?_ (fun kj => ?_)
        ·
          refine R_istore 65 dX2_letOneGetUp_63 rfl rfl (by decide) (loc' := [(0, .ref 10), (1, .int dr), (2, .ref 28), (3, .ref 15), (4, .int (if (m.2 1 3) = 0 then m.1 1 else m.1 2))]) rfl ?_
          refine R_aload_n 66 dX2_letOneGetUp_65 rfl rfl ?_
          refine R_aload_n 67 dX2_letOneGetUp_66 rfl rfl ?_
          refine R_aload_n 68 dX2_letOneGetUp_67 rfl rfl ?_
          refine R_get 71 dX2_letOneGetUp_68 rfl fX2_36 rfl (v := .int (m.1 0)) rfl ?_
          refine R_aload_n 72 dX2_letOneGetUp_71 rfl rfl ?_
          refine R_get 75 dX2_letOneGetUp_72 rfl fX2_25 rfl (v := .ref 12) rfl ?_
          refine R_iload 77 dX2_letOneGetUp_75 rfl rfl ?_
          refine R_aload_n 78 dX2_letOneGetUp_77 rfl rfl ?_
          refine R_get 81 dX2_letOneGetUp_78 rfl fX2_39 rfl (v := .int (m.1 1)) rfl ?_
          refine R_aload_n 82 dX2_letOneGetUp_81 rfl rfl ?_
          refine R_get 85 dX2_letOneGetUp_82 rfl fX2_9 rfl (v := .int (m.1 2)) rfl ?_
          refine R_iadd 86 dX2_letOneGetUp_85 rfl ?_
          refine R_iconst 87 dX2_letOneGetUp_86 rfl (v := 2) (by decide) ?_
          refine R_idiv 88 dX2_letOneGetUp_87 rfl (by decide) ?_
          refine R_iload_n 89 dX2_letOneGetUp_88 rfl rfl ?_
          refine R_callVi 92 (eX4_aim (rk := m.1 11) (rl := m.1 12) (rp := m.1 13) rfl) dX2_letOneGetUp_89 rfl kX4_aim lX2_117 rfl rfl rfl rfl rfl rfl rfl ?_
          refine R_callVi 95 (eX3_turned (pk := m.2 1 0) (pm := m.2 1 1) (pf := m.2 1 2) (ps := m.2 1 3) (ph := m.2 1 4) (pp := m.2 1 5) rfl) dX2_letOneGetUp_92 rfl kX3_turned lX2_120 rfl rfl rfl rfl rfl rfl rfl ?_
          refine R_nm (fun z3_ hz3_ => ?_)
          refine R_put 98 dX2_letOneGetUp_95 rfl wX2_36 rfl rfl rfl rfl (h2 := (hC G n ((upd m.1 0 z3_), m.2) i cf ca, h2)) rfl ?_
          refine R_aload_n 99 dX2_letOneGetUp_98 rfl rfl ?_
          refine R_aload_n 100 dX2_letOneGetUp_99 rfl rfl ?_
          refine R_get 103 dX2_letOneGetUp_100 rfl fX2_55 rfl (v := .int (m.1 7)) rfl ?_
          refine R_aload_n 104 dX2_letOneGetUp_103 rfl rfl ?_
          refine R_get 107 dX2_letOneGetUp_104 rfl fX2_124 rfl (v := .int (m.2 1 5)) rfl ?_
          refine R_callVv 110 eX0_noteUp_28 dX2_letOneGetUp_107 rfl kX0_noteUp lX2_127 rfl rfl rfl rfl rfl rfl rfl ?_
          refine R_aload_n 111 dX2_letOneGetUp_110 rfl rfl ?_
          refine R_aload_n 112 dX2_letOneGetUp_111 rfl rfl ?_
          refine R_get 115 dX2_letOneGetUp_112 rfl fX2_55 rfl (v := .int (m.1 7)) rfl ?_
          refine R_iconst 116 dX2_letOneGetUp_115 rfl (v := 1) (by decide) ?_
          refine R_iadd 117 dX2_letOneGetUp_116 rfl ?_
          refine R_aload_n 118 dX2_letOneGetUp_117 rfl rfl ?_
          refine R_get 121 dX2_letOneGetUp_118 rfl fX2_49 rfl (v := .int (m.1 6)) rfl ?_
          refine R_cut 134 [(0, .ref 10), (1, .int dr), (2, .ref 28), (3, .ref 15), (4, .int (if (m.2 1 3) = 0 then m.1 1 else m.1 2))] (.int (if (m.1 6) ≤ ((m.1 7) + 1) then 0 else (m.1 7) + 1) :: [.ref 10]) (hC G n ((upd m.1 0 z3_), m.2) i ((sX0_noteUp cf ca (m.1 7) (m.2 1 5)).1) ((sX0_noteUp cf ca (m.1 7) (m.2 1 5)).2), h2) ?_ (fun kj => ?_)
          ·
            refine R_nm (fun z4_ hz4_ => ?_)
            refine R_put 137 dX2_letOneGetUp_134 rfl wX2_55 rfl rfl rfl rfl (h2 := (hC G n ((upd (upd m.1 0 z3_) 7 z4_), m.2) i ((sX0_noteUp cf ca (m.1 7) (m.2 1 5)).1) ((sX0_noteUp cf ca (m.1 7) (m.2 1 5)).2), h2)) rfl ?_
            refine R_return dX2_letOneGetUp_137 rfl ?_
            subst hz3_ hz4_
            have e : zz = (((upd (upd m.1 0 (sX3_turned (m.2 1 0) (m.2 1 1) (m.2 1 2) (m.2 1 3) (m.2 1 4) (m.2 1 5) (m.1 0) (sX4_aim (m.1 11) (m.1 12) (m.1 13) (if (m.2 1 3) = 0 then m.1 1 else m.1 2) (((m.1 1) + (m.1 2)) / 2) dr))) 7 (if (m.1 6) ≤ ((m.1 7) + 1) then 0 else (m.1 7) + 1)), m.2), (sX0_noteUp cf ca (m.1 7) (m.2 1 5)).1, (sX0_noteUp cf ca (m.1 7) (m.2 1 5)).2) := by rw [← hs]; unfold sX2_letOneGetUp; rw [if_pos c1, if_neg c2, if_pos c6, if_pos c7]
            rw [pr1 e, pr1 (pr2 e), pr2 (pr2 e)]; exact ⟨rfl, rfl⟩
          refine R_icmp_ge 124 133 dX2_letOneGetUp_121 rfl (by decide) (fun c9 => ?_) (fun c9 => ?_)
          · refine R_iconst 134 dX2_letOneGetUp_133 rfl (v := 0) (by decide) ?_
            rw [if_pos c9] at kj; exact kj
          · refine R_aload_n 125 dX2_letOneGetUp_124 rfl rfl ?_
            refine R_get 128 dX2_letOneGetUp_125 rfl fX2_55 rfl (v := .int (m.1 7)) rfl ?_
            refine R_iconst 129 dX2_letOneGetUp_128 rfl (v := 1) (by decide) ?_
            refine R_iadd 130 dX2_letOneGetUp_129 rfl ?_
            refine R_goto 134 dX2_letOneGetUp_130 (by decide) ?_
            rw [if_neg c9] at kj; exact kj
        refine R_if_ne 52 59 dX2_letOneGetUp_49 rfl (by decide) (fun c8 => ?_) (fun c8 => ?_)
        · refine R_aload_n 60 dX2_letOneGetUp_59 rfl rfl ?_
          refine R_get 63 dX2_letOneGetUp_60 rfl fX2_9 rfl (v := .int (m.1 2)) rfl ?_
          rw [if_neg c8] at kj; exact kj
        · refine R_aload_n 53 dX2_letOneGetUp_52 rfl rfl ?_
          refine R_get 56 dX2_letOneGetUp_53 rfl fX2_39 rfl (v := .int (m.1 1)) rfl ?_
          refine R_goto 63 dX2_letOneGetUp_56 (by decide) ?_
          rw [if_pos c8] at kj; exact kj
      ·
        refine R_return dX2_letOneGetUp_44 rfl ?_
        have e : zz = (m, cf, ca) := by rw [← hs]; unfold sX2_letOneGetUp; rw [if_pos c1, if_neg c2, if_pos c6, if_neg c7]
        rw [pr1 e, pr1 (pr2 e), pr2 (pr2 e)]; exact ⟨rfl, rfl⟩
    by_cases c10 : (m.1 7) = 2
    ·
      refine R_aaldAt 21 2 c10 dX2_letOneGetUp_20 rfl rfl rfl (vin_d (by decide)) (y := 16) rfl ?_
      refine R_astore_n 22 dX2_letOneGetUp_21 rfl rfl (by decide) (loc' := [(0, .ref 10), (1, .int dr), (2, .ref 28), (3, .ref 16)]) rfl ?_
      refine R_aload_n 23 dX2_letOneGetUp_22 rfl rfl ?_
      refine R_get 26 dX2_letOneGetUp_23 rfl fX2_25 rfl (v := .ref 12) rfl ?_
      refine R_aload_n 27 dX2_letOneGetUp_26 rfl rfl ?_
      refine R_aload_n 28 dX2_letOneGetUp_27 rfl rfl ?_
      refine R_get 31 dX2_letOneGetUp_28 rfl fX2_110 rfl (v := .int (m.2 2 3)) rfl ?_
      refine R_callVi 34 (eX2_off (av := m.1 0) (p0 := m.1 1) (p1 := m.1 2) (sz := m.1 6) (tu := m.1 7) (mi := m.1 8) rfl) dX2_letOneGetUp_31 rfl kX2_off lX2_103 rfl rfl rfl rfl rfl rfl rfl ?_
      refine R_aload_n 35 dX2_letOneGetUp_34 rfl rfl ?_
      refine R_get 38 dX2_letOneGetUp_35 rfl fX2_58 rfl (v := .int (m.1 8)) rfl ?_
      refine R_callVi 41 (eX4_rouses (rk := m.1 11) (rl := m.1 12) (rp := m.1 13) rfl) dX2_letOneGetUp_38 rfl kX4_rouses lX2_113 rfl rfl rfl rfl rfl rfl rfl ?_
      refine R_ifb_ne 44 45 dX2_letOneGetUp_41 rfl (by decide) (fun c11 => ?_) (fun c11 => ?_)
      ·
        refine R_aload_n 46 dX2_letOneGetUp_45 rfl rfl ?_
        refine R_get 49 dX2_letOneGetUp_46 rfl fX2_110 rfl (v := .int (m.2 2 3)) rfl ?_
        refine R_cut 63 [(0, .ref 10), (1, .int dr), (2, .ref 28), (3, .ref 16)] (.int (if (m.2 2 3) = 0 then m.1 1 else m.1 2) :: []) (hC G n m i cf ca, h2) ?_ (fun kj => ?_)
        ·
          refine R_istore 65 dX2_letOneGetUp_63 rfl rfl (by decide) (loc' := [(0, .ref 10), (1, .int dr), (2, .ref 28), (3, .ref 16), (4, .int (if (m.2 2 3) = 0 then m.1 1 else m.1 2))]) rfl ?_
          refine R_aload_n 66 dX2_letOneGetUp_65 rfl rfl ?_
          refine R_aload_n 67 dX2_letOneGetUp_66 rfl rfl ?_
          refine R_aload_n 68 dX2_letOneGetUp_67 rfl rfl ?_
          refine R_get 71 dX2_letOneGetUp_68 rfl fX2_36 rfl (v := .int (m.1 0)) rfl ?_
          refine R_aload_n 72 dX2_letOneGetUp_71 rfl rfl ?_
          refine R_get 75 dX2_letOneGetUp_72 rfl fX2_25 rfl (v := .ref 12) rfl ?_
          refine R_iload 77 dX2_letOneGetUp_75 rfl rfl ?_
          refine R_aload_n 78 dX2_letOneGetUp_77 rfl rfl ?_
          refine R_get 81 dX2_letOneGetUp_78 rfl fX2_39 rfl (v := .int (m.1 1)) rfl ?_
          refine R_aload_n 82 dX2_letOneGetUp_81 rfl rfl ?_
          refine R_get 85 dX2_letOneGetUp_82 rfl fX2_9 rfl (v := .int (m.1 2)) rfl ?_
          refine R_iadd 86 dX2_letOneGetUp_85 rfl ?_
          refine R_iconst 87 dX2_letOneGetUp_86 rfl (v := 2) (by decide) ?_
          refine R_idiv 88 dX2_letOneGetUp_87 rfl (by decide) ?_
          refine R_iload_n 89 dX2_letOneGetUp_88 rfl rfl ?_
          refine R_callVi 92 (eX4_aim (rk := m.1 11) (rl := m.1 12) (rp := m.1 13) rfl) dX2_letOneGetUp_89 rfl kX4_aim lX2_117 rfl rfl rfl rfl rfl rfl rfl ?_
          refine R_callVi 95 (eX3_turned (pk := m.2 2 0) (pm := m.2 2 1) (pf := m.2 2 2) (ps := m.2 2 3) (ph := m.2 2 4) (pp := m.2 2 5) rfl) dX2_letOneGetUp_92 rfl kX3_turned lX2_120 rfl rfl rfl rfl rfl rfl rfl ?_
          refine R_nm (fun z5_ hz5_ => ?_)
          refine R_put 98 dX2_letOneGetUp_95 rfl wX2_36 rfl rfl rfl rfl (h2 := (hC G n ((upd m.1 0 z5_), m.2) i cf ca, h2)) rfl ?_
          refine R_aload_n 99 dX2_letOneGetUp_98 rfl rfl ?_
          refine R_aload_n 100 dX2_letOneGetUp_99 rfl rfl ?_
          refine R_get 103 dX2_letOneGetUp_100 rfl fX2_55 rfl (v := .int (m.1 7)) rfl ?_
          refine R_aload_n 104 dX2_letOneGetUp_103 rfl rfl ?_
          refine R_get 107 dX2_letOneGetUp_104 rfl fX2_124 rfl (v := .int (m.2 2 5)) rfl ?_
          refine R_callVv 110 eX0_noteUp_28 dX2_letOneGetUp_107 rfl kX0_noteUp lX2_127 rfl rfl rfl rfl rfl rfl rfl ?_
          refine R_aload_n 111 dX2_letOneGetUp_110 rfl rfl ?_
          refine R_aload_n 112 dX2_letOneGetUp_111 rfl rfl ?_
          refine R_get 115 dX2_letOneGetUp_112 rfl fX2_55 rfl (v := .int (m.1 7)) rfl ?_
          refine R_iconst 116 dX2_letOneGetUp_115 rfl (v := 1) (by decide) ?_
          refine R_iadd 117 dX2_letOneGetUp_116 rfl ?_
          refine R_aload_n 118 dX2_letOneGetUp_117 rfl rfl ?_
          refine R_get 121 dX2_letOneGetUp_118 rfl fX2_49 rfl (v := .int (m.1 6)) rfl ?_
          refine R_cut 134 [(0, .ref 10), (1, .int dr), (2, .ref 28), (3, .ref 16), (4, .int (if (m.2 2 3) = 0 then m.1 1 else m.1 2))] (.int (if (m.1 6) ≤ ((m.1 7) + 1) then 0 else (m.1 7) + 1) :: [.ref 10]) (hC G n ((upd m.1 0 z5_), m.2) i ((sX0_noteUp cf ca (m.1 7) (m.2 2 5)).1) ((sX0_noteUp cf ca (m.1 7) (m.2 2 5)).2), h2) ?_ (fun kj => ?_)
          ·
            refine R_nm (fun z6_ hz6_ => ?_)
            refine R_put 137 dX2_letOneGetUp_134 rfl wX2_55 rfl rfl rfl rfl (h2 := (hC G n ((upd (upd m.1 0 z5_) 7 z6_), m.2) i ((sX0_noteUp cf ca (m.1 7) (m.2 2 5)).1) ((sX0_noteUp cf ca (m.1 7) (m.2 2 5)).2), h2)) rfl ?_
            refine R_return dX2_letOneGetUp_137 rfl ?_
            subst hz5_ hz6_
            have e : zz = (((upd (upd m.1 0 (sX3_turned (m.2 2 0) (m.2 2 1) (m.2 2 2) (m.2 2 3) (m.2 2 4) (m.2 2 5) (m.1 0) (sX4_aim (m.1 11) (m.1 12) (m.1 13) (if (m.2 2 3) = 0 then m.1 1 else m.1 2) (((m.1 1) + (m.1 2)) / 2) dr))) 7 (if (m.1 6) ≤ ((m.1 7) + 1) then 0 else (m.1 7) + 1)), m.2), (sX0_noteUp cf ca (m.1 7) (m.2 2 5)).1, (sX0_noteUp cf ca (m.1 7) (m.2 2 5)).2) := by rw [← hs]; unfold sX2_letOneGetUp; rw [if_pos c1, if_neg c2, if_neg c6, if_pos c10, if_pos c11]
            rw [pr1 e, pr1 (pr2 e), pr2 (pr2 e)]; exact ⟨rfl, rfl⟩
          refine R_icmp_ge 124 133 dX2_letOneGetUp_121 rfl (by decide) (fun c13 => ?_) (fun c13 => ?_)
          · refine R_iconst 134 dX2_letOneGetUp_133 rfl (v := 0) (by decide) ?_
            rw [if_pos c13] at kj; exact kj
          · refine R_aload_n 125 dX2_letOneGetUp_124 rfl rfl ?_
            refine R_get 128 dX2_letOneGetUp_125 rfl fX2_55 rfl (v := .int (m.1 7)) rfl ?_
            refine R_iconst 129 dX2_letOneGetUp_128 rfl (v := 1) (by decide) ?_
            refine R_iadd 130 dX2_letOneGetUp_129 rfl ?_
            refine R_goto 134 dX2_letOneGetUp_130 (by decide) ?_
            rw [if_neg c13] at kj; exact kj
        refine R_if_ne 52 59 dX2_letOneGetUp_49 rfl (by decide) (fun c12 => ?_) (fun c12 => ?_)
        · refine R_aload_n 60 dX2_letOneGetUp_59 rfl rfl ?_
          refine R_get 63 dX2_letOneGetUp_60 rfl fX2_9 rfl (v := .int (m.1 2)) rfl ?_
          rw [if_neg c12] at kj; exact kj
        · refine R_aload_n 53 dX2_letOneGetUp_52 rfl rfl ?_
          refine R_get 56 dX2_letOneGetUp_53 rfl fX2_39 rfl (v := .int (m.1 1)) rfl ?_
          refine R_goto 63 dX2_letOneGetUp_56 (by decide) ?_
          rw [if_pos c12] at kj; exact kj
      ·
        refine R_return dX2_letOneGetUp_44 rfl ?_
        have e : zz = (m, cf, ca) := by rw [← hs]; unfold sX2_letOneGetUp; rw [if_pos c1, if_neg c2, if_neg c6, if_pos c10, if_neg c11]
        rw [pr1 e, pr1 (pr2 e), pr2 (pr2 e)]; exact ⟨rfl, rfl⟩
    by_cases c14 : (m.1 7) = 3
    ·
      refine R_aaldAt 21 3 c14 dX2_letOneGetUp_20 rfl rfl rfl (vin_d (by decide)) (y := 17) rfl ?_
      refine R_astore_n 22 dX2_letOneGetUp_21 rfl rfl (by decide) (loc' := [(0, .ref 10), (1, .int dr), (2, .ref 28), (3, .ref 17)]) rfl ?_
      refine R_aload_n 23 dX2_letOneGetUp_22 rfl rfl ?_
      refine R_get 26 dX2_letOneGetUp_23 rfl fX2_25 rfl (v := .ref 12) rfl ?_
      refine R_aload_n 27 dX2_letOneGetUp_26 rfl rfl ?_
      refine R_aload_n 28 dX2_letOneGetUp_27 rfl rfl ?_
      refine R_get 31 dX2_letOneGetUp_28 rfl fX2_110 rfl (v := .int (m.2 3 3)) rfl ?_
      refine R_callVi 34 (eX2_off (av := m.1 0) (p0 := m.1 1) (p1 := m.1 2) (sz := m.1 6) (tu := m.1 7) (mi := m.1 8) rfl) dX2_letOneGetUp_31 rfl kX2_off lX2_103 rfl rfl rfl rfl rfl rfl rfl ?_
      refine R_aload_n 35 dX2_letOneGetUp_34 rfl rfl ?_
      refine R_get 38 dX2_letOneGetUp_35 rfl fX2_58 rfl (v := .int (m.1 8)) rfl ?_
      refine R_callVi 41 (eX4_rouses (rk := m.1 11) (rl := m.1 12) (rp := m.1 13) rfl) dX2_letOneGetUp_38 rfl kX4_rouses lX2_113 rfl rfl rfl rfl rfl rfl rfl ?_
      refine R_ifb_ne 44 45 dX2_letOneGetUp_41 rfl (by decide) (fun c15 => ?_) (fun c15 => ?_)
      ·
        refine R_aload_n 46 dX2_letOneGetUp_45 rfl rfl ?_
        refine R_get 49 dX2_letOneGetUp_46 rfl fX2_110 rfl (v := .int (m.2 3 3)) rfl ?_
        refine R_cut 63 [(0, .ref 10), (1, .int dr), (2, .ref 28), (3, .ref 17)] (.int (if (m.2 3 3) = 0 then m.1 1 else m.1 2) :: []) (hC G n m i cf ca, h2) ?_ (fun kj => ?_)
        ·
          refine R_istore 65 dX2_letOneGetUp_63 rfl rfl (by decide) (loc' := [(0, .ref 10), (1, .int dr), (2, .ref 28), (3, .ref 17), (4, .int (if (m.2 3 3) = 0 then m.1 1 else m.1 2))]) rfl ?_
          refine R_aload_n 66 dX2_letOneGetUp_65 rfl rfl ?_
          refine R_aload_n 67 dX2_letOneGetUp_66 rfl rfl ?_
          refine R_aload_n 68 dX2_letOneGetUp_67 rfl rfl ?_
          refine R_get 71 dX2_letOneGetUp_68 rfl fX2_36 rfl (v := .int (m.1 0)) rfl ?_
          refine R_aload_n 72 dX2_letOneGetUp_71 rfl rfl ?_
          refine R_get 75 dX2_letOneGetUp_72 rfl fX2_25 rfl (v := .ref 12) rfl ?_
          refine R_iload 77 dX2_letOneGetUp_75 rfl rfl ?_
          refine R_aload_n 78 dX2_letOneGetUp_77 rfl rfl ?_
          refine R_get 81 dX2_letOneGetUp_78 rfl fX2_39 rfl (v := .int (m.1 1)) rfl ?_
          refine R_aload_n 82 dX2_letOneGetUp_81 rfl rfl ?_
          refine R_get 85 dX2_letOneGetUp_82 rfl fX2_9 rfl (v := .int (m.1 2)) rfl ?_
          refine R_iadd 86 dX2_letOneGetUp_85 rfl ?_
          refine R_iconst 87 dX2_letOneGetUp_86 rfl (v := 2) (by decide) ?_
          refine R_idiv 88 dX2_letOneGetUp_87 rfl (by decide) ?_
          refine R_iload_n 89 dX2_letOneGetUp_88 rfl rfl ?_
          refine R_callVi 92 (eX4_aim (rk := m.1 11) (rl := m.1 12) (rp := m.1 13) rfl) dX2_letOneGetUp_89 rfl kX4_aim lX2_117 rfl rfl rfl rfl rfl rfl rfl ?_
          refine R_callVi 95 (eX3_turned (pk := m.2 3 0) (pm := m.2 3 1) (pf := m.2 3 2) (ps := m.2 3 3) (ph := m.2 3 4) (pp := m.2 3 5) rfl) dX2_letOneGetUp_92 rfl kX3_turned lX2_120 rfl rfl rfl rfl rfl rfl rfl ?_
          refine R_nm (fun z7_ hz7_ => ?_)
          refine R_put 98 dX2_letOneGetUp_95 rfl wX2_36 rfl rfl rfl rfl (h2 := (hC G n ((upd m.1 0 z7_), m.2) i cf ca, h2)) rfl ?_
          refine R_aload_n 99 dX2_letOneGetUp_98 rfl rfl ?_
          refine R_aload_n 100 dX2_letOneGetUp_99 rfl rfl ?_
          refine R_get 103 dX2_letOneGetUp_100 rfl fX2_55 rfl (v := .int (m.1 7)) rfl ?_
          refine R_aload_n 104 dX2_letOneGetUp_103 rfl rfl ?_
          refine R_get 107 dX2_letOneGetUp_104 rfl fX2_124 rfl (v := .int (m.2 3 5)) rfl ?_
          refine R_callVv 110 eX0_noteUp_28 dX2_letOneGetUp_107 rfl kX0_noteUp lX2_127 rfl rfl rfl rfl rfl rfl rfl ?_
          refine R_aload_n 111 dX2_letOneGetUp_110 rfl rfl ?_
          refine R_aload_n 112 dX2_letOneGetUp_111 rfl rfl ?_
          refine R_get 115 dX2_letOneGetUp_112 rfl fX2_55 rfl (v := .int (m.1 7)) rfl ?_
          refine R_iconst 116 dX2_letOneGetUp_115 rfl (v := 1) (by decide) ?_
          refine R_iadd 117 dX2_letOneGetUp_116 rfl ?_
          refine R_aload_n 118 dX2_letOneGetUp_117 rfl rfl ?_
          refine R_get 121 dX2_letOneGetUp_118 rfl fX2_49 rfl (v := .int (m.1 6)) rfl ?_
          refine R_cut 134 [(0, .ref 10), (1, .int dr), (2, .ref 28), (3, .ref 17), (4, .int (if (m.2 3 3) = 0 then m.1 1 else m.1 2))] (.int (if (m.1 6) ≤ ((m.1 7) + 1) then 0 else (m.1 7) + 1) :: [.ref 10]) (hC G n ((upd m.1 0 z7_), m.2) i ((sX0_noteUp cf ca (m.1 7) (m.2 3 5)).1) ((sX0_noteUp cf ca (m.1 7) (m.2 3 5)).2), h2) ?_ (fun kj => ?_)
          ·
            refine R_nm (fun z8_ hz8_ => ?_)
            refine R_put 137 dX2_letOneGetUp_134 rfl wX2_55 rfl rfl rfl rfl (h2 := (hC G n ((upd (upd m.1 0 z7_) 7 z8_), m.2) i ((sX0_noteUp cf ca (m.1 7) (m.2 3 5)).1) ((sX0_noteUp cf ca (m.1 7) (m.2 3 5)).2), h2)) rfl ?_
            refine R_return dX2_letOneGetUp_137 rfl ?_
            subst hz7_ hz8_
            have e : zz = (((upd (upd m.1 0 (sX3_turned (m.2 3 0) (m.2 3 1) (m.2 3 2) (m.2 3 3) (m.2 3 4) (m.2 3 5) (m.1 0) (sX4_aim (m.1 11) (m.1 12) (m.1 13) (if (m.2 3 3) = 0 then m.1 1 else m.1 2) (((m.1 1) + (m.1 2)) / 2) dr))) 7 (if (m.1 6) ≤ ((m.1 7) + 1) then 0 else (m.1 7) + 1)), m.2), (sX0_noteUp cf ca (m.1 7) (m.2 3 5)).1, (sX0_noteUp cf ca (m.1 7) (m.2 3 5)).2) := by rw [← hs]; unfold sX2_letOneGetUp; rw [if_pos c1, if_neg c2, if_neg c6, if_neg c10, if_pos c14, if_pos c15]
            rw [pr1 e, pr1 (pr2 e), pr2 (pr2 e)]; exact ⟨rfl, rfl⟩
          refine R_icmp_ge 124 133 dX2_letOneGetUp_121 rfl (by decide) (fun c17 => ?_) (fun c17 => ?_)
          · refine R_iconst 134 dX2_letOneGetUp_133 rfl (v := 0) (by decide) ?_
            rw [if_pos c17] at kj; exact kj
          · refine R_aload_n 125 dX2_letOneGetUp_124 rfl rfl ?_
            refine R_get 128 dX2_letOneGetUp_125 rfl fX2_55 rfl (v := .int (m.1 7)) rfl ?_
            refine R_iconst 129 dX2_letOneGetUp_128 rfl (v := 1) (by decide) ?_
            refine R_iadd 130 dX2_letOneGetUp_129 rfl ?_
            refine R_goto 134 dX2_letOneGetUp_130 (by decide) ?_
            rw [if_neg c17] at kj; exact kj
        refine R_if_ne 52 59 dX2_letOneGetUp_49 rfl (by decide) (fun c16 => ?_) (fun c16 => ?_)
        · refine R_aload_n 60 dX2_letOneGetUp_59 rfl rfl ?_
          refine R_get 63 dX2_letOneGetUp_60 rfl fX2_9 rfl (v := .int (m.1 2)) rfl ?_
          rw [if_neg c16] at kj; exact kj
        · refine R_aload_n 53 dX2_letOneGetUp_52 rfl rfl ?_
          refine R_get 56 dX2_letOneGetUp_53 rfl fX2_39 rfl (v := .int (m.1 1)) rfl ?_
          refine R_goto 63 dX2_letOneGetUp_56 (by decide) ?_
          rw [if_pos c16] at kj; exact kj
      ·
        refine R_return dX2_letOneGetUp_44 rfl ?_
        have e : zz = (m, cf, ca) := by rw [← hs]; unfold sX2_letOneGetUp; rw [if_pos c1, if_neg c2, if_neg c6, if_neg c10, if_pos c14, if_neg c15]
        rw [pr1 e, pr1 (pr2 e), pr2 (pr2 e)]; exact ⟨rfl, rfl⟩
    have c18 : (m.1 7) = 4 := has4 c1 c2 c6 c10 c14
    refine R_aaldAt 21 4 c18 dX2_letOneGetUp_20 rfl rfl rfl (vin_d (by decide)) (y := 18) rfl ?_
    refine R_astore_n 22 dX2_letOneGetUp_21 rfl rfl (by decide) (loc' := [(0, .ref 10), (1, .int dr), (2, .ref 28), (3, .ref 18)]) rfl ?_
    refine R_aload_n 23 dX2_letOneGetUp_22 rfl rfl ?_
    refine R_get 26 dX2_letOneGetUp_23 rfl fX2_25 rfl (v := .ref 12) rfl ?_
    refine R_aload_n 27 dX2_letOneGetUp_26 rfl rfl ?_
    refine R_aload_n 28 dX2_letOneGetUp_27 rfl rfl ?_
    refine R_get 31 dX2_letOneGetUp_28 rfl fX2_110 rfl (v := .int (m.2 4 3)) rfl ?_
    refine R_callVi 34 (eX2_off (av := m.1 0) (p0 := m.1 1) (p1 := m.1 2) (sz := m.1 6) (tu := m.1 7) (mi := m.1 8) rfl) dX2_letOneGetUp_31 rfl kX2_off lX2_103 rfl rfl rfl rfl rfl rfl rfl ?_
    refine R_aload_n 35 dX2_letOneGetUp_34 rfl rfl ?_
    refine R_get 38 dX2_letOneGetUp_35 rfl fX2_58 rfl (v := .int (m.1 8)) rfl ?_
    refine R_callVi 41 (eX4_rouses (rk := m.1 11) (rl := m.1 12) (rp := m.1 13) rfl) dX2_letOneGetUp_38 rfl kX4_rouses lX2_113 rfl rfl rfl rfl rfl rfl rfl ?_
    refine R_ifb_ne 44 45 dX2_letOneGetUp_41 rfl (by decide) (fun c19 => ?_) (fun c19 => ?_)
    ·
      refine R_aload_n 46 dX2_letOneGetUp_45 rfl rfl ?_
      refine R_get 49 dX2_letOneGetUp_46 rfl fX2_110 rfl (v := .int (m.2 4 3)) rfl ?_
      refine R_cut 63 [(0, .ref 10), (1, .int dr), (2, .ref 28), (3, .ref 18)] (.int (if (m.2 4 3) = 0 then m.1 1 else m.1 2) :: []) (hC G n m i cf ca, h2) ?_ (fun kj => ?_)
      ·
        refine R_istore 65 dX2_letOneGetUp_63 rfl rfl (by decide) (loc' := [(0, .ref 10), (1, .int dr), (2, .ref 28), (3, .ref 18), (4, .int (if (m.2 4 3) = 0 then m.1 1 else m.1 2))]) rfl ?_
        refine R_aload_n 66 dX2_letOneGetUp_65 rfl rfl ?_
        refine R_aload_n 67 dX2_letOneGetUp_66 rfl rfl ?_
        refine R_aload_n 68 dX2_letOneGetUp_67 rfl rfl ?_
        refine R_get 71 dX2_letOneGetUp_68 rfl fX2_36 rfl (v := .int (m.1 0)) rfl ?_
        refine R_aload_n 72 dX2_letOneGetUp_71 rfl rfl ?_
        refine R_get 75 dX2_letOneGetUp_72 rfl fX2_25 rfl (v := .ref 12) rfl ?_
        refine R_iload 77 dX2_letOneGetUp_75 rfl rfl ?_
        refine R_aload_n 78 dX2_letOneGetUp_77 rfl rfl ?_
        refine R_get 81 dX2_letOneGetUp_78 rfl fX2_39 rfl (v := .int (m.1 1)) rfl ?_
        refine R_aload_n 82 dX2_letOneGetUp_81 rfl rfl ?_
        refine R_get 85 dX2_letOneGetUp_82 rfl fX2_9 rfl (v := .int (m.1 2)) rfl ?_
        refine R_iadd 86 dX2_letOneGetUp_85 rfl ?_
        refine R_iconst 87 dX2_letOneGetUp_86 rfl (v := 2) (by decide) ?_
        refine R_idiv 88 dX2_letOneGetUp_87 rfl (by decide) ?_
        refine R_iload_n 89 dX2_letOneGetUp_88 rfl rfl ?_
        refine R_callVi 92 (eX4_aim (rk := m.1 11) (rl := m.1 12) (rp := m.1 13) rfl) dX2_letOneGetUp_89 rfl kX4_aim lX2_117 rfl rfl rfl rfl rfl rfl rfl ?_
        refine R_callVi 95 (eX3_turned (pk := m.2 4 0) (pm := m.2 4 1) (pf := m.2 4 2) (ps := m.2 4 3) (ph := m.2 4 4) (pp := m.2 4 5) rfl) dX2_letOneGetUp_92 rfl kX3_turned lX2_120 rfl rfl rfl rfl rfl rfl rfl ?_
        refine R_nm (fun z9_ hz9_ => ?_)
        refine R_put 98 dX2_letOneGetUp_95 rfl wX2_36 rfl rfl rfl rfl (h2 := (hC G n ((upd m.1 0 z9_), m.2) i cf ca, h2)) rfl ?_
        refine R_aload_n 99 dX2_letOneGetUp_98 rfl rfl ?_
        refine R_aload_n 100 dX2_letOneGetUp_99 rfl rfl ?_
        refine R_get 103 dX2_letOneGetUp_100 rfl fX2_55 rfl (v := .int (m.1 7)) rfl ?_
        refine R_aload_n 104 dX2_letOneGetUp_103 rfl rfl ?_
        refine R_get 107 dX2_letOneGetUp_104 rfl fX2_124 rfl (v := .int (m.2 4 5)) rfl ?_
        refine R_callVv 110 eX0_noteUp_28 dX2_letOneGetUp_107 rfl kX0_noteUp lX2_127 rfl rfl rfl rfl rfl rfl rfl ?_
        refine R_aload_n 111 dX2_letOneGetUp_110 rfl rfl ?_
        refine R_aload_n 112 dX2_letOneGetUp_111 rfl rfl ?_
        refine R_get 115 dX2_letOneGetUp_112 rfl fX2_55 rfl (v := .int (m.1 7)) rfl ?_
        refine R_iconst 116 dX2_letOneGetUp_115 rfl (v := 1) (by decide) ?_
        refine R_iadd 117 dX2_letOneGetUp_116 rfl ?_
        refine R_aload_n 118 dX2_letOneGetUp_117 rfl rfl ?_
        refine R_get 121 dX2_letOneGetUp_118 rfl fX2_49 rfl (v := .int (m.1 6)) rfl ?_
        refine R_cut 134 [(0, .ref 10), (1, .int dr), (2, .ref 28), (3, .ref 18), (4, .int (if (m.2 4 3) = 0 then m.1 1 else m.1 2))] (.int (if (m.1 6) ≤ ((m.1 7) + 1) then 0 else (m.1 7) + 1) :: [.ref 10]) (hC G n ((upd m.1 0 z9_), m.2) i ((sX0_noteUp cf ca (m.1 7) (m.2 4 5)).1) ((sX0_noteUp cf ca (m.1 7) (m.2 4 5)).2), h2) ?_ (fun kj => ?_)
        ·
          refine R_nm (fun z10_ hz10_ => ?_)
          refine R_put 137 dX2_letOneGetUp_134 rfl wX2_55 rfl rfl rfl rfl (h2 := (hC G n ((upd (upd m.1 0 z9_) 7 z10_), m.2) i ((sX0_noteUp cf ca (m.1 7) (m.2 4 5)).1) ((sX0_noteUp cf ca (m.1 7) (m.2 4 5)).2), h2)) rfl ?_
          refine R_return dX2_letOneGetUp_137 rfl ?_
          subst hz9_ hz10_
          have e : zz = (((upd (upd m.1 0 (sX3_turned (m.2 4 0) (m.2 4 1) (m.2 4 2) (m.2 4 3) (m.2 4 4) (m.2 4 5) (m.1 0) (sX4_aim (m.1 11) (m.1 12) (m.1 13) (if (m.2 4 3) = 0 then m.1 1 else m.1 2) (((m.1 1) + (m.1 2)) / 2) dr))) 7 (if (m.1 6) ≤ ((m.1 7) + 1) then 0 else (m.1 7) + 1)), m.2), (sX0_noteUp cf ca (m.1 7) (m.2 4 5)).1, (sX0_noteUp cf ca (m.1 7) (m.2 4 5)).2) := by rw [← hs]; unfold sX2_letOneGetUp; rw [if_pos c1, if_neg c2, if_neg c6, if_neg c10, if_neg c14, if_pos c19]
          rw [pr1 e, pr1 (pr2 e), pr2 (pr2 e)]; exact ⟨rfl, rfl⟩
        refine R_icmp_ge 124 133 dX2_letOneGetUp_121 rfl (by decide) (fun c21 => ?_) (fun c21 => ?_)
        · refine R_iconst 134 dX2_letOneGetUp_133 rfl (v := 0) (by decide) ?_
          rw [if_pos c21] at kj; exact kj
        · refine R_aload_n 125 dX2_letOneGetUp_124 rfl rfl ?_
          refine R_get 128 dX2_letOneGetUp_125 rfl fX2_55 rfl (v := .int (m.1 7)) rfl ?_
          refine R_iconst 129 dX2_letOneGetUp_128 rfl (v := 1) (by decide) ?_
          refine R_iadd 130 dX2_letOneGetUp_129 rfl ?_
          refine R_goto 134 dX2_letOneGetUp_130 (by decide) ?_
          rw [if_neg c21] at kj; exact kj
      refine R_if_ne 52 59 dX2_letOneGetUp_49 rfl (by decide) (fun c20 => ?_) (fun c20 => ?_)
      · refine R_aload_n 60 dX2_letOneGetUp_59 rfl rfl ?_
        refine R_get 63 dX2_letOneGetUp_60 rfl fX2_9 rfl (v := .int (m.1 2)) rfl ?_
        rw [if_neg c20] at kj; exact kj
      · refine R_aload_n 53 dX2_letOneGetUp_52 rfl rfl ?_
        refine R_get 56 dX2_letOneGetUp_53 rfl fX2_39 rfl (v := .int (m.1 1)) rfl ?_
        refine R_goto 63 dX2_letOneGetUp_56 (by decide) ?_
        rw [if_pos c20] at kj; exact kj
    ·
      refine R_return dX2_letOneGetUp_44 rfl ?_
      have e : zz = (m, cf, ca) := by rw [← hs]; unfold sX2_letOneGetUp; rw [if_pos c1, if_neg c2, if_neg c6, if_neg c10, if_neg c14, if_neg c19]
      rw [pr1 e, pr1 (pr2 e), pr2 (pr2 e)]; exact ⟨rfl, rfl⟩
  ·
    refine R_return dX2_letOneGetUp_11 rfl ?_
    have e : zz = (m, cf, ca) := by rw [← hs]; unfold sX2_letOneGetUp; rw [if_neg c1]
    rw [pr1 e, pr1 (pr2 e), pr2 (pr2 e)]; exact ⟨rfl, rfl⟩
set_option maxRecDepth 20000 in
theorem eX2_botherAll_10 {G : zG} {h2 : List va_E} {n m i : zP} {cf : Nat → Int32} {ca : Nat → Nat → Int32} : EvF G mX2_botherAll [.ref 10, .ref 28] (hC G n m i cf ca, h2) (none) (hC G n m i ((sX2_botherAll m cf ca).1) ((sX2_botherAll m cf ca).2), h2) := by
  generalize hs : (sX2_botherAll m cf ca) = zz
  refine EvF.of pnX2 rfl ?_
  refine R_aload_n 1 dX2_botherAll_0 rfl rfl ?_
  refine R_iconst 2 dX2_botherAll_1 rfl (v := 0) (by decide) ?_
  refine R_callVi 5 (eX2_off (av := m.1 0) (p0 := m.1 1) (p1 := m.1 2) (sz := m.1 6) (tu := m.1 7) (mi := m.1 8) rfl) dX2_botherAll_2 rfl kX2_off lX2_103 rfl rfl rfl rfl rfl rfl rfl ?_
  refine R_nm (fun z1_ hz1_ => ?_)
  refine R_istore_n 6 dX2_botherAll_5 rfl rfl (by decide) (loc' := [(0, .ref 10), (1, .ref 28), (2, .int z1_)]) rfl ?_
  refine R_aload_n 7 dX2_botherAll_6 rfl rfl ?_
  refine R_iconst 8 dX2_botherAll_7 rfl (v := 1) (by decide) ?_
  refine R_callVi 11 (eX2_off (av := m.1 0) (p0 := m.1 1) (p1 := m.1 2) (sz := m.1 6) (tu := m.1 7) (mi := m.1 8) rfl) dX2_botherAll_8 rfl kX2_off lX2_103 rfl rfl rfl rfl rfl rfl rfl ?_
  refine R_nm (fun z2_ hz2_ => ?_)
  refine R_istore_n 12 dX2_botherAll_11 rfl rfl (by decide) (loc' := [(0, .ref 10), (1, .ref 28), (2, .int z1_), (3, .int z2_)]) rfl ?_
  refine R_iconst 13 dX2_botherAll_12 rfl (v := 0) (by decide) ?_
  refine R_istore 15 dX2_botherAll_13 rfl rfl (by decide) (loc' := [(0, .ref 10), (1, .ref 28), (2, .int z1_), (3, .int z2_), (4, .int 0)]) rfl ?_
  refine R_iload 17 dX2_botherAll_15 rfl rfl ?_
  refine R_aload_n 18 dX2_botherAll_17 rfl rfl ?_
  refine R_get 21 dX2_botherAll_18 rfl fX2_49 rfl (v := .int (m.1 6)) rfl ?_
  refine R_icmp_ge 24 69 dX2_botherAll_21 rfl (by decide) (fun c1 => ?_) (fun c1 => ?_)
  ·
    refine R_aload_n 70 dX2_botherAll_69 rfl rfl ?_
    refine R_iload_n 71 dX2_botherAll_70 rfl rfl ?_
    refine R_iload_n 72 dX2_botherAll_71 rfl rfl ?_
    refine R_callVv 75 eX0_noteOff_28 dX2_botherAll_72 rfl kX0_noteOff lX2_139 rfl rfl rfl rfl rfl rfl rfl ?_
    refine R_return dX2_botherAll_75 rfl ?_
    subst hz1_ hz2_
    have e : zz = ((sX0_noteOff cf ca (sX2_off (m.1 0) (m.1 1) (m.1 2) (m.1 6) (m.1 7) (m.1 8) 0) (sX2_off (m.1 0) (m.1 1) (m.1 2) (m.1 6) (m.1 7) (m.1 8) 1)), ca) := by rw [← hs]; unfold sX2_botherAll; rw [if_pos c1]
    rw [pr1 e, pr2 e]; exact ⟨rfl, rfl⟩
  ·
    refine R_iload 26 dX2_botherAll_24 rfl rfl ?_
    refine R_iconst 27 dX2_botherAll_26 rfl (v := 5) (by decide) ?_
    refine R_icmp_ge 30 69 dX2_botherAll_27 rfl (by decide) (fun c => absurd c (by decide)) (fun _ => ?_)
    refine R_aload_n 31 dX2_botherAll_30 rfl rfl ?_
    refine R_get 34 dX2_botherAll_31 rfl fX2_31 rfl (v := .ref 13) rfl ?_
    refine R_iload 36 dX2_botherAll_34 rfl rfl ?_
    refine R_aald 37 dX2_botherAll_36 rfl rfl rfl (vin_d (by decide)) (y := 14) rfl ?_
    refine R_astore 39 dX2_botherAll_37 rfl rfl (by decide) (loc' := [(0, .ref 10), (1, .ref 28), (2, .int z1_), (3, .int z2_), (4, .int 0), (5, .ref 14)]) rfl ?_
    refine R_aload_n 40 dX2_botherAll_39 rfl rfl ?_
    refine R_iload 42 dX2_botherAll_40 rfl rfl ?_
    refine R_aload 44 dX2_botherAll_42 rfl rfl ?_
    refine R_aload 46 dX2_botherAll_44 rfl rfl ?_
    refine R_get 49 dX2_botherAll_46 rfl fX2_110 rfl (v := .int (m.2 0 3)) rfl ?_
    refine R_cut 57 [(0, .ref 10), (1, .ref 28), (2, .int z1_), (3, .int z2_), (4, .int 0), (5, .ref 14)] (.int (if (m.2 0 3) = 0 then z1_ else z2_) :: [.ref 14, .int 0, .ref 28]) (hC G n m i cf ca, h2) ?_ (fun kj => ?_)
    ·
      refine R_callVi 60 (eX3_botheredBy (pk := m.2 0 0) (pm := m.2 0 1) (pf := m.2 0 2) (ps := m.2 0 3) (ph := m.2 0 4) (pp := m.2 0 5) rfl) dX2_botherAll_57 rfl kX3_botheredBy lX2_133 rfl rfl rfl rfl rfl rfl rfl ?_
      refine R_callVv 63 eX0_noteBother_28 dX2_botherAll_60 rfl kX0_noteBother lX2_136 rfl rfl rfl rfl rfl rfl rfl ?_
      refine R_iinc 66 dX2_botherAll_63 rfl rfl (v := 1) (by decide) rfl (by decide) (loc' := [(0, .ref 10), (1, .ref 28), (2, .int z1_), (3, .int z2_), (4, .int 1), (5, .ref 14)]) rfl ?_
      refine R_goto 15 dX2_botherAll_66 (by decide) ?_
      refine R_iload 17 dX2_botherAll_15 rfl rfl ?_
      refine R_aload_n 18 dX2_botherAll_17 rfl rfl ?_
      refine R_get 21 dX2_botherAll_18 rfl fX2_49 rfl (v := .int (m.1 6)) rfl ?_
      refine R_icmp_ge 24 69 dX2_botherAll_21 rfl (by decide) (fun c3 => ?_) (fun c3 => ?_)
      ·
        refine R_aload_n 70 dX2_botherAll_69 rfl rfl ?_
        refine R_iload_n 71 dX2_botherAll_70 rfl rfl ?_
        refine R_iload_n 72 dX2_botherAll_71 rfl rfl ?_
        refine R_callVv 75 eX0_noteOff_28 dX2_botherAll_72 rfl kX0_noteOff lX2_139 rfl rfl rfl rfl rfl rfl rfl ?_
        refine R_return dX2_botherAll_75 rfl ?_
        subst hz1_ hz2_
        have e : zz = ((sX0_noteOff cf (sX0_noteBother cf ca 0 (sX3_botheredBy (m.2 0 0) (m.2 0 1) (m.2 0 2) (m.2 0 3) (m.2 0 4) (m.2 0 5) (if (m.2 0 3) = 0 then (sX2_off (m.1 0) (m.1 1) (m.1 2) (m.1 6) (m.1 7) (m.1 8) 0) else (sX2_off (m.1 0) (m.1 1) (m.1 2) (m.1 6) (m.1 7) (m.1 8) 1)))) (sX2_off (m.1 0) (m.1 1) (m.1 2) (m.1 6) (m.1 7) (m.1 8) 0) (sX2_off (m.1 0) (m.1 1) (m.1 2) (m.1 6) (m.1 7) (m.1 8) 1)), (sX0_noteBother cf ca 0 (sX3_botheredBy (m.2 0 0) (m.2 0 1) (m.2 0 2) (m.2 0 3) (m.2 0 4) (m.2 0 5) (if (m.2 0 3) = 0 then (sX2_off (m.1 0) (m.1 1) (m.1 2) (m.1 6) (m.1 7) (m.1 8) 0) else (sX2_off (m.1 0) (m.1 1) (m.1 2) (m.1 6) (m.1 7) (m.1 8) 1))))) := by rw [← hs]; unfold sX2_botherAll; rw [if_neg c1, if_pos c3]
        rw [pr1 e, pr2 e]; exact ⟨rfl, rfl⟩
      ·
        refine R_iload 26 dX2_botherAll_24 rfl rfl ?_
        refine R_iconst 27 dX2_botherAll_26 rfl (v := 5) (by decide) ?_
        refine R_icmp_ge 30 69 dX2_botherAll_27 rfl (by decide) (fun c => absurd c (by decide)) (fun _ => ?_)
        refine R_aload_n 31 dX2_botherAll_30 rfl rfl ?_
        refine R_get 34 dX2_botherAll_31 rfl fX2_31 rfl (v := .ref 13) rfl ?_
        refine R_iload 36 dX2_botherAll_34 rfl rfl ?_
        refine R_aald 37 dX2_botherAll_36 rfl rfl rfl (vin_d (by decide)) (y := 15) rfl ?_
        refine R_astore 39 dX2_botherAll_37 rfl rfl (by decide) (loc' := [(0, .ref 10), (1, .ref 28), (2, .int z1_), (3, .int z2_), (4, .int 1), (5, .ref 15)]) rfl ?_
        refine R_aload_n 40 dX2_botherAll_39 rfl rfl ?_
        refine R_iload 42 dX2_botherAll_40 rfl rfl ?_
        refine R_aload 44 dX2_botherAll_42 rfl rfl ?_
        refine R_aload 46 dX2_botherAll_44 rfl rfl ?_
        refine R_get 49 dX2_botherAll_46 rfl fX2_110 rfl (v := .int (m.2 1 3)) rfl ?_
        refine R_cut 57 [(0, .ref 10), (1, .ref 28), (2, .int z1_), (3, .int z2_), (4, .int 1), (5, .ref 15)] (.int (if (m.2 1 3) = 0 then z1_ else z2_) :: [.ref 15, .int 1, .ref 28]) (hC G n m i cf (sX0_noteBother cf ca 0 (sX3_botheredBy (m.2 0 0) (m.2 0 1) (m.2 0 2) (m.2 0 3) (m.2 0 4) (m.2 0 5) (if (m.2 0 3) = 0 then z1_ else z2_))), h2) ?_ (fun kj => ?_)
        ·
          refine R_callVi 60 (eX3_botheredBy (pk := m.2 1 0) (pm := m.2 1 1) (pf := m.2 1 2) (ps := m.2 1 3) (ph := m.2 1 4) (pp := m.2 1 5) rfl) dX2_botherAll_57 rfl kX3_botheredBy lX2_133 rfl rfl rfl rfl rfl rfl rfl ?_
          refine R_callVv 63 eX0_noteBother_28 dX2_botherAll_60 rfl kX0_noteBother lX2_136 rfl rfl rfl rfl rfl rfl rfl ?_
          refine R_iinc 66 dX2_botherAll_63 rfl rfl (v := 2) (by decide) rfl (by decide) (loc' := [(0, .ref 10), (1, .ref 28), (2, .int z1_), (3, .int z2_), (4, .int 2), (5, .ref 15)]) rfl ?_
          refine R_goto 15 dX2_botherAll_66 (by decide) ?_
          refine R_iload 17 dX2_botherAll_15 rfl rfl ?_
          refine R_aload_n 18 dX2_botherAll_17 rfl rfl ?_
          refine R_get 21 dX2_botherAll_18 rfl fX2_49 rfl (v := .int (m.1 6)) rfl ?_
          refine R_icmp_ge 24 69 dX2_botherAll_21 rfl (by decide) (fun c5 => ?_) (fun c5 => ?_)
          ·
            refine R_aload_n 70 dX2_botherAll_69 rfl rfl ?_
            refine R_iload_n 71 dX2_botherAll_70 rfl rfl ?_
            refine R_iload_n 72 dX2_botherAll_71 rfl rfl ?_
            refine R_callVv 75 eX0_noteOff_28 dX2_botherAll_72 rfl kX0_noteOff lX2_139 rfl rfl rfl rfl rfl rfl rfl ?_
            refine R_return dX2_botherAll_75 rfl ?_
            subst hz1_ hz2_
            have e : zz = ((sX0_noteOff cf (sX0_noteBother cf (sX0_noteBother cf ca 0 (sX3_botheredBy (m.2 0 0) (m.2 0 1) (m.2 0 2) (m.2 0 3) (m.2 0 4) (m.2 0 5) (if (m.2 0 3) = 0 then (sX2_off (m.1 0) (m.1 1) (m.1 2) (m.1 6) (m.1 7) (m.1 8) 0) else (sX2_off (m.1 0) (m.1 1) (m.1 2) (m.1 6) (m.1 7) (m.1 8) 1)))) 1 (sX3_botheredBy (m.2 1 0) (m.2 1 1) (m.2 1 2) (m.2 1 3) (m.2 1 4) (m.2 1 5) (if (m.2 1 3) = 0 then (sX2_off (m.1 0) (m.1 1) (m.1 2) (m.1 6) (m.1 7) (m.1 8) 0) else (sX2_off (m.1 0) (m.1 1) (m.1 2) (m.1 6) (m.1 7) (m.1 8) 1)))) (sX2_off (m.1 0) (m.1 1) (m.1 2) (m.1 6) (m.1 7) (m.1 8) 0) (sX2_off (m.1 0) (m.1 1) (m.1 2) (m.1 6) (m.1 7) (m.1 8) 1)), (sX0_noteBother cf (sX0_noteBother cf ca 0 (sX3_botheredBy (m.2 0 0) (m.2 0 1) (m.2 0 2) (m.2 0 3) (m.2 0 4) (m.2 0 5) (if (m.2 0 3) = 0 then (sX2_off (m.1 0) (m.1 1) (m.1 2) (m.1 6) (m.1 7) (m.1 8) 0) else (sX2_off (m.1 0) (m.1 1) (m.1 2) (m.1 6) (m.1 7) (m.1 8) 1)))) 1 (sX3_botheredBy (m.2 1 0) (m.2 1 1) (m.2 1 2) (m.2 1 3) (m.2 1 4) (m.2 1 5) (if (m.2 1 3) = 0 then (sX2_off (m.1 0) (m.1 1) (m.1 2) (m.1 6) (m.1 7) (m.1 8) 0) else (sX2_off (m.1 0) (m.1 1) (m.1 2) (m.1 6) (m.1 7) (m.1 8) 1))))) := by rw [← hs]; unfold sX2_botherAll; rw [if_neg c1, if_neg c3, if_pos c5]
            rw [pr1 e, pr2 e]; exact ⟨rfl, rfl⟩
          ·
            refine R_iload 26 dX2_botherAll_24 rfl rfl ?_
            refine R_iconst 27 dX2_botherAll_26 rfl (v := 5) (by decide) ?_
            refine R_icmp_ge 30 69 dX2_botherAll_27 rfl (by decide) (fun c => absurd c (by decide)) (fun _ => ?_)
            refine R_aload_n 31 dX2_botherAll_30 rfl rfl ?_
            refine R_get 34 dX2_botherAll_31 rfl fX2_31 rfl (v := .ref 13) rfl ?_
            refine R_iload 36 dX2_botherAll_34 rfl rfl ?_
            refine R_aald 37 dX2_botherAll_36 rfl rfl rfl (vin_d (by decide)) (y := 16) rfl ?_
            refine R_astore 39 dX2_botherAll_37 rfl rfl (by decide) (loc' := [(0, .ref 10), (1, .ref 28), (2, .int z1_), (3, .int z2_), (4, .int 2), (5, .ref 16)]) rfl ?_
            refine R_aload_n 40 dX2_botherAll_39 rfl rfl ?_
            refine R_iload 42 dX2_botherAll_40 rfl rfl ?_
            refine R_aload 44 dX2_botherAll_42 rfl rfl ?_
            refine R_aload 46 dX2_botherAll_44 rfl rfl ?_
            refine R_get 49 dX2_botherAll_46 rfl fX2_110 rfl (v := .int (m.2 2 3)) rfl ?_
            refine R_cut 57 [(0, .ref 10), (1, .ref 28), (2, .int z1_), (3, .int z2_), (4, .int 2), (5, .ref 16)] (.int (if (m.2 2 3) = 0 then z1_ else z2_) :: [.ref 16, .int 2, .ref 28]) (hC G n m i cf (sX0_noteBother cf (sX0_noteBother cf ca 0 (sX3_botheredBy (m.2 0 0) (m.2 0 1) (m.2 0 2) (m.2 0 3) (m.2 0 4) (m.2 0 5) (if (m.2 0 3) = 0 then z1_ else z2_))) 1 (sX3_botheredBy (m.2 1 0) (m.2 1 1) (m.2 1 2) (m.2 1 3) (m.2 1 4) (m.2 1 5) (if (m.2 1 3) = 0 then z1_ else z2_))), h2) ?_ (fun kj => ?_)
            ·
              refine R_callVi 60 (eX3_botheredBy (pk := m.2 2 0) (pm := m.2 2 1) (pf := m.2 2 2) (ps := m.2 2 3) (ph := m.2 2 4) (pp := m.2 2 5) rfl) dX2_botherAll_57 rfl kX3_botheredBy lX2_133 rfl rfl rfl rfl rfl rfl rfl ?_
              refine R_callVv 63 eX0_noteBother_28 dX2_botherAll_60 rfl kX0_noteBother lX2_136 rfl rfl rfl rfl rfl rfl rfl ?_
              refine R_iinc 66 dX2_botherAll_63 rfl rfl (v := 3) (by decide) rfl (by decide) (loc' := [(0, .ref 10), (1, .ref 28), (2, .int z1_), (3, .int z2_), (4, .int 3), (5, .ref 16)]) rfl ?_
              refine R_goto 15 dX2_botherAll_66 (by decide) ?_
              refine R_iload 17 dX2_botherAll_15 rfl rfl ?_
              refine R_aload_n 18 dX2_botherAll_17 rfl rfl ?_
              refine R_get 21 dX2_botherAll_18 rfl fX2_49 rfl (v := .int (m.1 6)) rfl ?_
              refine R_icmp_ge 24 69 dX2_botherAll_21 rfl (by decide) (fun c7 => ?_) (fun c7 => ?_)
              ·
                refine R_aload_n 70 dX2_botherAll_69 rfl rfl ?_
                refine R_iload_n 71 dX2_botherAll_70 rfl rfl ?_
                refine R_iload_n 72 dX2_botherAll_71 rfl rfl ?_
                refine R_callVv 75 eX0_noteOff_28 dX2_botherAll_72 rfl kX0_noteOff lX2_139 rfl rfl rfl rfl rfl rfl rfl ?_
                refine R_return dX2_botherAll_75 rfl ?_
                subst hz1_ hz2_
                have e : zz = ((sX0_noteOff cf (sX0_noteBother cf (sX0_noteBother cf (sX0_noteBother cf ca 0 (sX3_botheredBy (m.2 0 0) (m.2 0 1) (m.2 0 2) (m.2 0 3) (m.2 0 4) (m.2 0 5) (if (m.2 0 3) = 0 then (sX2_off (m.1 0) (m.1 1) (m.1 2) (m.1 6) (m.1 7) (m.1 8) 0) else (sX2_off (m.1 0) (m.1 1) (m.1 2) (m.1 6) (m.1 7) (m.1 8) 1)))) 1 (sX3_botheredBy (m.2 1 0) (m.2 1 1) (m.2 1 2) (m.2 1 3) (m.2 1 4) (m.2 1 5) (if (m.2 1 3) = 0 then (sX2_off (m.1 0) (m.1 1) (m.1 2) (m.1 6) (m.1 7) (m.1 8) 0) else (sX2_off (m.1 0) (m.1 1) (m.1 2) (m.1 6) (m.1 7) (m.1 8) 1)))) 2 (sX3_botheredBy (m.2 2 0) (m.2 2 1) (m.2 2 2) (m.2 2 3) (m.2 2 4) (m.2 2 5) (if (m.2 2 3) = 0 then (sX2_off (m.1 0) (m.1 1) (m.1 2) (m.1 6) (m.1 7) (m.1 8) 0) else (sX2_off (m.1 0) (m.1 1) (m.1 2) (m.1 6) (m.1 7) (m.1 8) 1)))) (sX2_off (m.1 0) (m.1 1) (m.1 2) (m.1 6) (m.1 7) (m.1 8) 0) (sX2_off (m.1 0) (m.1 1) (m.1 2) (m.1 6) (m.1 7) (m.1 8) 1)), (sX0_noteBother cf (sX0_noteBother cf (sX0_noteBother cf ca 0 (sX3_botheredBy (m.2 0 0) (m.2 0 1) (m.2 0 2) (m.2 0 3) (m.2 0 4) (m.2 0 5) (if (m.2 0 3) = 0 then (sX2_off (m.1 0) (m.1 1) (m.1 2) (m.1 6) (m.1 7) (m.1 8) 0) else (sX2_off (m.1 0) (m.1 1) (m.1 2) (m.1 6) (m.1 7) (m.1 8) 1)))) 1 (sX3_botheredBy (m.2 1 0) (m.2 1 1) (m.2 1 2) (m.2 1 3) (m.2 1 4) (m.2 1 5) (if (m.2 1 3) = 0 then (sX2_off (m.1 0) (m.1 1) (m.1 2) (m.1 6) (m.1 7) (m.1 8) 0) else (sX2_off (m.1 0) (m.1 1) (m.1 2) (m.1 6) (m.1 7) (m.1 8) 1)))) 2 (sX3_botheredBy (m.2 2 0) (m.2 2 1) (m.2 2 2) (m.2 2 3) (m.2 2 4) (m.2 2 5) (if (m.2 2 3) = 0 then (sX2_off (m.1 0) (m.1 1) (m.1 2) (m.1 6) (m.1 7) (m.1 8) 0) else (sX2_off (m.1 0) (m.1 1) (m.1 2) (m.1 6) (m.1 7) (m.1 8) 1))))) := by rw [← hs]; unfold sX2_botherAll; rw [if_neg c1, if_neg c3, if_neg c5, if_pos c7]
                rw [pr1 e, pr2 e]; exact ⟨rfl, rfl⟩
              ·
                refine R_iload 26 dX2_botherAll_24 rfl rfl ?_
                refine R_iconst 27 dX2_botherAll_26 rfl (v := 5) (by decide) ?_
                refine R_icmp_ge 30 69 dX2_botherAll_27 rfl (by decide) (fun c => absurd c (by decide)) (fun _ => ?_)
                refine R_aload_n 31 dX2_botherAll_30 rfl rfl ?_
                refine R_get 34 dX2_botherAll_31 rfl fX2_31 rfl (v := .ref 13) rfl ?_
                refine R_iload 36 dX2_botherAll_34 rfl rfl ?_
                refine R_aald 37 dX2_botherAll_36 rfl rfl rfl (vin_d (by decide)) (y := 17) rfl ?_
                refine R_astore 39 dX2_botherAll_37 rfl rfl (by decide) (loc' := [(0, .ref 10), (1, .ref 28), (2, .int z1_), (3, .int z2_), (4, .int 3), (5, .ref 17)]) rfl ?_
                refine R_aload_n 40 dX2_botherAll_39 rfl rfl ?_
                refine R_iload 42 dX2_botherAll_40 rfl rfl ?_
                refine R_aload 44 dX2_botherAll_42 rfl rfl ?_
                refine R_aload 46 dX2_botherAll_44 rfl rfl ?_
                refine R_get 49 dX2_botherAll_46 rfl fX2_110 rfl (v := .int (m.2 3 3)) rfl ?_
                refine R_cut 57 [(0, .ref 10), (1, .ref 28), (2, .int z1_), (3, .int z2_), (4, .int 3), (5, .ref 17)] (.int (if (m.2 3 3) = 0 then z1_ else z2_) :: [.ref 17, .int 3, .ref 28]) (hC G n m i cf (sX0_noteBother cf (sX0_noteBother cf (sX0_noteBother cf ca 0 (sX3_botheredBy (m.2 0 0) (m.2 0 1) (m.2 0 2) (m.2 0 3) (m.2 0 4) (m.2 0 5) (if (m.2 0 3) = 0 then z1_ else z2_))) 1 (sX3_botheredBy (m.2 1 0) (m.2 1 1) (m.2 1 2) (m.2 1 3) (m.2 1 4) (m.2 1 5) (if (m.2 1 3) = 0 then z1_ else z2_))) 2 (sX3_botheredBy (m.2 2 0) (m.2 2 1) (m.2 2 2) (m.2 2 3) (m.2 2 4) (m.2 2 5) (if (m.2 2 3) = 0 then z1_ else z2_))), h2) ?_ (fun kj => ?_)
                ·
                  refine R_callVi 60 (eX3_botheredBy (pk := m.2 3 0) (pm := m.2 3 1) (pf := m.2 3 2) (ps := m.2 3 3) (ph := m.2 3 4) (pp := m.2 3 5) rfl) dX2_botherAll_57 rfl kX3_botheredBy lX2_133 rfl rfl rfl rfl rfl rfl rfl ?_
                  refine R_callVv 63 eX0_noteBother_28 dX2_botherAll_60 rfl kX0_noteBother lX2_136 rfl rfl rfl rfl rfl rfl rfl ?_
                  refine R_iinc 66 dX2_botherAll_63 rfl rfl (v := 4) (by decide) rfl (by decide) (loc' := [(0, .ref 10), (1, .ref 28), (2, .int z1_), (3, .int z2_), (4, .int 4), (5, .ref 17)]) rfl ?_
                  refine R_goto 15 dX2_botherAll_66 (by decide) ?_
                  refine R_iload 17 dX2_botherAll_15 rfl rfl ?_
                  refine R_aload_n 18 dX2_botherAll_17 rfl rfl ?_
                  refine R_get 21 dX2_botherAll_18 rfl fX2_49 rfl (v := .int (m.1 6)) rfl ?_
                  refine R_icmp_ge 24 69 dX2_botherAll_21 rfl (by decide) (fun c9 => ?_) (fun c9 => ?_)
                  ·
                    refine R_aload_n 70 dX2_botherAll_69 rfl rfl ?_
                    refine R_iload_n 71 dX2_botherAll_70 rfl rfl ?_
                    refine R_iload_n 72 dX2_botherAll_71 rfl rfl ?_
                    refine R_callVv 75 eX0_noteOff_28 dX2_botherAll_72 rfl kX0_noteOff lX2_139 rfl rfl rfl rfl rfl rfl rfl ?_
                    refine R_return dX2_botherAll_75 rfl ?_
                    subst hz1_ hz2_
                    have e : zz = ((sX0_noteOff cf (sX0_noteBother cf (sX0_noteBother cf (sX0_noteBother cf (sX0_noteBother cf ca 0 (sX3_botheredBy (m.2 0 0) (m.2 0 1) (m.2 0 2) (m.2 0 3) (m.2 0 4) (m.2 0 5) (if (m.2 0 3) = 0 then (sX2_off (m.1 0) (m.1 1) (m.1 2) (m.1 6) (m.1 7) (m.1 8) 0) else (sX2_off (m.1 0) (m.1 1) (m.1 2) (m.1 6) (m.1 7) (m.1 8) 1)))) 1 (sX3_botheredBy (m.2 1 0) (m.2 1 1) (m.2 1 2) (m.2 1 3) (m.2 1 4) (m.2 1 5) (if (m.2 1 3) = 0 then (sX2_off (m.1 0) (m.1 1) (m.1 2) (m.1 6) (m.1 7) (m.1 8) 0) else (sX2_off (m.1 0) (m.1 1) (m.1 2) (m.1 6) (m.1 7) (m.1 8) 1)))) 2 (sX3_botheredBy (m.2 2 0) (m.2 2 1) (m.2 2 2) (m.2 2 3) (m.2 2 4) (m.2 2 5) (if (m.2 2 3) = 0 then (sX2_off (m.1 0) (m.1 1) (m.1 2) (m.1 6) (m.1 7) (m.1 8) 0) else (sX2_off (m.1 0) (m.1 1) (m.1 2) (m.1 6) (m.1 7) (m.1 8) 1)))) 3 (sX3_botheredBy (m.2 3 0) (m.2 3 1) (m.2 3 2) (m.2 3 3) (m.2 3 4) (m.2 3 5) (if (m.2 3 3) = 0 then (sX2_off (m.1 0) (m.1 1) (m.1 2) (m.1 6) (m.1 7) (m.1 8) 0) else (sX2_off (m.1 0) (m.1 1) (m.1 2) (m.1 6) (m.1 7) (m.1 8) 1)))) (sX2_off (m.1 0) (m.1 1) (m.1 2) (m.1 6) (m.1 7) (m.1 8) 0) (sX2_off (m.1 0) (m.1 1) (m.1 2) (m.1 6) (m.1 7) (m.1 8) 1)), (sX0_noteBother cf (sX0_noteBother cf (sX0_noteBother cf (sX0_noteBother cf ca 0 (sX3_botheredBy (m.2 0 0) (m.2 0 1) (m.2 0 2) (m.2 0 3) (m.2 0 4) (m.2 0 5) (if (m.2 0 3) = 0 then (sX2_off (m.1 0) (m.1 1) (m.1 2) (m.1 6) (m.1 7) (m.1 8) 0) else (sX2_off (m.1 0) (m.1 1) (m.1 2) (m.1 6) (m.1 7) (m.1 8) 1)))) 1 (sX3_botheredBy (m.2 1 0) (m.2 1 1) (m.2 1 2) (m.2 1 3) (m.2 1 4) (m.2 1 5) (if (m.2 1 3) = 0 then (sX2_off (m.1 0) (m.1 1) (m.1 2) (m.1 6) (m.1 7) (m.1 8) 0) else (sX2_off (m.1 0) (m.1 1) (m.1 2) (m.1 6) (m.1 7) (m.1 8) 1)))) 2 (sX3_botheredBy (m.2 2 0) (m.2 2 1) (m.2 2 2) (m.2 2 3) (m.2 2 4) (m.2 2 5) (if (m.2 2 3) = 0 then (sX2_off (m.1 0) (m.1 1) (m.1 2) (m.1 6) (m.1 7) (m.1 8) 0) else (sX2_off (m.1 0) (m.1 1) (m.1 2) (m.1 6) (m.1 7) (m.1 8) 1)))) 3 (sX3_botheredBy (m.2 3 0) (m.2 3 1) (m.2 3 2) (m.2 3 3) (m.2 3 4) (m.2 3 5) (if (m.2 3 3) = 0 then (sX2_off (m.1 0) (m.1 1) (m.1 2) (m.1 6) (m.1 7) (m.1 8) 0) else (sX2_off (m.1 0) (m.1 1) (m.1 2) (m.1 6) (m.1 7) (m.1 8) 1))))) := by rw [← hs]; unfold sX2_botherAll; rw [if_neg c1, if_neg c3, if_neg c5, if_neg c7, if_pos c9]
                    rw [pr1 e, pr2 e]; exact ⟨rfl, rfl⟩
                  ·
                    refine R_iload 26 dX2_botherAll_24 rfl rfl ?_
                    refine R_iconst 27 dX2_botherAll_26 rfl (v := 5) (by decide) ?_
                    refine R_icmp_ge 30 69 dX2_botherAll_27 rfl (by decide) (fun c => absurd c (by decide)) (fun _ => ?_)
                    refine R_aload_n 31 dX2_botherAll_30 rfl rfl ?_
                    refine R_get 34 dX2_botherAll_31 rfl fX2_31 rfl (v := .ref 13) rfl ?_
                    refine R_iload 36 dX2_botherAll_34 rfl rfl ?_
                    refine R_aald 37 dX2_botherAll_36 rfl rfl rfl (vin_d (by decide)) (y := 18) rfl ?_
                    refine R_astore 39 dX2_botherAll_37 rfl rfl (by decide) (loc' := [(0, .ref 10), (1, .ref 28), (2, .int z1_), (3, .int z2_), (4, .int 4), (5, .ref 18)]) rfl ?_
                    refine R_aload_n 40 dX2_botherAll_39 rfl rfl ?_
                    refine R_iload 42 dX2_botherAll_40 rfl rfl ?_
                    refine R_aload 44 dX2_botherAll_42 rfl rfl ?_
                    refine R_aload 46 dX2_botherAll_44 rfl rfl ?_
                    refine R_get 49 dX2_botherAll_46 rfl fX2_110 rfl (v := .int (m.2 4 3)) rfl ?_
                    refine R_cut 57 [(0, .ref 10), (1, .ref 28), (2, .int z1_), (3, .int z2_), (4, .int 4), (5, .ref 18)] (.int (if (m.2 4 3) = 0 then z1_ else z2_) :: [.ref 18, .int 4, .ref 28]) (hC G n m i cf (sX0_noteBother cf (sX0_noteBother cf (sX0_noteBother cf (sX0_noteBother cf ca 0 (sX3_botheredBy (m.2 0 0) (m.2 0 1) (m.2 0 2) (m.2 0 3) (m.2 0 4) (m.2 0 5) (if (m.2 0 3) = 0 then z1_ else z2_))) 1 (sX3_botheredBy (m.2 1 0) (m.2 1 1) (m.2 1 2) (m.2 1 3) (m.2 1 4) (m.2 1 5) (if (m.2 1 3) = 0 then z1_ else z2_))) 2 (sX3_botheredBy (m.2 2 0) (m.2 2 1) (m.2 2 2) (m.2 2 3) (m.2 2 4) (m.2 2 5) (if (m.2 2 3) = 0 then z1_ else z2_))) 3 (sX3_botheredBy (m.2 3 0) (m.2 3 1) (m.2 3 2) (m.2 3 3) (m.2 3 4) (m.2 3 5) (if (m.2 3 3) = 0 then z1_ else z2_))), h2) ?_ (fun kj => ?_)
                    ·
                      refine R_callVi 60 (eX3_botheredBy (pk := m.2 4 0) (pm := m.2 4 1) (pf := m.2 4 2) (ps := m.2 4 3) (ph := m.2 4 4) (pp := m.2 4 5) rfl) dX2_botherAll_57 rfl kX3_botheredBy lX2_133 rfl rfl rfl rfl rfl rfl rfl ?_
                      refine R_callVv 63 eX0_noteBother_28 dX2_botherAll_60 rfl kX0_noteBother lX2_136 rfl rfl rfl rfl rfl rfl rfl ?_
                      refine R_iinc 66 dX2_botherAll_63 rfl rfl (v := 5) (by decide) rfl (by decide) (loc' := [(0, .ref 10), (1, .ref 28), (2, .int z1_), (3, .int z2_), (4, .int 5), (5, .ref 18)]) rfl ?_
                      refine R_goto 15 dX2_botherAll_66 (by decide) ?_
                      refine R_iload 17 dX2_botherAll_15 rfl rfl ?_
                      refine R_aload_n 18 dX2_botherAll_17 rfl rfl ?_
                      refine R_get 21 dX2_botherAll_18 rfl fX2_49 rfl (v := .int (m.1 6)) rfl ?_
                      refine R_icmp_ge 24 69 dX2_botherAll_21 rfl (by decide) (fun c11 => ?_) (fun c11 => ?_)
                      ·
                        refine R_aload_n 70 dX2_botherAll_69 rfl rfl ?_
                        refine R_iload_n 71 dX2_botherAll_70 rfl rfl ?_
                        refine R_iload_n 72 dX2_botherAll_71 rfl rfl ?_
                        refine R_callVv 75 eX0_noteOff_28 dX2_botherAll_72 rfl kX0_noteOff lX2_139 rfl rfl rfl rfl rfl rfl rfl ?_
                        refine R_return dX2_botherAll_75 rfl ?_
                        subst hz1_ hz2_
                        have e : zz = ((sX0_noteOff cf (sX0_noteBother cf (sX0_noteBother cf (sX0_noteBother cf (sX0_noteBother cf (sX0_noteBother cf ca 0 (sX3_botheredBy (m.2 0 0) (m.2 0 1) (m.2 0 2) (m.2 0 3) (m.2 0 4) (m.2 0 5) (if (m.2 0 3) = 0 then (sX2_off (m.1 0) (m.1 1) (m.1 2) (m.1 6) (m.1 7) (m.1 8) 0) else (sX2_off (m.1 0) (m.1 1) (m.1 2) (m.1 6) (m.1 7) (m.1 8) 1)))) 1 (sX3_botheredBy (m.2 1 0) (m.2 1 1) (m.2 1 2) (m.2 1 3) (m.2 1 4) (m.2 1 5) (if (m.2 1 3) = 0 then (sX2_off (m.1 0) (m.1 1) (m.1 2) (m.1 6) (m.1 7) (m.1 8) 0) else (sX2_off (m.1 0) (m.1 1) (m.1 2) (m.1 6) (m.1 7) (m.1 8) 1)))) 2 (sX3_botheredBy (m.2 2 0) (m.2 2 1) (m.2 2 2) (m.2 2 3) (m.2 2 4) (m.2 2 5) (if (m.2 2 3) = 0 then (sX2_off (m.1 0) (m.1 1) (m.1 2) (m.1 6) (m.1 7) (m.1 8) 0) else (sX2_off (m.1 0) (m.1 1) (m.1 2) (m.1 6) (m.1 7) (m.1 8) 1)))) 3 (sX3_botheredBy (m.2 3 0) (m.2 3 1) (m.2 3 2) (m.2 3 3) (m.2 3 4) (m.2 3 5) (if (m.2 3 3) = 0 then (sX2_off (m.1 0) (m.1 1) (m.1 2) (m.1 6) (m.1 7) (m.1 8) 0) else (sX2_off (m.1 0) (m.1 1) (m.1 2) (m.1 6) (m.1 7) (m.1 8) 1)))) 4 (sX3_botheredBy (m.2 4 0) (m.2 4 1) (m.2 4 2) (m.2 4 3) (m.2 4 4) (m.2 4 5) (if (m.2 4 3) = 0 then (sX2_off (m.1 0) (m.1 1) (m.1 2) (m.1 6) (m.1 7) (m.1 8) 0) else (sX2_off (m.1 0) (m.1 1) (m.1 2) (m.1 6) (m.1 7) (m.1 8) 1)))) (sX2_off (m.1 0) (m.1 1) (m.1 2) (m.1 6) (m.1 7) (m.1 8) 0) (sX2_off (m.1 0) (m.1 1) (m.1 2) (m.1 6) (m.1 7) (m.1 8) 1)), (sX0_noteBother cf (sX0_noteBother cf (sX0_noteBother cf (sX0_noteBother cf (sX0_noteBother cf ca 0 (sX3_botheredBy (m.2 0 0) (m.2 0 1) (m.2 0 2) (m.2 0 3) (m.2 0 4) (m.2 0 5) (if (m.2 0 3) = 0 then (sX2_off (m.1 0) (m.1 1) (m.1 2) (m.1 6) (m.1 7) (m.1 8) 0) else (sX2_off (m.1 0) (m.1 1) (m.1 2) (m.1 6) (m.1 7) (m.1 8) 1)))) 1 (sX3_botheredBy (m.2 1 0) (m.2 1 1) (m.2 1 2) (m.2 1 3) (m.2 1 4) (m.2 1 5) (if (m.2 1 3) = 0 then (sX2_off (m.1 0) (m.1 1) (m.1 2) (m.1 6) (m.1 7) (m.1 8) 0) else (sX2_off (m.1 0) (m.1 1) (m.1 2) (m.1 6) (m.1 7) (m.1 8) 1)))) 2 (sX3_botheredBy (m.2 2 0) (m.2 2 1) (m.2 2 2) (m.2 2 3) (m.2 2 4) (m.2 2 5) (if (m.2 2 3) = 0 then (sX2_off (m.1 0) (m.1 1) (m.1 2) (m.1 6) (m.1 7) (m.1 8) 0) else (sX2_off (m.1 0) (m.1 1) (m.1 2) (m.1 6) (m.1 7) (m.1 8) 1)))) 3 (sX3_botheredBy (m.2 3 0) (m.2 3 1) (m.2 3 2) (m.2 3 3) (m.2 3 4) (m.2 3 5) (if (m.2 3 3) = 0 then (sX2_off (m.1 0) (m.1 1) (m.1 2) (m.1 6) (m.1 7) (m.1 8) 0) else (sX2_off (m.1 0) (m.1 1) (m.1 2) (m.1 6) (m.1 7) (m.1 8) 1)))) 4 (sX3_botheredBy (m.2 4 0) (m.2 4 1) (m.2 4 2) (m.2 4 3) (m.2 4 4) (m.2 4 5) (if (m.2 4 3) = 0 then (sX2_off (m.1 0) (m.1 1) (m.1 2) (m.1 6) (m.1 7) (m.1 8) 0) else (sX2_off (m.1 0) (m.1 1) (m.1 2) (m.1 6) (m.1 7) (m.1 8) 1))))) := by rw [← hs]; unfold sX2_botherAll; rw [if_neg c1, if_neg c3, if_neg c5, if_neg c7, if_neg c9, if_pos c11]
                        rw [pr1 e, pr2 e]; exact ⟨rfl, rfl⟩
                      ·
                        refine R_iload 26 dX2_botherAll_24 rfl rfl ?_
                        refine R_iconst 27 dX2_botherAll_26 rfl (v := 5) (by decide) ?_
                        refine R_icmp_ge 30 69 dX2_botherAll_27 rfl (by decide) (fun _ => ?_) (fun c => absurd c (by decide))
                        refine R_aload_n 70 dX2_botherAll_69 rfl rfl ?_
                        refine R_iload_n 71 dX2_botherAll_70 rfl rfl ?_
                        refine R_iload_n 72 dX2_botherAll_71 rfl rfl ?_
                        refine R_callVv 75 eX0_noteOff_28 dX2_botherAll_72 rfl kX0_noteOff lX2_139 rfl rfl rfl rfl rfl rfl rfl ?_
                        refine R_return dX2_botherAll_75 rfl ?_
                        subst hz1_ hz2_
                        have e : zz = ((sX0_noteOff cf (sX0_noteBother cf (sX0_noteBother cf (sX0_noteBother cf (sX0_noteBother cf (sX0_noteBother cf ca 0 (sX3_botheredBy (m.2 0 0) (m.2 0 1) (m.2 0 2) (m.2 0 3) (m.2 0 4) (m.2 0 5) (if (m.2 0 3) = 0 then (sX2_off (m.1 0) (m.1 1) (m.1 2) (m.1 6) (m.1 7) (m.1 8) 0) else (sX2_off (m.1 0) (m.1 1) (m.1 2) (m.1 6) (m.1 7) (m.1 8) 1)))) 1 (sX3_botheredBy (m.2 1 0) (m.2 1 1) (m.2 1 2) (m.2 1 3) (m.2 1 4) (m.2 1 5) (if (m.2 1 3) = 0 then (sX2_off (m.1 0) (m.1 1) (m.1 2) (m.1 6) (m.1 7) (m.1 8) 0) else (sX2_off (m.1 0) (m.1 1) (m.1 2) (m.1 6) (m.1 7) (m.1 8) 1)))) 2 (sX3_botheredBy (m.2 2 0) (m.2 2 1) (m.2 2 2) (m.2 2 3) (m.2 2 4) (m.2 2 5) (if (m.2 2 3) = 0 then (sX2_off (m.1 0) (m.1 1) (m.1 2) (m.1 6) (m.1 7) (m.1 8) 0) else (sX2_off (m.1 0) (m.1 1) (m.1 2) (m.1 6) (m.1 7) (m.1 8) 1)))) 3 (sX3_botheredBy (m.2 3 0) (m.2 3 1) (m.2 3 2) (m.2 3 3) (m.2 3 4) (m.2 3 5) (if (m.2 3 3) = 0 then (sX2_off (m.1 0) (m.1 1) (m.1 2) (m.1 6) (m.1 7) (m.1 8) 0) else (sX2_off (m.1 0) (m.1 1) (m.1 2) (m.1 6) (m.1 7) (m.1 8) 1)))) 4 (sX3_botheredBy (m.2 4 0) (m.2 4 1) (m.2 4 2) (m.2 4 3) (m.2 4 4) (m.2 4 5) (if (m.2 4 3) = 0 then (sX2_off (m.1 0) (m.1 1) (m.1 2) (m.1 6) (m.1 7) (m.1 8) 0) else (sX2_off (m.1 0) (m.1 1) (m.1 2) (m.1 6) (m.1 7) (m.1 8) 1)))) (sX2_off (m.1 0) (m.1 1) (m.1 2) (m.1 6) (m.1 7) (m.1 8) 0) (sX2_off (m.1 0) (m.1 1) (m.1 2) (m.1 6) (m.1 7) (m.1 8) 1)), (sX0_noteBother cf (sX0_noteBother cf (sX0_noteBother cf (sX0_noteBother cf (sX0_noteBother cf ca 0 (sX3_botheredBy (m.2 0 0) (m.2 0 1) (m.2 0 2) (m.2 0 3) (m.2 0 4) (m.2 0 5) (if (m.2 0 3) = 0 then (sX2_off (m.1 0) (m.1 1) (m.1 2) (m.1 6) (m.1 7) (m.1 8) 0) else (sX2_off (m.1 0) (m.1 1) (m.1 2) (m.1 6) (m.1 7) (m.1 8) 1)))) 1 (sX3_botheredBy (m.2 1 0) (m.2 1 1) (m.2 1 2) (m.2 1 3) (m.2 1 4) (m.2 1 5) (if (m.2 1 3) = 0 then (sX2_off (m.1 0) (m.1 1) (m.1 2) (m.1 6) (m.1 7) (m.1 8) 0) else (sX2_off (m.1 0) (m.1 1) (m.1 2) (m.1 6) (m.1 7) (m.1 8) 1)))) 2 (sX3_botheredBy (m.2 2 0) (m.2 2 1) (m.2 2 2) (m.2 2 3) (m.2 2 4) (m.2 2 5) (if (m.2 2 3) = 0 then (sX2_off (m.1 0) (m.1 1) (m.1 2) (m.1 6) (m.1 7) (m.1 8) 0) else (sX2_off (m.1 0) (m.1 1) (m.1 2) (m.1 6) (m.1 7) (m.1 8) 1)))) 3 (sX3_botheredBy (m.2 3 0) (m.2 3 1) (m.2 3 2) (m.2 3 3) (m.2 3 4) (m.2 3 5) (if (m.2 3 3) = 0 then (sX2_off (m.1 0) (m.1 1) (m.1 2) (m.1 6) (m.1 7) (m.1 8) 0) else (sX2_off (m.1 0) (m.1 1) (m.1 2) (m.1 6) (m.1 7) (m.1 8) 1)))) 4 (sX3_botheredBy (m.2 4 0) (m.2 4 1) (m.2 4 2) (m.2 4 3) (m.2 4 4) (m.2 4 5) (if (m.2 4 3) = 0 then (sX2_off (m.1 0) (m.1 1) (m.1 2) (m.1 6) (m.1 7) (m.1 8) 0) else (sX2_off (m.1 0) (m.1 1) (m.1 2) (m.1 6) (m.1 7) (m.1 8) 1))))) := by rw [← hs]; unfold sX2_botherAll; rw [if_neg c1, if_neg c3, if_neg c5, if_neg c7, if_neg c9, if_neg c11]
                        rw [pr1 e, pr2 e]; exact ⟨rfl, rfl⟩
                    refine R_if_ne 52 56 dX2_botherAll_49 rfl (by decide) (fun c10 => ?_) (fun c10 => ?_)
                    · refine R_iload_n 57 dX2_botherAll_56 rfl rfl ?_
                      rw [if_neg c10] at kj; exact kj
                    · refine R_iload_n 53 dX2_botherAll_52 rfl rfl ?_
                      refine R_goto 57 dX2_botherAll_53 (by decide) ?_
                      rw [if_pos c10] at kj; exact kj
                refine R_if_ne 52 56 dX2_botherAll_49 rfl (by decide) (fun c8 => ?_) (fun c8 => ?_)
                · refine R_iload_n 57 dX2_botherAll_56 rfl rfl ?_
                  rw [if_neg c8] at kj; exact kj
                · refine R_iload_n 53 dX2_botherAll_52 rfl rfl ?_
                  refine R_goto 57 dX2_botherAll_53 (by decide) ?_
                  rw [if_pos c8] at kj; exact kj
            refine R_if_ne 52 56 dX2_botherAll_49 rfl (by decide) (fun c6 => ?_) (fun c6 => ?_)
            · refine R_iload_n 57 dX2_botherAll_56 rfl rfl ?_
              rw [if_neg c6] at kj; exact kj
            · refine R_iload_n 53 dX2_botherAll_52 rfl rfl ?_
              refine R_goto 57 dX2_botherAll_53 (by decide) ?_
              rw [if_pos c6] at kj; exact kj
        refine R_if_ne 52 56 dX2_botherAll_49 rfl (by decide) (fun c4 => ?_) (fun c4 => ?_)
        · refine R_iload_n 57 dX2_botherAll_56 rfl rfl ?_
          rw [if_neg c4] at kj; exact kj
        · refine R_iload_n 53 dX2_botherAll_52 rfl rfl ?_
          refine R_goto 57 dX2_botherAll_53 (by decide) ?_
          rw [if_pos c4] at kj; exact kj
    refine R_if_ne 52 56 dX2_botherAll_49 rfl (by decide) (fun c2 => ?_) (fun c2 => ?_)
    · refine R_iload_n 57 dX2_botherAll_56 rfl rfl ?_
      rw [if_neg c2] at kj; exact kj
    · refine R_iload_n 53 dX2_botherAll_52 rfl rfl ?_
      refine R_goto 57 dX2_botherAll_53 (by decide) ?_
      rw [if_pos c2] at kj; exact kj
def sX2_allMinds (m : zP) : Int32 := if (m.1 6) ≤ 0 then 0 else if (m.1 6) ≤ 1 then 0 + (m.2 0 1) else if (m.1 6) ≤ 2 then (0 + (m.2 0 1)) + (m.2 1 1) else if (m.1 6) ≤ 3 then (((0 + (m.2 0 1)) + (m.2 1 1)) + (m.2 2 1)) else if (m.1 6) ≤ 4 then (((0 + (m.2 0 1)) + (m.2 1 1)) + (m.2 2 1)) + (m.2 3 1) else if (m.1 6) ≤ 5 then ((((0 + (m.2 0 1)) + (m.2 1 1)) + (m.2 2 1)) + (m.2 3 1)) + (m.2 4 1) else ((((0 + (m.2 0 1)) + (m.2 1 1)) + (m.2 2 1)) + (m.2 3 1)) + (m.2 4 1)
set_option maxRecDepth 20000 in
theorem eX2_allMinds_1 {G : zG} {h2 : List va_E} {m k i : zP} {cf : Nat → Int32} {ca : Nat → Nat → Int32} : EvF G mX2_allMinds [.ref 1] (hC G m k i cf ca, h2) (some (.int (sX2_allMinds m))) (hC G m k i cf ca, h2) := by
  generalize hs : (sX2_allMinds m) = zz
  refine EvF.of pnX2 rfl ?_
  refine R_iconst 1 dX2_allMinds_0 rfl (v := 0) (by decide) ?_
  refine R_istore_n 2 dX2_allMinds_1 rfl rfl (by decide) (loc' := [(0, .ref 1), (1, .int 0)]) rfl ?_
  refine R_iconst 3 dX2_allMinds_2 rfl (v := 0) (by decide) ?_
  refine R_istore_n 4 dX2_allMinds_3 rfl rfl (by decide) (loc' := [(0, .ref 1), (1, .int 0), (2, .int 0)]) rfl ?_
  refine R_iload_n 5 dX2_allMinds_4 rfl rfl ?_
  refine R_aload_n 6 dX2_allMinds_5 rfl rfl ?_
  refine R_get 9 dX2_allMinds_6 rfl fX2_49 rfl (v := .int (m.1 6)) rfl ?_
  refine R_icmp_ge 12 35 dX2_allMinds_9 rfl (by decide) (fun c1 => ?_) (fun c1 => ?_)
  ·
    refine R_iload_n 36 dX2_allMinds_35 rfl rfl ?_
    refine R_ireturn dX2_allMinds_36 rfl rfl ?_
    have e : zz = 0 := by rw [← hs]; unfold sX2_allMinds; rw [if_pos c1]
    subst e; exact ⟨rfl, rfl⟩
  ·
    refine R_iload_n 13 dX2_allMinds_12 rfl rfl ?_
    refine R_iconst 14 dX2_allMinds_13 rfl (v := 5) (by decide) ?_
    refine R_icmp_ge 17 35 dX2_allMinds_14 rfl (by decide) (fun c => absurd c (by decide)) (fun _ => ?_)
    refine R_iload_n 18 dX2_allMinds_17 rfl rfl ?_
    refine R_aload_n 19 dX2_allMinds_18 rfl rfl ?_
    refine R_get 22 dX2_allMinds_19 rfl fX2_31 rfl (v := .ref 4) rfl ?_
    refine R_iload_n 23 dX2_allMinds_22 rfl rfl ?_
    refine R_aald 24 dX2_allMinds_23 rfl rfl rfl (vin_d (by decide)) (y := 5) rfl ?_
    refine R_get 27 dX2_allMinds_24 rfl fX2_78 rfl (v := .int (m.2 0 1)) rfl ?_
    refine R_iadd 28 dX2_allMinds_27 rfl ?_
    refine R_istore_n 29 dX2_allMinds_28 rfl rfl (by decide) (loc' := [(0, .ref 1), (1, .int (0 + (m.2 0 1))), (2, .int 0)]) rfl ?_
    refine R_iinc 32 dX2_allMinds_29 rfl rfl (v := 1) (by decide) rfl (by decide) (loc' := [(0, .ref 1), (1, .int (0 + (m.2 0 1))), (2, .int 1)]) rfl ?_
    refine R_goto 4 dX2_allMinds_32 (by decide) ?_
    refine R_iload_n 5 dX2_allMinds_4 rfl rfl ?_
    refine R_aload_n 6 dX2_allMinds_5 rfl rfl ?_
    refine R_get 9 dX2_allMinds_6 rfl fX2_49 rfl (v := .int (m.1 6)) rfl ?_
    refine R_icmp_ge 12 35 dX2_allMinds_9 rfl (by decide) (fun c2 => ?_) (fun c2 => ?_)
    ·
      refine R_iload_n 36 dX2_allMinds_35 rfl rfl ?_
      refine R_ireturn dX2_allMinds_36 rfl rfl ?_
      have e : zz = 0 + (m.2 0 1) := by rw [← hs]; unfold sX2_allMinds; rw [if_neg c1, if_pos c2]
      subst e; exact ⟨rfl, rfl⟩
    ·
      refine R_iload_n 13 dX2_allMinds_12 rfl rfl ?_
      refine R_iconst 14 dX2_allMinds_13 rfl (v := 5) (by decide) ?_
      refine R_icmp_ge 17 35 dX2_allMinds_14 rfl (by decide) (fun c => absurd c (by decide)) (fun _ => ?_)
      refine R_iload_n 18 dX2_allMinds_17 rfl rfl ?_
      refine R_aload_n 19 dX2_allMinds_18 rfl rfl ?_
      refine R_get 22 dX2_allMinds_19 rfl fX2_31 rfl (v := .ref 4) rfl ?_
      refine R_iload_n 23 dX2_allMinds_22 rfl rfl ?_
      refine R_aald 24 dX2_allMinds_23 rfl rfl rfl (vin_d (by decide)) (y := 6) rfl ?_
      refine R_get 27 dX2_allMinds_24 rfl fX2_78 rfl (v := .int (m.2 1 1)) rfl ?_
      refine R_iadd 28 dX2_allMinds_27 rfl ?_
      refine R_istore_n 29 dX2_allMinds_28 rfl rfl (by decide) (loc' := [(0, .ref 1), (1, .int ((0 + (m.2 0 1)) + (m.2 1 1))), (2, .int 1)]) rfl ?_
      refine R_iinc 32 dX2_allMinds_29 rfl rfl (v := 2) (by decide) rfl (by decide) (loc' := [(0, .ref 1), (1, .int ((0 + (m.2 0 1)) + (m.2 1 1))), (2, .int 2)]) rfl ?_
      refine R_goto 4 dX2_allMinds_32 (by decide) ?_
      refine R_iload_n 5 dX2_allMinds_4 rfl rfl ?_
      refine R_aload_n 6 dX2_allMinds_5 rfl rfl ?_
      refine R_get 9 dX2_allMinds_6 rfl fX2_49 rfl (v := .int (m.1 6)) rfl ?_
      refine R_icmp_ge 12 35 dX2_allMinds_9 rfl (by decide) (fun c3 => ?_) (fun c3 => ?_)
      ·
        refine R_iload_n 36 dX2_allMinds_35 rfl rfl ?_
        refine R_ireturn dX2_allMinds_36 rfl rfl ?_
        have e : zz = (0 + (m.2 0 1)) + (m.2 1 1) := by rw [← hs]; unfold sX2_allMinds; rw [if_neg c1, if_neg c2, if_pos c3]
        subst e; exact ⟨rfl, rfl⟩
      ·
        refine R_iload_n 13 dX2_allMinds_12 rfl rfl ?_
        refine R_iconst 14 dX2_allMinds_13 rfl (v := 5) (by decide) ?_
        refine R_icmp_ge 17 35 dX2_allMinds_14 rfl (by decide) (fun c => absurd c (by decide)) (fun _ => ?_)
        refine R_iload_n 18 dX2_allMinds_17 rfl rfl ?_
        refine R_aload_n 19 dX2_allMinds_18 rfl rfl ?_
        refine R_get 22 dX2_allMinds_19 rfl fX2_31 rfl (v := .ref 4) rfl ?_
        refine R_iload_n 23 dX2_allMinds_22 rfl rfl ?_
        refine R_aald 24 dX2_allMinds_23 rfl rfl rfl (vin_d (by decide)) (y := 7) rfl ?_
        refine R_get 27 dX2_allMinds_24 rfl fX2_78 rfl (v := .int (m.2 2 1)) rfl ?_
        refine R_iadd 28 dX2_allMinds_27 rfl ?_
        refine R_nm (fun z1_ hz1_ => ?_)
        refine R_istore_n 29 dX2_allMinds_28 rfl rfl (by decide) (loc' := [(0, .ref 1), (1, .int z1_), (2, .int 2)]) rfl ?_
        refine R_iinc 32 dX2_allMinds_29 rfl rfl (v := 3) (by decide) rfl (by decide) (loc' := [(0, .ref 1), (1, .int z1_), (2, .int 3)]) rfl ?_
        refine R_goto 4 dX2_allMinds_32 (by decide) ?_
        refine R_iload_n 5 dX2_allMinds_4 rfl rfl ?_
        refine R_aload_n 6 dX2_allMinds_5 rfl rfl ?_
        refine R_get 9 dX2_allMinds_6 rfl fX2_49 rfl (v := .int (m.1 6)) rfl ?_
        refine R_icmp_ge 12 35 dX2_allMinds_9 rfl (by decide) (fun c4 => ?_) (fun c4 => ?_)
        ·
          refine R_iload_n 36 dX2_allMinds_35 rfl rfl ?_
          refine R_ireturn dX2_allMinds_36 rfl rfl ?_
          subst hz1_
          have e : zz = (((0 + (m.2 0 1)) + (m.2 1 1)) + (m.2 2 1)) := by rw [← hs]; unfold sX2_allMinds; rw [if_neg c1, if_neg c2, if_neg c3, if_pos c4]
          subst e; exact ⟨rfl, rfl⟩
        ·
          refine R_iload_n 13 dX2_allMinds_12 rfl rfl ?_
          refine R_iconst 14 dX2_allMinds_13 rfl (v := 5) (by decide) ?_
          refine R_icmp_ge 17 35 dX2_allMinds_14 rfl (by decide) (fun c => absurd c (by decide)) (fun _ => ?_)
          refine R_iload_n 18 dX2_allMinds_17 rfl rfl ?_
          refine R_aload_n 19 dX2_allMinds_18 rfl rfl ?_
          refine R_get 22 dX2_allMinds_19 rfl fX2_31 rfl (v := .ref 4) rfl ?_
          refine R_iload_n 23 dX2_allMinds_22 rfl rfl ?_
          refine R_aald 24 dX2_allMinds_23 rfl rfl rfl (vin_d (by decide)) (y := 8) rfl ?_
          refine R_get 27 dX2_allMinds_24 rfl fX2_78 rfl (v := .int (m.2 3 1)) rfl ?_
          refine R_iadd 28 dX2_allMinds_27 rfl ?_
          refine R_istore_n 29 dX2_allMinds_28 rfl rfl (by decide) (loc' := [(0, .ref 1), (1, .int (z1_ + (m.2 3 1))), (2, .int 3)]) rfl ?_
          refine R_iinc 32 dX2_allMinds_29 rfl rfl (v := 4) (by decide) rfl (by decide) (loc' := [(0, .ref 1), (1, .int (z1_ + (m.2 3 1))), (2, .int 4)]) rfl ?_
          refine R_goto 4 dX2_allMinds_32 (by decide) ?_
          refine R_iload_n 5 dX2_allMinds_4 rfl rfl ?_
          refine R_aload_n 6 dX2_allMinds_5 rfl rfl ?_
          refine R_get 9 dX2_allMinds_6 rfl fX2_49 rfl (v := .int (m.1 6)) rfl ?_
          refine R_icmp_ge 12 35 dX2_allMinds_9 rfl (by decide) (fun c5 => ?_) (fun c5 => ?_)
          ·
            refine R_iload_n 36 dX2_allMinds_35 rfl rfl ?_
            refine R_ireturn dX2_allMinds_36 rfl rfl ?_
            subst hz1_
            have e : zz = (((0 + (m.2 0 1)) + (m.2 1 1)) + (m.2 2 1)) + (m.2 3 1) := by rw [← hs]; unfold sX2_allMinds; rw [if_neg c1, if_neg c2, if_neg c3, if_neg c4, if_pos c5]
            subst e; exact ⟨rfl, rfl⟩
          ·
            refine R_iload_n 13 dX2_allMinds_12 rfl rfl ?_
            refine R_iconst 14 dX2_allMinds_13 rfl (v := 5) (by decide) ?_
            refine R_icmp_ge 17 35 dX2_allMinds_14 rfl (by decide) (fun c => absurd c (by decide)) (fun _ => ?_)
            refine R_iload_n 18 dX2_allMinds_17 rfl rfl ?_
            refine R_aload_n 19 dX2_allMinds_18 rfl rfl ?_
            refine R_get 22 dX2_allMinds_19 rfl fX2_31 rfl (v := .ref 4) rfl ?_
            refine R_iload_n 23 dX2_allMinds_22 rfl rfl ?_
            refine R_aald 24 dX2_allMinds_23 rfl rfl rfl (vin_d (by decide)) (y := 9) rfl ?_
            refine R_get 27 dX2_allMinds_24 rfl fX2_78 rfl (v := .int (m.2 4 1)) rfl ?_
            refine R_iadd 28 dX2_allMinds_27 rfl ?_
            refine R_istore_n 29 dX2_allMinds_28 rfl rfl (by decide) (loc' := [(0, .ref 1), (1, .int ((z1_ + (m.2 3 1)) + (m.2 4 1))), (2, .int 4)]) rfl ?_
            refine R_iinc 32 dX2_allMinds_29 rfl rfl (v := 5) (by decide) rfl (by decide) (loc' := [(0, .ref 1), (1, .int ((z1_ + (m.2 3 1)) + (m.2 4 1))), (2, .int 5)]) rfl ?_
            refine R_goto 4 dX2_allMinds_32 (by decide) ?_
            refine R_iload_n 5 dX2_allMinds_4 rfl rfl ?_
            refine R_aload_n 6 dX2_allMinds_5 rfl rfl ?_
            refine R_get 9 dX2_allMinds_6 rfl fX2_49 rfl (v := .int (m.1 6)) rfl ?_
            refine R_icmp_ge 12 35 dX2_allMinds_9 rfl (by decide) (fun c6 => ?_) (fun c6 => ?_)
            ·
              refine R_iload_n 36 dX2_allMinds_35 rfl rfl ?_
              refine R_ireturn dX2_allMinds_36 rfl rfl ?_
              subst hz1_
              have e : zz = ((((0 + (m.2 0 1)) + (m.2 1 1)) + (m.2 2 1)) + (m.2 3 1)) + (m.2 4 1) := by rw [← hs]; unfold sX2_allMinds; rw [if_neg c1, if_neg c2, if_neg c3, if_neg c4, if_neg c5, if_pos c6]
              subst e; exact ⟨rfl, rfl⟩
            ·
              refine R_iload_n 13 dX2_allMinds_12 rfl rfl ?_
              refine R_iconst 14 dX2_allMinds_13 rfl (v := 5) (by decide) ?_
              refine R_icmp_ge 17 35 dX2_allMinds_14 rfl (by decide) (fun _ => ?_) (fun c => absurd c (by decide))
              refine R_iload_n 36 dX2_allMinds_35 rfl rfl ?_
              refine R_ireturn dX2_allMinds_36 rfl rfl ?_
              subst hz1_
              have e : zz = ((((0 + (m.2 0 1)) + (m.2 1 1)) + (m.2 2 1)) + (m.2 3 1)) + (m.2 4 1) := by rw [← hs]; unfold sX2_allMinds; rw [if_neg c1, if_neg c2, if_neg c3, if_neg c4, if_neg c5, if_neg c6]
              subst e; exact ⟨rfl, rfl⟩
def sX2_isOffEither (m : zP) : Bool := if (m.1 12) < (sX2_off (m.1 0) (m.1 1) (m.1 2) (m.1 6) (m.1 7) (m.1 8) 0) then true else (!decide ((sX2_off (m.1 0) (m.1 1) (m.1 2) (m.1 6) (m.1 7) (m.1 8) 1) ≤ (m.1 12)))
set_option maxRecDepth 20000 in
theorem eX2_isOffEither_10 {G : zG} {h2 : List va_E} {n m i : zP} {cf : Nat → Int32} {ca : Nat → Nat → Int32} : EvF G mX2_isOffEither [.ref 10] (hC G n m i cf ca, h2) (some (.int (b2i (sX2_isOffEither m)))) (hC G n m i cf ca, h2) := by
  generalize hs : (sX2_isOffEither m) = zz
  refine EvF.of pnX2 rfl ?_
  refine R_aload_n 1 dX2_isOffEither_0 rfl rfl ?_
  refine R_iconst 2 dX2_isOffEither_1 rfl (v := 0) (by decide) ?_
  refine R_callVi 5 (eX2_off (av := m.1 0) (p0 := m.1 1) (p1 := m.1 2) (sz := m.1 6) (tu := m.1 7) (mi := m.1 8) rfl) dX2_isOffEither_2 rfl kX2_off lX2_103 rfl rfl rfl rfl rfl rfl rfl ?_
  refine R_aload_n 6 dX2_isOffEither_5 rfl rfl ?_
  refine R_get 9 dX2_isOffEither_6 rfl fX2_25 rfl (v := .ref 12) rfl ?_
  refine R_get 12 dX2_isOffEither_9 rfl fX2_64 rfl (v := .int (m.1 12)) rfl ?_
  refine R_icmp_gt 15 30 dX2_isOffEither_12 rfl (by decide) (fun c1 => ?_) (fun c1 => ?_)
  ·
    refine R_iconst 31 dX2_isOffEither_30 rfl (v := 1) (by decide) ?_
    refine R_goto 35 dX2_isOffEither_31 (by decide) ?_
    refine R_ireturn dX2_isOffEither_35 rfl (by decide) ?_
    have e : zz = true := by rw [← hs]; unfold sX2_isOffEither; rw [if_pos c1]
    subst e; exact ⟨rfl, rfl⟩
  ·
    refine R_aload_n 16 dX2_isOffEither_15 rfl rfl ?_
    refine R_iconst 17 dX2_isOffEither_16 rfl (v := 1) (by decide) ?_
    refine R_callVi 20 (eX2_off (av := m.1 0) (p0 := m.1 1) (p1 := m.1 2) (sz := m.1 6) (tu := m.1 7) (mi := m.1 8) rfl) dX2_isOffEither_17 rfl kX2_off lX2_103 rfl rfl rfl rfl rfl rfl rfl ?_
    refine R_aload_n 21 dX2_isOffEither_20 rfl rfl ?_
    refine R_get 24 dX2_isOffEither_21 rfl fX2_25 rfl (v := .ref 12) rfl ?_
    refine R_get 27 dX2_isOffEither_24 rfl fX2_64 rfl (v := .int (m.1 12)) rfl ?_
    refine R_cut 35 [(0, .ref 10)] (.int (b2i (!decide ((sX2_off (m.1 0) (m.1 1) (m.1 2) (m.1 6) (m.1 7) (m.1 8) 1) ≤ (m.1 12)))) :: []) (hC G n m i cf ca, h2) ?_ (fun kj => ?_)
    ·
      refine R_ireturn dX2_isOffEither_35 rfl (nar_b _) ?_
      have e : zz = (!decide ((sX2_off (m.1 0) (m.1 1) (m.1 2) (m.1 6) (m.1 7) (m.1 8) 1) ≤ (m.1 12))) := by rw [← hs]; unfold sX2_isOffEither; rw [if_neg c1]
      subst e; exact ⟨rfl, rfl⟩
    refine R_icmp_le 30 34 dX2_isOffEither_27 rfl (by decide) (fun c2 => ?_) (fun c2 => ?_)
    · refine R_iconst 35 dX2_isOffEither_34 rfl (v := 0) (by decide) ?_
      rw [b2i_np c2] at kj; exact kj
    · refine R_iconst 31 dX2_isOffEither_30 rfl (v := 1) (by decide) ?_
      refine R_goto 35 dX2_isOffEither_31 (by decide) ?_
      rw [b2i_nn c2] at kj; exact kj
