def sX7_thinksWith (f : Nat → Int32) (ar : Nat → Nat → Int32) (w : Int32) (v : Int32) (x : Int32) : Int32 × (Nat → Int32) × (Nat → Nat → Int32) := (((sX7_thinks f (up2 ar 1 (upd (ar 1) w.toNatClampNeg v)) x).1), ((sX7_thinks f (up2 ar 1 (upd (ar 1) w.toNatClampNeg v)) x).2.1), (up2 ((sX7_thinks f (up2 ar 1 (upd (ar 1) w.toNatClampNeg v)) x).2.2) 1 (upd (((sX7_thinks f (up2 ar 1 (upd (ar 1) w.toNatClampNeg v)) x).2.2) 1) w.toNatClampNeg (ar 1 w.toNatClampNeg))))
set_option maxRecDepth 20000 in
theorem eX7_thinksWith {G : zG} {h1 : List va_E} {f : Nat → Int32} {ar : Nat → Nat → Int32} {w v x : Int32} (hw : vp_in w 6) (hk : mOk f (up2 ar 1 (upd (ar 1) w.toNatClampNeg v))) (hx : x.toInt ≤ 240) : EvF G mX7_thinksWith [.ref 100, .int w, .int v, .int x] (h1, hM G f ar) (some (.int ((sX7_thinksWith f ar w v x).1))) (h1, hM G ((sX7_thinksWith f ar w v x).2.1) ((sX7_thinksWith f ar w v x).2.2)) := by
  generalize hs : (sX7_thinksWith f ar w v x) = zz
  refine EvF.of pnX7 rfl ?_
  refine R_aload_n 1 dX7_thinksWith_0 rfl rfl ?_
  refine R_get 4 dX7_thinksWith_1 rfl fX7_13 rfl (v := .ref 102) rfl ?_
  refine R_iload_n 5 dX7_thinksWith_4 rfl rfl ?_
  refine R_iald 6 dX7_thinksWith_5 rfl rfl rfl hw ?_
  refine R_istore 8 dX7_thinksWith_6 rfl rfl (by decide) (loc' := [(0, .ref 100), (1, .int w), (2, .int v), (3, .int x), (4, .int (ar 1 w.toNatClampNeg))]) rfl ?_
  refine R_aload_n 9 dX7_thinksWith_8 rfl rfl ?_
  refine R_get 12 dX7_thinksWith_9 rfl fX7_13 rfl (v := .ref 102) rfl ?_
  refine R_iload_n 13 dX7_thinksWith_12 rfl rfl ?_
  refine R_iload_n 14 dX7_thinksWith_13 rfl rfl ?_
  refine R_iast 15 dX7_thinksWith_14 rfl rfl rfl hw (h2 := (h1, hM G f (up2 ar 1 (upd (ar 1) w.toNatClampNeg v)))) ms_1 ?_
  refine R_aload_n 16 dX7_thinksWith_15 rfl rfl ?_
  refine R_iload_n 17 dX7_thinksWith_16 rfl rfl ?_
  refine R_callVi 20 (eX7_thinks hk hx) dX7_thinksWith_17 rfl kX7_thinks lX7_235 rfl rfl rfl rfl rfl rfl rfl ?_
  generalize hz1_ : (sX7_thinks f (up2 ar 1 (upd (ar 1) w.toNatClampNeg v)) x).2.1 = z1_
  generalize hz2_ : (sX7_thinks f (up2 ar 1 (upd (ar 1) w.toNatClampNeg v)) x).2.2 = z2_
  refine R_nm (fun z3_ hz3_ => ?_)
  refine R_istore 22 dX7_thinksWith_20 rfl rfl (by decide) (loc' := [(0, .ref 100), (1, .int w), (2, .int v), (3, .int x), (4, .int (ar 1 w.toNatClampNeg)), (5, .int z3_)]) rfl ?_
  refine R_aload_n 23 dX7_thinksWith_22 rfl rfl ?_
  refine R_get 26 dX7_thinksWith_23 rfl fX7_13 rfl (v := .ref 102) rfl ?_
  refine R_iload_n 27 dX7_thinksWith_26 rfl rfl ?_
  refine R_iload 29 dX7_thinksWith_27 rfl rfl ?_
  refine R_nm (fun z4_ hz4_ => ?_)
  refine R_iast 30 dX7_thinksWith_29 rfl rfl rfl hw (h2 := (h1, hM G z1_ (up2 z2_ 1 (upd (z2_ 1) w.toNatClampNeg z4_)))) ms_1 ?_
  refine R_iload 32 dX7_thinksWith_30 rfl rfl ?_
  refine R_ireturn dX7_thinksWith_32 rfl rfl ?_
  subst hz1_ hz2_ hz3_ hz4_
  have e : zz = (((sX7_thinks f (up2 ar 1 (upd (ar 1) w.toNatClampNeg v)) x).1), ((sX7_thinks f (up2 ar 1 (upd (ar 1) w.toNatClampNeg v)) x).2.1), (up2 ((sX7_thinks f (up2 ar 1 (upd (ar 1) w.toNatClampNeg v)) x).2.2) 1 (upd (((sX7_thinks f (up2 ar 1 (upd (ar 1) w.toNatClampNeg v)) x).2.2) 1) w.toNatClampNeg (ar 1 w.toNatClampNeg)))) := by rw [← hs]; unfold sX7_thinksWith; rfl
  rw [pr1 e, pr1 (pr2 e), pr2 (pr2 e)]; exact ⟨rfl, rfl⟩
def sX7_thinksByRule (f : Nat → Int32) (ar : Nat → Nat → Int32) (k : Int32) (x : Int32) : Int32 × (Nat → Int32) × (Nat → Nat → Int32) := ((sX7_thinks (upd f 10 k) ar x).1, (upd ((sX7_thinks (upd f 10 k) ar x).2.1) 10 (f 10)), ((sX7_thinks (upd f 10 k) ar x).2.2))
set_option maxRecDepth 20000 in
theorem eX7_thinksByRule {G : zG} {h1 : List va_E} {f : Nat → Int32} {ar : Nat → Nat → Int32} {k x : Int32} (hk : mOk f ar) (hx : x.toInt ≤ 240) : EvF G mX7_thinksByRule [.ref 100, .int k, .int x] (h1, hM G f ar) (some (.int ((sX7_thinksByRule f ar k x).1))) (h1, hM G ((sX7_thinksByRule f ar k x).2.1) ((sX7_thinksByRule f ar k x).2.2)) := by
  generalize hs : (sX7_thinksByRule f ar k x) = zz
  refine EvF.of pnX7 rfl ?_
  refine R_aload_n 1 dX7_thinksByRule_0 rfl rfl ?_
  refine R_get 4 dX7_thinksByRule_1 rfl fX7_135 rfl (v := .int (f 10)) rfl ?_
  refine R_istore_n 5 dX7_thinksByRule_4 rfl rfl (by decide) (loc' := [(0, .ref 100), (1, .int k), (2, .int x), (3, .int (f 10))]) rfl ?_
  refine R_aload_n 6 dX7_thinksByRule_5 rfl rfl ?_
  refine R_iload_n 7 dX7_thinksByRule_6 rfl rfl ?_
  refine R_put 10 dX7_thinksByRule_7 rfl wX7_135 rfl rfl rfl rfl (h2 := (h1, hM G (upd f 10 k) ar)) mp_10 ?_
  refine R_aload_n 11 dX7_thinksByRule_10 rfl rfl ?_
  refine R_iload_n 12 dX7_thinksByRule_11 rfl rfl ?_
  refine R_callVi 15 (eX7_thinks (f := upd f 10 k) hk hx) dX7_thinksByRule_12 rfl kX7_thinks lX7_235 rfl rfl rfl rfl rfl rfl rfl ?_
  generalize hz1_ : (sX7_thinks (upd f 10 k) ar x).2.1 = z1_
  generalize hz2_ : (sX7_thinks (upd f 10 k) ar x).2.2 = z2_
  refine R_istore 17 dX7_thinksByRule_15 rfl rfl (by decide) (loc' := [(0, .ref 100), (1, .int k), (2, .int x), (3, .int (f 10)), (4, .int ((sX7_thinks (upd f 10 k) ar x).1))]) rfl ?_
  refine R_aload_n 18 dX7_thinksByRule_17 rfl rfl ?_
  refine R_iload_n 19 dX7_thinksByRule_18 rfl rfl ?_
  refine R_put 22 dX7_thinksByRule_19 rfl wX7_135 rfl rfl rfl rfl (h2 := (h1, hM G (upd z1_ 10 (f 10)) z2_)) mp_10 ?_
  refine R_iload 24 dX7_thinksByRule_22 rfl rfl ?_
  refine R_ireturn dX7_thinksByRule_24 rfl rfl ?_
  subst hz1_ hz2_
  have e : zz = ((sX7_thinks (upd f 10 k) ar x).1, (upd ((sX7_thinks (upd f 10 k) ar x).2.1) 10 (f 10)), ((sX7_thinks (upd f 10 k) ar x).2.2)) := by rw [← hs]; unfold sX7_thinksByRule; rfl
  rw [pr1 e, pr1 (pr2 e), pr2 (pr2 e)]; exact ⟨rfl, rfl⟩
def sX7_thinksFirst (f : Nat → Int32) (ar : Nat → Nat → Int32) (p : Int32) (x : Int32) : Int32 × (Nat → Int32) × (Nat → Nat → Int32) := ((sX7_thinks (upd f 11 p) ar x).1, (upd ((sX7_thinks (upd f 11 p) ar x).2.1) 11 (f 11)), ((sX7_thinks (upd f 11 p) ar x).2.2))
set_option maxRecDepth 20000 in
theorem eX7_thinksFirst {G : zG} {h1 : List va_E} {f : Nat → Int32} {ar : Nat → Nat → Int32} {p x : Int32} (hk : mOk (upd f 11 p) ar) (hx : x.toInt ≤ 240) : EvF G mX7_thinksFirst [.ref 100, .int p, .int x] (h1, hM G f ar) (some (.int ((sX7_thinksFirst f ar p x).1))) (h1, hM G ((sX7_thinksFirst f ar p x).2.1) ((sX7_thinksFirst f ar p x).2.2)) := by
  generalize hs : (sX7_thinksFirst f ar p x) = zz
  refine EvF.of pnX7 rfl ?_
  refine R_aload_n 1 dX7_thinksFirst_0 rfl rfl ?_
  refine R_get 4 dX7_thinksFirst_1 rfl fX7_170 rfl (v := .int (f 11)) rfl ?_
  refine R_istore_n 5 dX7_thinksFirst_4 rfl rfl (by decide) (loc' := [(0, .ref 100), (1, .int p), (2, .int x), (3, .int (f 11))]) rfl ?_
  refine R_aload_n 6 dX7_thinksFirst_5 rfl rfl ?_
  refine R_iload_n 7 dX7_thinksFirst_6 rfl rfl ?_
  refine R_put 10 dX7_thinksFirst_7 rfl wX7_170 rfl rfl rfl rfl (h2 := (h1, hM G (upd f 11 p) ar)) mp_11 ?_
  refine R_aload_n 11 dX7_thinksFirst_10 rfl rfl ?_
  refine R_iload_n 12 dX7_thinksFirst_11 rfl rfl ?_
  refine R_callVi 15 (eX7_thinks hk hx) dX7_thinksFirst_12 rfl kX7_thinks lX7_235 rfl rfl rfl rfl rfl rfl rfl ?_
  generalize hz1_ : (sX7_thinks (upd f 11 p) ar x).2.1 = z1_
  generalize hz2_ : (sX7_thinks (upd f 11 p) ar x).2.2 = z2_
  refine R_istore 17 dX7_thinksFirst_15 rfl rfl (by decide) (loc' := [(0, .ref 100), (1, .int p), (2, .int x), (3, .int (f 11)), (4, .int ((sX7_thinks (upd f 11 p) ar x).1))]) rfl ?_
  refine R_aload_n 18 dX7_thinksFirst_17 rfl rfl ?_
  refine R_iload_n 19 dX7_thinksFirst_18 rfl rfl ?_
  refine R_put 22 dX7_thinksFirst_19 rfl wX7_170 rfl rfl rfl rfl (h2 := (h1, hM G (upd z1_ 11 (f 11)) z2_)) mp_11 ?_
  refine R_iload 24 dX7_thinksFirst_22 rfl rfl ?_
  refine R_ireturn dX7_thinksFirst_24 rfl rfl ?_
  subst hz1_ hz2_
  have e : zz = ((sX7_thinks (upd f 11 p) ar x).1, (upd ((sX7_thinks (upd f 11 p) ar x).2.1) 11 (f 11)), ((sX7_thinks (upd f 11 p) ar x).2.2)) := by rw [← hs]; unfold sX7_thinksFirst; rfl
  rw [pr1 e, pr1 (pr2 e), pr2 (pr2 e)]; exact ⟨rfl, rfl⟩
theorem upd_upd {f : Nat → Int32} {k : Nat} {u v : Int32} (h : f k = v) : upd (upd f k u) k v = f := by
  funext j
  by_cases hj : j = k
  · subst hj; rw [← h]; exact if_pos rfl
  · rw [upd_ne hj, upd_ne hj]
theorem up2_up2 {α : Type} {f : Nat → α} {k : Nat} {u v : α} (h : f k = v) : up2 (up2 f k u) k v = f := by
  funext j
  by_cases hj : j = k
  · subst hj; rw [← h]; exact if_pos rfl
  · rw [up2_ne hj, up2_ne hj]
theorem tw_kt {f : Nat → Int32} {ar : Nat → Nat → Int32} {w v x : Int32} (hk : mOk f (up2 ar 1 (upd (ar 1) w.toNatClampNeg v))) (hx : x.toInt ≤ 240) : kt f ar (sX7_thinksWith f ar w v x).2.1 (sX7_thinksWith f ar w v x).2.2 := by
  obtain ⟨k1, k2⟩ := th_kt hk hx
  refine ⟨k1, fun k h => ?_⟩
  show up2 (sX7_thinks f (up2 ar 1 (upd (ar 1) w.toNatClampNeg v)) x).2.2 1 (upd ((sX7_thinks f (up2 ar 1 (upd (ar 1) w.toNatClampNeg v)) x).2.2 1) w.toNatClampNeg (ar 1 w.toNatClampNeg)) k = ar k
  by_cases h1 : k = 1
  · subst h1
    show upd ((sX7_thinks f (up2 ar 1 (upd (ar 1) w.toNatClampNeg v)) x).2.2 1) w.toNatClampNeg (ar 1 w.toNatClampNeg) = ar 1
    rw [k2 1 (by omega)]
    show upd (upd (ar 1) w.toNatClampNeg v) w.toNatClampNeg (ar 1 w.toNatClampNeg) = ar 1
    exact upd_upd rfl
  · rw [up2_ne h1, k2 k h]
    exact up2_ne h1
theorem tr_kt {f : Nat → Int32} {ar : Nat → Nat → Int32} {k x : Int32} (hk : mOk f ar) (hx : x.toInt ≤ 240) : kt f ar (sX7_thinksByRule f ar k x).2.1 (sX7_thinksByRule f ar k x).2.2 := by
  obtain ⟨k1, k2⟩ := th_kt (f := upd f 10 k) (ar := ar) (x := x) hk hx
  refine ⟨fun j h => ?_, k2⟩
  show upd (sX7_thinks (upd f 10 k) ar x).2.1 10 (f 10) j = f j
  by_cases h1 : j = 10
  · subst h1; rfl
  · rw [upd_ne h1, k1 j h, upd_ne h1]
theorem tf_kt {f : Nat → Int32} {ar : Nat → Nat → Int32} {p x : Int32} (hk : mOk (upd f 11 p) ar) (hx : x.toInt ≤ 240) : kt f ar (sX7_thinksFirst f ar p x).2.1 (sX7_thinksFirst f ar p x).2.2 := by
  obtain ⟨k1, k2⟩ := th_kt hk hx
  refine ⟨fun j h => ?_, k2⟩
  show upd (sX7_thinks (upd f 11 p) ar x).2.1 11 (f 11) j = f j
  by_cases h1 : j = 11
  · subst h1; rfl
  · rw [upd_ne h1, k1 j h, upd_ne h1]
theorem bd_hi {x : Int32} (h : sX7_bound x 0 240 = 0) : x.toInt ≤ 240 := by
  unfold sX7_bound at h
  by_cases h1 : 0 ≤ x
  · by_cases h2 : x ≤ 240
    · rw [Int32.le_iff_toInt_le] at h2; exact h2
    · rw [if_pos h1, if_neg h2] at h; exact absurd h (by decide)
  · rw [if_neg h1] at h; exact absurd h (by decide)
theorem bd_lo {x hi : Int32} (h : sX7_bound x 0 hi = 0) : 0 ≤ x.toInt := by
  unfold sX7_bound at h
  by_cases h1 : 0 ≤ x
  · rw [Int32.le_iff_toInt_le] at h1; exact h1
  · rw [if_neg h1] at h; exact absurd h (by decide)
theorem at_in {x : Int32} (h : sX7_bound x 0 240 = 0) (h0 : ¬ x = 0) : vp_in (x - 1) 240 := by
  have h1 := bd_hi h
  have h2 := bd_lo h
  have h3 := lv_neT h0 (show (0 : Int32).toInt = 0 by decide)
  rw [vp_in_iff, Int32.toInt_sub, show (1 : Int32).toInt = 1 by decide, Int.bmod_eq_of_le (by omega) (by omega)]
  omega
theorem ip_in {f : Nat → Int32} {ar : Nat → Nat → Int32} {p : Int32} (hk : mOk f ar) (h : sX7_isPerson f p = true) : vp_in p 5 := by
  have h5 := hk.1
  unfold sX7_isPerson at h
  by_cases h1 : p < 0
  · rw [if_pos h1] at h; cases h
  · rw [if_neg h1] at h
    by_cases h2 : f 8 ≤ p
    · rw [decide_eq_true h2] at h; cases h
    · rw [Int32.lt_iff_toInt_lt, show (0 : Int32).toInt = 0 by decide] at h1
      rw [Int32.le_iff_toInt_le] at h2
      rw [vp_in_iff]
      omega
theorem in_in {w lo hi : Int32} {n : Nat} (h : sX7_isIn w lo hi = true) (hl : 0 ≤ lo.toInt) (hh : hi.toInt < n) : vp_in w n := by
  unfold sX7_isIn at h
  by_cases h1 : w < lo
  · rw [if_pos h1] at h; cases h
  · rw [if_neg h1] at h
    by_cases h2 : hi < w
    · rw [decide_eq_true h2] at h; cases h
    · rw [Int32.lt_iff_toInt_lt] at h1 h2
      rw [vp_in_iff]
      omega
theorem bd_h {x lo hi : Int32} (h : sX7_bound x lo hi = 0) : x.toInt ≤ hi.toInt := by
  unfold sX7_bound at h
  by_cases h1 : lo ≤ x
  · by_cases h2 : x ≤ hi
    · rw [Int32.le_iff_toInt_le] at h2; exact h2
    · rw [if_pos h1, if_neg h2] at h; exact absurd h (by decide)
  · rw [if_neg h1] at h; exact absurd h (by decide)
theorem bd_inz {z v lo hi : Int32} (hz : z = sX7_bound v lo hi) (h : ¬ z = 0) : vp_in (-z) 7 := by
  subst hz
  exact bd_in h
theorem c7_in {w : Int32} (h : sX7_isIn w 11 16 = true) : vp_in (w - 10) 7 := by
  unfold sX7_isIn at h
  by_cases h1 : w < 11
  · rw [if_pos h1] at h; cases h
  · rw [if_neg h1] at h
    by_cases h2 : 16 < w
    · rw [decide_eq_true h2] at h; cases h
    · exact cnt7 h1 h2
def sX7_person (f : Nat → Int32) (ar : Nat → Nat → Int32) (p : Int32) (w : Int32) : Int32 × (Nat → Nat → Int32) := if (sX7_isPerson f p) = true then (if w = 0 then (ar 2 p.toNatClampNeg, ar) else if w = 1 then (ar 3 p.toNatClampNeg, ar) else if w = 2 then (ar 4 p.toNatClampNeg, ar) else if w = 3 then (ar 5 p.toNatClampNeg, ar) else if w = 4 then (ar 6 p.toNatClampNeg, ar) else if w = 5 then (ar 7 p.toNatClampNeg, ar) else ((sX7_no ar (-2)).1, ((sX7_no ar (-2)).2))) else ((sX7_no ar (-1)).1, ((sX7_no ar (-1)).2))
set_option maxRecDepth 20000 in
theorem eX7_person {G : zG} {h1 : List va_E} {f : Nat → Int32} {ar : Nat → Nat → Int32} {p w : Int32} (hk : mOk f ar) : EvF G mX7_person [.ref 100, .int p, .int w] (h1, hM G f ar) (some (.int ((sX7_person f ar p w).1))) (h1, hM G f ((sX7_person f ar p w).2)) := by
  generalize hs : (sX7_person f ar p w) = zz
  refine EvF.of pnX7 rfl ?_
  refine R_aload_n 1 dX7_person_0 rfl rfl ?_
  refine R_iload_n 2 dX7_person_1 rfl rfl ?_
  refine R_callVi 5 eX7_isPerson dX7_person_2 rfl kX7_isPerson lX7_238 rfl rfl rfl rfl rfl rfl rfl ?_
  refine R_ifb_ne 8 14 dX7_person_5 rfl (by decide) (fun c1 => ?_) (fun c1 => ?_)
  ·
    refine R_iload_n 15 dX7_person_14 rfl rfl ?_
    by_cases c2 : w = 0
    ·
      refine R_tableAt 52 (off := 37) 0 c2 dX7_person_15 (by decide) (by decide) ?_
      refine R_aload_n 53 dX7_person_52 rfl rfl ?_
      refine R_get 56 dX7_person_53 rfl fX7_16 rfl (v := .ref 103) rfl ?_
      refine R_iload_n 57 dX7_person_56 rfl rfl ?_
      refine R_iald 58 dX7_person_57 rfl rfl rfl (ip_in hk c1) ?_
      refine R_ireturn dX7_person_58 rfl rfl ?_
      have e : zz = (ar 2 p.toNatClampNeg, ar) := by rw [← hs]; unfold sX7_person; rw [if_pos c1, if_pos c2]
      rw [pr1 e, pr2 e]; exact ⟨rfl, rfl⟩
    by_cases c3 : w = 1
    ·
      refine R_tableAt 59 (off := 44) 1 c3 dX7_person_15 (by decide) (by decide) ?_
      refine R_aload_n 60 dX7_person_59 rfl rfl ?_
      refine R_get 63 dX7_person_60 rfl fX7_19 rfl (v := .ref 104) rfl ?_
      refine R_iload_n 64 dX7_person_63 rfl rfl ?_
      refine R_iald 65 dX7_person_64 rfl rfl rfl (ip_in hk c1) ?_
      refine R_ireturn dX7_person_65 rfl rfl ?_
      have e : zz = (ar 3 p.toNatClampNeg, ar) := by rw [← hs]; unfold sX7_person; rw [if_pos c1, if_neg c2, if_pos c3]
      rw [pr1 e, pr2 e]; exact ⟨rfl, rfl⟩
    by_cases c4 : w = 2
    ·
      refine R_tableAt 66 (off := 51) 2 c4 dX7_person_15 (by decide) (by decide) ?_
      refine R_aload_n 67 dX7_person_66 rfl rfl ?_
      refine R_get 70 dX7_person_67 rfl fX7_22 rfl (v := .ref 105) rfl ?_
      refine R_iload_n 71 dX7_person_70 rfl rfl ?_
      refine R_iald 72 dX7_person_71 rfl rfl rfl (ip_in hk c1) ?_
      refine R_ireturn dX7_person_72 rfl rfl ?_
      have e : zz = (ar 4 p.toNatClampNeg, ar) := by rw [← hs]; unfold sX7_person; rw [if_pos c1, if_neg c2, if_neg c3, if_pos c4]
      rw [pr1 e, pr2 e]; exact ⟨rfl, rfl⟩
    by_cases c5 : w = 3
    ·
      refine R_tableAt 73 (off := 58) 3 c5 dX7_person_15 (by decide) (by decide) ?_
      refine R_aload_n 74 dX7_person_73 rfl rfl ?_
      refine R_get 77 dX7_person_74 rfl fX7_25 rfl (v := .ref 106) rfl ?_
      refine R_iload_n 78 dX7_person_77 rfl rfl ?_
      refine R_iald 79 dX7_person_78 rfl rfl rfl (ip_in hk c1) ?_
      refine R_ireturn dX7_person_79 rfl rfl ?_
      have e : zz = (ar 5 p.toNatClampNeg, ar) := by rw [← hs]; unfold sX7_person; rw [if_pos c1, if_neg c2, if_neg c3, if_neg c4, if_pos c5]
      rw [pr1 e, pr2 e]; exact ⟨rfl, rfl⟩
    by_cases c6 : w = 4
    ·
      refine R_tableAt 80 (off := 65) 4 c6 dX7_person_15 (by decide) (by decide) ?_
      refine R_aload_n 81 dX7_person_80 rfl rfl ?_
      refine R_get 84 dX7_person_81 rfl fX7_28 rfl (v := .ref 107) rfl ?_
      refine R_iload_n 85 dX7_person_84 rfl rfl ?_
      refine R_iald 86 dX7_person_85 rfl rfl rfl (ip_in hk c1) ?_
      refine R_ireturn dX7_person_86 rfl rfl ?_
      have e : zz = (ar 6 p.toNatClampNeg, ar) := by rw [← hs]; unfold sX7_person; rw [if_pos c1, if_neg c2, if_neg c3, if_neg c4, if_neg c5, if_pos c6]
      rw [pr1 e, pr2 e]; exact ⟨rfl, rfl⟩
    by_cases c7 : w = 5
    ·
      refine R_tableAt 87 (off := 72) 5 c7 dX7_person_15 (by decide) (by decide) ?_
      refine R_aload_n 88 dX7_person_87 rfl rfl ?_
      refine R_get 91 dX7_person_88 rfl fX7_31 rfl (v := .ref 108) rfl ?_
      refine R_iload_n 92 dX7_person_91 rfl rfl ?_
      refine R_iald 93 dX7_person_92 rfl rfl rfl (ip_in hk c1) ?_
      refine R_ireturn dX7_person_93 rfl rfl ?_
      have e : zz = (ar 7 p.toNatClampNeg, ar) := by rw [← hs]; unfold sX7_person; rw [if_pos c1, if_neg c2, if_neg c3, if_neg c4, if_neg c5, if_neg c6, if_pos c7]
      rw [pr1 e, pr2 e]; exact ⟨rfl, rfl⟩
    refine R_tableD 94 [0, 1, 2, 3, 4, 5] dX7_person_15 (List.forall_mem_cons.mpr ⟨lv_neT c2 (show (0 : Int32).toInt = 0 by decide), List.forall_mem_cons.mpr ⟨lv_neT c3 (show (1 : Int32).toInt = 1 by decide), List.forall_mem_cons.mpr ⟨lv_neT c4 (show (2 : Int32).toInt = 2 by decide), List.forall_mem_cons.mpr ⟨lv_neT c5 (show (3 : Int32).toInt = 3 by decide), List.forall_mem_cons.mpr ⟨lv_neT c6 (show (4 : Int32).toInt = 4 by decide), List.forall_mem_cons.mpr ⟨lv_neT c7 (show (5 : Int32).toInt = 5 by decide), fun _ h => absurd h List.not_mem_nil⟩⟩⟩⟩⟩⟩) (by decide) (by decide) ?_
    refine R_aload_n 95 dX7_person_94 rfl rfl ?_
    refine R_bipush 97 dX7_person_95 rfl (v := (-2)) (by decide) ?_
    refine R_callVi 100 (eX7_no (vin_d (by decide))) dX7_person_97 rfl kX7_no lX7_76 rfl rfl rfl rfl rfl rfl rfl ?_
    generalize hz1_ : (sX7_no ar (-2)).2 = z1_
    refine R_ireturn dX7_person_100 rfl rfl ?_
    subst hz1_
    have e : zz = ((sX7_no ar (-2)).1, ((sX7_no ar (-2)).2)) := by rw [← hs]; unfold sX7_person; rw [if_pos c1, if_neg c2, if_neg c3, if_neg c4, if_neg c5, if_neg c6, if_neg c7]
    rw [pr1 e, pr2 e]; exact ⟨rfl, rfl⟩
  ·
    refine R_aload_n 9 dX7_person_8 rfl rfl ?_
    refine R_iconst 10 dX7_person_9 rfl (v := (-1)) (by decide) ?_
    refine R_callVi 13 (eX7_no (vin_d (by decide))) dX7_person_10 rfl kX7_no lX7_76 rfl rfl rfl rfl rfl rfl rfl ?_
    generalize hz2_ : (sX7_no ar (-1)).2 = z2_
    refine R_ireturn dX7_person_13 rfl rfl ?_
    subst hz2_
    have e : zz = ((sX7_no ar (-1)).1, ((sX7_no ar (-1)).2)) := by rw [← hs]; unfold sX7_person; rw [if_neg c1]
    rw [pr1 e, pr2 e]; exact ⟨rfl, rfl⟩
def sX7_bothers (f : Nat → Int32) (ar : Nat → Nat → Int32) (p : Int32) (x : Int32) : Int32 × (Nat → Nat → Int32) := if (sX7_isPerson f p) = true then (if (sX7_bound x 0 199) = 0 then ((sX7_botherOf ar p x), ar) else ((sX7_no ar (sX7_bound x 0 199)).1, ((sX7_no ar (sX7_bound x 0 199)).2))) else ((sX7_no ar (-1)).1, ((sX7_no ar (-1)).2))
set_option maxRecDepth 20000 in
theorem eX7_bothers {G : zG} {h1 : List va_E} {f : Nat → Int32} {ar : Nat → Nat → Int32} {p x : Int32} (hk : mOk f ar) : EvF G mX7_bothers [.ref 100, .int p, .int x] (h1, hM G f ar) (some (.int ((sX7_bothers f ar p x).1))) (h1, hM G f ((sX7_bothers f ar p x).2)) := by
  generalize hs : (sX7_bothers f ar p x) = zz
  refine EvF.of pnX7 rfl ?_
  refine R_aload_n 1 dX7_bothers_0 rfl rfl ?_
  refine R_iload_n 2 dX7_bothers_1 rfl rfl ?_
  refine R_callVi 5 eX7_isPerson dX7_bothers_2 rfl kX7_isPerson lX7_238 rfl rfl rfl rfl rfl rfl rfl ?_
  refine R_ifb_ne 8 12 dX7_bothers_5 rfl (by decide) (fun c1 => ?_) (fun c1 => ?_)
  ·
    refine R_iload_n 13 dX7_bothers_12 rfl rfl ?_
    refine R_iconst 14 dX7_bothers_13 rfl (v := 0) (by decide) ?_
    refine R_sipush 17 dX7_bothers_14 rfl (v := 199) (by decide) ?_
    refine R_callSi 20 eX7_bound dX7_bothers_17 rfl kX7_bound lX7_69 rfl rfl rfl rfl rfl ?_
    refine R_istore_n 21 dX7_bothers_20 rfl rfl (by decide) (loc' := [(0, .ref 100), (1, .int p), (2, .int x), (3, .int (sX7_bound x 0 199))]) rfl ?_
    refine R_iload_n 22 dX7_bothers_21 rfl rfl ?_
    refine R_if_eq 25 33 dX7_bothers_22 rfl (by decide) (fun c2 => ?_) (fun c2 => ?_)
    ·
      refine R_aload_n 34 dX7_bothers_33 rfl rfl ?_
      refine R_iload_n 35 dX7_bothers_34 rfl rfl ?_
      refine R_iload_n 36 dX7_bothers_35 rfl rfl ?_
      refine R_callVi 39 (eX7_botherOf (ip_in hk c1)) dX7_bothers_36 rfl kX7_botherOf lX7_222 rfl rfl rfl rfl rfl rfl rfl ?_
      refine R_ireturn dX7_bothers_39 rfl rfl ?_
      have e : zz = ((sX7_botherOf ar p x), ar) := by rw [← hs]; unfold sX7_bothers; rw [if_pos c1, if_pos c2]
      rw [pr1 e, pr2 e]; exact ⟨rfl, rfl⟩
    ·
      refine R_aload_n 26 dX7_bothers_25 rfl rfl ?_
      refine R_iload_n 27 dX7_bothers_26 rfl rfl ?_
      refine R_callVi 30 (eX7_no (bd_in c2)) dX7_bothers_27 rfl kX7_no lX7_76 rfl rfl rfl rfl rfl rfl rfl ?_
      generalize hz1_ : (sX7_no ar (sX7_bound x 0 199)).2 = z1_
      refine R_goto 39 dX7_bothers_30 (by decide) ?_
      refine R_ireturn dX7_bothers_39 rfl rfl ?_
      subst hz1_
      have e : zz = ((sX7_no ar (sX7_bound x 0 199)).1, ((sX7_no ar (sX7_bound x 0 199)).2)) := by rw [← hs]; unfold sX7_bothers; rw [if_pos c1, if_neg c2]
      rw [pr1 e, pr2 e]; exact ⟨rfl, rfl⟩
  ·
    refine R_iconst 9 dX7_bothers_8 rfl (v := (-1)) (by decide) ?_
    refine R_goto 20 dX7_bothers_9 (by decide) ?_
    refine R_istore_n 21 dX7_bothers_20 rfl rfl (by decide) (loc' := [(0, .ref 100), (1, .int p), (2, .int x), (3, .int (-1))]) rfl ?_
    refine R_iload_n 22 dX7_bothers_21 rfl rfl ?_
    refine R_if_eq 25 33 dX7_bothers_22 rfl (by decide) (fun c => absurd c (by decide)) (fun _ => ?_)
    refine R_aload_n 26 dX7_bothers_25 rfl rfl ?_
    refine R_iload_n 27 dX7_bothers_26 rfl rfl ?_
    refine R_callVi 30 (eX7_no (vin_d (by decide))) dX7_bothers_27 rfl kX7_no lX7_76 rfl rfl rfl rfl rfl rfl rfl ?_
    generalize hz2_ : (sX7_no ar (-1)).2 = z2_
    refine R_goto 39 dX7_bothers_30 (by decide) ?_
    refine R_ireturn dX7_bothers_39 rfl rfl ?_
    subst hz2_
    have e : zz = ((sX7_no ar (-1)).1, ((sX7_no ar (-1)).2)) := by rw [← hs]; unfold sX7_bothers; rw [if_neg c1]
    rw [pr1 e, pr2 e]; exact ⟨rfl, rfl⟩
def sX7_place (f : Nat → Int32) (ar : Nat → Nat → Int32) (w : Int32) : Int32 × (Nat → Nat → Int32) := if (sX7_isIn w 0 2) = true then (ar 1 w.toNatClampNeg, ar) else ((sX7_lower ar (-2)).1, ((sX7_lower ar (-2)).2))
set_option maxRecDepth 20000 in
theorem eX7_place {G : zG} {h1 : List va_E} {f : Nat → Int32} {ar : Nat → Nat → Int32} {w : Int32} : EvF G mX7_place [.ref 100, .int w] (h1, hM G f ar) (some (.int ((sX7_place f ar w).1))) (h1, hM G f ((sX7_place f ar w).2)) := by
  generalize hs : (sX7_place f ar w) = zz
  refine EvF.of pnX7 rfl ?_
  refine R_iload_n 1 dX7_place_0 rfl rfl ?_
  refine R_iconst 2 dX7_place_1 rfl (v := 0) (by decide) ?_
  refine R_iconst 3 dX7_place_2 rfl (v := 2) (by decide) ?_
  refine R_callSi 6 eX7_isIn dX7_place_3 rfl kX7_isIn lX7_87 rfl rfl rfl rfl rfl ?_
  refine R_ifb_eq 9 18 dX7_place_6 rfl (by decide) (fun c1 => ?_) (fun c1 => ?_)
  ·
    refine R_aload_n 19 dX7_place_18 rfl rfl ?_
    refine R_bipush 21 dX7_place_19 rfl (v := (-2)) (by decide) ?_
    refine R_callVi 24 (eX7_lower (vin_d (by decide))) dX7_place_21 rfl kX7_lower lX7_241 rfl rfl rfl rfl rfl rfl rfl ?_
    generalize hz1_ : (sX7_lower ar (-2)).2 = z1_
    refine R_ireturn dX7_place_24 rfl rfl ?_
    subst hz1_
    have e : zz = ((sX7_lower ar (-2)).1, ((sX7_lower ar (-2)).2)) := by rw [← hs]; unfold sX7_place; rw [if_neg c1]
    rw [pr1 e, pr2 e]; exact ⟨rfl, rfl⟩
  ·
    refine R_aload_n 10 dX7_place_9 rfl rfl ?_
    refine R_get 13 dX7_place_10 rfl fX7_13 rfl (v := .ref 102) rfl ?_
    refine R_iload_n 14 dX7_place_13 rfl rfl ?_
    refine R_iald 15 dX7_place_14 rfl rfl rfl (in_in c1 (by decide) (by decide)) ?_
    refine R_goto 24 dX7_place_15 (by decide) ?_
    refine R_ireturn dX7_place_24 rfl rfl ?_
    have e : zz = (ar 1 w.toNatClampNeg, ar) := by rw [← hs]; unfold sX7_place; rw [if_pos c1]
    rw [pr1 e, pr2 e]; exact ⟨rfl, rfl⟩
def sX7_set (f : Nat → Int32) (ar : Nat → Nat → Int32) (w : Int32) (v : Int32) : Int32 × (Nat → Nat → Int32) := if (sX7_isIn w 0 5) = true then (if (sX7_bound v (sX7_leastOf w) (sX7_mostOf w)) = 0 then (ar 1 w.toNatClampNeg, (up2 ar 1 (upd (ar 1) w.toNatClampNeg v))) else ((sX7_lower ar (sX7_bound v (sX7_leastOf w) (sX7_mostOf w))).1, ((sX7_lower ar (sX7_bound v (sX7_leastOf w) (sX7_mostOf w))).2))) else ((sX7_lower ar (-2)).1, ((sX7_lower ar (-2)).2))
set_option maxRecDepth 20000 in
theorem eX7_set {G : zG} {h1 : List va_E} {f : Nat → Int32} {ar : Nat → Nat → Int32} {w v : Int32} : EvF G mX7_set [.ref 100, .int w, .int v] (h1, hM G f ar) (some (.int ((sX7_set f ar w v).1))) (h1, hM G f ((sX7_set f ar w v).2)) := by
  generalize hs : (sX7_set f ar w v) = zz
  refine EvF.of pnX7 rfl ?_
  refine R_iload_n 1 dX7_set_0 rfl rfl ?_
  refine R_iconst 2 dX7_set_1 rfl (v := 0) (by decide) ?_
  refine R_iconst 3 dX7_set_2 rfl (v := 5) (by decide) ?_
  refine R_callSi 6 eX7_isIn dX7_set_3 rfl kX7_isIn lX7_87 rfl rfl rfl rfl rfl ?_
  refine R_ifb_ne 9 14 dX7_set_6 rfl (by decide) (fun c1 => ?_) (fun c1 => ?_)
  ·
    refine R_iload_n 15 dX7_set_14 rfl rfl ?_
    refine R_iload_n 16 dX7_set_15 rfl rfl ?_
    refine R_callSi 19 eX7_leastOf dX7_set_16 rfl kX7_leastOf lX7_120 rfl rfl rfl rfl rfl ?_
    refine R_iload_n 20 dX7_set_19 rfl rfl ?_
    refine R_callSi 23 eX7_mostOf dX7_set_20 rfl kX7_mostOf lX7_123 rfl rfl rfl rfl rfl ?_
    refine R_callSi 26 eX7_bound dX7_set_23 rfl kX7_bound lX7_69 rfl rfl rfl rfl rfl ?_
    refine R_nm (fun z1_ hz1_ => ?_)
    refine R_istore_n 27 dX7_set_26 rfl rfl (by decide) (loc' := [(0, .ref 100), (1, .int w), (2, .int v), (3, .int z1_)]) rfl ?_
    refine R_iload_n 28 dX7_set_27 rfl rfl ?_
    refine R_if_eq 31 37 dX7_set_28 rfl (by decide) (fun c2 => ?_) (fun c2 => ?_)
    ·
      refine R_aload_n 38 dX7_set_37 rfl rfl ?_
      refine R_get 41 dX7_set_38 rfl fX7_13 rfl (v := .ref 102) rfl ?_
      refine R_iload_n 42 dX7_set_41 rfl rfl ?_
      refine R_iald 43 dX7_set_42 rfl rfl rfl (in_in c1 (by decide) (by decide)) ?_
      refine R_istore 45 dX7_set_43 rfl rfl (by decide) (loc' := [(0, .ref 100), (1, .int w), (2, .int v), (3, .int z1_), (4, .int (ar 1 w.toNatClampNeg))]) rfl ?_
      refine R_aload_n 46 dX7_set_45 rfl rfl ?_
      refine R_get 49 dX7_set_46 rfl fX7_13 rfl (v := .ref 102) rfl ?_
      refine R_iload_n 50 dX7_set_49 rfl rfl ?_
      refine R_iload_n 51 dX7_set_50 rfl rfl ?_
      refine R_iast 52 dX7_set_51 rfl rfl rfl (in_in c1 (by decide) (by decide)) (h2 := (h1, hM G f (up2 ar 1 (upd (ar 1) w.toNatClampNeg v)))) ms_1 ?_
      refine R_iload 54 dX7_set_52 rfl rfl ?_
      refine R_ireturn dX7_set_54 rfl rfl ?_
      subst hz1_
      have e : zz = (ar 1 w.toNatClampNeg, (up2 ar 1 (upd (ar 1) w.toNatClampNeg v))) := by rw [← hs]; unfold sX7_set; rw [if_pos c1, if_pos c2]
      rw [pr1 e, pr2 e]; exact ⟨rfl, rfl⟩
    ·
      refine R_aload_n 32 dX7_set_31 rfl rfl ?_
      refine R_iload_n 33 dX7_set_32 rfl rfl ?_
      refine R_callVi 36 (eX7_lower (bd_inz hz1_ c2)) dX7_set_33 rfl kX7_lower lX7_241 rfl rfl rfl rfl rfl rfl rfl ?_
      generalize hz2_ : (sX7_lower ar z1_).2 = z2_
      refine R_ireturn dX7_set_36 rfl rfl ?_
      subst hz1_ hz2_
      have e : zz = ((sX7_lower ar (sX7_bound v (sX7_leastOf w) (sX7_mostOf w))).1, ((sX7_lower ar (sX7_bound v (sX7_leastOf w) (sX7_mostOf w))).2)) := by rw [← hs]; unfold sX7_set; rw [if_pos c1, if_neg c2]
      rw [pr1 e, pr2 e]; exact ⟨rfl, rfl⟩
  ·
    refine R_bipush 11 dX7_set_9 rfl (v := (-2)) (by decide) ?_
    refine R_goto 26 dX7_set_11 (by decide) ?_
    refine R_istore_n 27 dX7_set_26 rfl rfl (by decide) (loc' := [(0, .ref 100), (1, .int w), (2, .int v), (3, .int (-2))]) rfl ?_
    refine R_iload_n 28 dX7_set_27 rfl rfl ?_
    refine R_if_eq 31 37 dX7_set_28 rfl (by decide) (fun c => absurd c (by decide)) (fun _ => ?_)
    refine R_aload_n 32 dX7_set_31 rfl rfl ?_
    refine R_iload_n 33 dX7_set_32 rfl rfl ?_
    refine R_callVi 36 (eX7_lower (vin_d (by decide))) dX7_set_33 rfl kX7_lower lX7_241 rfl rfl rfl rfl rfl rfl rfl ?_
    generalize hz3_ : (sX7_lower ar (-2)).2 = z3_
    refine R_ireturn dX7_set_36 rfl rfl ?_
    subst hz3_
    have e : zz = ((sX7_lower ar (-2)).1, ((sX7_lower ar (-2)).2)) := by rw [← hs]; unfold sX7_set; rw [if_neg c1]
    rw [pr1 e, pr2 e]; exact ⟨rfl, rfl⟩
def sX7_kind (f : Nat → Int32) (ar : Nat → Nat → Int32) (w : Int32) (k : Int32) : Int32 × (Nat → Int32) × (Nat → Nat → Int32) := if (sX7_isIn w 0 1) = true then (if (sX7_isIn k 0 4) = true then (if w = 0 then (if w = 0 then f 9 else f 10, (upd f 9 k), ar) else (if w = 0 then f 9 else f 10, (upd f 10 k), ar)) else ((sX7_no ar (-2)).1, f, ((sX7_no ar (-2)).2))) else ((sX7_no ar (-2)).1, f, ((sX7_no ar (-2)).2))
set_option maxRecDepth 20000 in
theorem eX7_kind {G : zG} {h1 : List va_E} {f : Nat → Int32} {ar : Nat → Nat → Int32} {w k : Int32} : EvF G mX7_kind [.ref 100, .int w, .int k] (h1, hM G f ar) (some (.int ((sX7_kind f ar w k).1))) (h1, hM G ((sX7_kind f ar w k).2.1) ((sX7_kind f ar w k).2.2)) := by
  generalize hs : (sX7_kind f ar w k) = zz
  refine EvF.of pnX7 rfl ?_
  refine R_iload_n 1 dX7_kind_0 rfl rfl ?_
  refine R_iconst 2 dX7_kind_1 rfl (v := 0) (by decide) ?_
  refine R_iconst 3 dX7_kind_2 rfl (v := 1) (by decide) ?_
  refine R_callSi 6 eX7_isIn dX7_kind_3 rfl kX7_isIn lX7_87 rfl rfl rfl rfl rfl ?_
  refine R_ifb_eq 9 18 dX7_kind_6 rfl (by decide) (fun c1 => ?_) (fun c1 => ?_)
  ·
    refine R_aload_n 19 dX7_kind_18 rfl rfl ?_
    refine R_bipush 21 dX7_kind_19 rfl (v := (-2)) (by decide) ?_
    refine R_callVi 24 (eX7_no (vin_d (by decide))) dX7_kind_21 rfl kX7_no lX7_76 rfl rfl rfl rfl rfl rfl rfl ?_
    generalize hz1_ : (sX7_no ar (-2)).2 = z1_
    refine R_ireturn dX7_kind_24 rfl rfl ?_
    subst hz1_
    have e : zz = ((sX7_no ar (-2)).1, f, ((sX7_no ar (-2)).2)) := by rw [← hs]; unfold sX7_kind; rw [if_neg c1]
    rw [pr1 e, pr1 (pr2 e), pr2 (pr2 e)]; exact ⟨rfl, rfl⟩
  ·
    refine R_iload_n 10 dX7_kind_9 rfl rfl ?_
    refine R_iconst 11 dX7_kind_10 rfl (v := 0) (by decide) ?_
    refine R_iconst 12 dX7_kind_11 rfl (v := 4) (by decide) ?_
    refine R_callSi 15 eX7_isIn dX7_kind_12 rfl kX7_isIn lX7_87 rfl rfl rfl rfl rfl ?_
    refine R_ifb_ne 18 25 dX7_kind_15 rfl (by decide) (fun c2 => ?_) (fun c2 => ?_)
    ·
      refine R_iload_n 26 dX7_kind_25 rfl rfl ?_
      refine R_cut 40 [(0, .ref 100), (1, .int w), (2, .int k)] (.int (if w = 0 then f 9 else f 10) :: []) (h1, hM G f ar) ?_ (fun kj => ?_)
      ·
        refine R_istore_n 41 dX7_kind_40 rfl rfl (by decide) (loc' := [(0, .ref 100), (1, .int w), (2, .int k), (3, .int (if w = 0 then f 9 else f 10))]) rfl ?_
        refine R_iload_n 42 dX7_kind_41 rfl rfl ?_
        refine R_if_ne 45 53 dX7_kind_42 rfl (by decide) (fun c4 => ?_) (fun c4 => ?_)
        ·
          refine R_aload_n 54 dX7_kind_53 rfl rfl ?_
          refine R_iload_n 55 dX7_kind_54 rfl rfl ?_
          refine R_put 58 dX7_kind_55 rfl wX7_135 rfl rfl rfl rfl (h2 := (h1, hM G (upd f 10 k) ar)) mp_10 ?_
          refine R_iload_n 59 dX7_kind_58 rfl rfl ?_
          refine R_ireturn dX7_kind_59 rfl rfl ?_
          have e : zz = (if w = 0 then f 9 else f 10, (upd f 10 k), ar) := by rw [← hs]; unfold sX7_kind; rw [if_pos c1, if_pos c2, if_neg c4]
          rw [pr1 e, pr1 (pr2 e), pr2 (pr2 e)]; exact ⟨rfl, rfl⟩
        ·
          refine R_aload_n 46 dX7_kind_45 rfl rfl ?_
          refine R_iload_n 47 dX7_kind_46 rfl rfl ?_
          refine R_put 50 dX7_kind_47 rfl wX7_132 rfl rfl rfl rfl (h2 := (h1, hM G (upd f 9 k) ar)) mp_9 ?_
          refine R_goto 58 dX7_kind_50 (by decide) ?_
          refine R_iload_n 59 dX7_kind_58 rfl rfl ?_
          refine R_ireturn dX7_kind_59 rfl rfl ?_
          have e : zz = (if w = 0 then f 9 else f 10, (upd f 9 k), ar) := by rw [← hs]; unfold sX7_kind; rw [if_pos c1, if_pos c2, if_pos c4]
          rw [pr1 e, pr1 (pr2 e), pr2 (pr2 e)]; exact ⟨rfl, rfl⟩
      refine R_if_ne 29 36 dX7_kind_26 rfl (by decide) (fun c3 => ?_) (fun c3 => ?_)
      · refine R_aload_n 37 dX7_kind_36 rfl rfl ?_
        refine R_get 40 dX7_kind_37 rfl fX7_135 rfl (v := .int (f 10)) rfl ?_
        rw [if_neg c3] at kj; exact kj
      · refine R_aload_n 30 dX7_kind_29 rfl rfl ?_
        refine R_get 33 dX7_kind_30 rfl fX7_132 rfl (v := .int (f 9)) rfl ?_
        refine R_goto 40 dX7_kind_33 (by decide) ?_
        rw [if_pos c3] at kj; exact kj
    ·
      refine R_aload_n 19 dX7_kind_18 rfl rfl ?_
      refine R_bipush 21 dX7_kind_19 rfl (v := (-2)) (by decide) ?_
      refine R_callVi 24 (eX7_no (vin_d (by decide))) dX7_kind_21 rfl kX7_no lX7_76 rfl rfl rfl rfl rfl rfl rfl ?_
      generalize hz2_ : (sX7_no ar (-2)).2 = z2_
      refine R_ireturn dX7_kind_24 rfl rfl ?_
      subst hz2_
      have e : zz = ((sX7_no ar (-2)).1, f, ((sX7_no ar (-2)).2)) := by rw [← hs]; unfold sX7_kind; rw [if_pos c1, if_neg c2]
      rw [pr1 e, pr1 (pr2 e), pr2 (pr2 e)]; exact ⟨rfl, rfl⟩
def sX7_turn (f : Nat → Int32) (ar : Nat → Nat → Int32) (p : Int32) : Int32 × (Nat → Int32) × (Nat → Nat → Int32) := if (sX7_isPerson f p) = true then (f 11, (upd f 11 p), ar) else ((sX7_no ar (-1)).1, f, ((sX7_no ar (-1)).2))
set_option maxRecDepth 20000 in
theorem eX7_turn {G : zG} {h1 : List va_E} {f : Nat → Int32} {ar : Nat → Nat → Int32} {p : Int32} (hk : mOk f ar) : EvF G mX7_turn [.ref 100, .int p] (h1, hM G f ar) (some (.int ((sX7_turn f ar p).1))) (h1, hM G ((sX7_turn f ar p).2.1) ((sX7_turn f ar p).2.2)) := by
  generalize hs : (sX7_turn f ar p) = zz
  refine EvF.of pnX7 rfl ?_
  refine R_aload_n 1 dX7_turn_0 rfl rfl ?_
  refine R_iload_n 2 dX7_turn_1 rfl rfl ?_
  refine R_callVi 5 eX7_isPerson dX7_turn_2 rfl kX7_isPerson lX7_238 rfl rfl rfl rfl rfl rfl rfl ?_
  refine R_ifb_ne 8 14 dX7_turn_5 rfl (by decide) (fun c1 => ?_) (fun c1 => ?_)
  ·
    refine R_aload_n 15 dX7_turn_14 rfl rfl ?_
    refine R_get 18 dX7_turn_15 rfl fX7_170 rfl (v := .int (f 11)) rfl ?_
    refine R_istore_n 19 dX7_turn_18 rfl rfl (by decide) (loc' := [(0, .ref 100), (1, .int p), (2, .int (f 11))]) rfl ?_
    refine R_aload_n 20 dX7_turn_19 rfl rfl ?_
    refine R_iload_n 21 dX7_turn_20 rfl rfl ?_
    refine R_put 24 dX7_turn_21 rfl wX7_170 rfl rfl rfl rfl (h2 := (h1, hM G (upd f 11 p) ar)) mp_11 ?_
    refine R_iload_n 25 dX7_turn_24 rfl rfl ?_
    refine R_ireturn dX7_turn_25 rfl rfl ?_
    have e : zz = (f 11, (upd f 11 p), ar) := by rw [← hs]; unfold sX7_turn; rw [if_pos c1]
    rw [pr1 e, pr1 (pr2 e), pr2 (pr2 e)]; exact ⟨rfl, rfl⟩
  ·
    refine R_aload_n 9 dX7_turn_8 rfl rfl ?_
    refine R_iconst 10 dX7_turn_9 rfl (v := (-1)) (by decide) ?_
    refine R_callVi 13 (eX7_no (vin_d (by decide))) dX7_turn_10 rfl kX7_no lX7_76 rfl rfl rfl rfl rfl rfl rfl ?_
    generalize hz1_ : (sX7_no ar (-1)).2 = z1_
    refine R_ireturn dX7_turn_13 rfl rfl ?_
    subst hz1_
    have e : zz = ((sX7_no ar (-1)).1, f, ((sX7_no ar (-1)).2)) := by rw [← hs]; unfold sX7_turn; rw [if_neg c1]
    rw [pr1 e, pr1 (pr2 e), pr2 (pr2 e)]; exact ⟨rfl, rfl⟩
def sX7_drifts (f : Nat → Int32) (ar : Nat → Nat → Int32) (t : Int32) : Int32 × (Nat → Nat → Int32) := if (sX7_bound t 0 9999) = 0 then ((sX7_driftIn f ar t), ar) else ((sX7_lower ar (sX7_bound t 0 9999)).1, ((sX7_lower ar (sX7_bound t 0 9999)).2))
set_option maxRecDepth 20000 in
theorem eX7_drifts {G : zG} {h1 : List va_E} {f : Nat → Int32} {ar : Nat → Nat → Int32} {t : Int32} : EvF G mX7_drifts [.ref 100, .int t] (h1, hM G f ar) (some (.int ((sX7_drifts f ar t).1))) (h1, hM G f ((sX7_drifts f ar t).2)) := by
  generalize hs : (sX7_drifts f ar t) = zz
  refine EvF.of pnX7 rfl ?_
  refine R_iload_n 1 dX7_drifts_0 rfl rfl ?_
  refine R_iconst 2 dX7_drifts_1 rfl (v := 0) (by decide) ?_
  refine R_sipush 5 dX7_drifts_2 rfl (v := 9999) (by decide) ?_
  refine R_callSi 8 eX7_bound dX7_drifts_5 rfl kX7_bound lX7_69 rfl rfl rfl rfl rfl ?_
  refine R_istore_n 9 dX7_drifts_8 rfl rfl (by decide) (loc' := [(0, .ref 100), (1, .int t), (2, .int (sX7_bound t 0 9999))]) rfl ?_
  refine R_iload_n 10 dX7_drifts_9 rfl rfl ?_
  refine R_if_eq 13 21 dX7_drifts_10 rfl (by decide) (fun c1 => ?_) (fun c1 => ?_)
  ·
    refine R_aload_n 22 dX7_drifts_21 rfl rfl ?_
    refine R_iload_n 23 dX7_drifts_22 rfl rfl ?_
    refine R_callVi 26 eX7_driftIn dX7_drifts_23 rfl kX7_driftIn lX7_188 rfl rfl rfl rfl rfl rfl rfl ?_
    refine R_ireturn dX7_drifts_26 rfl rfl ?_
    have e : zz = ((sX7_driftIn f ar t), ar) := by rw [← hs]; unfold sX7_drifts; rw [if_pos c1]
    rw [pr1 e, pr2 e]; exact ⟨rfl, rfl⟩
  ·
    refine R_aload_n 14 dX7_drifts_13 rfl rfl ?_
    refine R_iload_n 15 dX7_drifts_14 rfl rfl ?_
    refine R_callVi 18 (eX7_lower (bd_in c1)) dX7_drifts_15 rfl kX7_lower lX7_241 rfl rfl rfl rfl rfl rfl rfl ?_
    generalize hz1_ : (sX7_lower ar (sX7_bound t 0 9999)).2 = z1_
    refine R_goto 26 dX7_drifts_18 (by decide) ?_
    refine R_ireturn dX7_drifts_26 rfl rfl ?_
    subst hz1_
    have e : zz = ((sX7_lower ar (sX7_bound t 0 9999)).1, ((sX7_lower ar (sX7_bound t 0 9999)).2)) := by rw [← hs]; unfold sX7_drifts; rw [if_neg c1]
    rw [pr1 e, pr2 e]; exact ⟨rfl, rfl⟩
def sX7_go (f : Nat → Int32) (ar : Nat → Nat → Int32) (x : Int32) : Int32 × (Nat → Int32) × (Nat → Nat → Int32) := if (sX7_bound x 1 60) = 0 then (if ((f 12) + x) ≤ 9999 then (((sX7_goes f ar x).1) 28, ((sX7_goes f ar x).1), ((sX7_goes f ar x).2)) else ((sX7_no ar (-6)).1, f, ((sX7_no ar (-6)).2))) else ((sX7_no ar (sX7_bound x 1 60)).1, f, ((sX7_no ar (sX7_bound x 1 60)).2))
set_option maxRecDepth 20000 in
theorem eX7_go {G : zG} {h1 : List va_E} {f : Nat → Int32} {ar : Nat → Nat → Int32} {x : Int32} (hk : mOk f ar) : EvF G mX7_go [.ref 100, .int x] (h1, hM G f ar) (some (.int ((sX7_go f ar x).1))) (h1, hM G ((sX7_go f ar x).2.1) ((sX7_go f ar x).2.2)) := by
  generalize hs : (sX7_go f ar x) = zz
  refine EvF.of pnX7 rfl ?_
  refine R_iload_n 1 dX7_go_0 rfl rfl ?_
  refine R_iconst 2 dX7_go_1 rfl (v := 1) (by decide) ?_
  refine R_bipush 4 dX7_go_2 rfl (v := 60) (by decide) ?_
  refine R_callSi 7 eX7_bound dX7_go_4 rfl kX7_bound lX7_69 rfl rfl rfl rfl rfl ?_
  refine R_istore_n 8 dX7_go_7 rfl rfl (by decide) (loc' := [(0, .ref 100), (1, .int x), (2, .int (sX7_bound x 1 60))]) rfl ?_
  refine R_iload_n 9 dX7_go_8 rfl rfl ?_
  refine R_if_ne 12 27 dX7_go_9 rfl (by decide) (fun c1 => ?_) (fun c1 => ?_)
  ·
    refine R_iload_n 28 dX7_go_27 rfl rfl ?_
    refine R_if_eq 31 37 dX7_go_28 rfl (by decide) (fun c => absurd c c1) (fun _ => ?_)
    refine R_aload_n 32 dX7_go_31 rfl rfl ?_
    refine R_iload_n 33 dX7_go_32 rfl rfl ?_
    refine R_callVi 36 (eX7_no (bd_in c1)) dX7_go_33 rfl kX7_no lX7_76 rfl rfl rfl rfl rfl rfl rfl ?_
    generalize hz1_ : (sX7_no ar (sX7_bound x 1 60)).2 = z1_
    refine R_ireturn dX7_go_36 rfl rfl ?_
    subst hz1_
    have e : zz = ((sX7_no ar (sX7_bound x 1 60)).1, f, ((sX7_no ar (sX7_bound x 1 60)).2)) := by rw [← hs]; unfold sX7_go; rw [if_neg c1]
    rw [pr1 e, pr1 (pr2 e), pr2 (pr2 e)]; exact ⟨rfl, rfl⟩
  ·
    refine R_aload_n 13 dX7_go_12 rfl rfl ?_
    refine R_get 16 dX7_go_13 rfl fX7_138 rfl (v := .int (f 12)) rfl ?_
    refine R_iload_n 17 dX7_go_16 rfl rfl ?_
    refine R_iadd 18 dX7_go_17 rfl ?_
    refine R_sipush 21 dX7_go_18 rfl (v := 9999) (by decide) ?_
    refine R_icmp_le 24 27 dX7_go_21 rfl (by decide) (fun c2 => ?_) (fun c2 => ?_)
    ·
      refine R_iload_n 28 dX7_go_27 rfl rfl ?_
      refine R_if_eq 31 37 dX7_go_28 rfl (by decide) (fun _ => ?_) (fun c => absurd c1 c)
      refine R_aload_n 38 dX7_go_37 rfl rfl ?_
      refine R_iload_n 39 dX7_go_38 rfl rfl ?_
      refine R_callVv 42 (eX7_goes hk (Int.le_trans (bd_h c1) (by decide))) dX7_go_39 rfl kX7_goes lX7_141 rfl rfl rfl rfl rfl rfl rfl ?_
      generalize hz2_ : (sX7_goes f ar x).1 = z2_
      generalize hz3_ : (sX7_goes f ar x).2 = z3_
      refine R_aload_n 43 dX7_go_42 rfl rfl ?_
      refine R_get 46 dX7_go_43 rfl fX7_191 rfl (v := .int (z2_ 28)) rfl ?_
      refine R_ireturn dX7_go_46 rfl rfl ?_
      subst hz2_ hz3_
      have e : zz = (((sX7_goes f ar x).1) 28, ((sX7_goes f ar x).1), ((sX7_goes f ar x).2)) := by rw [← hs]; unfold sX7_go; rw [if_pos c1, if_pos c2]
      rw [pr1 e, pr1 (pr2 e), pr2 (pr2 e)]; exact ⟨rfl, rfl⟩
    ·
      refine R_bipush 26 dX7_go_24 rfl (v := (-6)) (by decide) ?_
      refine R_istore_n 27 dX7_go_26 rfl rfl (by decide) (loc' := [(0, .ref 100), (1, .int x), (2, .int (-6))]) rfl ?_
      refine R_iload_n 28 dX7_go_27 rfl rfl ?_
      refine R_if_eq 31 37 dX7_go_28 rfl (by decide) (fun c => absurd c (by decide)) (fun _ => ?_)
      refine R_aload_n 32 dX7_go_31 rfl rfl ?_
      refine R_iload_n 33 dX7_go_32 rfl rfl ?_
      refine R_callVi 36 (eX7_no (vin_d (by decide))) dX7_go_33 rfl kX7_no lX7_76 rfl rfl rfl rfl rfl rfl rfl ?_
      generalize hz4_ : (sX7_no ar (-6)).2 = z4_
      refine R_ireturn dX7_go_36 rfl rfl ?_
      subst hz4_
      have e : zz = ((sX7_no ar (-6)).1, f, ((sX7_no ar (-6)).2)) := by rw [← hs]; unfold sX7_go; rw [if_pos c1, if_neg c2]
      rw [pr1 e, pr1 (pr2 e), pr2 (pr2 e)]; exact ⟨rfl, rfl⟩
def sX7_cost (f : Nat → Int32) (ar : Nat → Nat → Int32) (x : Int32) (w : Int32) : Int32 × (Nat → Int32) × (Nat → Nat → Int32) := if (sX7_bound x 0 240) = 0 then (if (sX7_isIn w 0 4) = true then (if w = 0 then ((sX7_thinks f ar x).1, ((sX7_thinks f ar x).2.1), ((sX7_thinks f ar x).2.2)) else if w = 1 then (((sX7_thinks f ar x).2.1) 28, ((sX7_thinks f ar x).2.1), ((sX7_thinks f ar x).2.2)) else if w = 2 then (((sX7_thinks f ar x).2.1) 29, ((sX7_thinks f ar x).2.1), ((sX7_thinks f ar x).2.2)) else (if w = 3 then ((sX7_thinks f ar x).2.1) 30 else ((sX7_thinks f ar x).2.1) 31, ((sX7_thinks f ar x).2.1), ((sX7_thinks f ar x).2.2))) else ((sX7_no ar (-2)).1, f, ((sX7_no ar (-2)).2))) else ((sX7_no ar (sX7_bound x 0 240)).1, f, ((sX7_no ar (sX7_bound x 0 240)).2))
set_option maxRecDepth 20000 in
theorem eX7_cost {G : zG} {h1 : List va_E} {f : Nat → Int32} {ar : Nat → Nat → Int32} {x w : Int32} (hk : mOk f ar) : EvF G mX7_cost [.ref 100, .int x, .int w] (h1, hM G f ar) (some (.int ((sX7_cost f ar x w).1))) (h1, hM G ((sX7_cost f ar x w).2.1) ((sX7_cost f ar x w).2.2)) := by
  generalize hs : (sX7_cost f ar x w) = zz
  refine EvF.of pnX7 rfl ?_
  refine R_iload_n 1 dX7_cost_0 rfl rfl ?_
  refine R_iconst 2 dX7_cost_1 rfl (v := 0) (by decide) ?_
  refine R_sipush 5 dX7_cost_2 rfl (v := 240) (by decide) ?_
  refine R_callSi 8 eX7_bound dX7_cost_5 rfl kX7_bound lX7_69 rfl rfl rfl rfl rfl ?_
  refine R_istore_n 9 dX7_cost_8 rfl rfl (by decide) (loc' := [(0, .ref 100), (1, .int x), (2, .int w), (3, .int (sX7_bound x 0 240))]) rfl ?_
  refine R_iload_n 10 dX7_cost_9 rfl rfl ?_
  refine R_if_ne 13 25 dX7_cost_10 rfl (by decide) (fun c1 => ?_) (fun c1 => ?_)
  ·
    refine R_iload_n 26 dX7_cost_25 rfl rfl ?_
    refine R_if_eq 29 35 dX7_cost_26 rfl (by decide) (fun c => absurd c c1) (fun _ => ?_)
    refine R_aload_n 30 dX7_cost_29 rfl rfl ?_
    refine R_iload_n 31 dX7_cost_30 rfl rfl ?_
    refine R_callVi 34 (eX7_no (bd_in c1)) dX7_cost_31 rfl kX7_no lX7_76 rfl rfl rfl rfl rfl rfl rfl ?_
    generalize hz1_ : (sX7_no ar (sX7_bound x 0 240)).2 = z1_
    refine R_ireturn dX7_cost_34 rfl rfl ?_
    subst hz1_
    have e : zz = ((sX7_no ar (sX7_bound x 0 240)).1, f, ((sX7_no ar (sX7_bound x 0 240)).2)) := by rw [← hs]; unfold sX7_cost; rw [if_neg c1]
    rw [pr1 e, pr1 (pr2 e), pr2 (pr2 e)]; exact ⟨rfl, rfl⟩
  ·
    refine R_iload_n 14 dX7_cost_13 rfl rfl ?_
    refine R_iconst 15 dX7_cost_14 rfl (v := 0) (by decide) ?_
    refine R_iconst 16 dX7_cost_15 rfl (v := 4) (by decide) ?_
    refine R_callSi 19 eX7_isIn dX7_cost_16 rfl kX7_isIn lX7_87 rfl rfl rfl rfl rfl ?_
    refine R_ifb_ne 22 25 dX7_cost_19 rfl (by decide) (fun c2 => ?_) (fun c2 => ?_)
    ·
      refine R_iload_n 26 dX7_cost_25 rfl rfl ?_
      refine R_if_eq 29 35 dX7_cost_26 rfl (by decide) (fun _ => ?_) (fun c => absurd c1 c)
      refine R_aload_n 36 dX7_cost_35 rfl rfl ?_
      refine R_iload_n 37 dX7_cost_36 rfl rfl ?_
      refine R_callVi 40 (eX7_thinks hk (bd_hi c1)) dX7_cost_37 rfl kX7_thinks lX7_235 rfl rfl rfl rfl rfl rfl rfl ?_
      generalize hz2_ : (sX7_thinks f ar x).2.1 = z2_
      generalize hz3_ : (sX7_thinks f ar x).2.2 = z3_
      refine R_istore 42 dX7_cost_40 rfl rfl (by decide) (loc' := [(0, .ref 100), (1, .int x), (2, .int w), (3, .int (sX7_bound x 0 240)), (4, .int ((sX7_thinks f ar x).1))]) rfl ?_
      refine R_iload_n 43 dX7_cost_42 rfl rfl ?_
      refine R_if_ne 46 51 dX7_cost_43 rfl (by decide) (fun c3 => ?_) (fun c3 => ?_)
      ·
        refine R_iload_n 52 dX7_cost_51 rfl rfl ?_
        refine R_iconst 53 dX7_cost_52 rfl (v := 1) (by decide) ?_
        refine R_icmp_ne 56 63 dX7_cost_53 rfl (by decide) (fun c4 => ?_) (fun c4 => ?_)
        ·
          refine R_iload_n 64 dX7_cost_63 rfl rfl ?_
          refine R_iconst 65 dX7_cost_64 rfl (v := 2) (by decide) ?_
          refine R_icmp_ne 68 75 dX7_cost_65 rfl (by decide) (fun c5 => ?_) (fun c5 => ?_)
          ·
            refine R_iload_n 76 dX7_cost_75 rfl rfl ?_
            refine R_iconst 77 dX7_cost_76 rfl (v := 3) (by decide) ?_
            refine R_cut 91 [(0, .ref 100), (1, .int x), (2, .int w), (3, .int (sX7_bound x 0 240)), (4, .int ((sX7_thinks f ar x).1))] (.int (if w = 3 then z2_ 30 else z2_ 31) :: []) (h1, hM G z2_ z3_) ?_ (fun kj => ?_)
            ·
              refine R_ireturn dX7_cost_91 rfl rfl ?_
              subst hz2_ hz3_
              have e : zz = (if w = 3 then ((sX7_thinks f ar x).2.1) 30 else ((sX7_thinks f ar x).2.1) 31, ((sX7_thinks f ar x).2.1), ((sX7_thinks f ar x).2.2)) := by rw [← hs]; unfold sX7_cost; rw [if_pos c1, if_pos c2, if_neg c3, if_neg c4, if_neg c5]
              rw [pr1 e, pr1 (pr2 e), pr2 (pr2 e)]; exact ⟨rfl, rfl⟩
            refine R_icmp_ne 80 87 dX7_cost_77 rfl (by decide) (fun c6 => ?_) (fun c6 => ?_)
            · refine R_aload_n 88 dX7_cost_87 rfl rfl ?_
              refine R_get 91 dX7_cost_88 rfl fX7_200 rfl (v := .int (z2_ 31)) rfl ?_
              rw [if_neg c6] at kj; exact kj
            · refine R_aload_n 81 dX7_cost_80 rfl rfl ?_
              refine R_get 84 dX7_cost_81 rfl fX7_197 rfl (v := .int (z2_ 30)) rfl ?_
              refine R_goto 91 dX7_cost_84 (by decide) ?_
              rw [if_pos c6] at kj; exact kj
          ·
            refine R_aload_n 69 dX7_cost_68 rfl rfl ?_
            refine R_get 72 dX7_cost_69 rfl fX7_194 rfl (v := .int (z2_ 29)) rfl ?_
            refine R_goto 91 dX7_cost_72 (by decide) ?_
            refine R_ireturn dX7_cost_91 rfl rfl ?_
            subst hz2_ hz3_
            have e : zz = (((sX7_thinks f ar x).2.1) 29, ((sX7_thinks f ar x).2.1), ((sX7_thinks f ar x).2.2)) := by rw [← hs]; unfold sX7_cost; rw [if_pos c1, if_pos c2, if_neg c3, if_neg c4, if_pos c5]
            rw [pr1 e, pr1 (pr2 e), pr2 (pr2 e)]; exact ⟨rfl, rfl⟩
        ·
          refine R_aload_n 57 dX7_cost_56 rfl rfl ?_
          refine R_get 60 dX7_cost_57 rfl fX7_191 rfl (v := .int (z2_ 28)) rfl ?_
          refine R_goto 91 dX7_cost_60 (by decide) ?_
          refine R_ireturn dX7_cost_91 rfl rfl ?_
          subst hz2_ hz3_
          have e : zz = (((sX7_thinks f ar x).2.1) 28, ((sX7_thinks f ar x).2.1), ((sX7_thinks f ar x).2.2)) := by rw [← hs]; unfold sX7_cost; rw [if_pos c1, if_pos c2, if_neg c3, if_pos c4]
          rw [pr1 e, pr1 (pr2 e), pr2 (pr2 e)]; exact ⟨rfl, rfl⟩
      ·
        refine R_iload 48 dX7_cost_46 rfl rfl ?_
        refine R_goto 91 dX7_cost_48 (by decide) ?_
        refine R_ireturn dX7_cost_91 rfl rfl ?_
        subst hz2_ hz3_
        have e : zz = ((sX7_thinks f ar x).1, ((sX7_thinks f ar x).2.1), ((sX7_thinks f ar x).2.2)) := by rw [← hs]; unfold sX7_cost; rw [if_pos c1, if_pos c2, if_pos c3]
        rw [pr1 e, pr1 (pr2 e), pr2 (pr2 e)]; exact ⟨rfl, rfl⟩
    ·
      refine R_bipush 24 dX7_cost_22 rfl (v := (-2)) (by decide) ?_
      refine R_istore_n 25 dX7_cost_24 rfl rfl (by decide) (loc' := [(0, .ref 100), (1, .int x), (2, .int w), (3, .int (-2))]) rfl ?_
      refine R_iload_n 26 dX7_cost_25 rfl rfl ?_
      refine R_if_eq 29 35 dX7_cost_26 rfl (by decide) (fun c => absurd c (by decide)) (fun _ => ?_)
      refine R_aload_n 30 dX7_cost_29 rfl rfl ?_
      refine R_iload_n 31 dX7_cost_30 rfl rfl ?_
      refine R_callVi 34 (eX7_no (vin_d (by decide))) dX7_cost_31 rfl kX7_no lX7_76 rfl rfl rfl rfl rfl rfl rfl ?_
      generalize hz4_ : (sX7_no ar (-2)).2 = z4_
      refine R_ireturn dX7_cost_34 rfl rfl ?_
      subst hz4_
      have e : zz = ((sX7_no ar (-2)).1, f, ((sX7_no ar (-2)).2)) := by rw [← hs]; unfold sX7_cost; rw [if_pos c1, if_neg c2]
      rw [pr1 e, pr1 (pr2 e), pr2 (pr2 e)]; exact ⟨rfl, rfl⟩
def sX7_at (f : Nat → Int32) (ar : Nat → Nat → Int32) (x : Int32) : Int32 × (Nat → Int32) × (Nat → Nat → Int32) := if (sX7_bound x 0 240) = 0 then (if x = 0 then ((sX7_thinks f ar x).2.2) 1 0 else ((sX7_thinks f ar x).2.2) 26 (x - 1).toNatClampNeg, ((sX7_thinks f ar x).2.1), ((sX7_thinks f ar x).2.2)) else ((sX7_lower ar (sX7_bound x 0 240)).1, f, ((sX7_lower ar (sX7_bound x 0 240)).2))
set_option maxRecDepth 20000 in
theorem eX7_at {G : zG} {h1 : List va_E} {f : Nat → Int32} {ar : Nat → Nat → Int32} {x : Int32} (hk : mOk f ar) : EvF G mX7_at [.ref 100, .int x] (h1, hM G f ar) (some (.int ((sX7_at f ar x).1))) (h1, hM G ((sX7_at f ar x).2.1) ((sX7_at f ar x).2.2)) := by
  generalize hs : (sX7_at f ar x) = zz
  refine EvF.of pnX7 rfl ?_
  refine R_iload_n 1 dX7_at_0 rfl rfl ?_
  refine R_iconst 2 dX7_at_1 rfl (v := 0) (by decide) ?_
  refine R_sipush 5 dX7_at_2 rfl (v := 240) (by decide) ?_
  refine R_callSi 8 eX7_bound dX7_at_5 rfl kX7_bound lX7_69 rfl rfl rfl rfl rfl ?_
  refine R_istore_n 9 dX7_at_8 rfl rfl (by decide) (loc' := [(0, .ref 100), (1, .int x), (2, .int (sX7_bound x 0 240))]) rfl ?_
  refine R_iload_n 10 dX7_at_9 rfl rfl ?_
  refine R_if_eq 13 19 dX7_at_10 rfl (by decide) (fun c1 => ?_) (fun c1 => ?_)
  ·
    refine R_aload_n 20 dX7_at_19 rfl rfl ?_
    refine R_iload_n 21 dX7_at_20 rfl rfl ?_
    refine R_callVi 24 (eX7_thinks hk (bd_hi c1)) dX7_at_21 rfl kX7_thinks lX7_235 rfl rfl rfl rfl rfl rfl rfl ?_
    generalize hz1_ : (sX7_thinks f ar x).2.1 = z1_
    generalize hz2_ : (sX7_thinks f ar x).2.2 = z2_
    refine R_pop 25 dX7_at_24 rfl rfl ?_
    refine R_iload_n 26 dX7_at_25 rfl rfl ?_
    refine R_cut 46 [(0, .ref 100), (1, .int x), (2, .int (sX7_bound x 0 240))] (.int (if x = 0 then z2_ 1 0 else z2_ 26 (x - 1).toNatClampNeg) :: []) (h1, hM G z1_ z2_) ?_ (fun kj => ?_)
    ·
      refine R_ireturn dX7_at_46 rfl rfl ?_
      subst hz1_ hz2_
      have e : zz = (if x = 0 then ((sX7_thinks f ar x).2.2) 1 0 else ((sX7_thinks f ar x).2.2) 26 (x - 1).toNatClampNeg, ((sX7_thinks f ar x).2.1), ((sX7_thinks f ar x).2.2)) := by rw [← hs]; unfold sX7_at; rw [if_pos c1]
      rw [pr1 e, pr1 (pr2 e), pr2 (pr2 e)]; exact ⟨rfl, rfl⟩
    refine R_if_ne 29 38 dX7_at_26 rfl (by decide) (fun c2 => ?_) (fun c2 => ?_)
    · refine R_aload_n 39 dX7_at_38 rfl rfl ?_
      refine R_get 42 dX7_at_39 rfl fX7_55 rfl (v := .ref 116) rfl ?_
      refine R_iload_n 43 dX7_at_42 rfl rfl ?_
      refine R_iconst 44 dX7_at_43 rfl (v := 1) (by decide) ?_
      refine R_isub 45 dX7_at_44 rfl ?_
      refine R_iald 46 dX7_at_45 rfl rfl rfl (at_in c1 c2) ?_
      rw [if_neg c2] at kj; exact kj
    · refine R_aload_n 30 dX7_at_29 rfl rfl ?_
      refine R_get 33 dX7_at_30 rfl fX7_13 rfl (v := .ref 102) rfl ?_
      refine R_iconst 34 dX7_at_33 rfl (v := 0) (by decide) ?_
      refine R_iald 35 dX7_at_34 rfl rfl rfl (vin_d (by decide)) ?_
      refine R_top (y := (z2_ 1 0)) rfl ?_
      refine R_goto 46 dX7_at_35 (by decide) ?_
      rw [if_pos c2] at kj; exact kj
  ·
    refine R_aload_n 14 dX7_at_13 rfl rfl ?_
    refine R_iload_n 15 dX7_at_14 rfl rfl ?_
    refine R_callVi 18 (eX7_lower (bd_in c1)) dX7_at_15 rfl kX7_lower lX7_241 rfl rfl rfl rfl rfl rfl rfl ?_
    generalize hz3_ : (sX7_lower ar (sX7_bound x 0 240)).2 = z3_
    refine R_ireturn dX7_at_18 rfl rfl ?_
    subst hz3_
    have e : zz = ((sX7_lower ar (sX7_bound x 0 240)).1, f, ((sX7_lower ar (sX7_bound x 0 240)).2)) := by rw [← hs]; unfold sX7_at; rw [if_neg c1]
    rw [pr1 e, pr1 (pr2 e), pr2 (pr2 e)]; exact ⟨rfl, rfl⟩
def sX7_bothOf (ar : Nat → Nat → Int32) (p : Int32) : Int32 := (ar 24 p.toNatClampNeg) + ((ar 25 p.toNatClampNeg) * (ar 7 p.toNatClampNeg))
set_option maxRecDepth 20000 in
theorem eX7_bothOf {G : zG} {h1 : List va_E} {f : Nat → Int32} {ar : Nat → Nat → Int32} {p : Int32} (hp : vp_in p 5) : EvF G mX7_bothOf [.ref 100, .int p] (h1, hM G f ar) (some (.int (sX7_bothOf ar p))) (h1, hM G f ar) := by
  generalize hs : (sX7_bothOf ar p) = zz
  refine EvF.of pnX7 rfl ?_
  refine R_aload_n 1 dX7_bothOf_0 rfl rfl ?_
  refine R_get 4 dX7_bothOf_1 rfl fX7_49 rfl (v := .ref 114) rfl ?_
  refine R_iload_n 5 dX7_bothOf_4 rfl rfl ?_
  refine R_iald 6 dX7_bothOf_5 rfl rfl rfl hp ?_
  refine R_aload_n 7 dX7_bothOf_6 rfl rfl ?_
  refine R_get 10 dX7_bothOf_7 rfl fX7_52 rfl (v := .ref 115) rfl ?_
  refine R_iload_n 11 dX7_bothOf_10 rfl rfl ?_
  refine R_iald 12 dX7_bothOf_11 rfl rfl rfl hp ?_
  refine R_aload_n 13 dX7_bothOf_12 rfl rfl ?_
  refine R_get 16 dX7_bothOf_13 rfl fX7_31 rfl (v := .ref 108) rfl ?_
  refine R_iload_n 17 dX7_bothOf_16 rfl rfl ?_
  refine R_iald 18 dX7_bothOf_17 rfl rfl rfl hp ?_
  refine R_imul 19 dX7_bothOf_18 rfl ?_
  refine R_iadd 20 dX7_bothOf_19 rfl ?_
  refine R_ireturn dX7_bothOf_20 rfl rfl ?_
  have e : zz = (ar 24 p.toNatClampNeg) + ((ar 25 p.toNatClampNeg) * (ar 7 p.toNatClampNeg)) := by rw [← hs]; unfold sX7_bothOf; rfl
  subst e; exact ⟨rfl, rfl⟩
def sX7_of (f : Nat → Int32) (ar : Nat → Nat → Int32) (p : Int32) (x : Int32) (w : Int32) : Int32 × (Nat → Int32) × (Nat → Nat → Int32) := if (sX7_isPerson f p) = true then (if (sX7_bound x 0 240) = 0 then (if (sX7_isIn w 0 2) = true then (if w = 0 then (((sX7_thinks f ar x).2.2) 24 p.toNatClampNeg, ((sX7_thinks f ar x).2.1), ((sX7_thinks f ar x).2.2)) else if w = 1 then (((sX7_thinks f ar x).2.2) 25 p.toNatClampNeg, ((sX7_thinks f ar x).2.1), ((sX7_thinks f ar x).2.2)) else ((sX7_bothOf ((sX7_thinks f ar x).2.2) p), ((sX7_thinks f ar x).2.1), ((sX7_thinks f ar x).2.2))) else ((sX7_no ar (-2)).1, f, ((sX7_no ar (-2)).2))) else ((sX7_no ar (sX7_bound x 0 240)).1, f, ((sX7_no ar (sX7_bound x 0 240)).2))) else ((sX7_no ar (-1)).1, f, ((sX7_no ar (-1)).2))
set_option maxRecDepth 20000 in
theorem eX7_of {G : zG} {h1 : List va_E} {f : Nat → Int32} {ar : Nat → Nat → Int32} {p x w : Int32} (hk : mOk f ar) : EvF G mX7_of [.ref 100, .int p, .int x, .int w] (h1, hM G f ar) (some (.int ((sX7_of f ar p x w).1))) (h1, hM G ((sX7_of f ar p x w).2.1) ((sX7_of f ar p x w).2.2)) := by
  generalize hs : (sX7_of f ar p x w) = zz
  refine EvF.of pnX7 rfl ?_
  refine R_aload_n 1 dX7_of_0 rfl rfl ?_
  refine R_iload_n 2 dX7_of_1 rfl rfl ?_
  refine R_callVi 5 eX7_isPerson dX7_of_2 rfl kX7_isPerson lX7_238 rfl rfl rfl rfl rfl rfl rfl ?_
  refine R_ifb_ne 8 12 dX7_of_5 rfl (by decide) (fun c1 => ?_) (fun c1 => ?_)
  ·
    refine R_iload_n 13 dX7_of_12 rfl rfl ?_
    refine R_iconst 14 dX7_of_13 rfl (v := 0) (by decide) ?_
    refine R_sipush 17 dX7_of_14 rfl (v := 240) (by decide) ?_
    refine R_callSi 20 eX7_bound dX7_of_17 rfl kX7_bound lX7_69 rfl rfl rfl rfl rfl ?_
    refine R_istore 22 dX7_of_20 rfl rfl (by decide) (loc' := [(0, .ref 100), (1, .int p), (2, .int x), (3, .int w), (4, .int (sX7_bound x 0 240))]) rfl ?_
    refine R_iload 24 dX7_of_22 rfl rfl ?_
    refine R_if_ne 27 40 dX7_of_24 rfl (by decide) (fun c2 => ?_) (fun c2 => ?_)
    ·
      refine R_iload 42 dX7_of_40 rfl rfl ?_
      refine R_if_eq 45 52 dX7_of_42 rfl (by decide) (fun c => absurd c c2) (fun _ => ?_)
      refine R_aload_n 46 dX7_of_45 rfl rfl ?_
      refine R_iload 48 dX7_of_46 rfl rfl ?_
      refine R_callVi 51 (eX7_no (bd_in c2)) dX7_of_48 rfl kX7_no lX7_76 rfl rfl rfl rfl rfl rfl rfl ?_
      generalize hz1_ : (sX7_no ar (sX7_bound x 0 240)).2 = z1_
      refine R_ireturn dX7_of_51 rfl rfl ?_
      subst hz1_
      have e : zz = ((sX7_no ar (sX7_bound x 0 240)).1, f, ((sX7_no ar (sX7_bound x 0 240)).2)) := by rw [← hs]; unfold sX7_of; rw [if_pos c1, if_neg c2]
      rw [pr1 e, pr1 (pr2 e), pr2 (pr2 e)]; exact ⟨rfl, rfl⟩
    ·
      refine R_iload_n 28 dX7_of_27 rfl rfl ?_
      refine R_iconst 29 dX7_of_28 rfl (v := 0) (by decide) ?_
      refine R_iconst 30 dX7_of_29 rfl (v := 2) (by decide) ?_
      refine R_callSi 33 eX7_isIn dX7_of_30 rfl kX7_isIn lX7_87 rfl rfl rfl rfl rfl ?_
      refine R_ifb_ne 36 40 dX7_of_33 rfl (by decide) (fun c3 => ?_) (fun c3 => ?_)
      ·
        refine R_iload 42 dX7_of_40 rfl rfl ?_
        refine R_if_eq 45 52 dX7_of_42 rfl (by decide) (fun _ => ?_) (fun c => absurd c2 c)
        refine R_aload_n 53 dX7_of_52 rfl rfl ?_
        refine R_iload_n 54 dX7_of_53 rfl rfl ?_
        refine R_callVi 57 (eX7_thinks hk (bd_hi c2)) dX7_of_54 rfl kX7_thinks lX7_235 rfl rfl rfl rfl rfl rfl rfl ?_
        generalize hz2_ : (sX7_thinks f ar x).2.1 = z2_
        generalize hz3_ : (sX7_thinks f ar x).2.2 = z3_
        refine R_pop 58 dX7_of_57 rfl rfl ?_
        refine R_iload_n 59 dX7_of_58 rfl rfl ?_
        refine R_if_ne 62 71 dX7_of_59 rfl (by decide) (fun c4 => ?_) (fun c4 => ?_)
        ·
          refine R_iload_n 72 dX7_of_71 rfl rfl ?_
          refine R_iconst 73 dX7_of_72 rfl (v := 1) (by decide) ?_
          refine R_icmp_ne 76 85 dX7_of_73 rfl (by decide) (fun c5 => ?_) (fun c5 => ?_)
          ·
            refine R_aload_n 86 dX7_of_85 rfl rfl ?_
            refine R_iload_n 87 dX7_of_86 rfl rfl ?_
            refine R_callVi 90 (eX7_bothOf (ip_in hk c1)) dX7_of_87 rfl kX7_bothOf lX7_244 rfl rfl rfl rfl rfl rfl rfl ?_
            refine R_ireturn dX7_of_90 rfl rfl ?_
            subst hz2_ hz3_
            have e : zz = ((sX7_bothOf ((sX7_thinks f ar x).2.2) p), ((sX7_thinks f ar x).2.1), ((sX7_thinks f ar x).2.2)) := by rw [← hs]; unfold sX7_of; rw [if_pos c1, if_pos c2, if_pos c3, if_neg c4, if_neg c5]
            rw [pr1 e, pr1 (pr2 e), pr2 (pr2 e)]; exact ⟨rfl, rfl⟩
          ·
            refine R_aload_n 77 dX7_of_76 rfl rfl ?_
            refine R_get 80 dX7_of_77 rfl fX7_52 rfl (v := .ref 115) rfl ?_
            refine R_iload_n 81 dX7_of_80 rfl rfl ?_
            refine R_iald 82 dX7_of_81 rfl rfl rfl (ip_in hk c1) ?_
            refine R_goto 90 dX7_of_82 (by decide) ?_
            refine R_ireturn dX7_of_90 rfl rfl ?_
            subst hz2_ hz3_
            have e : zz = (((sX7_thinks f ar x).2.2) 25 p.toNatClampNeg, ((sX7_thinks f ar x).2.1), ((sX7_thinks f ar x).2.2)) := by rw [← hs]; unfold sX7_of; rw [if_pos c1, if_pos c2, if_pos c3, if_neg c4, if_pos c5]
            rw [pr1 e, pr1 (pr2 e), pr2 (pr2 e)]; exact ⟨rfl, rfl⟩
        ·
          refine R_aload_n 63 dX7_of_62 rfl rfl ?_
          refine R_get 66 dX7_of_63 rfl fX7_49 rfl (v := .ref 114) rfl ?_
          refine R_iload_n 67 dX7_of_66 rfl rfl ?_
          refine R_iald 68 dX7_of_67 rfl rfl rfl (ip_in hk c1) ?_
          refine R_goto 90 dX7_of_68 (by decide) ?_
          refine R_ireturn dX7_of_90 rfl rfl ?_
          subst hz2_ hz3_
          have e : zz = (((sX7_thinks f ar x).2.2) 24 p.toNatClampNeg, ((sX7_thinks f ar x).2.1), ((sX7_thinks f ar x).2.2)) := by rw [← hs]; unfold sX7_of; rw [if_pos c1, if_pos c2, if_pos c3, if_pos c4]
          rw [pr1 e, pr1 (pr2 e), pr2 (pr2 e)]; exact ⟨rfl, rfl⟩
      ·
        refine R_bipush 38 dX7_of_36 rfl (v := (-2)) (by decide) ?_
        refine R_istore 40 dX7_of_38 rfl rfl (by decide) (loc' := [(0, .ref 100), (1, .int p), (2, .int x), (3, .int w), (4, .int (-2))]) rfl ?_
        refine R_iload 42 dX7_of_40 rfl rfl ?_
        refine R_if_eq 45 52 dX7_of_42 rfl (by decide) (fun c => absurd c (by decide)) (fun _ => ?_)
        refine R_aload_n 46 dX7_of_45 rfl rfl ?_
        refine R_iload 48 dX7_of_46 rfl rfl ?_
        refine R_callVi 51 (eX7_no (vin_d (by decide))) dX7_of_48 rfl kX7_no lX7_76 rfl rfl rfl rfl rfl rfl rfl ?_
        generalize hz4_ : (sX7_no ar (-2)).2 = z4_
        refine R_ireturn dX7_of_51 rfl rfl ?_
        subst hz4_
        have e : zz = ((sX7_no ar (-2)).1, f, ((sX7_no ar (-2)).2)) := by rw [← hs]; unfold sX7_of; rw [if_pos c1, if_pos c2, if_neg c3]
        rw [pr1 e, pr1 (pr2 e), pr2 (pr2 e)]; exact ⟨rfl, rfl⟩
  ·
    refine R_iconst 9 dX7_of_8 rfl (v := (-1)) (by decide) ?_
    refine R_goto 20 dX7_of_9 (by decide) ?_
    refine R_istore 22 dX7_of_20 rfl rfl (by decide) (loc' := [(0, .ref 100), (1, .int p), (2, .int x), (3, .int w), (4, .int (-1))]) rfl ?_
    refine R_iload 24 dX7_of_22 rfl rfl ?_
    refine R_if_ne 27 40 dX7_of_24 rfl (by decide) (fun _ => ?_) (fun c => absurd c (by decide))
    refine R_iload 42 dX7_of_40 rfl rfl ?_
    refine R_if_eq 45 52 dX7_of_42 rfl (by decide) (fun c => absurd c (by decide)) (fun _ => ?_)
    refine R_aload_n 46 dX7_of_45 rfl rfl ?_
    refine R_iload 48 dX7_of_46 rfl rfl ?_
    refine R_callVi 51 (eX7_no (vin_d (by decide))) dX7_of_48 rfl kX7_no lX7_76 rfl rfl rfl rfl rfl rfl rfl ?_
    generalize hz5_ : (sX7_no ar (-1)).2 = z5_
    refine R_ireturn dX7_of_51 rfl rfl ?_
    subst hz5_
    have e : zz = ((sX7_no ar (-1)).1, f, ((sX7_no ar (-1)).2)) := by rw [← hs]; unfold sX7_of; rw [if_neg c1]
    rw [pr1 e, pr1 (pr2 e), pr2 (pr2 e)]; exact ⟨rfl, rfl⟩
theorem mo_h1 {f : Nat → Int32} {ar : Nat → Nat → Int32} (hk : mOk f ar) (k : Nat) : mOk f (up2 ar 6 (upd (ar 6) k 1)) := by
  refine ⟨hk.1, hk.2.1, fun p hp => ⟨(hk.2.2.1 p hp).1, ?_⟩, hk.2.2.2⟩
  show ¬ upd (ar 6) k 1 p = 0
  by_cases h : p = k
  · subst h
    rw [show upd (ar 6) p 1 p = 1 from if_pos rfl]
    decide
  · rw [upd_ne h]
    exact (hk.2.2.1 p hp).2
theorem th_ok {f f1 : Nat → Int32} {ar a1 : Nat → Nat → Int32} {x : Int32} (h1 : (sX7_thinks f ar x).2.1 = f1) (h2 : (sX7_thinks f ar x).2.2 = a1) (hk : mOk f ar) (hx : x.toInt ≤ 240) : mOk f1 a1 := by
  have e := (th_kt hk hx).ok hk
  rw [h1, h2] at e
  exact e
theorem tr_ok {f f1 : Nat → Int32} {ar a1 : Nat → Nat → Int32} {k x : Int32} (h1 : (sX7_thinksByRule f ar k x).2.1 = f1) (h2 : (sX7_thinksByRule f ar k x).2.2 = a1) (hk : mOk f ar) (hx : x.toInt ≤ 240) : mOk f1 a1 := by
  have e := (tr_kt (k := k) hk hx).ok hk
  rw [h1, h2] at e
  exact e
theorem tr2_ok {f : Nat → Int32} {ar : Nat → Nat → Int32} {k l x : Int32} (hk : mOk f ar) (hx : x.toInt ≤ 240) : mOk (sX7_thinksByRule (sX7_thinksByRule f ar k x).2.1 (sX7_thinksByRule f ar k x).2.2 l x).2.1 (sX7_thinksByRule (sX7_thinksByRule f ar k x).2.1 (sX7_thinksByRule f ar k x).2.2 l x).2.2 := (tr_kt ((tr_kt hk hx).ok hk) hx).ok ((tr_kt hk hx).ok hk)
theorem th_u {f f1 : Nat → Int32} {ar : Nat → Nat → Int32} {x : Int32} (h1 : (sX7_thinks f ar x).2.1 = f1) (hk : mOk f ar) (hx : x.toInt ≤ 240) : (f1 28).toInt ≤ 240 := by
  rw [← h1]
  obtain ⟨-, g, -⟩ := gs_ok hk hx
  have h := cl240 hx
  have e : (sX7_thinks f ar x).2.1 28 = (sX7_goes f ar x).1 28 := rfl
  rw [e]
  have := g.2.1
  omega
theorem wh_in {y u : Int32} (h0 : 0 ≤ y) (h1 : ¬ u ≤ y) (hu : u.toInt ≤ 240) : vp_in y 240 := by
  rw [Int32.le_iff_toInt_le] at h0 h1
  have : (0 : Int32).toInt = 0 := by decide
  rw [vp_in_iff]
  omega
theorem vin_ite {c : Prop} [Decidable c] {x y : Int32} {n : Nat} (h1 : vp_in x n) (h2 : vp_in y n) : vp_in (if c then x else y) n := by split <;> assumption
theorem nz8 {x : Int32} (h : 0 < x.toNatClampNeg) : ¬ x = 0 := by
  intro e
  subst e
  exact absurd h (by decide)
theorem w_in {w : Int32} (h : w = 1 ∨ w = 4 ∨ w = 5) : vp_in w 6 := by
  rcases h with rfl | rfl | rfl <;> exact vin_d (by decide)
theorem mo20 {w : Int32} (h : w = 1 ∨ w = 4 ∨ w = 5) : (sX7_mostOf w).toInt ≤ 20 := by
  rcases h with rfl | rfl | rfl <;> decide
theorem lo_ok {w v : Int32} (hw : w = 1 ∨ w = 4 ∨ w = 5) (h : (sX7_leastOf w).toInt ≤ v.toInt) : w = 4 → ¬ v = 0 := by
  rintro rfl rfl
  exact absurd h (by decide)
theorem tw_ok {f : Nat → Int32} {ar : Nat → Nat → Int32} {w v : Int32} (hk : mOk f ar) (hw : w = 1 ∨ w = 4 ∨ w = 5) (hv : w = 4 → ¬ v = 0) : mOk f (up2 ar 1 (upd (ar 1) w.toNatClampNeg v)) := by
  refine ⟨hk.1, hk.2.1, hk.2.2.1, ?_⟩
  show ¬ upd (ar 1) w.toNatClampNeg v 4 = 0
  rcases hw with rfl | rfl | rfl
  · rw [upd_ne (by decide)]; exact hk.2.2.2
  · rw [show (4 : Int32).toNatClampNeg = 4 by decide, show upd (ar 1) 4 v 4 = v from if_pos rfl]; exact hv rfl
  · rw [upd_ne (by decide)]; exact hk.2.2.2
theorem tw0_ok {f : Nat → Int32} {ar : Nat → Nat → Int32} {v : Int32} (hk : mOk f ar) : mOk f (up2 ar 1 (upd (ar 1) (0 : Int32).toNatClampNeg v)) := by
  rw [show (0 : Int32).toNatClampNeg = 0 by decide]
  exact hk
theorem tf_ok {f : Nat → Int32} {ar : Nat → Nat → Int32} {p : Int32} (hk : mOk f ar) (h0 : 0 ≤ p.toInt) (h1 : p.toInt < (f 8).toInt) : mOk (upd f 11 p) ar := ⟨hk.1, fun _ => ⟨h0, h1⟩, hk.2.2⟩
theorem cl_lt {x : Int32} {a : Nat} (h : a < x.toNatClampNeg) : (nI a).toInt < x.toInt := by
  have h1 := cl_of x
  rw [nI_toInt (by omega)]
  unfold Int32.toNatClampNeg at h
  omega
def sX7_finer (f : Nat → Int32) (ar : Nat → Nat → Int32) (x : Int32) (p : Int32) : Int32 × (Nat → Int32) × (Nat → Nat → Int32) := if (sX7_bound x 0 240) = 0 then (if (sX7_isPerson f p) = true then (((sX7_thinks f ar x).1) - ((sX7_thinks ((sX7_thinks f ar x).2.1) (up2 ((sX7_thinks f ar x).2.2) 6 (upd (((sX7_thinks f ar x).2.2) 6) p.toNatClampNeg 1)) x).1), ((sX7_thinks ((sX7_thinks f ar x).2.1) (up2 ((sX7_thinks f ar x).2.2) 6 (upd (((sX7_thinks f ar x).2.2) 6) p.toNatClampNeg 1)) x).2.1), (up2 ((sX7_thinks ((sX7_thinks f ar x).2.1) (up2 ((sX7_thinks f ar x).2.2) 6 (upd (((sX7_thinks f ar x).2.2) 6) p.toNatClampNeg 1)) x).2.2) 6 (upd (((sX7_thinks ((sX7_thinks f ar x).2.1) (up2 ((sX7_thinks f ar x).2.2) 6 (upd (((sX7_thinks f ar x).2.2) 6) p.toNatClampNeg 1)) x).2.2) 6) p.toNatClampNeg (((sX7_thinks f ar x).2.2) 6 p.toNatClampNeg)))) else ((sX7_lower ar (-1)).1, f, ((sX7_lower ar (-1)).2))) else ((sX7_lower ar (sX7_bound x 0 240)).1, f, ((sX7_lower ar (sX7_bound x 0 240)).2))
set_option maxRecDepth 20000 in
theorem eX7_finer {G : zG} {h1 : List va_E} {f : Nat → Int32} {ar : Nat → Nat → Int32} {x p : Int32} (hk : mOk f ar) : EvF G mX7_finer [.ref 100, .int x, .int p] (h1, hM G f ar) (some (.int ((sX7_finer f ar x p).1))) (h1, hM G ((sX7_finer f ar x p).2.1) ((sX7_finer f ar x p).2.2)) := by
  generalize hs : (sX7_finer f ar x p) = zz
  refine EvF.of pnX7 rfl ?_
  refine R_iload_n 1 dX7_finer_0 rfl rfl ?_
  refine R_iconst 2 dX7_finer_1 rfl (v := 0) (by decide) ?_
  refine R_sipush 5 dX7_finer_2 rfl (v := 240) (by decide) ?_
  refine R_callSi 8 eX7_bound dX7_finer_5 rfl kX7_bound lX7_69 rfl rfl rfl rfl rfl ?_
  refine R_istore_n 9 dX7_finer_8 rfl rfl (by decide) (loc' := [(0, .ref 100), (1, .int x), (2, .int p), (3, .int (sX7_bound x 0 240))]) rfl ?_
  refine R_iload_n 10 dX7_finer_9 rfl rfl ?_
  refine R_if_ne 13 23 dX7_finer_10 rfl (by decide) (fun c1 => ?_) (fun c1 => ?_)
  ·
    refine R_iload_n 24 dX7_finer_23 rfl rfl ?_
    refine R_if_eq 27 33 dX7_finer_24 rfl (by decide) (fun c => absurd c c1) (fun _ => ?_)
    refine R_aload_n 28 dX7_finer_27 rfl rfl ?_
    refine R_iload_n 29 dX7_finer_28 rfl rfl ?_
    refine R_callVi 32 (eX7_lower (bd_in c1)) dX7_finer_29 rfl kX7_lower lX7_241 rfl rfl rfl rfl rfl rfl rfl ?_
    generalize hz1_ : (sX7_lower ar (sX7_bound x 0 240)).2 = z1_
    refine R_ireturn dX7_finer_32 rfl rfl ?_
    subst hz1_
    have e : zz = ((sX7_lower ar (sX7_bound x 0 240)).1, f, ((sX7_lower ar (sX7_bound x 0 240)).2)) := by rw [← hs]; unfold sX7_finer; rw [if_neg c1]
    rw [pr1 e, pr1 (pr2 e), pr2 (pr2 e)]; exact ⟨rfl, rfl⟩
  ·
    refine R_aload_n 14 dX7_finer_13 rfl rfl ?_
    refine R_iload_n 15 dX7_finer_14 rfl rfl ?_
    refine R_callVi 18 eX7_isPerson dX7_finer_15 rfl kX7_isPerson lX7_238 rfl rfl rfl rfl rfl rfl rfl ?_
    refine R_ifb_ne 21 23 dX7_finer_18 rfl (by decide) (fun c2 => ?_) (fun c2 => ?_)
    ·
      refine R_iload_n 24 dX7_finer_23 rfl rfl ?_
      refine R_if_eq 27 33 dX7_finer_24 rfl (by decide) (fun _ => ?_) (fun c => absurd c1 c)
      refine R_aload_n 34 dX7_finer_33 rfl rfl ?_
      refine R_iload_n 35 dX7_finer_34 rfl rfl ?_
      refine R_callVi 38 (eX7_thinks hk (bd_hi c1)) dX7_finer_35 rfl kX7_thinks lX7_235 rfl rfl rfl rfl rfl rfl rfl ?_
      generalize hz2_ : (sX7_thinks f ar x).2.1 = z2_
      generalize hz3_ : (sX7_thinks f ar x).2.2 = z3_
      refine R_istore 40 dX7_finer_38 rfl rfl (by decide) (loc' := [(0, .ref 100), (1, .int x), (2, .int p), (3, .int (sX7_bound x 0 240)), (4, .int ((sX7_thinks f ar x).1))]) rfl ?_
      refine R_aload_n 41 dX7_finer_40 rfl rfl ?_
      refine R_get 44 dX7_finer_41 rfl fX7_28 rfl (v := .ref 107) rfl ?_
      refine R_iload_n 45 dX7_finer_44 rfl rfl ?_
      refine R_iald 46 dX7_finer_45 rfl rfl rfl (ip_in hk c2) ?_
      refine R_istore 48 dX7_finer_46 rfl rfl (by decide) (loc' := [(0, .ref 100), (1, .int x), (2, .int p), (3, .int (sX7_bound x 0 240)), (4, .int ((sX7_thinks f ar x).1)), (5, .int (z3_ 6 p.toNatClampNeg))]) rfl ?_
      refine R_aload_n 49 dX7_finer_48 rfl rfl ?_
      refine R_get 52 dX7_finer_49 rfl fX7_28 rfl (v := .ref 107) rfl ?_
      refine R_iload_n 53 dX7_finer_52 rfl rfl ?_
      refine R_iconst 54 dX7_finer_53 rfl (v := 1) (by decide) ?_
      refine R_iast 55 dX7_finer_54 rfl rfl rfl (ip_in hk c2) (h2 := (h1, hM G z2_ (up2 z3_ 6 (upd (z3_ 6) p.toNatClampNeg 1)))) ms_6 ?_
      refine R_aload_n 56 dX7_finer_55 rfl rfl ?_
      refine R_iload_n 57 dX7_finer_56 rfl rfl ?_
      refine R_callVi 60 (eX7_thinks (mo_h1 (th_ok hz2_ hz3_ hk (bd_hi c1)) _) (bd_hi c1)) dX7_finer_57 rfl kX7_thinks lX7_235 rfl rfl rfl rfl rfl rfl rfl ?_
      generalize hz4_ : (sX7_thinks z2_ (up2 z3_ 6 (upd (z3_ 6) p.toNatClampNeg 1)) x).2.1 = z4_
      generalize hz5_ : (sX7_thinks z2_ (up2 z3_ 6 (upd (z3_ 6) p.toNatClampNeg 1)) x).2.2 = z5_
      refine R_nm (fun z6_ hz6_ => ?_)
      refine R_istore 62 dX7_finer_60 rfl rfl (by decide) (loc' := [(0, .ref 100), (1, .int x), (2, .int p), (3, .int (sX7_bound x 0 240)), (4, .int ((sX7_thinks f ar x).1)), (5, .int (z3_ 6 p.toNatClampNeg)), (6, .int z6_)]) rfl ?_
      refine R_aload_n 63 dX7_finer_62 rfl rfl ?_
      refine R_get 66 dX7_finer_63 rfl fX7_28 rfl (v := .ref 107) rfl ?_
      refine R_iload_n 67 dX7_finer_66 rfl rfl ?_
      refine R_iload 69 dX7_finer_67 rfl rfl ?_
      refine R_nm (fun z7_ hz7_ => ?_)
      refine R_iast 70 dX7_finer_69 rfl rfl rfl (ip_in hk c2) (h2 := (h1, hM G z4_ (up2 z5_ 6 (upd (z5_ 6) p.toNatClampNeg z7_)))) ms_6 ?_
      refine R_iload 72 dX7_finer_70 rfl rfl ?_
      refine R_iload 74 dX7_finer_72 rfl rfl ?_
      refine R_isub 75 dX7_finer_74 rfl ?_
      refine R_ireturn dX7_finer_75 rfl rfl ?_
      subst hz2_ hz3_ hz4_ hz5_ hz6_ hz7_
      have e : zz = (((sX7_thinks f ar x).1) - ((sX7_thinks ((sX7_thinks f ar x).2.1) (up2 ((sX7_thinks f ar x).2.2) 6 (upd (((sX7_thinks f ar x).2.2) 6) p.toNatClampNeg 1)) x).1), ((sX7_thinks ((sX7_thinks f ar x).2.1) (up2 ((sX7_thinks f ar x).2.2) 6 (upd (((sX7_thinks f ar x).2.2) 6) p.toNatClampNeg 1)) x).2.1), (up2 ((sX7_thinks ((sX7_thinks f ar x).2.1) (up2 ((sX7_thinks f ar x).2.2) 6 (upd (((sX7_thinks f ar x).2.2) 6) p.toNatClampNeg 1)) x).2.2) 6 (upd (((sX7_thinks ((sX7_thinks f ar x).2.1) (up2 ((sX7_thinks f ar x).2.2) 6 (upd (((sX7_thinks f ar x).2.2) 6) p.toNatClampNeg 1)) x).2.2) 6) p.toNatClampNeg (((sX7_thinks f ar x).2.2) 6 p.toNatClampNeg)))) := by rw [← hs]; unfold sX7_finer; rw [if_pos c1, if_pos c2]
      rw [pr1 e, pr1 (pr2 e), pr2 (pr2 e)]; exact ⟨rfl, rfl⟩
    ·
      refine R_iconst 22 dX7_finer_21 rfl (v := (-1)) (by decide) ?_
      refine R_istore_n 23 dX7_finer_22 rfl rfl (by decide) (loc' := [(0, .ref 100), (1, .int x), (2, .int p), (3, .int (-1))]) rfl ?_
      refine R_iload_n 24 dX7_finer_23 rfl rfl ?_
      refine R_if_eq 27 33 dX7_finer_24 rfl (by decide) (fun c => absurd c (by decide)) (fun _ => ?_)
      refine R_aload_n 28 dX7_finer_27 rfl rfl ?_
      refine R_iload_n 29 dX7_finer_28 rfl rfl ?_
      refine R_callVi 32 (eX7_lower (vin_d (by decide))) dX7_finer_29 rfl kX7_lower lX7_241 rfl rfl rfl rfl rfl rfl rfl ?_
      generalize hz8_ : (sX7_lower ar (-1)).2 = z8_
      refine R_ireturn dX7_finer_32 rfl rfl ?_
      subst hz8_
      have e : zz = ((sX7_lower ar (-1)).1, f, ((sX7_lower ar (-1)).2)) := by rw [← hs]; unfold sX7_finer; rw [if_pos c1, if_neg c2]
      rw [pr1 e, pr1 (pr2 e), pr2 (pr2 e)]; exact ⟨rfl, rfl⟩
def exX7_most (f : Nat → Int32) (ar : Nat → Nat → Int32) (a : Nat) (be : Int32) : Int32 := be
def stX7_most (f : Nat → Int32) (ar : Nat → Nat → Int32) (a : Nat) (be : Int32) : Int32 := (if (sX7_bothOf ar (nI a)) ≤ (sX7_bothOf ar be) then be else nI a)
def itX7_most (f : Nat → Int32) (ar : Nat → Nat → Int32) : Nat → Nat → Int32 → Int32
  | 0, a, be => exX7_most f ar a be
  | j + 1, a, be => itX7_most f ar j (a + 1) (stX7_most f ar a be)
theorem itX7_most_n {f : Nat → Int32} {ar : Nat → Nat → Int32} {j a : Nat} {be : Int32} {s0_ : Int32} (e : stX7_most f ar a be = s0_) : (itX7_most f ar (j + 1) a be) = (itX7_most f ar j (a + 1) s0_) := by simp only [itX7_most.eq_2, e]
set_option maxRecDepth 20000 in
theorem lpX7_most {G : zG} {h1 : List va_E} {f : Nat → Int32} {ar : Nat → Nat → Int32} : ∀ (j a : Nat) (be : Int32), ((1 ≤ a ∧ a ≤ 6 ∧ (((f 8).toNatClampNeg ≤ a ∧ j = 0) ∨ a + j = (f 8).toNatClampNeg)) ∧ (f 8).toNatClampNeg ≤ 5 ∧ (¬ f 8 = 0 → vp_in be 5)) → R G mX7_most 42 [(0, .ref 100), (3, .int be), (4, .int (nI a))] [] (h1, hM G f ar) (fun r0 h0 => r0 = some (.int (itX7_most f ar j a be)) ∧ h0 = (h1, hM G f ar)) := by
  intro j
  induction j with
  | zero =>
    intro a be hj
    have hx := cl_of (f 8)
    have hc : (f 8) ≤ nI a := cl_le (by omega) (by omega)
    refine R_iload 44 dX7_most_42 rfl rfl ?_
    refine R_aload_n 45 dX7_most_44 rfl rfl ?_
    refine R_get 48 dX7_most_45 rfl fX7_65 rfl (v := .int (f 8)) rfl ?_
    refine R_icmp_ge 51 78 dX7_most_48 rfl (by decide) (fun _ => ?_) (fun c => absurd hc c)
    refine R_iload_n 79 dX7_most_78 rfl rfl ?_
    refine R_ireturn dX7_most_79 rfl rfl ?_
    have e : (itX7_most f ar 0 a be) = be := rfl
    rw [e]; exact ⟨rfl, rfl⟩
  | succ j ih =>
    intro a be hj
    have hc : ¬ (f 8) ≤ nI a := cl_gt (by omega)
    refine R_iload 44 dX7_most_42 rfl rfl ?_
    refine R_aload_n 45 dX7_most_44 rfl rfl ?_
    refine R_get 48 dX7_most_45 rfl fX7_65 rfl (v := .int (f 8)) rfl ?_
    refine R_icmp_ge 51 78 dX7_most_48 rfl (by decide) (fun c => absurd c hc) (fun _ => ?_)
    refine R_aload_n 52 dX7_most_51 rfl rfl ?_
    refine R_iload 54 dX7_most_52 rfl rfl ?_
    refine R_callVi 57 (eX7_bothOf (vp_in_nI (by omega) (by omega))) dX7_most_54 rfl kX7_bothOf lX7_244 rfl rfl rfl rfl rfl rfl rfl ?_
    refine R_aload_n 58 dX7_most_57 rfl rfl ?_
    refine R_iload_n 59 dX7_most_58 rfl rfl ?_
    refine R_callVi 62 (eX7_bothOf (hj.2.2 (nz8 (by omega)))) dX7_most_59 rfl kX7_bothOf lX7_244 rfl rfl rfl rfl rfl rfl rfl ?_
    refine R_cut 71 [(0, .ref 100), (3, .int be), (4, .int (nI a))] (.int (if (sX7_bothOf ar (nI a)) ≤ (sX7_bothOf ar be) then be else nI a) :: []) (h1, hM G f ar) ?_ (fun kj => ?_)
    ·
      refine R_nm (fun z1_ hz1_ => ?_)
      refine R_istore_n 72 dX7_most_71 rfl rfl (by decide) (loc' := [(0, .ref 100), (3, .int z1_), (4, .int (nI a))]) rfl ?_
      refine R_iinc 75 dX7_most_72 rfl rfl (v := (nI (a + 1))) (nI_1 a) rfl (by decide) (loc' := [(0, .ref 100), (3, .int z1_), (4, .int (nI (a + 1)))]) rfl ?_
      refine R_goto 42 dX7_most_75 (by decide) ?_
      subst hz1_
      refine R_pick [0, 1, 2] rfl ?_
      have e : stX7_most f ar a be = (if (sX7_bothOf ar (nI a)) ≤ (sX7_bothOf ar be) then be else nI a) := by rfl
      have e2 : (itX7_most f ar (j + 1) a be) = (itX7_most f ar j (a + 1) (if (sX7_bothOf ar (nI a)) ≤ (sX7_bothOf ar be) then be else nI a)) := itX7_most_n e
      rw [e2]; exact ih (a + 1) (if (sX7_bothOf ar (nI a)) ≤ (sX7_bothOf ar be) then be else nI a) ⟨by omega, hj.2.1, fun hz => vin_ite (hj.2.2 hz) (vp_in_nI (by omega) (by omega))⟩
    refine R_icmp_le 65 70 dX7_most_62 rfl (by decide) (fun c1 => ?_) (fun c1 => ?_)
    · refine R_iload_n 71 dX7_most_70 rfl rfl ?_
      rw [if_pos c1] at kj; exact kj
    · refine R_iload 67 dX7_most_65 rfl rfl ?_
      refine R_goto 71 dX7_most_67 (by decide) ?_
      rw [if_neg c1] at kj; exact kj
theorem ms_init {x : Int32} : ((1 ≤ 1 ∧ 1 ≤ 6 ∧ ((x.toNatClampNeg ≤ 1 ∧ x.toNatClampNeg - 1 = 0) ∨ 1 + (x.toNatClampNeg - 1) = x.toNatClampNeg))) ∧ (¬ x = 0 → vp_in (if x = 0 then (-9) else 0) 5) := ⟨by omega, fun h => by rw [if_neg h]; exact vin_d (by decide)⟩
def sX7_most (f : Nat → Int32) (ar : Nat → Nat → Int32) (x : Int32) : Int32 × (Nat → Int32) × (Nat → Nat → Int32) := if (sX7_bound x 0 240) = 0 then ((itX7_most ((sX7_thinks f ar x).2.1) ((sX7_thinks f ar x).2.2) ((((sX7_thinks f ar x).2.1) 8).toNatClampNeg - 1) 1 (if (((sX7_thinks f ar x).2.1) 8) = 0 then (-9) else 0)), ((sX7_thinks f ar x).2.1), ((sX7_thinks f ar x).2.2)) else ((sX7_no ar (sX7_bound x 0 240)).1, f, ((sX7_no ar (sX7_bound x 0 240)).2))
set_option maxRecDepth 20000 in
theorem eX7_most {G : zG} {h1 : List va_E} {f : Nat → Int32} {ar : Nat → Nat → Int32} {x : Int32} (hk : mOk f ar) : EvF G mX7_most [.ref 100, .int x] (h1, hM G f ar) (some (.int ((sX7_most f ar x).1))) (h1, hM G ((sX7_most f ar x).2.1) ((sX7_most f ar x).2.2)) := by
  generalize hs : (sX7_most f ar x) = zz
  refine EvF.of pnX7 rfl ?_
  refine R_iload_n 1 dX7_most_0 rfl rfl ?_
  refine R_iconst 2 dX7_most_1 rfl (v := 0) (by decide) ?_
  refine R_sipush 5 dX7_most_2 rfl (v := 240) (by decide) ?_
  refine R_callSi 8 eX7_bound dX7_most_5 rfl kX7_bound lX7_69 rfl rfl rfl rfl rfl ?_
  refine R_istore_n 9 dX7_most_8 rfl rfl (by decide) (loc' := [(0, .ref 100), (1, .int x), (2, .int (sX7_bound x 0 240))]) rfl ?_
  refine R_iload_n 10 dX7_most_9 rfl rfl ?_
  refine R_if_eq 13 19 dX7_most_10 rfl (by decide) (fun c1 => ?_) (fun c1 => ?_)
  ·
    refine R_aload_n 20 dX7_most_19 rfl rfl ?_
    refine R_iload_n 21 dX7_most_20 rfl rfl ?_
    refine R_callVi 24 (eX7_thinks hk (bd_hi c1)) dX7_most_21 rfl kX7_thinks lX7_235 rfl rfl rfl rfl rfl rfl rfl ?_
    generalize hz1_ : (sX7_thinks f ar x).2.1 = z1_
    generalize hz2_ : (sX7_thinks f ar x).2.2 = z2_
    refine R_pop 25 dX7_most_24 rfl rfl ?_
    refine R_aload_n 26 dX7_most_25 rfl rfl ?_
    refine R_get 29 dX7_most_26 rfl fX7_65 rfl (v := .int (z1_ 8)) rfl ?_
    refine R_cut 38 [(0, .ref 100), (1, .int x), (2, .int (sX7_bound x 0 240))] (.int (if (z1_ 8) = 0 then (-9) else 0) :: []) (h1, hM G z1_ z2_) ?_ (fun kj => ?_)
    ·
      refine R_istore_n 39 dX7_most_38 rfl rfl (by decide) (loc' := [(0, .ref 100), (1, .int x), (2, .int (sX7_bound x 0 240)), (3, .int (if (z1_ 8) = 0 then (-9) else 0))]) rfl ?_
      refine R_iconst 40 dX7_most_39 rfl (v := 1) (by decide) ?_
      refine R_istore 42 dX7_most_40 rfl rfl (by decide) (loc' := [(0, .ref 100), (1, .int x), (2, .int (sX7_bound x 0 240)), (3, .int (if (z1_ 8) = 0 then (-9) else 0)), (4, .int 1)]) rfl ?_
      subst hz1_ hz2_
      refine R_pick [0, 3, 4] rfl ?_
      have e : zz = ((itX7_most ((sX7_thinks f ar x).2.1) ((sX7_thinks f ar x).2.2) ((((sX7_thinks f ar x).2.1) 8).toNatClampNeg - 1) 1 (if (((sX7_thinks f ar x).2.1) 8) = 0 then (-9) else 0)), ((sX7_thinks f ar x).2.1), ((sX7_thinks f ar x).2.2)) := by rw [← hs]; unfold sX7_most; rw [if_pos c1]
      rw [pr1 e, pr1 (pr2 e), pr2 (pr2 e)]; exact lpX7_most ((((sX7_thinks f ar x).2.1) 8).toNatClampNeg - 1) 1 (if (((sX7_thinks f ar x).2.1) 8) = 0 then (-9) else 0) ⟨ms_init.1, mo_n ((th_kt hk (bd_hi c1)).ok hk), ms_init.2⟩
    refine R_if_ne 32 37 dX7_most_29 rfl (by decide) (fun c2 => ?_) (fun c2 => ?_)
    · refine R_iconst 38 dX7_most_37 rfl (v := 0) (by decide) ?_
      rw [if_neg c2] at kj; exact kj
    · refine R_bipush 34 dX7_most_32 rfl (v := (-9)) (by decide) ?_
      refine R_goto 38 dX7_most_34 (by decide) ?_
      rw [if_pos c2] at kj; exact kj
  ·
    refine R_aload_n 14 dX7_most_13 rfl rfl ?_
    refine R_iload_n 15 dX7_most_14 rfl rfl ?_
    refine R_callVi 18 (eX7_no (bd_in c1)) dX7_most_15 rfl kX7_no lX7_76 rfl rfl rfl rfl rfl rfl rfl ?_
    generalize hz3_ : (sX7_no ar (sX7_bound x 0 240)).2 = z3_
    refine R_ireturn dX7_most_18 rfl rfl ?_
    subst hz3_
    have e : zz = ((sX7_no ar (sX7_bound x 0 240)).1, f, ((sX7_no ar (sX7_bound x 0 240)).2)) := by rw [← hs]; unfold sX7_most; rw [if_neg c1]
    rw [pr1 e, pr1 (pr2 e), pr2 (pr2 e)]; exact ⟨rfl, rfl⟩
def exX7_bestSet (w : Int32) (x : Int32) (a : Nat) (f : Nat → Int32) (ar : Nat → Nat → Int32) (be : Int32) (le : Int32) (v : Int32) : Int32 × (Nat → Int32) × (Nat → Nat → Int32) := (be, f, ar)
def stX7_bestSet (w : Int32) (x : Int32) (a : Nat) (f : Nat → Int32) (ar : Nat → Nat → Int32) (be : Int32) (le : Int32) (v : Int32) : (Nat → Int32) × (Nat → Nat → Int32) × Int32 × Int32 × Int32 := if ((sX7_thinksWith f ar w v x).1) < le then (((sX7_thinksWith f ar w v x).2.1), ((sX7_thinksWith f ar w v x).2.2), v, (sX7_thinksWith f ar w v x).1, v + 1) else (((sX7_thinksWith f ar w v x).2.1), ((sX7_thinksWith f ar w v x).2.2), be, le, v + 1)
def itX7_bestSet (w : Int32) (x : Int32) : Nat → Nat → (Nat → Int32) → (Nat → Nat → Int32) → Int32 → Int32 → Int32 → Int32 × (Nat → Int32) × (Nat → Nat → Int32)
  | 0, a, f, ar, be, le, v => exX7_bestSet w x a f ar be le v
  | j + 1, a, f, ar, be, le, v => itX7_bestSet w x j (a + 1) ((stX7_bestSet w x a f ar be le v).1) ((stX7_bestSet w x a f ar be le v).2.1) ((stX7_bestSet w x a f ar be le v).2.2.1) ((stX7_bestSet w x a f ar be le v).2.2.2.1) ((stX7_bestSet w x a f ar be le v).2.2.2.2)
theorem itX7_bestSet_n {w : Int32} {x : Int32} {j a : Nat} {f : Nat → Int32} {ar : Nat → Nat → Int32} {be : Int32} {le : Int32} {v : Int32} {s0_ : Nat → Int32} {s1_ : Nat → Nat → Int32} {s2_ : Int32} {s3_ : Int32} {s4_ : Int32} (e : stX7_bestSet w x a f ar be le v = (s0_, s1_, s2_, s3_, s4_)) : (itX7_bestSet w x (j + 1) a f ar be le v) = (itX7_bestSet w x j (a + 1) s0_ s1_ s2_ s3_ s4_) := by simp only [itX7_bestSet.eq_2, e]
set_option maxRecDepth 20000 in
theorem lpX7_bestSet {G : zG} {h1 : List va_E} {w x : Int32} (hw : w = 1 ∨ w = 4 ∨ w = 5) (hx : x.toInt ≤ 240) : ∀ (j a : Nat) (f : Nat → Int32) (ar : Nat → Nat → Int32) (be : Int32) (le : Int32) (v : Int32), ((sX7_leastOf w).toInt ≤ v.toInt ∧ v.toInt + j = (sX7_mostOf w).toInt + 1 ∧ mOk f ar) → R G mX7_bestSet 19 [(0, .ref 100), (1, .int w), (2, .int x), (3, .int be), (4, .int le), (5, .int v)] [] (h1, hM G f ar) (fun r0 h0 => r0 = some (.int ((itX7_bestSet w x j a f ar be le v).1)) ∧ h0 = (h1, hM G ((itX7_bestSet w x j a f ar be le v).2.1) ((itX7_bestSet w x j a f ar be le v).2.2))) := by
  intro j
  induction j with
  | zero =>
    intro a f ar be le v hj
    have hc : sX7_mostOf w < v := by rw [Int32.lt_iff_toInt_lt]; omega
    refine R_iload 21 dX7_bestSet_19 rfl rfl ?_
    refine R_iload_n 22 dX7_bestSet_21 rfl rfl ?_
    refine R_callSi 25 eX7_mostOf dX7_bestSet_22 rfl kX7_mostOf lX7_123 rfl rfl rfl rfl rfl ?_
    refine R_icmp_gt 28 61 dX7_bestSet_25 rfl (by decide) (fun _ => ?_) (fun c => absurd hc c)
    refine R_iload_n 62 dX7_bestSet_61 rfl rfl ?_
    refine R_ireturn dX7_bestSet_62 rfl rfl ?_
    have e : (itX7_bestSet w x 0 a f ar be le v) = (be, f, ar) := rfl
    rw [e]; exact ⟨rfl, rfl⟩
  | succ j ih =>
    intro a f ar be le v hj
    have hm := mo20 hw
    have hc : ¬ sX7_mostOf w < v := by rw [Int32.lt_iff_toInt_lt]; omega
    refine R_iload 21 dX7_bestSet_19 rfl rfl ?_
    refine R_iload_n 22 dX7_bestSet_21 rfl rfl ?_
    refine R_callSi 25 eX7_mostOf dX7_bestSet_22 rfl kX7_mostOf lX7_123 rfl rfl rfl rfl rfl ?_
    refine R_icmp_gt 28 61 dX7_bestSet_25 rfl (by decide) (fun c => absurd c hc) (fun _ => ?_)
    refine R_aload_n 29 dX7_bestSet_28 rfl rfl ?_
    refine R_iload_n 30 dX7_bestSet_29 rfl rfl ?_
    refine R_iload 32 dX7_bestSet_30 rfl rfl ?_
    refine R_iload_n 33 dX7_bestSet_32 rfl rfl ?_
    refine R_callVi 36 (eX7_thinksWith (w_in hw) (tw_ok hj.2.2 hw (lo_ok hw hj.1)) hx) dX7_bestSet_33 rfl kX7_thinksWith lX7_247 rfl rfl rfl rfl rfl rfl rfl ?_
    generalize hz1_ : (sX7_thinksWith f ar w v x).2.1 = z1_
    generalize hz2_ : (sX7_thinksWith f ar w v x).2.2 = z2_
    refine R_istore 38 dX7_bestSet_36 rfl rfl (by decide) (loc' := [(0, .ref 100), (1, .int w), (2, .int x), (3, .int be), (4, .int le), (5, .int v), (6, .int ((sX7_thinksWith f ar w v x).1))]) rfl ?_
    refine R_iload 40 dX7_bestSet_38 rfl rfl ?_
    refine R_iload 42 dX7_bestSet_40 rfl rfl ?_
    refine R_icmp_lt 45 48 dX7_bestSet_42 rfl (by decide) (fun c1 => ?_) (fun c1 => ?_)
    ·
      refine R_iload 50 dX7_bestSet_48 rfl rfl ?_
      refine R_istore_n 51 dX7_bestSet_50 rfl rfl (by decide) (loc' := [(0, .ref 100), (1, .int w), (2, .int x), (3, .int v), (4, .int le), (5, .int v), (6, .int ((sX7_thinksWith f ar w v x).1))]) rfl ?_
      refine R_iload 53 dX7_bestSet_51 rfl rfl ?_
      refine R_istore 55 dX7_bestSet_53 rfl rfl (by decide) (loc' := [(0, .ref 100), (1, .int w), (2, .int x), (3, .int v), (4, .int ((sX7_thinksWith f ar w v x).1)), (5, .int v), (6, .int ((sX7_thinksWith f ar w v x).1))]) rfl ?_
      refine R_iinc 58 dX7_bestSet_55 rfl rfl (v := (v + 1)) rfl rfl (by decide) (loc' := [(0, .ref 100), (1, .int w), (2, .int x), (3, .int v), (4, .int ((sX7_thinksWith f ar w v x).1)), (5, .int (v + 1)), (6, .int ((sX7_thinksWith f ar w v x).1))]) rfl ?_
      refine R_goto 19 dX7_bestSet_58 (by decide) ?_
      subst hz1_ hz2_
      refine R_pick [0, 1, 2, 3, 4, 5] rfl ?_
      have e : stX7_bestSet w x a f ar be le v = (((sX7_thinksWith f ar w v x).2.1), ((sX7_thinksWith f ar w v x).2.2), v, (sX7_thinksWith f ar w v x).1, v + 1) := by unfold stX7_bestSet; rw [if_pos c1]
      have e2 : (itX7_bestSet w x (j + 1) a f ar be le v) = (itX7_bestSet w x j (a + 1) ((sX7_thinksWith f ar w v x).2.1) ((sX7_thinksWith f ar w v x).2.2) v ((sX7_thinksWith f ar w v x).1) (v + 1)) := itX7_bestSet_n e
      rw [e2]; exact ih (a + 1) ((sX7_thinksWith f ar w v x).2.1) ((sX7_thinksWith f ar w v x).2.2) v ((sX7_thinksWith f ar w v x).1) (v + 1) ⟨by rw [i_s1 (by omega)]; omega, by rw [i_s1 (by omega)]; omega, (tw_kt (tw_ok hj.2.2 hw (lo_ok hw hj.1)) hx).ok hj.2.2⟩
    ·
      refine R_goto 55 dX7_bestSet_45 (by decide) ?_
      refine R_iinc 58 dX7_bestSet_55 rfl rfl (v := (v + 1)) rfl rfl (by decide) (loc' := [(0, .ref 100), (1, .int w), (2, .int x), (3, .int be), (4, .int le), (5, .int (v + 1)), (6, .int ((sX7_thinksWith f ar w v x).1))]) rfl ?_
      refine R_goto 19 dX7_bestSet_58 (by decide) ?_
      subst hz1_ hz2_
      refine R_pick [0, 1, 2, 3, 4, 5] rfl ?_
      have e : stX7_bestSet w x a f ar be le v = (((sX7_thinksWith f ar w v x).2.1), ((sX7_thinksWith f ar w v x).2.2), be, le, v + 1) := by unfold stX7_bestSet; rw [if_neg c1]
      have e2 : (itX7_bestSet w x (j + 1) a f ar be le v) = (itX7_bestSet w x j (a + 1) ((sX7_thinksWith f ar w v x).2.1) ((sX7_thinksWith f ar w v x).2.2) be le (v + 1)) := itX7_bestSet_n e
      rw [e2]; exact ih (a + 1) ((sX7_thinksWith f ar w v x).2.1) ((sX7_thinksWith f ar w v x).2.2) be le (v + 1) ⟨by rw [i_s1 (by omega)]; omega, by rw [i_s1 (by omega)]; omega, (tw_kt (tw_ok hj.2.2 hw (lo_ok hw hj.1)) hx).ok hj.2.2⟩
theorem bs_init {w : Int32} (h : w = 1 ∨ w = 4 ∨ w = 5) : (sX7_leastOf w).toInt ≤ (sX7_leastOf w + 1).toInt ∧ (sX7_leastOf w + 1).toInt + (((sX7_mostOf w).toInt - (sX7_leastOf w).toInt).toNat : Nat) = (sX7_mostOf w).toInt + 1 := by
  rcases h with rfl | rfl | rfl <;> decide
def sX7_bestSet (f : Nat → Int32) (ar : Nat → Nat → Int32) (w : Int32) (x : Int32) : Int32 × (Nat → Int32) × (Nat → Nat → Int32) := ((itX7_bestSet w x ((sX7_mostOf w).toInt - (sX7_leastOf w).toInt).toNat 0 ((sX7_thinksWith f ar w (sX7_leastOf w) x).2.1) ((sX7_thinksWith f ar w (sX7_leastOf w) x).2.2) (sX7_leastOf w) ((sX7_thinksWith f ar w (sX7_leastOf w) x).1) ((sX7_leastOf w) + 1)).1, (itX7_bestSet w x ((sX7_mostOf w).toInt - (sX7_leastOf w).toInt).toNat 0 ((sX7_thinksWith f ar w (sX7_leastOf w) x).2.1) ((sX7_thinksWith f ar w (sX7_leastOf w) x).2.2) (sX7_leastOf w) ((sX7_thinksWith f ar w (sX7_leastOf w) x).1) ((sX7_leastOf w) + 1)).2.1, (itX7_bestSet w x ((sX7_mostOf w).toInt - (sX7_leastOf w).toInt).toNat 0 ((sX7_thinksWith f ar w (sX7_leastOf w) x).2.1) ((sX7_thinksWith f ar w (sX7_leastOf w) x).2.2) (sX7_leastOf w) ((sX7_thinksWith f ar w (sX7_leastOf w) x).1) ((sX7_leastOf w) + 1)).2.2)
set_option maxRecDepth 20000 in
theorem eX7_bestSet {G : zG} {h1 : List va_E} {f : Nat → Int32} {ar : Nat → Nat → Int32} {w x : Int32} (hw : w = 1 ∨ w = 4 ∨ w = 5) (hk : mOk f ar) (hx : x.toInt ≤ 240) : EvF G mX7_bestSet [.ref 100, .int w, .int x] (h1, hM G f ar) (some (.int ((sX7_bestSet f ar w x).1))) (h1, hM G ((sX7_bestSet f ar w x).2.1) ((sX7_bestSet f ar w x).2.2)) := by
  generalize hs : (sX7_bestSet f ar w x) = zz
  refine EvF.of pnX7 rfl ?_
  refine R_iload_n 1 dX7_bestSet_0 rfl rfl ?_
  refine R_callSi 4 eX7_leastOf dX7_bestSet_1 rfl kX7_leastOf lX7_120 rfl rfl rfl rfl rfl ?_
  refine R_istore_n 5 dX7_bestSet_4 rfl rfl (by decide) (loc' := [(0, .ref 100), (1, .int w), (2, .int x), (3, .int (sX7_leastOf w))]) rfl ?_
  refine R_aload_n 6 dX7_bestSet_5 rfl rfl ?_
  refine R_iload_n 7 dX7_bestSet_6 rfl rfl ?_
  refine R_iload_n 8 dX7_bestSet_7 rfl rfl ?_
  refine R_iload_n 9 dX7_bestSet_8 rfl rfl ?_
  refine R_callVi 12 (eX7_thinksWith (w_in hw) (tw_ok hk hw (lo_ok hw (Int.le_refl _))) hx) dX7_bestSet_9 rfl kX7_thinksWith lX7_247 rfl rfl rfl rfl rfl rfl rfl ?_
  generalize hz1_ : (sX7_thinksWith f ar w (sX7_leastOf w) x).2.1 = z1_
  generalize hz2_ : (sX7_thinksWith f ar w (sX7_leastOf w) x).2.2 = z2_
  refine R_nm (fun z3_ hz3_ => ?_)
  refine R_istore 14 dX7_bestSet_12 rfl rfl (by decide) (loc' := [(0, .ref 100), (1, .int w), (2, .int x), (3, .int (sX7_leastOf w)), (4, .int z3_)]) rfl ?_
  refine R_iload_n 15 dX7_bestSet_14 rfl rfl ?_
  refine R_iconst 16 dX7_bestSet_15 rfl (v := 1) (by decide) ?_
  refine R_iadd 17 dX7_bestSet_16 rfl ?_
  refine R_istore 19 dX7_bestSet_17 rfl rfl (by decide) (loc' := [(0, .ref 100), (1, .int w), (2, .int x), (3, .int (sX7_leastOf w)), (4, .int z3_), (5, .int ((sX7_leastOf w) + 1))]) rfl ?_
  subst hz1_ hz2_ hz3_
  refine R_pick [0, 1, 2, 3, 4, 5] rfl ?_
  have e : zz = ((itX7_bestSet w x ((sX7_mostOf w).toInt - (sX7_leastOf w).toInt).toNat 0 ((sX7_thinksWith f ar w (sX7_leastOf w) x).2.1) ((sX7_thinksWith f ar w (sX7_leastOf w) x).2.2) (sX7_leastOf w) ((sX7_thinksWith f ar w (sX7_leastOf w) x).1) ((sX7_leastOf w) + 1)).1, (itX7_bestSet w x ((sX7_mostOf w).toInt - (sX7_leastOf w).toInt).toNat 0 ((sX7_thinksWith f ar w (sX7_leastOf w) x).2.1) ((sX7_thinksWith f ar w (sX7_leastOf w) x).2.2) (sX7_leastOf w) ((sX7_thinksWith f ar w (sX7_leastOf w) x).1) ((sX7_leastOf w) + 1)).2.1, (itX7_bestSet w x ((sX7_mostOf w).toInt - (sX7_leastOf w).toInt).toNat 0 ((sX7_thinksWith f ar w (sX7_leastOf w) x).2.1) ((sX7_thinksWith f ar w (sX7_leastOf w) x).2.2) (sX7_leastOf w) ((sX7_thinksWith f ar w (sX7_leastOf w) x).1) ((sX7_leastOf w) + 1)).2.2) := by rw [← hs]; unfold sX7_bestSet; rfl
  rw [pr1 e, pr1 (pr2 e), pr2 (pr2 e)]; exact lpX7_bestSet hw hx (((sX7_mostOf w).toInt - (sX7_leastOf w).toInt).toNat) 0 ((sX7_thinksWith f ar w (sX7_leastOf w) x).2.1) ((sX7_thinksWith f ar w (sX7_leastOf w) x).2.2) (sX7_leastOf w) ((sX7_thinksWith f ar w (sX7_leastOf w) x).1) ((sX7_leastOf w) + 1) ⟨(bs_init hw).1, (bs_init hw).2, (tw_kt (tw_ok hk hw (lo_ok hw (Int.le_refl _))) hx).ok hk⟩
def exX7_bestRule (x : Int32) (a : Nat) (f : Nat → Int32) (ar : Nat → Nat → Int32) (be : Int32) : Int32 × (Nat → Int32) × (Nat → Nat → Int32) := (be, f, ar)
def stX7_bestRule (x : Int32) (a : Nat) (f : Nat → Int32) (ar : Nat → Nat → Int32) (be : Int32) : (Nat → Int32) × (Nat → Nat → Int32) × Int32 := (((sX7_thinksByRule ((sX7_thinksByRule f ar (nI a) x).2.1) ((sX7_thinksByRule f ar (nI a) x).2.2) be x).2.1), ((sX7_thinksByRule ((sX7_thinksByRule f ar (nI a) x).2.1) ((sX7_thinksByRule f ar (nI a) x).2.2) be x).2.2), (if ((sX7_thinksByRule ((sX7_thinksByRule f ar (nI a) x).2.1) ((sX7_thinksByRule f ar (nI a) x).2.2) be x).1) ≤ ((sX7_thinksByRule f ar (nI a) x).1) then be else nI a))
def itX7_bestRule (x : Int32) : Nat → Nat → (Nat → Int32) → (Nat → Nat → Int32) → Int32 → Int32 × (Nat → Int32) × (Nat → Nat → Int32)
  | 0, a, f, ar, be => exX7_bestRule x a f ar be
  | j + 1, a, f, ar, be => itX7_bestRule x j (a + 1) ((stX7_bestRule x a f ar be).1) ((stX7_bestRule x a f ar be).2.1) ((stX7_bestRule x a f ar be).2.2)
theorem itX7_bestRule_n {x : Int32} {j a : Nat} {f : Nat → Int32} {ar : Nat → Nat → Int32} {be : Int32} {s0_ : Nat → Int32} {s1_ : Nat → Nat → Int32} {s2_ : Int32} (e : stX7_bestRule x a f ar be = (s0_, s1_, s2_)) : (itX7_bestRule x (j + 1) a f ar be) = (itX7_bestRule x j (a + 1) s0_ s1_ s2_) := by simp only [itX7_bestRule.eq_2, e]
set_option maxRecDepth 20000 in
theorem lpX7_bestRule {G : zG} {h1 : List va_E} {x : Int32} (hx : x.toInt ≤ 240) : ∀ (j a : Nat) (f : Nat → Int32) (ar : Nat → Nat → Int32) (be : Int32), (a + j = 5 ∧ mOk f ar) → R G mX7_bestRule 4 [(0, .ref 100), (1, .int x), (2, .int be), (3, .int (nI a))] [] (h1, hM G f ar) (fun r0 h0 => r0 = some (.int ((itX7_bestRule x j a f ar be).1)) ∧ h0 = (h1, hM G ((itX7_bestRule x j a f ar be).2.1) ((itX7_bestRule x j a f ar be).2.2))) := by
  intro j
  induction j with
  | zero =>
    intro a f ar be hj
    have hc : (5 : Int32) ≤ nI a := by show nI 5 ≤ nI a; exact nI_le (by omega) (by omega)
    refine R_iload_n 5 dX7_bestRule_4 rfl rfl ?_
    refine R_iconst 6 dX7_bestRule_5 rfl (v := 5) (by decide) ?_
    refine R_icmp_ge 9 36 dX7_bestRule_6 rfl (by decide) (fun _ => ?_) (fun c => absurd hc c)
    refine R_iload_n 37 dX7_bestRule_36 rfl rfl ?_
    refine R_ireturn dX7_bestRule_37 rfl rfl ?_
    have e : (itX7_bestRule x 0 a f ar be) = (be, f, ar) := rfl
    rw [e]; exact ⟨rfl, rfl⟩
  | succ j ih =>
    intro a f ar be hj
    have hc : ¬ (5 : Int32) ≤ nI a := by show ¬ nI 5 ≤ nI a; exact nI_ge (by omega) (by omega)
    refine R_iload_n 5 dX7_bestRule_4 rfl rfl ?_
    refine R_iconst 6 dX7_bestRule_5 rfl (v := 5) (by decide) ?_
    refine R_icmp_ge 9 36 dX7_bestRule_6 rfl (by decide) (fun c => absurd c hc) (fun _ => ?_)
    refine R_aload_n 10 dX7_bestRule_9 rfl rfl ?_
    refine R_iload_n 11 dX7_bestRule_10 rfl rfl ?_
    refine R_iload_n 12 dX7_bestRule_11 rfl rfl ?_
    refine R_callVi 15 (eX7_thinksByRule hj.2 hx) dX7_bestRule_12 rfl kX7_thinksByRule lX7_250 rfl rfl rfl rfl rfl rfl rfl ?_
    generalize hz1_ : (sX7_thinksByRule f ar (nI a) x).2.1 = z1_
    generalize hz2_ : (sX7_thinksByRule f ar (nI a) x).2.2 = z2_
    refine R_aload_n 16 dX7_bestRule_15 rfl rfl ?_
    refine R_iload_n 17 dX7_bestRule_16 rfl rfl ?_
    refine R_iload_n 18 dX7_bestRule_17 rfl rfl ?_
    refine R_callVi 21 (eX7_thinksByRule (tr_ok hz1_ hz2_ hj.2 hx) hx) dX7_bestRule_18 rfl kX7_thinksByRule lX7_250 rfl rfl rfl rfl rfl rfl rfl ?_
    generalize hz3_ : (sX7_thinksByRule z1_ z2_ be x).2.1 = z3_
    generalize hz4_ : (sX7_thinksByRule z1_ z2_ be x).2.2 = z4_
    refine R_cut 29 [(0, .ref 100), (1, .int x), (2, .int be), (3, .int (nI a))] (.int (if ((sX7_thinksByRule z1_ z2_ be x).1) ≤ ((sX7_thinksByRule f ar (nI a) x).1) then be else nI a) :: []) (h1, hM G z3_ z4_) ?_ (fun kj => ?_)
    ·
      refine R_nm (fun z5_ hz5_ => ?_)
      refine R_istore_n 30 dX7_bestRule_29 rfl rfl (by decide) (loc' := [(0, .ref 100), (1, .int x), (2, .int z5_), (3, .int (nI a))]) rfl ?_
      refine R_iinc 33 dX7_bestRule_30 rfl rfl (v := (nI (a + 1))) (nI_1 a) rfl (by decide) (loc' := [(0, .ref 100), (1, .int x), (2, .int z5_), (3, .int (nI (a + 1)))]) rfl ?_
      refine R_goto 4 dX7_bestRule_33 (by decide) ?_
      subst hz1_ hz2_ hz3_ hz4_ hz5_
      refine R_pick [0, 1, 2, 3] rfl ?_
      have e : stX7_bestRule x a f ar be = (((sX7_thinksByRule ((sX7_thinksByRule f ar (nI a) x).2.1) ((sX7_thinksByRule f ar (nI a) x).2.2) be x).2.1), ((sX7_thinksByRule ((sX7_thinksByRule f ar (nI a) x).2.1) ((sX7_thinksByRule f ar (nI a) x).2.2) be x).2.2), (if ((sX7_thinksByRule ((sX7_thinksByRule f ar (nI a) x).2.1) ((sX7_thinksByRule f ar (nI a) x).2.2) be x).1) ≤ ((sX7_thinksByRule f ar (nI a) x).1) then be else nI a)) := by rfl
      have e2 : (itX7_bestRule x (j + 1) a f ar be) = (itX7_bestRule x j (a + 1) ((sX7_thinksByRule ((sX7_thinksByRule f ar (nI a) x).2.1) ((sX7_thinksByRule f ar (nI a) x).2.2) be x).2.1) ((sX7_thinksByRule ((sX7_thinksByRule f ar (nI a) x).2.1) ((sX7_thinksByRule f ar (nI a) x).2.2) be x).2.2) (if ((sX7_thinksByRule ((sX7_thinksByRule f ar (nI a) x).2.1) ((sX7_thinksByRule f ar (nI a) x).2.2) be x).1) ≤ ((sX7_thinksByRule f ar (nI a) x).1) then be else nI a)) := itX7_bestRule_n e
      rw [e2]; exact ih (a + 1) ((sX7_thinksByRule ((sX7_thinksByRule f ar (nI a) x).2.1) ((sX7_thinksByRule f ar (nI a) x).2.2) be x).2.1) ((sX7_thinksByRule ((sX7_thinksByRule f ar (nI a) x).2.1) ((sX7_thinksByRule f ar (nI a) x).2.2) be x).2.2) (if ((sX7_thinksByRule ((sX7_thinksByRule f ar (nI a) x).2.1) ((sX7_thinksByRule f ar (nI a) x).2.2) be x).1) ≤ ((sX7_thinksByRule f ar (nI a) x).1) then be else nI a) ⟨by omega, tr2_ok hj.2 hx⟩
    refine R_icmp_ge 24 28 dX7_bestRule_21 rfl (by decide) (fun c1 => ?_) (fun c1 => ?_)
    · refine R_iload_n 29 dX7_bestRule_28 rfl rfl ?_
      rw [if_pos c1] at kj; exact kj
    · refine R_iload_n 25 dX7_bestRule_24 rfl rfl ?_
      refine R_goto 29 dX7_bestRule_25 (by decide) ?_
      rw [if_neg c1] at kj; exact kj
def sX7_bestRule (f : Nat → Int32) (ar : Nat → Nat → Int32) (x : Int32) : Int32 × (Nat → Int32) × (Nat → Nat → Int32) := ((itX7_bestRule x 4 1 f ar 0).1, (itX7_bestRule x 4 1 f ar 0).2.1, (itX7_bestRule x 4 1 f ar 0).2.2)
set_option maxRecDepth 20000 in
theorem eX7_bestRule {G : zG} {h1 : List va_E} {f : Nat → Int32} {ar : Nat → Nat → Int32} {x : Int32} (hk : mOk f ar) (hx : x.toInt ≤ 240) : EvF G mX7_bestRule [.ref 100, .int x] (h1, hM G f ar) (some (.int ((sX7_bestRule f ar x).1))) (h1, hM G ((sX7_bestRule f ar x).2.1) ((sX7_bestRule f ar x).2.2)) := by
  generalize hs : (sX7_bestRule f ar x) = zz
  refine EvF.of pnX7 rfl ?_
  refine R_iconst 1 dX7_bestRule_0 rfl (v := 0) (by decide) ?_
  refine R_istore_n 2 dX7_bestRule_1 rfl rfl (by decide) (loc' := [(0, .ref 100), (1, .int x), (2, .int 0)]) rfl ?_
  refine R_iconst 3 dX7_bestRule_2 rfl (v := 1) (by decide) ?_
  refine R_istore_n 4 dX7_bestRule_3 rfl rfl (by decide) (loc' := [(0, .ref 100), (1, .int x), (2, .int 0), (3, .int 1)]) rfl ?_
  refine R_pick [0, 1, 2, 3] rfl ?_
  have e : zz = ((itX7_bestRule x 4 1 f ar 0).1, (itX7_bestRule x 4 1 f ar 0).2.1, (itX7_bestRule x 4 1 f ar 0).2.2) := by rw [← hs]; unfold sX7_bestRule; rfl
  rw [pr1 e, pr1 (pr2 e), pr2 (pr2 e)]; exact lpX7_bestRule hx 4 1 f ar 0 ⟨rfl, hk⟩
theorem bf_2 {f f1 : Nat → Int32} {ar a1 : Nat → Nat → Int32} {p q x : Int32} (h1 : (sX7_thinksFirst f ar p x).2.1 = f1) (h2 : (sX7_thinksFirst f ar p x).2.2 = a1) (hk : mOk f ar) (hx : x.toInt ≤ 240) (hp : 0 ≤ p.toInt ∧ p.toInt < (f 8).toInt) (hq : 0 ≤ q.toInt ∧ q.toInt < (f 8).toInt) : mOk (upd f1 11 q) a1 := by
  have k := tf_kt (tf_ok hk hp.1 hp.2) hx
  have e := k.ok hk
  have e8 := k.1 8 (by omega)
  rw [h1, h2] at e
  rw [h1] at e8
  exact tf_ok e hq.1 (by rw [e8]; exact hq.2)
theorem bf_n {f : Nat → Int32} {ar : Nat → Nat → Int32} {p q x : Int32} (hk : mOk f ar) (hx : x.toInt ≤ 240) (hp : 0 ≤ p.toInt ∧ p.toInt < (f 8).toInt) (hq : 0 ≤ q.toInt ∧ q.toInt < (f 8).toInt) : kt f ar (sX7_thinksFirst (sX7_thinksFirst f ar p x).2.1 (sX7_thinksFirst f ar p x).2.2 q x).2.1 (sX7_thinksFirst (sX7_thinksFirst f ar p x).2.1 (sX7_thinksFirst f ar p x).2.2 q x).2.2 := (tf_kt (tf_ok hk hp.1 hp.2) hx).tr (tf_kt (bf_2 rfl rfl hk hx hp hq) hx)
theorem int_ite {c : Prop} [Decidable c] {x y : Int32} {n : Int} (h1 : 0 ≤ x.toInt ∧ x.toInt < n) (h2 : 0 ≤ y.toInt ∧ y.toInt < n) : 0 ≤ (if c then x else y).toInt ∧ (if c then x else y).toInt < n := by split <;> assumption
theorem bf_next {f : Nat → Int32} {ar : Nat → Nat → Int32} {be x y z : Int32} {j a : Nat} (hj : (1 ≤ a ∧ a ≤ 6 ∧ (((f 8).toNatClampNeg ≤ a ∧ (j + 1) = 0) ∨ a + (j + 1) = (f 8).toNatClampNeg)) ∧ mOk f ar ∧ (¬ f 8 = 0 → 0 ≤ be.toInt ∧ be.toInt < (f 8).toInt)) (hx : x.toInt ≤ 240) {F : Nat → Int32} {A : Nat → Nat → Int32} (hF : kt f ar F A) : (1 ≤ a + 1 ∧ a + 1 ≤ 6 ∧ (((F 8).toNatClampNeg ≤ a + 1 ∧ j = 0) ∨ a + 1 + j = (F 8).toNatClampNeg)) ∧ mOk F A ∧ (¬ F 8 = 0 → 0 ≤ (if z ≤ y then be else nI a).toInt ∧ (if z ≤ y then be else nI a).toInt < (F 8).toInt) := by
  have e8 := hF.1 8 (by omega)
  rw [e8]
  have h8 : (f 8).toInt ≤ 5 := hj.2.1.1.2
  have hc : (f 8).toNatClampNeg ≤ 5 := mo_n hj.2.1
  refine ⟨by omega, hF.ok hj.2.1, fun hz => int_ite (hj.2.2 hz) ⟨by rw [nI_toInt (by omega)]; omega, cl_lt (by omega)⟩⟩
def exX7_bestFirst (x : Int32) (a : Nat) (f : Nat → Int32) (ar : Nat → Nat → Int32) (be : Int32) : Int32 × (Nat → Int32) × (Nat → Nat → Int32) := (be, f, ar)
def stX7_bestFirst (x : Int32) (a : Nat) (f : Nat → Int32) (ar : Nat → Nat → Int32) (be : Int32) : (Nat → Int32) × (Nat → Nat → Int32) × Int32 := (((sX7_thinksFirst ((sX7_thinksFirst f ar (nI a) x).2.1) ((sX7_thinksFirst f ar (nI a) x).2.2) be x).2.1), ((sX7_thinksFirst ((sX7_thinksFirst f ar (nI a) x).2.1) ((sX7_thinksFirst f ar (nI a) x).2.2) be x).2.2), (if ((sX7_thinksFirst ((sX7_thinksFirst f ar (nI a) x).2.1) ((sX7_thinksFirst f ar (nI a) x).2.2) be x).1) ≤ ((sX7_thinksFirst f ar (nI a) x).1) then be else nI a))
def itX7_bestFirst (x : Int32) : Nat → Nat → (Nat → Int32) → (Nat → Nat → Int32) → Int32 → Int32 × (Nat → Int32) × (Nat → Nat → Int32)
  | 0, a, f, ar, be => exX7_bestFirst x a f ar be
  | j + 1, a, f, ar, be => itX7_bestFirst x j (a + 1) ((stX7_bestFirst x a f ar be).1) ((stX7_bestFirst x a f ar be).2.1) ((stX7_bestFirst x a f ar be).2.2)
theorem itX7_bestFirst_n {x : Int32} {j a : Nat} {f : Nat → Int32} {ar : Nat → Nat → Int32} {be : Int32} {s0_ : Nat → Int32} {s1_ : Nat → Nat → Int32} {s2_ : Int32} (e : stX7_bestFirst x a f ar be = (s0_, s1_, s2_)) : (itX7_bestFirst x (j + 1) a f ar be) = (itX7_bestFirst x j (a + 1) s0_ s1_ s2_) := by simp only [itX7_bestFirst.eq_2, e]
set_option maxRecDepth 20000 in
theorem lpX7_bestFirst {G : zG} {h1 : List va_E} {x : Int32} (hx : x.toInt ≤ 240) : ∀ (j a : Nat) (f : Nat → Int32) (ar : Nat → Nat → Int32) (be : Int32), ((1 ≤ a ∧ a ≤ 6 ∧ (((f 8).toNatClampNeg ≤ a ∧ j = 0) ∨ a + j = (f 8).toNatClampNeg)) ∧ mOk f ar ∧ (¬ f 8 = 0 → 0 ≤ be.toInt ∧ be.toInt < (f 8).toInt)) → R G mX7_bestFirst 16 [(0, .ref 100), (1, .int x), (2, .int be), (3, .int (nI a))] [] (h1, hM G f ar) (fun r0 h0 => r0 = some (.int ((itX7_bestFirst x j a f ar be).1)) ∧ h0 = (h1, hM G ((itX7_bestFirst x j a f ar be).2.1) ((itX7_bestFirst x j a f ar be).2.2))) := by
  intro j
  induction j with
  | zero =>
    intro a f ar be hj
    have hx := cl_of (f 8)
    have hc : (f 8) ≤ nI a := cl_le (by omega) (by omega)
    refine R_iload_n 17 dX7_bestFirst_16 rfl rfl ?_
    refine R_aload_n 18 dX7_bestFirst_17 rfl rfl ?_
    refine R_get 21 dX7_bestFirst_18 rfl fX7_65 rfl (v := .int (f 8)) rfl ?_
    refine R_icmp_ge 24 51 dX7_bestFirst_21 rfl (by decide) (fun _ => ?_) (fun c => absurd hc c)
    refine R_iload_n 52 dX7_bestFirst_51 rfl rfl ?_
    refine R_ireturn dX7_bestFirst_52 rfl rfl ?_
    have e : (itX7_bestFirst x 0 a f ar be) = (be, f, ar) := rfl
    rw [e]; exact ⟨rfl, rfl⟩
  | succ j ih =>
    intro a f ar be hj
    have hc : ¬ (f 8) ≤ nI a := cl_gt (by omega)
    have h5 : (f 8).toNatClampNeg ≤ 5 := mo_n hj.2.1
    have hpa : 0 ≤ (nI a).toInt ∧ (nI a).toInt < (f 8).toInt := ⟨by rw [nI_toInt (by omega)]; omega, cl_lt (by omega)⟩
    have hpb := hj.2.2 (nz8 (by omega))
    refine R_iload_n 17 dX7_bestFirst_16 rfl rfl ?_
    refine R_aload_n 18 dX7_bestFirst_17 rfl rfl ?_
    refine R_get 21 dX7_bestFirst_18 rfl fX7_65 rfl (v := .int (f 8)) rfl ?_
    refine R_icmp_ge 24 51 dX7_bestFirst_21 rfl (by decide) (fun c => absurd c hc) (fun _ => ?_)
    refine R_aload_n 25 dX7_bestFirst_24 rfl rfl ?_
    refine R_iload_n 26 dX7_bestFirst_25 rfl rfl ?_
    refine R_iload_n 27 dX7_bestFirst_26 rfl rfl ?_
    refine R_callVi 30 (eX7_thinksFirst (tf_ok hj.2.1 hpa.1 hpa.2) hx) dX7_bestFirst_27 rfl kX7_thinksFirst lX7_253 rfl rfl rfl rfl rfl rfl rfl ?_
    generalize hz1_ : (sX7_thinksFirst f ar (nI a) x).2.1 = z1_
    generalize hz2_ : (sX7_thinksFirst f ar (nI a) x).2.2 = z2_
    refine R_aload_n 31 dX7_bestFirst_30 rfl rfl ?_
    refine R_iload_n 32 dX7_bestFirst_31 rfl rfl ?_
    refine R_iload_n 33 dX7_bestFirst_32 rfl rfl ?_
    refine R_callVi 36 (eX7_thinksFirst (bf_2 hz1_ hz2_ hj.2.1 hx hpa hpb) hx) dX7_bestFirst_33 rfl kX7_thinksFirst lX7_253 rfl rfl rfl rfl rfl rfl rfl ?_
    generalize hz3_ : (sX7_thinksFirst z1_ z2_ be x).2.1 = z3_
    generalize hz4_ : (sX7_thinksFirst z1_ z2_ be x).2.2 = z4_
    refine R_cut 44 [(0, .ref 100), (1, .int x), (2, .int be), (3, .int (nI a))] (.int (if ((sX7_thinksFirst z1_ z2_ be x).1) ≤ ((sX7_thinksFirst f ar (nI a) x).1) then be else nI a) :: []) (h1, hM G z3_ z4_) ?_ (fun kj => ?_)
    ·
      refine R_nm (fun z5_ hz5_ => ?_)
      refine R_istore_n 45 dX7_bestFirst_44 rfl rfl (by decide) (loc' := [(0, .ref 100), (1, .int x), (2, .int z5_), (3, .int (nI a))]) rfl ?_
      refine R_iinc 48 dX7_bestFirst_45 rfl rfl (v := (nI (a + 1))) (nI_1 a) rfl (by decide) (loc' := [(0, .ref 100), (1, .int x), (2, .int z5_), (3, .int (nI (a + 1)))]) rfl ?_
      refine R_goto 16 dX7_bestFirst_48 (by decide) ?_
      subst hz1_ hz2_ hz3_ hz4_ hz5_
      refine R_pick [0, 1, 2, 3] rfl ?_
      have e : stX7_bestFirst x a f ar be = (((sX7_thinksFirst ((sX7_thinksFirst f ar (nI a) x).2.1) ((sX7_thinksFirst f ar (nI a) x).2.2) be x).2.1), ((sX7_thinksFirst ((sX7_thinksFirst f ar (nI a) x).2.1) ((sX7_thinksFirst f ar (nI a) x).2.2) be x).2.2), (if ((sX7_thinksFirst ((sX7_thinksFirst f ar (nI a) x).2.1) ((sX7_thinksFirst f ar (nI a) x).2.2) be x).1) ≤ ((sX7_thinksFirst f ar (nI a) x).1) then be else nI a)) := by rfl
      have e2 : (itX7_bestFirst x (j + 1) a f ar be) = (itX7_bestFirst x j (a + 1) ((sX7_thinksFirst ((sX7_thinksFirst f ar (nI a) x).2.1) ((sX7_thinksFirst f ar (nI a) x).2.2) be x).2.1) ((sX7_thinksFirst ((sX7_thinksFirst f ar (nI a) x).2.1) ((sX7_thinksFirst f ar (nI a) x).2.2) be x).2.2) (if ((sX7_thinksFirst ((sX7_thinksFirst f ar (nI a) x).2.1) ((sX7_thinksFirst f ar (nI a) x).2.2) be x).1) ≤ ((sX7_thinksFirst f ar (nI a) x).1) then be else nI a)) := itX7_bestFirst_n e
      rw [e2]; exact ih (a + 1) ((sX7_thinksFirst ((sX7_thinksFirst f ar (nI a) x).2.1) ((sX7_thinksFirst f ar (nI a) x).2.2) be x).2.1) ((sX7_thinksFirst ((sX7_thinksFirst f ar (nI a) x).2.1) ((sX7_thinksFirst f ar (nI a) x).2.2) be x).2.2) (if ((sX7_thinksFirst ((sX7_thinksFirst f ar (nI a) x).2.1) ((sX7_thinksFirst f ar (nI a) x).2.2) be x).1) ≤ ((sX7_thinksFirst f ar (nI a) x).1) then be else nI a) (bf_next hj hx (bf_n hj.2.1 hx hpa hpb))
    refine R_icmp_ge 39 43 dX7_bestFirst_36 rfl (by decide) (fun c1 => ?_) (fun c1 => ?_)
    · refine R_iload_n 44 dX7_bestFirst_43 rfl rfl ?_
      rw [if_pos c1] at kj; exact kj
    · refine R_iload_n 40 dX7_bestFirst_39 rfl rfl ?_
      refine R_goto 44 dX7_bestFirst_40 (by decide) ?_
      rw [if_neg c1] at kj; exact kj
theorem bf_init {f : Nat → Int32} {ar : Nat → Nat → Int32} (hk : mOk f ar) : (1 ≤ 1 ∧ 1 ≤ 6 ∧ (((f 8).toNatClampNeg ≤ 1 ∧ (f 8).toNatClampNeg - 1 = 0) ∨ 1 + ((f 8).toNatClampNeg - 1) = (f 8).toNatClampNeg)) ∧ mOk f ar ∧ (¬ f 8 = 0 → 0 ≤ (if f 8 = 0 then (-9) else 0 : Int32).toInt ∧ (if f 8 = 0 then (-9) else 0 : Int32).toInt < (f 8).toInt) := by
  refine ⟨by omega, hk, fun h => ?_⟩
  rw [if_neg h]
  have h0 := hk.1.1
  have h3 := lv_neT h (show (0 : Int32).toInt = 0 by decide)
  have e : (0 : Int32).toInt = 0 := by decide
  omega
def sX7_bestFirst (f : Nat → Int32) (ar : Nat → Nat → Int32) (x : Int32) : Int32 × (Nat → Int32) × (Nat → Nat → Int32) := ((itX7_bestFirst x ((f 8).toNatClampNeg - 1) 1 f ar (if (f 8) = 0 then (-9) else 0)).1, (itX7_bestFirst x ((f 8).toNatClampNeg - 1) 1 f ar (if (f 8) = 0 then (-9) else 0)).2.1, (itX7_bestFirst x ((f 8).toNatClampNeg - 1) 1 f ar (if (f 8) = 0 then (-9) else 0)).2.2)
set_option maxRecDepth 20000 in
theorem eX7_bestFirst {G : zG} {h1 : List va_E} {f : Nat → Int32} {ar : Nat → Nat → Int32} {x : Int32} (hk : mOk f ar) (hx : x.toInt ≤ 240) : EvF G mX7_bestFirst [.ref 100, .int x] (h1, hM G f ar) (some (.int ((sX7_bestFirst f ar x).1))) (h1, hM G ((sX7_bestFirst f ar x).2.1) ((sX7_bestFirst f ar x).2.2)) := by
  generalize hs : (sX7_bestFirst f ar x) = zz
  refine EvF.of pnX7 rfl ?_
  refine R_aload_n 1 dX7_bestFirst_0 rfl rfl ?_
  refine R_get 4 dX7_bestFirst_1 rfl fX7_65 rfl (v := .int (f 8)) rfl ?_
  refine R_cut 13 [(0, .ref 100), (1, .int x)] (.int (if (f 8) = 0 then (-9) else 0) :: []) (h1, hM G f ar) ?_ (fun kj => ?_)
  ·
    refine R_istore_n 14 dX7_bestFirst_13 rfl rfl (by decide) (loc' := [(0, .ref 100), (1, .int x), (2, .int (if (f 8) = 0 then (-9) else 0))]) rfl ?_
    refine R_iconst 15 dX7_bestFirst_14 rfl (v := 1) (by decide) ?_
    refine R_istore_n 16 dX7_bestFirst_15 rfl rfl (by decide) (loc' := [(0, .ref 100), (1, .int x), (2, .int (if (f 8) = 0 then (-9) else 0)), (3, .int 1)]) rfl ?_
    refine R_pick [0, 1, 2, 3] rfl ?_
    have e : zz = ((itX7_bestFirst x ((f 8).toNatClampNeg - 1) 1 f ar (if (f 8) = 0 then (-9) else 0)).1, (itX7_bestFirst x ((f 8).toNatClampNeg - 1) 1 f ar (if (f 8) = 0 then (-9) else 0)).2.1, (itX7_bestFirst x ((f 8).toNatClampNeg - 1) 1 f ar (if (f 8) = 0 then (-9) else 0)).2.2) := by rw [← hs]; unfold sX7_bestFirst; rfl
    rw [pr1 e, pr1 (pr2 e), pr2 (pr2 e)]; exact lpX7_bestFirst hx ((f 8).toNatClampNeg - 1) 1 f ar (if (f 8) = 0 then (-9) else 0) (bf_init hk)
  refine R_if_ne 7 12 dX7_bestFirst_4 rfl (by decide) (fun c1 => ?_) (fun c1 => ?_)
  · refine R_iconst 13 dX7_bestFirst_12 rfl (v := 0) (by decide) ?_
    rw [if_neg c1] at kj; exact kj
  · refine R_bipush 9 dX7_bestFirst_7 rfl (v := (-9)) (by decide) ?_
    refine R_goto 13 dX7_bestFirst_9 (by decide) ?_
    rw [if_pos c1] at kj; exact kj
def sX7_best (f : Nat → Int32) (ar : Nat → Nat → Int32) (x : Int32) (w : Int32) : Int32 × (Nat → Int32) × (Nat → Nat → Int32) := if (sX7_bound x 0 240) = 0 then (if (sX7_isIn w 0 3) = true then (if w = 0 then ((sX7_bestSet f ar 4 x).1, ((sX7_bestSet f ar 4 x).2.1), ((sX7_bestSet f ar 4 x).2.2)) else if w = 1 then ((sX7_bestSet f ar 5 x).1, ((sX7_bestSet f ar 5 x).2.1), ((sX7_bestSet f ar 5 x).2.2)) else if w = 2 then ((sX7_bestRule f ar x).1, ((sX7_bestRule f ar x).2.1), ((sX7_bestRule f ar x).2.2)) else ((sX7_bestFirst f ar x).1, ((sX7_bestFirst f ar x).2.1), ((sX7_bestFirst f ar x).2.2))) else ((sX7_no ar (-2)).1, f, ((sX7_no ar (-2)).2))) else ((sX7_no ar (sX7_bound x 0 240)).1, f, ((sX7_no ar (sX7_bound x 0 240)).2))
set_option maxRecDepth 20000 in
theorem eX7_best {G : zG} {h1 : List va_E} {f : Nat → Int32} {ar : Nat → Nat → Int32} {x w : Int32} (hk : mOk f ar) : EvF G mX7_best [.ref 100, .int x, .int w] (h1, hM G f ar) (some (.int ((sX7_best f ar x w).1))) (h1, hM G ((sX7_best f ar x w).2.1) ((sX7_best f ar x w).2.2)) := by
  generalize hs : (sX7_best f ar x w) = zz
  refine EvF.of pnX7 rfl ?_
  refine R_iload_n 1 dX7_best_0 rfl rfl ?_
  refine R_iconst 2 dX7_best_1 rfl (v := 0) (by decide) ?_
  refine R_sipush 5 dX7_best_2 rfl (v := 240) (by decide) ?_
  refine R_callSi 8 eX7_bound dX7_best_5 rfl kX7_bound lX7_69 rfl rfl rfl rfl rfl ?_
  refine R_istore_n 9 dX7_best_8 rfl rfl (by decide) (loc' := [(0, .ref 100), (1, .int x), (2, .int w), (3, .int (sX7_bound x 0 240))]) rfl ?_
  refine R_iload_n 10 dX7_best_9 rfl rfl ?_
  refine R_if_ne 13 25 dX7_best_10 rfl (by decide) (fun c1 => ?_) (fun c1 => ?_)
  ·
    refine R_iload_n 26 dX7_best_25 rfl rfl ?_
    refine R_if_eq 29 35 dX7_best_26 rfl (by decide) (fun c => absurd c c1) (fun _ => ?_)
    refine R_aload_n 30 dX7_best_29 rfl rfl ?_
    refine R_iload_n 31 dX7_best_30 rfl rfl ?_
    refine R_callVi 34 (eX7_no (bd_in c1)) dX7_best_31 rfl kX7_no lX7_76 rfl rfl rfl rfl rfl rfl rfl ?_
    generalize hz1_ : (sX7_no ar (sX7_bound x 0 240)).2 = z1_
    refine R_ireturn dX7_best_34 rfl rfl ?_
    subst hz1_
    have e : zz = ((sX7_no ar (sX7_bound x 0 240)).1, f, ((sX7_no ar (sX7_bound x 0 240)).2)) := by rw [← hs]; unfold sX7_best; rw [if_neg c1]
    rw [pr1 e, pr1 (pr2 e), pr2 (pr2 e)]; exact ⟨rfl, rfl⟩
  ·
    refine R_iload_n 14 dX7_best_13 rfl rfl ?_
    refine R_iconst 15 dX7_best_14 rfl (v := 0) (by decide) ?_
    refine R_iconst 16 dX7_best_15 rfl (v := 3) (by decide) ?_
    refine R_callSi 19 eX7_isIn dX7_best_16 rfl kX7_isIn lX7_87 rfl rfl rfl rfl rfl ?_
    refine R_ifb_ne 22 25 dX7_best_19 rfl (by decide) (fun c2 => ?_) (fun c2 => ?_)
    ·
      refine R_iload_n 26 dX7_best_25 rfl rfl ?_
      refine R_if_eq 29 35 dX7_best_26 rfl (by decide) (fun _ => ?_) (fun c => absurd c1 c)
      refine R_iload_n 36 dX7_best_35 rfl rfl ?_
      refine R_if_ne 39 48 dX7_best_36 rfl (by decide) (fun c3 => ?_) (fun c3 => ?_)
      ·
        refine R_iload_n 49 dX7_best_48 rfl rfl ?_
        refine R_iconst 50 dX7_best_49 rfl (v := 1) (by decide) ?_
        refine R_icmp_ne 53 62 dX7_best_50 rfl (by decide) (fun c4 => ?_) (fun c4 => ?_)
        ·
          refine R_iload_n 63 dX7_best_62 rfl rfl ?_
          refine R_iconst 64 dX7_best_63 rfl (v := 2) (by decide) ?_
          refine R_icmp_ne 67 75 dX7_best_64 rfl (by decide) (fun c5 => ?_) (fun c5 => ?_)
          ·
            refine R_aload_n 76 dX7_best_75 rfl rfl ?_
            refine R_iload_n 77 dX7_best_76 rfl rfl ?_
            refine R_callVi 80 (eX7_bestFirst hk (bd_hi c1)) dX7_best_77 rfl kX7_bestFirst lX7_262 rfl rfl rfl rfl rfl rfl rfl ?_
            generalize hz2_ : (sX7_bestFirst f ar x).2.1 = z2_
            generalize hz3_ : (sX7_bestFirst f ar x).2.2 = z3_
            refine R_ireturn dX7_best_80 rfl rfl ?_
            subst hz2_ hz3_
            have e : zz = ((sX7_bestFirst f ar x).1, ((sX7_bestFirst f ar x).2.1), ((sX7_bestFirst f ar x).2.2)) := by rw [← hs]; unfold sX7_best; rw [if_pos c1, if_pos c2, if_neg c3, if_neg c4, if_neg c5]
            rw [pr1 e, pr1 (pr2 e), pr2 (pr2 e)]; exact ⟨rfl, rfl⟩
          ·
            refine R_aload_n 68 dX7_best_67 rfl rfl ?_
            refine R_iload_n 69 dX7_best_68 rfl rfl ?_
            refine R_callVi 72 (eX7_bestRule hk (bd_hi c1)) dX7_best_69 rfl kX7_bestRule lX7_259 rfl rfl rfl rfl rfl rfl rfl ?_
            generalize hz4_ : (sX7_bestRule f ar x).2.1 = z4_
            generalize hz5_ : (sX7_bestRule f ar x).2.2 = z5_
            refine R_goto 80 dX7_best_72 (by decide) ?_
            refine R_ireturn dX7_best_80 rfl rfl ?_
            subst hz4_ hz5_
            have e : zz = ((sX7_bestRule f ar x).1, ((sX7_bestRule f ar x).2.1), ((sX7_bestRule f ar x).2.2)) := by rw [← hs]; unfold sX7_best; rw [if_pos c1, if_pos c2, if_neg c3, if_neg c4, if_pos c5]
            rw [pr1 e, pr1 (pr2 e), pr2 (pr2 e)]; exact ⟨rfl, rfl⟩
        ·
          refine R_aload_n 54 dX7_best_53 rfl rfl ?_
          refine R_iconst 55 dX7_best_54 rfl (v := 5) (by decide) ?_
          refine R_iload_n 56 dX7_best_55 rfl rfl ?_
          refine R_callVi 59 (eX7_bestSet (by decide) hk (bd_hi c1)) dX7_best_56 rfl kX7_bestSet lX7_256 rfl rfl rfl rfl rfl rfl rfl ?_
          generalize hz6_ : (sX7_bestSet f ar 5 x).2.1 = z6_
          generalize hz7_ : (sX7_bestSet f ar 5 x).2.2 = z7_
          refine R_goto 80 dX7_best_59 (by decide) ?_
          refine R_ireturn dX7_best_80 rfl rfl ?_
          subst hz6_ hz7_
          have e : zz = ((sX7_bestSet f ar 5 x).1, ((sX7_bestSet f ar 5 x).2.1), ((sX7_bestSet f ar 5 x).2.2)) := by rw [← hs]; unfold sX7_best; rw [if_pos c1, if_pos c2, if_neg c3, if_pos c4]
          rw [pr1 e, pr1 (pr2 e), pr2 (pr2 e)]; exact ⟨rfl, rfl⟩
      ·
        refine R_aload_n 40 dX7_best_39 rfl rfl ?_
        refine R_iconst 41 dX7_best_40 rfl (v := 4) (by decide) ?_
        refine R_iload_n 42 dX7_best_41 rfl rfl ?_
        refine R_callVi 45 (eX7_bestSet (by decide) hk (bd_hi c1)) dX7_best_42 rfl kX7_bestSet lX7_256 rfl rfl rfl rfl rfl rfl rfl ?_
        generalize hz8_ : (sX7_bestSet f ar 4 x).2.1 = z8_
        generalize hz9_ : (sX7_bestSet f ar 4 x).2.2 = z9_
        refine R_goto 80 dX7_best_45 (by decide) ?_
        refine R_ireturn dX7_best_80 rfl rfl ?_
        subst hz8_ hz9_
        have e : zz = ((sX7_bestSet f ar 4 x).1, ((sX7_bestSet f ar 4 x).2.1), ((sX7_bestSet f ar 4 x).2.2)) := by rw [← hs]; unfold sX7_best; rw [if_pos c1, if_pos c2, if_pos c3]
        rw [pr1 e, pr1 (pr2 e), pr2 (pr2 e)]; exact ⟨rfl, rfl⟩
    ·
      refine R_bipush 24 dX7_best_22 rfl (v := (-2)) (by decide) ?_
      refine R_istore_n 25 dX7_best_24 rfl rfl (by decide) (loc' := [(0, .ref 100), (1, .int x), (2, .int w), (3, .int (-2))]) rfl ?_
      refine R_iload_n 26 dX7_best_25 rfl rfl ?_
      refine R_if_eq 29 35 dX7_best_26 rfl (by decide) (fun c => absurd c (by decide)) (fun _ => ?_)
      refine R_aload_n 30 dX7_best_29 rfl rfl ?_
      refine R_iload_n 31 dX7_best_30 rfl rfl ?_
      refine R_callVi 34 (eX7_no (vin_d (by decide))) dX7_best_31 rfl kX7_no lX7_76 rfl rfl rfl rfl rfl rfl rfl ?_
      generalize hz10_ : (sX7_no ar (-2)).2 = z10_
      refine R_ireturn dX7_best_34 rfl rfl ?_
      subst hz10_
      have e : zz = ((sX7_no ar (-2)).1, f, ((sX7_no ar (-2)).2)) := by rw [← hs]; unfold sX7_best; rw [if_pos c1, if_neg c2]
      rw [pr1 e, pr1 (pr2 e), pr2 (pr2 e)]; exact ⟨rfl, rfl⟩
def sX7_between (f : Nat → Int32) (ar : Nat → Nat → Int32) (x : Int32) : Int32 × (Nat → Int32) × (Nat → Nat → Int32) := if (sX7_bound x 0 240) = 0 then (20 + ((sX7_bestSet f ar 1 x).1), ((sX7_bestSet f ar 1 x).2.1), ((sX7_bestSet f ar 1 x).2.2)) else ((sX7_no ar (sX7_bound x 0 240)).1, f, ((sX7_no ar (sX7_bound x 0 240)).2))
set_option maxRecDepth 20000 in
theorem eX7_between {G : zG} {h1 : List va_E} {f : Nat → Int32} {ar : Nat → Nat → Int32} {x : Int32} (hk : mOk f ar) : EvF G mX7_between [.ref 100, .int x] (h1, hM G f ar) (some (.int ((sX7_between f ar x).1))) (h1, hM G ((sX7_between f ar x).2.1) ((sX7_between f ar x).2.2)) := by
  generalize hs : (sX7_between f ar x) = zz
  refine EvF.of pnX7 rfl ?_
  refine R_iload_n 1 dX7_between_0 rfl rfl ?_
  refine R_iconst 2 dX7_between_1 rfl (v := 0) (by decide) ?_
  refine R_sipush 5 dX7_between_2 rfl (v := 240) (by decide) ?_
  refine R_callSi 8 eX7_bound dX7_between_5 rfl kX7_bound lX7_69 rfl rfl rfl rfl rfl ?_
  refine R_istore_n 9 dX7_between_8 rfl rfl (by decide) (loc' := [(0, .ref 100), (1, .int x), (2, .int (sX7_bound x 0 240))]) rfl ?_
  refine R_iload_n 10 dX7_between_9 rfl rfl ?_
  refine R_if_eq 13 21 dX7_between_10 rfl (by decide) (fun c1 => ?_) (fun c1 => ?_)
  ·
    refine R_bipush 23 dX7_between_21 rfl (v := 20) (by decide) ?_
    refine R_aload_n 24 dX7_between_23 rfl rfl ?_
    refine R_iconst 25 dX7_between_24 rfl (v := 1) (by decide) ?_
    refine R_iload_n 26 dX7_between_25 rfl rfl ?_
    refine R_callVi 29 (eX7_bestSet (by decide) hk (bd_hi c1)) dX7_between_26 rfl kX7_bestSet lX7_256 rfl rfl rfl rfl rfl rfl rfl ?_
    generalize hz1_ : (sX7_bestSet f ar 1 x).2.1 = z1_
    generalize hz2_ : (sX7_bestSet f ar 1 x).2.2 = z2_
    refine R_iadd 30 dX7_between_29 rfl ?_
    refine R_ireturn dX7_between_30 rfl rfl ?_
    subst hz1_ hz2_
    have e : zz = (20 + ((sX7_bestSet f ar 1 x).1), ((sX7_bestSet f ar 1 x).2.1), ((sX7_bestSet f ar 1 x).2.2)) := by rw [← hs]; unfold sX7_between; rw [if_pos c1]
    rw [pr1 e, pr1 (pr2 e), pr2 (pr2 e)]; exact ⟨rfl, rfl⟩
  ·
    refine R_aload_n 14 dX7_between_13 rfl rfl ?_
    refine R_iload_n 15 dX7_between_14 rfl rfl ?_
    refine R_callVi 18 (eX7_no (bd_in c1)) dX7_between_15 rfl kX7_no lX7_76 rfl rfl rfl rfl rfl rfl rfl ?_
    generalize hz3_ : (sX7_no ar (sX7_bound x 0 240)).2 = z3_
    refine R_goto 30 dX7_between_18 (by decide) ?_
    refine R_ireturn dX7_between_30 rfl rfl ?_
    subst hz3_
    have e : zz = ((sX7_no ar (sX7_bound x 0 240)).1, f, ((sX7_no ar (sX7_bound x 0 240)).2)) := by rw [← hs]; unfold sX7_between; rw [if_neg c1]
    rw [pr1 e, pr1 (pr2 e), pr2 (pr2 e)]; exact ⟨rfl, rfl⟩
def sX7_leave (f : Nat → Int32) (ar : Nat → Nat → Int32) (x : Int32) : Int32 × (Nat → Int32) × (Nat → Nat → Int32) := if (sX7_bound x 0 240) = 0 then (((sX7_thinksByRule ((sX7_thinks f ar x).2.1) ((sX7_thinks f ar x).2.2) 5 x).1) - ((sX7_thinks f ar x).1), ((sX7_thinksByRule ((sX7_thinks f ar x).2.1) ((sX7_thinks f ar x).2.2) 5 x).2.1), ((sX7_thinksByRule ((sX7_thinks f ar x).2.1) ((sX7_thinks f ar x).2.2) 5 x).2.2)) else ((sX7_lower ar (sX7_bound x 0 240)).1, f, ((sX7_lower ar (sX7_bound x 0 240)).2))
set_option maxRecDepth 20000 in
theorem eX7_leave {G : zG} {h1 : List va_E} {f : Nat → Int32} {ar : Nat → Nat → Int32} {x : Int32} (hk : mOk f ar) : EvF G mX7_leave [.ref 100, .int x] (h1, hM G f ar) (some (.int ((sX7_leave f ar x).1))) (h1, hM G ((sX7_leave f ar x).2.1) ((sX7_leave f ar x).2.2)) := by
  generalize hs : (sX7_leave f ar x) = zz
  refine EvF.of pnX7 rfl ?_
  refine R_iload_n 1 dX7_leave_0 rfl rfl ?_
  refine R_iconst 2 dX7_leave_1 rfl (v := 0) (by decide) ?_
  refine R_sipush 5 dX7_leave_2 rfl (v := 240) (by decide) ?_
  refine R_callSi 8 eX7_bound dX7_leave_5 rfl kX7_bound lX7_69 rfl rfl rfl rfl rfl ?_
  refine R_istore_n 9 dX7_leave_8 rfl rfl (by decide) (loc' := [(0, .ref 100), (1, .int x), (2, .int (sX7_bound x 0 240))]) rfl ?_
  refine R_iload_n 10 dX7_leave_9 rfl rfl ?_
  refine R_if_eq 13 19 dX7_leave_10 rfl (by decide) (fun c1 => ?_) (fun c1 => ?_)
  ·
    refine R_aload_n 20 dX7_leave_19 rfl rfl ?_
    refine R_iload_n 21 dX7_leave_20 rfl rfl ?_
    refine R_callVi 24 (eX7_thinks hk (bd_hi c1)) dX7_leave_21 rfl kX7_thinks lX7_235 rfl rfl rfl rfl rfl rfl rfl ?_
    generalize hz1_ : (sX7_thinks f ar x).2.1 = z1_
    generalize hz2_ : (sX7_thinks f ar x).2.2 = z2_
    refine R_istore_n 25 dX7_leave_24 rfl rfl (by decide) (loc' := [(0, .ref 100), (1, .int x), (2, .int (sX7_bound x 0 240)), (3, .int ((sX7_thinks f ar x).1))]) rfl ?_
    refine R_aload_n 26 dX7_leave_25 rfl rfl ?_
    refine R_iconst 27 dX7_leave_26 rfl (v := 5) (by decide) ?_
    refine R_iload_n 28 dX7_leave_27 rfl rfl ?_
    refine R_callVi 31 (eX7_thinksByRule (th_ok hz1_ hz2_ hk (bd_hi c1)) (bd_hi c1)) dX7_leave_28 rfl kX7_thinksByRule lX7_250 rfl rfl rfl rfl rfl rfl rfl ?_
    generalize hz3_ : (sX7_thinksByRule z1_ z2_ 5 x).2.1 = z3_
    generalize hz4_ : (sX7_thinksByRule z1_ z2_ 5 x).2.2 = z4_
    refine R_iload_n 32 dX7_leave_31 rfl rfl ?_
    refine R_isub 33 dX7_leave_32 rfl ?_
    refine R_ireturn dX7_leave_33 rfl rfl ?_
    subst hz1_ hz2_ hz3_ hz4_
    have e : zz = (((sX7_thinksByRule ((sX7_thinks f ar x).2.1) ((sX7_thinks f ar x).2.2) 5 x).1) - ((sX7_thinks f ar x).1), ((sX7_thinksByRule ((sX7_thinks f ar x).2.1) ((sX7_thinks f ar x).2.2) 5 x).2.1), ((sX7_thinksByRule ((sX7_thinks f ar x).2.1) ((sX7_thinks f ar x).2.2) 5 x).2.2)) := by rw [← hs]; unfold sX7_leave; rw [if_pos c1]
    rw [pr1 e, pr1 (pr2 e), pr2 (pr2 e)]; exact ⟨rfl, rfl⟩
  ·
    refine R_aload_n 14 dX7_leave_13 rfl rfl ?_
    refine R_iload_n 15 dX7_leave_14 rfl rfl ?_
    refine R_callVi 18 (eX7_lower (bd_in c1)) dX7_leave_15 rfl kX7_lower lX7_241 rfl rfl rfl rfl rfl rfl rfl ?_
    generalize hz5_ : (sX7_lower ar (sX7_bound x 0 240)).2 = z5_
    refine R_ireturn dX7_leave_18 rfl rfl ?_
    subst hz5_
    have e : zz = ((sX7_lower ar (sX7_bound x 0 240)).1, f, ((sX7_lower ar (sX7_bound x 0 240)).2)) := by rw [← hs]; unfold sX7_leave; rw [if_neg c1]
    rw [pr1 e, pr1 (pr2 e), pr2 (pr2 e)]; exact ⟨rfl, rfl⟩
def sX7_whoLast (f : Nat → Int32) (ar : Nat → Nat → Int32) (x : Int32) : Int32 × (Nat → Int32) × (Nat → Nat → Int32) := if (sX7_bound x 0 240) = 0 then (((sX7_thinks f ar x).2.1) 32, ((sX7_thinks f ar x).2.1), ((sX7_thinks f ar x).2.2)) else ((sX7_no ar (sX7_bound x 0 240)).1, f, ((sX7_no ar (sX7_bound x 0 240)).2))
set_option maxRecDepth 20000 in
theorem eX7_whoLast {G : zG} {h1 : List va_E} {f : Nat → Int32} {ar : Nat → Nat → Int32} {x : Int32} (hk : mOk f ar) : EvF G mX7_whoLast [.ref 100, .int x] (h1, hM G f ar) (some (.int ((sX7_whoLast f ar x).1))) (h1, hM G ((sX7_whoLast f ar x).2.1) ((sX7_whoLast f ar x).2.2)) := by
  generalize hs : (sX7_whoLast f ar x) = zz
  refine EvF.of pnX7 rfl ?_
  refine R_iload_n 1 dX7_whoLast_0 rfl rfl ?_
  refine R_iconst 2 dX7_whoLast_1 rfl (v := 0) (by decide) ?_
  refine R_sipush 5 dX7_whoLast_2 rfl (v := 240) (by decide) ?_
  refine R_callSi 8 eX7_bound dX7_whoLast_5 rfl kX7_bound lX7_69 rfl rfl rfl rfl rfl ?_
  refine R_istore_n 9 dX7_whoLast_8 rfl rfl (by decide) (loc' := [(0, .ref 100), (1, .int x), (2, .int (sX7_bound x 0 240))]) rfl ?_
  refine R_iload_n 10 dX7_whoLast_9 rfl rfl ?_
  refine R_if_eq 13 19 dX7_whoLast_10 rfl (by decide) (fun c1 => ?_) (fun c1 => ?_)
  ·
    refine R_aload_n 20 dX7_whoLast_19 rfl rfl ?_
    refine R_iload_n 21 dX7_whoLast_20 rfl rfl ?_
    refine R_callVi 24 (eX7_thinks hk (bd_hi c1)) dX7_whoLast_21 rfl kX7_thinks lX7_235 rfl rfl rfl rfl rfl rfl rfl ?_
    generalize hz1_ : (sX7_thinks f ar x).2.1 = z1_
    generalize hz2_ : (sX7_thinks f ar x).2.2 = z2_
    refine R_pop 25 dX7_whoLast_24 rfl rfl ?_
    refine R_aload_n 26 dX7_whoLast_25 rfl rfl ?_
    refine R_get 29 dX7_whoLast_26 rfl fX7_203 rfl (v := .int (z1_ 32)) rfl ?_
    refine R_ireturn dX7_whoLast_29 rfl rfl ?_
    subst hz1_ hz2_
    have e : zz = (((sX7_thinks f ar x).2.1) 32, ((sX7_thinks f ar x).2.1), ((sX7_thinks f ar x).2.2)) := by rw [← hs]; unfold sX7_whoLast; rw [if_pos c1]
    rw [pr1 e, pr1 (pr2 e), pr2 (pr2 e)]; exact ⟨rfl, rfl⟩
  ·
    refine R_aload_n 14 dX7_whoLast_13 rfl rfl ?_
    refine R_iload_n 15 dX7_whoLast_14 rfl rfl ?_
    refine R_callVi 18 (eX7_no (bd_in c1)) dX7_whoLast_15 rfl kX7_no lX7_76 rfl rfl rfl rfl rfl rfl rfl ?_
    generalize hz3_ : (sX7_no ar (sX7_bound x 0 240)).2 = z3_
    refine R_ireturn dX7_whoLast_18 rfl rfl ?_
    subst hz3_
    have e : zz = ((sX7_no ar (sX7_bound x 0 240)).1, f, ((sX7_no ar (sX7_bound x 0 240)).2)) := by rw [← hs]; unfold sX7_whoLast; rw [if_neg c1]
    rw [pr1 e, pr1 (pr2 e), pr2 (pr2 e)]; exact ⟨rfl, rfl⟩
def sX7_when (f : Nat → Int32) (ar : Nat → Nat → Int32) (y : Int32) : Int32 × (Nat → Int32) × (Nat → Nat → Int32) := if 0 ≤ y then (if (((sX7_thinks f ar 240).2.1) 28) ≤ y then (-9) else ((sX7_thinks f ar 240).2.2) 27 y.toNatClampNeg, ((sX7_thinks f ar 240).2.1), ((sX7_thinks f ar 240).2.2)) else ((sX7_no ar (-4)).1, f, ((sX7_no ar (-4)).2))
set_option maxRecDepth 20000 in
theorem eX7_when {G : zG} {h1 : List va_E} {f : Nat → Int32} {ar : Nat → Nat → Int32} {y : Int32} (hk : mOk f ar) : EvF G mX7_when [.ref 100, .int y] (h1, hM G f ar) (some (.int ((sX7_when f ar y).1))) (h1, hM G ((sX7_when f ar y).2.1) ((sX7_when f ar y).2.2)) := by
  generalize hs : (sX7_when f ar y) = zz
  refine EvF.of pnX7 rfl ?_
  refine R_iload_n 1 dX7_when_0 rfl rfl ?_
  refine R_if_ge 4 11 dX7_when_1 rfl (by decide) (fun c1 => ?_) (fun c1 => ?_)
  ·
    refine R_aload_n 12 dX7_when_11 rfl rfl ?_
    refine R_sipush 15 dX7_when_12 rfl (v := 240) (by decide) ?_
    refine R_callVi 18 (eX7_thinks hk (by decide)) dX7_when_15 rfl kX7_thinks lX7_235 rfl rfl rfl rfl rfl rfl rfl ?_
    generalize hz1_ : (sX7_thinks f ar 240).2.1 = z1_
    generalize hz2_ : (sX7_thinks f ar 240).2.2 = z2_
    refine R_pop 19 dX7_when_18 rfl rfl ?_
    refine R_iload_n 20 dX7_when_19 rfl rfl ?_
    refine R_aload_n 21 dX7_when_20 rfl rfl ?_
    refine R_get 24 dX7_when_21 rfl fX7_191 rfl (v := .int (z1_ 28)) rfl ?_
    refine R_cut 38 [(0, .ref 100), (1, .int y)] (.int (if (z1_ 28) ≤ y then (-9) else z2_ 27 y.toNatClampNeg) :: []) (h1, hM G z1_ z2_) ?_ (fun kj => ?_)
    ·
      refine R_ireturn dX7_when_38 rfl rfl ?_
      subst hz1_ hz2_
      have e : zz = (if (((sX7_thinks f ar 240).2.1) 28) ≤ y then (-9) else ((sX7_thinks f ar 240).2.2) 27 y.toNatClampNeg, ((sX7_thinks f ar 240).2.1), ((sX7_thinks f ar 240).2.2)) := by rw [← hs]; unfold sX7_when; rw [if_pos c1]
      rw [pr1 e, pr1 (pr2 e), pr2 (pr2 e)]; exact ⟨rfl, rfl⟩
    refine R_icmp_ge 27 36 dX7_when_24 rfl (by decide) (fun c2 => ?_) (fun c2 => ?_)
    · refine R_bipush 38 dX7_when_36 rfl (v := (-9)) (by decide) ?_
      rw [if_pos c2] at kj; exact kj
    · refine R_aload_n 28 dX7_when_27 rfl rfl ?_
      refine R_get 31 dX7_when_28 rfl fX7_58 rfl (v := .ref 117) rfl ?_
      refine R_iload_n 32 dX7_when_31 rfl rfl ?_
      refine R_iald 33 dX7_when_32 rfl rfl rfl (wh_in c1 c2 (th_u hz1_ hk (by decide))) ?_
      refine R_goto 38 dX7_when_33 (by decide) ?_
      rw [if_neg c2] at kj; exact kj
  ·
    refine R_aload_n 5 dX7_when_4 rfl rfl ?_
    refine R_bipush 7 dX7_when_5 rfl (v := (-4)) (by decide) ?_
    refine R_callVi 10 (eX7_no (vin_d (by decide))) dX7_when_7 rfl kX7_no lX7_76 rfl rfl rfl rfl rfl rfl rfl ?_
    generalize hz3_ : (sX7_no ar (-4)).2 = z3_
    refine R_ireturn dX7_when_10 rfl rfl ?_
    subst hz3_
    have e : zz = ((sX7_no ar (-4)).1, f, ((sX7_no ar (-4)).2)) := by rw [← hs]; unfold sX7_when; rw [if_neg c1]
    rw [pr1 e, pr1 (pr2 e), pr2 (pr2 e)]; exact ⟨rfl, rfl⟩
