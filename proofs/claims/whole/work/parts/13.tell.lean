theorem zLn7 : ∀ j, j < 10 → zLn.getD j 0 ≤ 7 := by decide
theorem vinL {x : Int32} {j : Nat} (hj : j < 10) (h0 : ¬ x < 0) (h1 : x < Int32.ofNat (zLn.getD j 0)) : vp_in x (zLn.getD j 0) := by
  have h7 := zLn7 j hj
  have h1 : x < nI (zLn.getD j 0) := h1
  rw [Int32.lt_iff_toInt_lt] at h0 h1
  rw [nI_toInt (by omega)] at h1
  rw [vp_in_iff]
  have : (0 : Int32).toInt = 0 := by decide
  omega
def sJ0_isLatin1_aae02  : Bool := true
set_option maxRecDepth 20000 in
theorem eJ0_isLatin1_aae02 {G : zG} {h : zH} {j : Nat} (hj : j < 10) : EvF G mJ0_isLatin1_aae02 [.ref (1000 + j)] h (some (.int (b2i sJ0_isLatin1_aae02))) h := by
  generalize hs : sJ0_isLatin1_aae02 = zz
  refine EvF.of pnJ0 rfl ?_
  refine R_gets 3 (j := 2) dJ0_isLatin1_aae02_0 rfl rfl sJ0_38 ?_
  refine R_if_eq 6 17 dJ0_isLatin1_aae02_3 rfl (by decide) (fun c => absurd c (by decide)) (fun _ => ?_)
  refine R_aload_n 7 dJ0_isLatin1_aae02_6 rfl rfl ?_
  refine R_tcod 10 (i := j) dJ0_isLatin1_aae02_7 rfl hj sJ0_15 ?_
  refine R_if_ne 13 17 dJ0_isLatin1_aae02_10 rfl (by decide) (fun c => absurd c (by decide)) (fun _ => ?_)
  refine R_iconst 14 dJ0_isLatin1_aae02_13 rfl (v := 1) (by decide) ?_
  refine R_goto 18 dJ0_isLatin1_aae02_14 (by decide) ?_
  refine R_ireturn dJ0_isLatin1_aae02_18 rfl (by decide) ?_
  have e : zz = true := by rw [← hs]; unfold sJ0_isLatin1_aae02; rfl
  subst e; exact ⟨rfl, rfl⟩
def sJ0_coder_7d493  : Int32 := 0
set_option maxRecDepth 20000 in
theorem eJ0_coder_7d493 {G : zG} {h : zH} {j : Nat} (hj : j < 10) : EvF G mJ0_coder_7d493 [.ref (1000 + j)] h (some (.int sJ0_coder_7d493)) h := by
  generalize hs : sJ0_coder_7d493 = zz
  refine EvF.of pnJ0 rfl ?_
  refine R_gets 3 (j := 2) dJ0_coder_7d493_0 rfl rfl sJ0_38 ?_
  refine R_if_eq 6 13 dJ0_coder_7d493_3 rfl (by decide) (fun c => absurd c (by decide)) (fun _ => ?_)
  refine R_aload_n 7 dJ0_coder_7d493_6 rfl rfl ?_
  refine R_tcod 10 (i := j) dJ0_coder_7d493_7 rfl hj sJ0_15 ?_
  refine R_goto 14 dJ0_coder_7d493_10 (by decide) ?_
  refine R_ireturn dJ0_coder_7d493_14 rfl (by decide) ?_
  have e : zz = 0 := by rw [← hs]; unfold sJ0_coder_7d493; rfl
  subst e; exact ⟨rfl, rfl⟩
def sJ0_length_8abf5 (j : Nat) : Int32 := (Int32.ofNat (zLn.getD j 0)) >>> (0 &&& 31)
set_option maxRecDepth 20000 in
theorem eJ0_length_8abf5 {G : zG} {h : zH} {j : Nat} (hj : j < 10) : EvF G mJ0_length_8abf5 [.ref (1000 + j)] h (some (.int (sJ0_length_8abf5 j))) h := by
  generalize hs : (sJ0_length_8abf5 j) = zz
  refine EvF.of pnJ0 rfl ?_
  refine R_aload_n 1 dJ0_length_8abf5_0 rfl rfl ?_
  refine R_tval 4 (i := j) dJ0_length_8abf5_1 rfl hj sJ0_9 ?_
  refine R_blen 5 (i := j) dJ0_length_8abf5_4 rfl hj ?_
  refine R_aload_n 6 dJ0_length_8abf5_5 rfl rfl ?_
  refine R_callTi 9 (eJ0_coder_7d493 (j := j) hj) dJ0_length_8abf5_6 rfl kJ0_coder_7d493 lJ0_335 rfl rfl rfl rfl rfl (j := j) rfl hj rfl ?_
  refine R_top (y := 0) (by decide) ?_
  refine R_ishr 10 dJ0_length_8abf5_9 rfl ?_
  refine R_ireturn dJ0_length_8abf5_10 rfl rfl ?_
  have e : zz = (Int32.ofNat (zLn.getD j 0)) >>> (0 &&& 31) := by rw [← hs]; unfold sJ0_length_8abf5; rfl
  subst e; exact ⟨rfl, rfl⟩
def sJ0_isEmpty_aae02 (j : Nat) : Bool := decide ((Int32.ofNat (zLn.getD j 0)) = 0)
set_option maxRecDepth 20000 in
theorem eJ0_isEmpty_aae02 {G : zG} {h : zH} {j : Nat} (hj : j < 10) : EvF G mJ0_isEmpty_aae02 [.ref (1000 + j)] h (some (.int (b2i (sJ0_isEmpty_aae02 j)))) h := by
  generalize hs : (sJ0_isEmpty_aae02 j) = zz
  refine EvF.of pnJ0 rfl ?_
  refine R_aload_n 1 dJ0_isEmpty_aae02_0 rfl rfl ?_
  refine R_tval 4 (i := j) dJ0_isEmpty_aae02_1 rfl hj sJ0_9 ?_
  refine R_blen 5 (i := j) dJ0_isEmpty_aae02_4 rfl hj ?_
  refine R_cut 13 [(0, .ref (1000 + j))] (.int (b2i (decide ((Int32.ofNat (zLn.getD j 0)) = 0))) :: []) h ?_ (fun kj => ?_)
  ·
    refine R_ireturn dJ0_isEmpty_aae02_13 rfl (nar_b _) ?_
    have e : zz = decide ((Int32.ofNat (zLn.getD j 0)) = 0) := by rw [← hs]; unfold sJ0_isEmpty_aae02; rfl
    subst e; exact ⟨rfl, rfl⟩
  refine R_if_ne 8 12 dJ0_isEmpty_aae02_5 rfl (by decide) (fun c1 => ?_) (fun c1 => ?_)
  · refine R_iconst 13 dJ0_isEmpty_aae02_12 rfl (v := 0) (by decide) ?_
    rw [b2i_n c1] at kj; exact kj
  · refine R_iconst 9 dJ0_isEmpty_aae02_8 rfl (v := 1) (by decide) ?_
    refine R_goto 13 dJ0_isEmpty_aae02_9 (by decide) ?_
    rw [b2i_p c1] at kj; exact kj
def sJ3_checkIndex_8e157 (x : Int32) : Int32 := x
set_option maxRecDepth 20000 in
theorem eJ3_checkIndex_8e157_n {G : zG} {h : zH} {x y : Int32} (h0 : ¬ x < 0) (h1 : x < y) : EvF G mJ3_checkIndex_8e157 [.int x, .int y, .null] h (some (.int (sJ3_checkIndex_8e157 x))) h := by
  generalize hs : (sJ3_checkIndex_8e157 x) = zz
  refine EvF.of pnJ3 rfl ?_
  refine R_iload_n 1 dJ3_checkIndex_8e157_0 rfl rfl ?_
  refine R_if_lt 4 9 dJ3_checkIndex_8e157_1 rfl (by decide) (fun c => absurd c h0) (fun _ => ?_)
  refine R_iload_n 5 dJ3_checkIndex_8e157_4 rfl rfl ?_
  refine R_iload_n 6 dJ3_checkIndex_8e157_5 rfl rfl ?_
  refine R_icmp_lt 9 16 dJ3_checkIndex_8e157_6 rfl (by decide) (fun _ => ?_) (fun c => absurd h1 c)
  refine R_iload_n 17 dJ3_checkIndex_8e157_16 rfl rfl ?_
  refine R_ireturn dJ3_checkIndex_8e157_17 rfl rfl ?_
  have e : zz = x := by rw [← hs]; unfold sJ3_checkIndex_8e157; rfl
  subst e; exact ⟨rfl, rfl⟩
set_option maxRecDepth 20000 in
theorem eJ3_checkIndex_8e157_r {G : zG} {h : zH} {x y : Int32} (h0 : ¬ x < 0) (h1 : x < y) : EvF G mJ3_checkIndex_8e157 [.int x, .int y, .ref 5000] h (some (.int (sJ3_checkIndex_8e157 x))) h := by
  generalize hs : (sJ3_checkIndex_8e157 x) = zz
  refine EvF.of pnJ3 rfl ?_
  refine R_iload_n 1 dJ3_checkIndex_8e157_0 rfl rfl ?_
  refine R_if_lt 4 9 dJ3_checkIndex_8e157_1 rfl (by decide) (fun c => absurd c h0) (fun _ => ?_)
  refine R_iload_n 5 dJ3_checkIndex_8e157_4 rfl rfl ?_
  refine R_iload_n 6 dJ3_checkIndex_8e157_5 rfl rfl ?_
  refine R_icmp_lt 9 16 dJ3_checkIndex_8e157_6 rfl (by decide) (fun _ => ?_) (fun c => absurd h1 c)
  refine R_iload_n 17 dJ3_checkIndex_8e157_16 rfl rfl ?_
  refine R_ireturn dJ3_checkIndex_8e157_17 rfl rfl ?_
  have e : zz = x := by rw [← hs]; unfold sJ3_checkIndex_8e157; rfl
  subst e; exact ⟨rfl, rfl⟩
set_option maxRecDepth 20000 in
theorem eJ0_checkIndex_df160 {G : zG} {h : zH} {x y : Int32} (h0 : ¬ x < 0) (h1 : x < y) : EvF G mJ0_checkIndex_df160 [.int x, .int y] h (none) h := by
  refine EvF.of pnJ0 rfl ?_
  refine R_iload_n 1 dJ0_checkIndex_df160_0 rfl rfl ?_
  refine R_iload_n 2 dJ0_checkIndex_df160_1 rfl rfl ?_
  refine R_getsQ 5 dJ0_checkIndex_df160_2 rfl sJ0_1053 ?_ ?_
  ·
    refine R_callSi 8 (eJ3_checkIndex_8e157_n h0 h1) dJ0_checkIndex_df160_5 rfl kJ3_checkIndex_8e157 lJ0_1059 rfl rfl rfl rfl rfl ?_
    refine R_pop 9 dJ0_checkIndex_df160_8 rfl rfl ?_
    refine R_return dJ0_checkIndex_df160_9 rfl ?_
    exact ⟨rfl, rfl⟩
  ·
    refine R_callSi 8 (eJ3_checkIndex_8e157_r h0 h1) dJ0_checkIndex_df160_5 rfl kJ3_checkIndex_8e157 lJ0_1059 rfl rfl rfl rfl rfl ?_
    refine R_pop 9 dJ0_checkIndex_df160_8 rfl rfl ?_
    refine R_return dJ0_checkIndex_df160_9 rfl ?_
    exact ⟨rfl, rfl⟩
def sJ1_charAt_3b067 (j : Nat) (x : Int32) : Int32 := ((((zBy.getD j []).getD x.toNatClampNeg 0) &&& 255).toUInt32 % 65536).toInt32
set_option maxRecDepth 20000 in
theorem eJ1_charAt_3b067 {G : zG} {h : zH} {j : Nat} {x : Int32} (hj : j < 10) (h0 : ¬ x < 0) (h1 : x < Int32.ofNat (zLn.getD j 0)) : EvF G mJ1_charAt_3b067 [.ref (2000 + j), .int x] h (some (.int (sJ1_charAt_3b067 j x))) h := by
  generalize hs : (sJ1_charAt_3b067 j x) = zz
  refine EvF.of pnJ1 rfl ?_
  refine R_iload_n 1 dJ1_charAt_3b067_0 rfl rfl ?_
  refine R_aload_n 2 dJ1_charAt_3b067_1 rfl rfl ?_
  refine R_blen 3 (i := j) dJ1_charAt_3b067_2 rfl hj ?_
  refine R_callSv 6 (eJ0_checkIndex_df160 h0 h1) dJ1_charAt_3b067_3 rfl kJ0_checkIndex_df160 lJ1_9 rfl rfl rfl rfl rfl ?_
  refine R_aload_n 7 dJ1_charAt_3b067_6 rfl rfl ?_
  refine R_iload_n 8 dJ1_charAt_3b067_7 rfl rfl ?_
  refine R_bro 9 (i := j) dJ1_charAt_3b067_8 rfl hj (vinL hj h0 h1) ?_
  refine R_sipush 12 dJ1_charAt_3b067_9 rfl (v := 255) (by decide) ?_
  refine R_iand 13 dJ1_charAt_3b067_12 rfl ?_
  refine R_i2c 14 dJ1_charAt_3b067_13 rfl ?_
  refine R_ireturn dJ1_charAt_3b067_14 rfl (pk_nc _) ?_
  have e : zz = ((((zBy.getD j []).getD x.toNatClampNeg 0) &&& 255).toUInt32 % 65536).toInt32 := by rw [← hs]; unfold sJ1_charAt_3b067; rfl
  subst e; exact ⟨rfl, rfl⟩
def sJ0_charAt_5068e (j : Nat) (x : Int32) : Int32 := (sJ1_charAt_3b067 j x)
set_option maxRecDepth 20000 in
theorem eJ0_charAt_5068e {G : zG} {h : zH} {j : Nat} {x : Int32} (hj : j < 10) (h0 : ¬ x < 0) (h1 : x < Int32.ofNat (zLn.getD j 0)) : EvF G mJ0_charAt_5068e [.ref (1000 + j), .int x] h (some (.int (sJ0_charAt_5068e j x))) h := by
  generalize hs : (sJ0_charAt_5068e j x) = zz
  refine EvF.of pnJ0 rfl ?_
  refine R_aload_n 1 dJ0_charAt_5068e_0 rfl rfl ?_
  refine R_callTi 4 (eJ0_isLatin1_aae02 (j := j) hj) dJ0_charAt_5068e_1 rfl kJ0_isLatin1_aae02 lJ0_492 rfl rfl rfl rfl rfl (j := j) rfl hj rfl ?_
  refine R_top (y := 1) (by decide) ?_
  refine R_if_eq 7 16 dJ0_charAt_5068e_4 rfl (by decide) (fun c => absurd c (by decide)) (fun _ => ?_)
  refine R_aload_n 8 dJ0_charAt_5068e_7 rfl rfl ?_
  refine R_tval 11 (i := j) dJ0_charAt_5068e_8 rfl hj sJ0_9 ?_
  refine R_iload_n 12 dJ0_charAt_5068e_11 rfl rfl ?_
  refine R_callSi 15 (eJ1_charAt_3b067 hj h0 h1) dJ0_charAt_5068e_12 rfl kJ1_charAt_3b067 lJ0_495 rfl rfl rfl rfl rfl ?_
  refine R_ireturn dJ0_charAt_5068e_15 rfl (pk_nc _) ?_
  have e : zz = (sJ1_charAt_3b067 j x) := by rw [← hs]; unfold sJ0_charAt_5068e; rfl
  subst e; exact ⟨rfl, rfl⟩
def sJ1_canEncode_9a6ad (c : Int32) : Bool := if c < 0 then false else (!decide (255 < c))
set_option maxRecDepth 20000 in
theorem eJ1_canEncode_9a6ad {G : zG} {h : zH} {c : Int32} : EvF G mJ1_canEncode_9a6ad [.int c] h (some (.int (b2i (sJ1_canEncode_9a6ad c)))) h := by
  generalize hs : (sJ1_canEncode_9a6ad c) = zz
  refine EvF.of pnJ1 rfl ?_
  refine R_iload_n 1 dJ1_canEncode_9a6ad_0 rfl rfl ?_
  refine R_if_lt 4 15 dJ1_canEncode_9a6ad_1 rfl (by decide) (fun c1 => ?_) (fun c1 => ?_)
  ·
    refine R_iconst 16 dJ1_canEncode_9a6ad_15 rfl (v := 0) (by decide) ?_
    refine R_ireturn dJ1_canEncode_9a6ad_16 rfl (by decide) ?_
    have e : zz = false := by rw [← hs]; unfold sJ1_canEncode_9a6ad; rw [if_pos c1]
    subst e; exact ⟨rfl, rfl⟩
  ·
    refine R_iload_n 5 dJ1_canEncode_9a6ad_4 rfl rfl ?_
    refine R_sipush 8 dJ1_canEncode_9a6ad_5 rfl (v := 255) (by decide) ?_
    refine R_cut 16 [(0, .int c)] (.int (b2i (!decide (255 < c))) :: []) h ?_ (fun kj => ?_)
    ·
      refine R_ireturn dJ1_canEncode_9a6ad_16 rfl (nar_b _) ?_
      have e : zz = (!decide (255 < c)) := by rw [← hs]; unfold sJ1_canEncode_9a6ad; rw [if_neg c1]
      subst e; exact ⟨rfl, rfl⟩
    refine R_icmp_gt 11 15 dJ1_canEncode_9a6ad_8 rfl (by decide) (fun c2 => ?_) (fun c2 => ?_)
    · refine R_iconst 16 dJ1_canEncode_9a6ad_15 rfl (v := 0) (by decide) ?_
      rw [b2i_np c2] at kj; exact kj
    · refine R_iconst 12 dJ1_canEncode_9a6ad_11 rfl (v := 1) (by decide) ?_
      refine R_goto 16 dJ1_canEncode_9a6ad_12 (by decide) ?_
      rw [b2i_nn c2] at kj; exact kj
def ioc1 (c : Int32) : Int32 := if 112 = c.toInt8.toInt32 then 0 else if 100 = c.toInt8.toInt32 then 1 else if 102 = c.toInt8.toInt32 then 2 else if 109 = c.toInt8.toInt32 then 3 else if 99 = c.toInt8.toInt32 then 4 else (-1)
set_option maxRecDepth 20000 in
theorem eJ1_indexOfChar_4cfef_1 {G : zG} {h : zH} {c : Int32} : EvF G mJ1_indexOfChar_4cfef [.ref 2001, .int c, .int 0, .int 5] h (some (.int (ioc1 c))) h := by
  generalize hs : (ioc1 c) = zz
  refine EvF.of pnJ1 rfl ?_
  refine R_iload_n 1 dJ1_indexOfChar_4cfef_0 rfl rfl ?_
  refine R_i2b 2 dJ1_indexOfChar_4cfef_1 rfl ?_
  refine R_istore 4 dJ1_indexOfChar_4cfef_2 rfl rfl (by decide) (loc' := [(0, .ref 2001), (1, .int c), (2, .int 0), (3, .int 5), (4, .int c.toInt8.toInt32)]) rfl ?_
  refine R_iload_n 5 dJ1_indexOfChar_4cfef_4 rfl rfl ?_
  refine R_istore 7 dJ1_indexOfChar_4cfef_5 rfl rfl (by decide) (loc' := [(0, .ref 2001), (1, .int c), (2, .int 0), (3, .int 5), (4, .int c.toInt8.toInt32), (5, .int 0)]) rfl ?_
  refine R_iload 9 dJ1_indexOfChar_4cfef_7 rfl rfl ?_
  refine R_iload_n 10 dJ1_indexOfChar_4cfef_9 rfl rfl ?_
  refine R_icmp_ge 13 31 dJ1_indexOfChar_4cfef_10 rfl (by decide) (fun c => absurd c (by decide)) (fun _ => ?_)
  refine R_aload_n 14 dJ1_indexOfChar_4cfef_13 rfl rfl ?_
  refine R_iload 16 dJ1_indexOfChar_4cfef_14 rfl rfl ?_
  refine R_bro 17 (i := 1) dJ1_indexOfChar_4cfef_16 rfl (by decide) (vin_d (by decide)) ?_
  refine R_top (y := 112) (by decide) ?_
  refine R_iload 19 dJ1_indexOfChar_4cfef_17 rfl rfl ?_
  refine R_icmp_ne 22 25 dJ1_indexOfChar_4cfef_19 rfl (by decide) (fun c1 => ?_) (fun c1 => ?_)
  ·
    refine R_iinc 28 dJ1_indexOfChar_4cfef_25 rfl rfl (v := 1) (by decide) rfl (by decide) (loc' := [(0, .ref 2001), (1, .int c), (2, .int 0), (3, .int 5), (4, .int c.toInt8.toInt32), (5, .int 1)]) rfl ?_
    refine R_goto 7 dJ1_indexOfChar_4cfef_28 (by decide) ?_
    refine R_iload 9 dJ1_indexOfChar_4cfef_7 rfl rfl ?_
    refine R_iload_n 10 dJ1_indexOfChar_4cfef_9 rfl rfl ?_
    refine R_icmp_ge 13 31 dJ1_indexOfChar_4cfef_10 rfl (by decide) (fun c => absurd c (by decide)) (fun _ => ?_)
    refine R_aload_n 14 dJ1_indexOfChar_4cfef_13 rfl rfl ?_
    refine R_iload 16 dJ1_indexOfChar_4cfef_14 rfl rfl ?_
    refine R_bro 17 (i := 1) dJ1_indexOfChar_4cfef_16 rfl (by decide) (vin_d (by decide)) ?_
    refine R_top (y := 100) (by decide) ?_
    refine R_iload 19 dJ1_indexOfChar_4cfef_17 rfl rfl ?_
    refine R_icmp_ne 22 25 dJ1_indexOfChar_4cfef_19 rfl (by decide) (fun c2 => ?_) (fun c2 => ?_)
    ·
      refine R_iinc 28 dJ1_indexOfChar_4cfef_25 rfl rfl (v := 2) (by decide) rfl (by decide) (loc' := [(0, .ref 2001), (1, .int c), (2, .int 0), (3, .int 5), (4, .int c.toInt8.toInt32), (5, .int 2)]) rfl ?_
      refine R_goto 7 dJ1_indexOfChar_4cfef_28 (by decide) ?_
      refine R_iload 9 dJ1_indexOfChar_4cfef_7 rfl rfl ?_
      refine R_iload_n 10 dJ1_indexOfChar_4cfef_9 rfl rfl ?_
      refine R_icmp_ge 13 31 dJ1_indexOfChar_4cfef_10 rfl (by decide) (fun c => absurd c (by decide)) (fun _ => ?_)
      refine R_aload_n 14 dJ1_indexOfChar_4cfef_13 rfl rfl ?_
      refine R_iload 16 dJ1_indexOfChar_4cfef_14 rfl rfl ?_
      refine R_bro 17 (i := 1) dJ1_indexOfChar_4cfef_16 rfl (by decide) (vin_d (by decide)) ?_
      refine R_top (y := 102) (by decide) ?_
      refine R_iload 19 dJ1_indexOfChar_4cfef_17 rfl rfl ?_
      refine R_icmp_ne 22 25 dJ1_indexOfChar_4cfef_19 rfl (by decide) (fun c3 => ?_) (fun c3 => ?_)
      ·
        refine R_iinc 28 dJ1_indexOfChar_4cfef_25 rfl rfl (v := 3) (by decide) rfl (by decide) (loc' := [(0, .ref 2001), (1, .int c), (2, .int 0), (3, .int 5), (4, .int c.toInt8.toInt32), (5, .int 3)]) rfl ?_
        refine R_goto 7 dJ1_indexOfChar_4cfef_28 (by decide) ?_
        refine R_iload 9 dJ1_indexOfChar_4cfef_7 rfl rfl ?_
        refine R_iload_n 10 dJ1_indexOfChar_4cfef_9 rfl rfl ?_
        refine R_icmp_ge 13 31 dJ1_indexOfChar_4cfef_10 rfl (by decide) (fun c => absurd c (by decide)) (fun _ => ?_)
        refine R_aload_n 14 dJ1_indexOfChar_4cfef_13 rfl rfl ?_
        refine R_iload 16 dJ1_indexOfChar_4cfef_14 rfl rfl ?_
        refine R_bro 17 (i := 1) dJ1_indexOfChar_4cfef_16 rfl (by decide) (vin_d (by decide)) ?_
        refine R_top (y := 109) (by decide) ?_
        refine R_iload 19 dJ1_indexOfChar_4cfef_17 rfl rfl ?_
        refine R_icmp_ne 22 25 dJ1_indexOfChar_4cfef_19 rfl (by decide) (fun c4 => ?_) (fun c4 => ?_)
        ·
          refine R_iinc 28 dJ1_indexOfChar_4cfef_25 rfl rfl (v := 4) (by decide) rfl (by decide) (loc' := [(0, .ref 2001), (1, .int c), (2, .int 0), (3, .int 5), (4, .int c.toInt8.toInt32), (5, .int 4)]) rfl ?_
          refine R_goto 7 dJ1_indexOfChar_4cfef_28 (by decide) ?_
          refine R_iload 9 dJ1_indexOfChar_4cfef_7 rfl rfl ?_
          refine R_iload_n 10 dJ1_indexOfChar_4cfef_9 rfl rfl ?_
          refine R_icmp_ge 13 31 dJ1_indexOfChar_4cfef_10 rfl (by decide) (fun c => absurd c (by decide)) (fun _ => ?_)
          refine R_aload_n 14 dJ1_indexOfChar_4cfef_13 rfl rfl ?_
          refine R_iload 16 dJ1_indexOfChar_4cfef_14 rfl rfl ?_
          refine R_bro 17 (i := 1) dJ1_indexOfChar_4cfef_16 rfl (by decide) (vin_d (by decide)) ?_
          refine R_top (y := 99) (by decide) ?_
          refine R_iload 19 dJ1_indexOfChar_4cfef_17 rfl rfl ?_
          refine R_icmp_ne 22 25 dJ1_indexOfChar_4cfef_19 rfl (by decide) (fun c5 => ?_) (fun c5 => ?_)
          ·
            refine R_iinc 28 dJ1_indexOfChar_4cfef_25 rfl rfl (v := 5) (by decide) rfl (by decide) (loc' := [(0, .ref 2001), (1, .int c), (2, .int 0), (3, .int 5), (4, .int c.toInt8.toInt32), (5, .int 5)]) rfl ?_
            refine R_goto 7 dJ1_indexOfChar_4cfef_28 (by decide) ?_
            refine R_iload 9 dJ1_indexOfChar_4cfef_7 rfl rfl ?_
            refine R_iload_n 10 dJ1_indexOfChar_4cfef_9 rfl rfl ?_
            refine R_icmp_ge 13 31 dJ1_indexOfChar_4cfef_10 rfl (by decide) (fun _ => ?_) (fun c => absurd c (by decide))
            refine R_iconst 32 dJ1_indexOfChar_4cfef_31 rfl (v := (-1)) (by decide) ?_
            refine R_ireturn dJ1_indexOfChar_4cfef_32 rfl rfl ?_
            have e : zz = (-1) := by rw [← hs]; unfold ioc1; rw [if_neg c1, if_neg c2, if_neg c3, if_neg c4, if_neg c5]
            subst e; exact ⟨rfl, rfl⟩
          ·
            refine R_iload 24 dJ1_indexOfChar_4cfef_22 rfl rfl ?_
            refine R_ireturn dJ1_indexOfChar_4cfef_24 rfl rfl ?_
            have e : zz = 4 := by rw [← hs]; unfold ioc1; rw [if_neg c1, if_neg c2, if_neg c3, if_neg c4, if_pos c5]
            subst e; exact ⟨rfl, rfl⟩
        ·
          refine R_iload 24 dJ1_indexOfChar_4cfef_22 rfl rfl ?_
          refine R_ireturn dJ1_indexOfChar_4cfef_24 rfl rfl ?_
          have e : zz = 3 := by rw [← hs]; unfold ioc1; rw [if_neg c1, if_neg c2, if_neg c3, if_pos c4]
          subst e; exact ⟨rfl, rfl⟩
      ·
        refine R_iload 24 dJ1_indexOfChar_4cfef_22 rfl rfl ?_
        refine R_ireturn dJ1_indexOfChar_4cfef_24 rfl rfl ?_
        have e : zz = 2 := by rw [← hs]; unfold ioc1; rw [if_neg c1, if_neg c2, if_pos c3]
        subst e; exact ⟨rfl, rfl⟩
    ·
      refine R_iload 24 dJ1_indexOfChar_4cfef_22 rfl rfl ?_
      refine R_ireturn dJ1_indexOfChar_4cfef_24 rfl rfl ?_
      have e : zz = 1 := by rw [← hs]; unfold ioc1; rw [if_neg c1, if_pos c2]
      subst e; exact ⟨rfl, rfl⟩
  ·
    refine R_iload 24 dJ1_indexOfChar_4cfef_22 rfl rfl ?_
    refine R_ireturn dJ1_indexOfChar_4cfef_24 rfl rfl ?_
    have e : zz = 0 := by rw [← hs]; unfold ioc1; rw [if_pos c1]
    subst e; exact ⟨rfl, rfl⟩
def io41 (c : Int32) : Int32 := if (sJ1_canEncode_9a6ad c) = true then (ioc1 c) else (-1)
set_option maxRecDepth 20000 in
theorem eJ1_indexOf_4cfef_1 {G : zG} {h : zH} {c : Int32} : EvF G mJ1_indexOf_4cfef [.ref 2001, .int c, .int 0, .int 5] h (some (.int (io41 c))) h := by
  generalize hs : (io41 c) = zz
  refine EvF.of pnJ1 rfl ?_
  refine R_iload_n 1 dJ1_indexOf_4cfef_0 rfl rfl ?_
  refine R_callSi 4 eJ1_canEncode_9a6ad dJ1_indexOf_4cfef_1 rfl kJ1_canEncode_9a6ad lJ1_88 rfl rfl rfl rfl rfl ?_
  refine R_ifb_ne 7 9 dJ1_indexOf_4cfef_4 rfl (by decide) (fun c1 => ?_) (fun c1 => ?_)
  ·
    refine R_iload_n 10 dJ1_indexOf_4cfef_9 rfl rfl ?_
    refine R_iconst 11 dJ1_indexOf_4cfef_10 rfl (v := 0) (by decide) ?_
    refine R_mmax 14 dJ1_indexOf_4cfef_11 rfl lmJ1_92 mw_max rfl rfl rfl ?_
    refine R_top (y := 0) (by decide) ?_
    refine R_istore_n 15 dJ1_indexOf_4cfef_14 rfl rfl (by decide) (loc' := [(0, .ref 2001), (1, .int c), (2, .int 0), (3, .int 5)]) rfl ?_
    refine R_iload_n 16 dJ1_indexOf_4cfef_15 rfl rfl ?_
    refine R_aload_n 17 dJ1_indexOf_4cfef_16 rfl rfl ?_
    refine R_blen 18 (i := 1) dJ1_indexOf_4cfef_17 rfl (by decide) ?_
    refine R_top (y := 5) (by decide) ?_
    refine R_mmin 21 dJ1_indexOf_4cfef_18 rfl lmJ1_38 mw_min rfl rfl rfl ?_
    refine R_top (y := 5) (by decide) ?_
    refine R_istore_n 22 dJ1_indexOf_4cfef_21 rfl rfl (by decide) (loc' := [(0, .ref 2001), (1, .int c), (2, .int 0), (3, .int 5)]) rfl ?_
    refine R_iload_n 23 dJ1_indexOf_4cfef_22 rfl rfl ?_
    refine R_iload_n 24 dJ1_indexOf_4cfef_23 rfl rfl ?_
    refine R_icmp_lt 27 29 dJ1_indexOf_4cfef_24 rfl (by decide) (fun _ => ?_) (fun c => absurd c (by decide))
    refine R_aload_n 30 dJ1_indexOf_4cfef_29 rfl rfl ?_
    refine R_iload_n 31 dJ1_indexOf_4cfef_30 rfl rfl ?_
    refine R_iload_n 32 dJ1_indexOf_4cfef_31 rfl rfl ?_
    refine R_iload_n 33 dJ1_indexOf_4cfef_32 rfl rfl ?_
    refine R_callSi 36 eJ1_indexOfChar_4cfef_1 dJ1_indexOf_4cfef_33 rfl kJ1_indexOfChar_4cfef lJ1_95 rfl rfl rfl rfl rfl ?_
    refine R_ireturn dJ1_indexOf_4cfef_36 rfl rfl ?_
    have e : zz = (ioc1 c) := by rw [← hs]; unfold io41; rw [if_pos c1]
    subst e; exact ⟨rfl, rfl⟩
  ·
    refine R_iconst 8 dJ1_indexOf_4cfef_7 rfl (v := (-1)) (by decide) ?_
    refine R_ireturn dJ1_indexOf_4cfef_8 rfl rfl ?_
    have e : zz = (-1) := by rw [← hs]; unfold io41; rw [if_neg c1]
    subst e; exact ⟨rfl, rfl⟩
def io31 (c : Int32) : Int32 := (io41 c)
set_option maxRecDepth 20000 in
theorem eJ0_indexOf_7cf53_1 {G : zG} {h : zH} {c : Int32} : EvF G mJ0_indexOf_7cf53 [.ref 1001, .int c, .int 0] h (some (.int (io31 c))) h := by
  generalize hs : (io31 c) = zz
  refine EvF.of pnJ0 rfl ?_
  refine R_aload_n 1 dJ0_indexOf_7cf53_0 rfl rfl ?_
  refine R_callTi 4 (eJ0_isLatin1_aae02 (j := 1) (by decide)) dJ0_indexOf_7cf53_1 rfl kJ0_isLatin1_aae02 lJ0_492 rfl rfl rfl rfl rfl (j := 1) rfl (by decide) rfl ?_
  refine R_top (y := 1) (by decide) ?_
  refine R_if_eq 7 23 dJ0_indexOf_7cf53_4 rfl (by decide) (fun c => absurd c (by decide)) (fun _ => ?_)
  refine R_aload_n 8 dJ0_indexOf_7cf53_7 rfl rfl ?_
  refine R_tval 11 (i := 1) dJ0_indexOf_7cf53_8 rfl (by decide) sJ0_9 ?_
  refine R_iload_n 12 dJ0_indexOf_7cf53_11 rfl rfl ?_
  refine R_iload_n 13 dJ0_indexOf_7cf53_12 rfl rfl ?_
  refine R_aload_n 14 dJ0_indexOf_7cf53_13 rfl rfl ?_
  refine R_callTi 17 (eJ0_length_8abf5 (j := 1) (by decide)) dJ0_indexOf_7cf53_14 rfl kJ0_length_8abf5 lJ0_505 rfl rfl rfl rfl rfl (j := 1) rfl (by decide) rfl ?_
  refine R_top (y := 5) (by decide) ?_
  refine R_callSi 20 eJ1_indexOf_4cfef_1 dJ0_indexOf_7cf53_17 rfl kJ1_indexOf_4cfef lJ0_637 rfl rfl rfl rfl rfl ?_
  refine R_goto 36 dJ0_indexOf_7cf53_20 (by decide) ?_
  refine R_ireturn dJ0_indexOf_7cf53_36 rfl rfl ?_
  have e : zz = (io41 c) := by rw [← hs]; unfold io31; rfl
  subst e; exact ⟨rfl, rfl⟩
def ix1 (c : Int32) : Int32 := (io31 c)
set_option maxRecDepth 20000 in
theorem eJ0_indexOf_0f7a4_1 {G : zG} {h : zH} {c : Int32} : EvF G mJ0_indexOf_0f7a4 [.ref 1001, .int c] h (some (.int (ix1 c))) h := by
  generalize hs : (ix1 c) = zz
  refine EvF.of pnJ0 rfl ?_
  refine R_aload_n 1 dJ0_indexOf_0f7a4_0 rfl rfl ?_
  refine R_iload_n 2 dJ0_indexOf_0f7a4_1 rfl rfl ?_
  refine R_iconst 3 dJ0_indexOf_0f7a4_2 rfl (v := 0) (by decide) ?_
  refine R_callTi 6 eJ0_indexOf_7cf53_1 dJ0_indexOf_0f7a4_3 rfl kJ0_indexOf_7cf53 lJ0_633 rfl rfl rfl rfl rfl (j := 1) rfl (by decide) rfl ?_
  refine R_ireturn dJ0_indexOf_0f7a4_6 rfl rfl ?_
  have e : zz = (io31 c) := by rw [← hs]; unfold ix1; rfl
  subst e; exact ⟨rfl, rfl⟩
def ioc2 (c : Int32) : Int32 := if 115 = c.toInt8.toInt32 then 0 else if 119 = c.toInt8.toInt32 then 1 else if 99 = c.toInt8.toInt32 then 2 else if 106 = c.toInt8.toInt32 then 3 else if 117 = c.toInt8.toInt32 then 4 else (-1)
set_option maxRecDepth 20000 in
theorem eJ1_indexOfChar_4cfef_2 {G : zG} {h : zH} {c : Int32} : EvF G mJ1_indexOfChar_4cfef [.ref 2002, .int c, .int 0, .int 5] h (some (.int (ioc2 c))) h := by
  generalize hs : (ioc2 c) = zz
  refine EvF.of pnJ1 rfl ?_
  refine R_iload_n 1 dJ1_indexOfChar_4cfef_0 rfl rfl ?_
  refine R_i2b 2 dJ1_indexOfChar_4cfef_1 rfl ?_
  refine R_istore 4 dJ1_indexOfChar_4cfef_2 rfl rfl (by decide) (loc' := [(0, .ref 2002), (1, .int c), (2, .int 0), (3, .int 5), (4, .int c.toInt8.toInt32)]) rfl ?_
  refine R_iload_n 5 dJ1_indexOfChar_4cfef_4 rfl rfl ?_
  refine R_istore 7 dJ1_indexOfChar_4cfef_5 rfl rfl (by decide) (loc' := [(0, .ref 2002), (1, .int c), (2, .int 0), (3, .int 5), (4, .int c.toInt8.toInt32), (5, .int 0)]) rfl ?_
  refine R_iload 9 dJ1_indexOfChar_4cfef_7 rfl rfl ?_
  refine R_iload_n 10 dJ1_indexOfChar_4cfef_9 rfl rfl ?_
  refine R_icmp_ge 13 31 dJ1_indexOfChar_4cfef_10 rfl (by decide) (fun c => absurd c (by decide)) (fun _ => ?_)
  refine R_aload_n 14 dJ1_indexOfChar_4cfef_13 rfl rfl ?_
  refine R_iload 16 dJ1_indexOfChar_4cfef_14 rfl rfl ?_
  refine R_bro 17 (i := 2) dJ1_indexOfChar_4cfef_16 rfl (by decide) (vin_d (by decide)) ?_
  refine R_top (y := 115) (by decide) ?_
  refine R_iload 19 dJ1_indexOfChar_4cfef_17 rfl rfl ?_
  refine R_icmp_ne 22 25 dJ1_indexOfChar_4cfef_19 rfl (by decide) (fun c1 => ?_) (fun c1 => ?_)
  ·
    refine R_iinc 28 dJ1_indexOfChar_4cfef_25 rfl rfl (v := 1) (by decide) rfl (by decide) (loc' := [(0, .ref 2002), (1, .int c), (2, .int 0), (3, .int 5), (4, .int c.toInt8.toInt32), (5, .int 1)]) rfl ?_
    refine R_goto 7 dJ1_indexOfChar_4cfef_28 (by decide) ?_
    refine R_iload 9 dJ1_indexOfChar_4cfef_7 rfl rfl ?_
    refine R_iload_n 10 dJ1_indexOfChar_4cfef_9 rfl rfl ?_
    refine R_icmp_ge 13 31 dJ1_indexOfChar_4cfef_10 rfl (by decide) (fun c => absurd c (by decide)) (fun _ => ?_)
    refine R_aload_n 14 dJ1_indexOfChar_4cfef_13 rfl rfl ?_
    refine R_iload 16 dJ1_indexOfChar_4cfef_14 rfl rfl ?_
    refine R_bro 17 (i := 2) dJ1_indexOfChar_4cfef_16 rfl (by decide) (vin_d (by decide)) ?_
    refine R_top (y := 119) (by decide) ?_
    refine R_iload 19 dJ1_indexOfChar_4cfef_17 rfl rfl ?_
    refine R_icmp_ne 22 25 dJ1_indexOfChar_4cfef_19 rfl (by decide) (fun c2 => ?_) (fun c2 => ?_)
    ·
      refine R_iinc 28 dJ1_indexOfChar_4cfef_25 rfl rfl (v := 2) (by decide) rfl (by decide) (loc' := [(0, .ref 2002), (1, .int c), (2, .int 0), (3, .int 5), (4, .int c.toInt8.toInt32), (5, .int 2)]) rfl ?_
      refine R_goto 7 dJ1_indexOfChar_4cfef_28 (by decide) ?_
      refine R_iload 9 dJ1_indexOfChar_4cfef_7 rfl rfl ?_
      refine R_iload_n 10 dJ1_indexOfChar_4cfef_9 rfl rfl ?_
      refine R_icmp_ge 13 31 dJ1_indexOfChar_4cfef_10 rfl (by decide) (fun c => absurd c (by decide)) (fun _ => ?_)
      refine R_aload_n 14 dJ1_indexOfChar_4cfef_13 rfl rfl ?_
      refine R_iload 16 dJ1_indexOfChar_4cfef_14 rfl rfl ?_
      refine R_bro 17 (i := 2) dJ1_indexOfChar_4cfef_16 rfl (by decide) (vin_d (by decide)) ?_
      refine R_top (y := 99) (by decide) ?_
      refine R_iload 19 dJ1_indexOfChar_4cfef_17 rfl rfl ?_
      refine R_icmp_ne 22 25 dJ1_indexOfChar_4cfef_19 rfl (by decide) (fun c3 => ?_) (fun c3 => ?_)
      ·
        refine R_iinc 28 dJ1_indexOfChar_4cfef_25 rfl rfl (v := 3) (by decide) rfl (by decide) (loc' := [(0, .ref 2002), (1, .int c), (2, .int 0), (3, .int 5), (4, .int c.toInt8.toInt32), (5, .int 3)]) rfl ?_
        refine R_goto 7 dJ1_indexOfChar_4cfef_28 (by decide) ?_
        refine R_iload 9 dJ1_indexOfChar_4cfef_7 rfl rfl ?_
        refine R_iload_n 10 dJ1_indexOfChar_4cfef_9 rfl rfl ?_
        refine R_icmp_ge 13 31 dJ1_indexOfChar_4cfef_10 rfl (by decide) (fun c => absurd c (by decide)) (fun _ => ?_)
        refine R_aload_n 14 dJ1_indexOfChar_4cfef_13 rfl rfl ?_
        refine R_iload 16 dJ1_indexOfChar_4cfef_14 rfl rfl ?_
        refine R_bro 17 (i := 2) dJ1_indexOfChar_4cfef_16 rfl (by decide) (vin_d (by decide)) ?_
        refine R_top (y := 106) (by decide) ?_
        refine R_iload 19 dJ1_indexOfChar_4cfef_17 rfl rfl ?_
        refine R_icmp_ne 22 25 dJ1_indexOfChar_4cfef_19 rfl (by decide) (fun c4 => ?_) (fun c4 => ?_)
        ·
          refine R_iinc 28 dJ1_indexOfChar_4cfef_25 rfl rfl (v := 4) (by decide) rfl (by decide) (loc' := [(0, .ref 2002), (1, .int c), (2, .int 0), (3, .int 5), (4, .int c.toInt8.toInt32), (5, .int 4)]) rfl ?_
          refine R_goto 7 dJ1_indexOfChar_4cfef_28 (by decide) ?_
          refine R_iload 9 dJ1_indexOfChar_4cfef_7 rfl rfl ?_
          refine R_iload_n 10 dJ1_indexOfChar_4cfef_9 rfl rfl ?_
          refine R_icmp_ge 13 31 dJ1_indexOfChar_4cfef_10 rfl (by decide) (fun c => absurd c (by decide)) (fun _ => ?_)
          refine R_aload_n 14 dJ1_indexOfChar_4cfef_13 rfl rfl ?_
          refine R_iload 16 dJ1_indexOfChar_4cfef_14 rfl rfl ?_
          refine R_bro 17 (i := 2) dJ1_indexOfChar_4cfef_16 rfl (by decide) (vin_d (by decide)) ?_
          refine R_top (y := 117) (by decide) ?_
          refine R_iload 19 dJ1_indexOfChar_4cfef_17 rfl rfl ?_
          refine R_icmp_ne 22 25 dJ1_indexOfChar_4cfef_19 rfl (by decide) (fun c5 => ?_) (fun c5 => ?_)
          ·
            refine R_iinc 28 dJ1_indexOfChar_4cfef_25 rfl rfl (v := 5) (by decide) rfl (by decide) (loc' := [(0, .ref 2002), (1, .int c), (2, .int 0), (3, .int 5), (4, .int c.toInt8.toInt32), (5, .int 5)]) rfl ?_
            refine R_goto 7 dJ1_indexOfChar_4cfef_28 (by decide) ?_
            refine R_iload 9 dJ1_indexOfChar_4cfef_7 rfl rfl ?_
            refine R_iload_n 10 dJ1_indexOfChar_4cfef_9 rfl rfl ?_
            refine R_icmp_ge 13 31 dJ1_indexOfChar_4cfef_10 rfl (by decide) (fun _ => ?_) (fun c => absurd c (by decide))
            refine R_iconst 32 dJ1_indexOfChar_4cfef_31 rfl (v := (-1)) (by decide) ?_
            refine R_ireturn dJ1_indexOfChar_4cfef_32 rfl rfl ?_
            have e : zz = (-1) := by rw [← hs]; unfold ioc2; rw [if_neg c1, if_neg c2, if_neg c3, if_neg c4, if_neg c5]
            subst e; exact ⟨rfl, rfl⟩
          ·
            refine R_iload 24 dJ1_indexOfChar_4cfef_22 rfl rfl ?_
            refine R_ireturn dJ1_indexOfChar_4cfef_24 rfl rfl ?_
            have e : zz = 4 := by rw [← hs]; unfold ioc2; rw [if_neg c1, if_neg c2, if_neg c3, if_neg c4, if_pos c5]
            subst e; exact ⟨rfl, rfl⟩
        ·
          refine R_iload 24 dJ1_indexOfChar_4cfef_22 rfl rfl ?_
          refine R_ireturn dJ1_indexOfChar_4cfef_24 rfl rfl ?_
          have e : zz = 3 := by rw [← hs]; unfold ioc2; rw [if_neg c1, if_neg c2, if_neg c3, if_pos c4]
          subst e; exact ⟨rfl, rfl⟩
      ·
        refine R_iload 24 dJ1_indexOfChar_4cfef_22 rfl rfl ?_
        refine R_ireturn dJ1_indexOfChar_4cfef_24 rfl rfl ?_
        have e : zz = 2 := by rw [← hs]; unfold ioc2; rw [if_neg c1, if_neg c2, if_pos c3]
        subst e; exact ⟨rfl, rfl⟩
    ·
      refine R_iload 24 dJ1_indexOfChar_4cfef_22 rfl rfl ?_
      refine R_ireturn dJ1_indexOfChar_4cfef_24 rfl rfl ?_
      have e : zz = 1 := by rw [← hs]; unfold ioc2; rw [if_neg c1, if_pos c2]
      subst e; exact ⟨rfl, rfl⟩
  ·
    refine R_iload 24 dJ1_indexOfChar_4cfef_22 rfl rfl ?_
    refine R_ireturn dJ1_indexOfChar_4cfef_24 rfl rfl ?_
    have e : zz = 0 := by rw [← hs]; unfold ioc2; rw [if_pos c1]
    subst e; exact ⟨rfl, rfl⟩
def io42 (c : Int32) : Int32 := if (sJ1_canEncode_9a6ad c) = true then (ioc2 c) else (-1)
set_option maxRecDepth 20000 in
theorem eJ1_indexOf_4cfef_2 {G : zG} {h : zH} {c : Int32} : EvF G mJ1_indexOf_4cfef [.ref 2002, .int c, .int 0, .int 5] h (some (.int (io42 c))) h := by
  generalize hs : (io42 c) = zz
  refine EvF.of pnJ1 rfl ?_
  refine R_iload_n 1 dJ1_indexOf_4cfef_0 rfl rfl ?_
  refine R_callSi 4 eJ1_canEncode_9a6ad dJ1_indexOf_4cfef_1 rfl kJ1_canEncode_9a6ad lJ1_88 rfl rfl rfl rfl rfl ?_
  refine R_ifb_ne 7 9 dJ1_indexOf_4cfef_4 rfl (by decide) (fun c1 => ?_) (fun c1 => ?_)
  ·
    refine R_iload_n 10 dJ1_indexOf_4cfef_9 rfl rfl ?_
    refine R_iconst 11 dJ1_indexOf_4cfef_10 rfl (v := 0) (by decide) ?_
    refine R_mmax 14 dJ1_indexOf_4cfef_11 rfl lmJ1_92 mw_max rfl rfl rfl ?_
    refine R_top (y := 0) (by decide) ?_
    refine R_istore_n 15 dJ1_indexOf_4cfef_14 rfl rfl (by decide) (loc' := [(0, .ref 2002), (1, .int c), (2, .int 0), (3, .int 5)]) rfl ?_
    refine R_iload_n 16 dJ1_indexOf_4cfef_15 rfl rfl ?_
    refine R_aload_n 17 dJ1_indexOf_4cfef_16 rfl rfl ?_
    refine R_blen 18 (i := 2) dJ1_indexOf_4cfef_17 rfl (by decide) ?_
    refine R_top (y := 5) (by decide) ?_
    refine R_mmin 21 dJ1_indexOf_4cfef_18 rfl lmJ1_38 mw_min rfl rfl rfl ?_
    refine R_top (y := 5) (by decide) ?_
    refine R_istore_n 22 dJ1_indexOf_4cfef_21 rfl rfl (by decide) (loc' := [(0, .ref 2002), (1, .int c), (2, .int 0), (3, .int 5)]) rfl ?_
    refine R_iload_n 23 dJ1_indexOf_4cfef_22 rfl rfl ?_
    refine R_iload_n 24 dJ1_indexOf_4cfef_23 rfl rfl ?_
    refine R_icmp_lt 27 29 dJ1_indexOf_4cfef_24 rfl (by decide) (fun _ => ?_) (fun c => absurd c (by decide))
    refine R_aload_n 30 dJ1_indexOf_4cfef_29 rfl rfl ?_
    refine R_iload_n 31 dJ1_indexOf_4cfef_30 rfl rfl ?_
    refine R_iload_n 32 dJ1_indexOf_4cfef_31 rfl rfl ?_
    refine R_iload_n 33 dJ1_indexOf_4cfef_32 rfl rfl ?_
    refine R_callSi 36 eJ1_indexOfChar_4cfef_2 dJ1_indexOf_4cfef_33 rfl kJ1_indexOfChar_4cfef lJ1_95 rfl rfl rfl rfl rfl ?_
    refine R_ireturn dJ1_indexOf_4cfef_36 rfl rfl ?_
    have e : zz = (ioc2 c) := by rw [← hs]; unfold io42; rw [if_pos c1]
    subst e; exact ⟨rfl, rfl⟩
  ·
    refine R_iconst 8 dJ1_indexOf_4cfef_7 rfl (v := (-1)) (by decide) ?_
    refine R_ireturn dJ1_indexOf_4cfef_8 rfl rfl ?_
    have e : zz = (-1) := by rw [← hs]; unfold io42; rw [if_neg c1]
    subst e; exact ⟨rfl, rfl⟩
def io32 (c : Int32) : Int32 := (io42 c)
set_option maxRecDepth 20000 in
theorem eJ0_indexOf_7cf53_2 {G : zG} {h : zH} {c : Int32} : EvF G mJ0_indexOf_7cf53 [.ref 1002, .int c, .int 0] h (some (.int (io32 c))) h := by
  generalize hs : (io32 c) = zz
  refine EvF.of pnJ0 rfl ?_
  refine R_aload_n 1 dJ0_indexOf_7cf53_0 rfl rfl ?_
  refine R_callTi 4 (eJ0_isLatin1_aae02 (j := 2) (by decide)) dJ0_indexOf_7cf53_1 rfl kJ0_isLatin1_aae02 lJ0_492 rfl rfl rfl rfl rfl (j := 2) rfl (by decide) rfl ?_
  refine R_top (y := 1) (by decide) ?_
  refine R_if_eq 7 23 dJ0_indexOf_7cf53_4 rfl (by decide) (fun c => absurd c (by decide)) (fun _ => ?_)
  refine R_aload_n 8 dJ0_indexOf_7cf53_7 rfl rfl ?_
  refine R_tval 11 (i := 2) dJ0_indexOf_7cf53_8 rfl (by decide) sJ0_9 ?_
  refine R_iload_n 12 dJ0_indexOf_7cf53_11 rfl rfl ?_
  refine R_iload_n 13 dJ0_indexOf_7cf53_12 rfl rfl ?_
  refine R_aload_n 14 dJ0_indexOf_7cf53_13 rfl rfl ?_
  refine R_callTi 17 (eJ0_length_8abf5 (j := 2) (by decide)) dJ0_indexOf_7cf53_14 rfl kJ0_length_8abf5 lJ0_505 rfl rfl rfl rfl rfl (j := 2) rfl (by decide) rfl ?_
  refine R_top (y := 5) (by decide) ?_
  refine R_callSi 20 eJ1_indexOf_4cfef_2 dJ0_indexOf_7cf53_17 rfl kJ1_indexOf_4cfef lJ0_637 rfl rfl rfl rfl rfl ?_
  refine R_goto 36 dJ0_indexOf_7cf53_20 (by decide) ?_
  refine R_ireturn dJ0_indexOf_7cf53_36 rfl rfl ?_
  have e : zz = (io42 c) := by rw [← hs]; unfold io32; rfl
  subst e; exact ⟨rfl, rfl⟩
def ix2 (c : Int32) : Int32 := (io32 c)
set_option maxRecDepth 20000 in
theorem eJ0_indexOf_0f7a4_2 {G : zG} {h : zH} {c : Int32} : EvF G mJ0_indexOf_0f7a4 [.ref 1002, .int c] h (some (.int (ix2 c))) h := by
  generalize hs : (ix2 c) = zz
  refine EvF.of pnJ0 rfl ?_
  refine R_aload_n 1 dJ0_indexOf_0f7a4_0 rfl rfl ?_
  refine R_iload_n 2 dJ0_indexOf_0f7a4_1 rfl rfl ?_
  refine R_iconst 3 dJ0_indexOf_0f7a4_2 rfl (v := 0) (by decide) ?_
  refine R_callTi 6 eJ0_indexOf_7cf53_2 dJ0_indexOf_0f7a4_3 rfl kJ0_indexOf_7cf53 lJ0_633 rfl rfl rfl rfl rfl (j := 2) rfl (by decide) rfl ?_
  refine R_ireturn dJ0_indexOf_0f7a4_6 rfl rfl ?_
  have e : zz = (io32 c) := by rw [← hs]; unfold ix2; rfl
  subst e; exact ⟨rfl, rfl⟩
def ioc3 (c : Int32) : Int32 := if 101 = c.toInt8.toInt32 then 0 else if 111 = c.toInt8.toInt32 then 1 else if 107 = c.toInt8.toInt32 then 2 else if 98 = c.toInt8.toInt32 then 3 else if 108 = c.toInt8.toInt32 then 4 else (-1)
set_option maxRecDepth 20000 in
theorem eJ1_indexOfChar_4cfef_3 {G : zG} {h : zH} {c : Int32} : EvF G mJ1_indexOfChar_4cfef [.ref 2003, .int c, .int 0, .int 5] h (some (.int (ioc3 c))) h := by
  generalize hs : (ioc3 c) = zz
  refine EvF.of pnJ1 rfl ?_
  refine R_iload_n 1 dJ1_indexOfChar_4cfef_0 rfl rfl ?_
  refine R_i2b 2 dJ1_indexOfChar_4cfef_1 rfl ?_
  refine R_istore 4 dJ1_indexOfChar_4cfef_2 rfl rfl (by decide) (loc' := [(0, .ref 2003), (1, .int c), (2, .int 0), (3, .int 5), (4, .int c.toInt8.toInt32)]) rfl ?_
  refine R_iload_n 5 dJ1_indexOfChar_4cfef_4 rfl rfl ?_
  refine R_istore 7 dJ1_indexOfChar_4cfef_5 rfl rfl (by decide) (loc' := [(0, .ref 2003), (1, .int c), (2, .int 0), (3, .int 5), (4, .int c.toInt8.toInt32), (5, .int 0)]) rfl ?_
  refine R_iload 9 dJ1_indexOfChar_4cfef_7 rfl rfl ?_
  refine R_iload_n 10 dJ1_indexOfChar_4cfef_9 rfl rfl ?_
  refine R_icmp_ge 13 31 dJ1_indexOfChar_4cfef_10 rfl (by decide) (fun c => absurd c (by decide)) (fun _ => ?_)
  refine R_aload_n 14 dJ1_indexOfChar_4cfef_13 rfl rfl ?_
  refine R_iload 16 dJ1_indexOfChar_4cfef_14 rfl rfl ?_
  refine R_bro 17 (i := 3) dJ1_indexOfChar_4cfef_16 rfl (by decide) (vin_d (by decide)) ?_
  refine R_top (y := 101) (by decide) ?_
  refine R_iload 19 dJ1_indexOfChar_4cfef_17 rfl rfl ?_
  refine R_icmp_ne 22 25 dJ1_indexOfChar_4cfef_19 rfl (by decide) (fun c1 => ?_) (fun c1 => ?_)
  ·
    refine R_iinc 28 dJ1_indexOfChar_4cfef_25 rfl rfl (v := 1) (by decide) rfl (by decide) (loc' := [(0, .ref 2003), (1, .int c), (2, .int 0), (3, .int 5), (4, .int c.toInt8.toInt32), (5, .int 1)]) rfl ?_
    refine R_goto 7 dJ1_indexOfChar_4cfef_28 (by decide) ?_
    refine R_iload 9 dJ1_indexOfChar_4cfef_7 rfl rfl ?_
    refine R_iload_n 10 dJ1_indexOfChar_4cfef_9 rfl rfl ?_
    refine R_icmp_ge 13 31 dJ1_indexOfChar_4cfef_10 rfl (by decide) (fun c => absurd c (by decide)) (fun _ => ?_)
    refine R_aload_n 14 dJ1_indexOfChar_4cfef_13 rfl rfl ?_
    refine R_iload 16 dJ1_indexOfChar_4cfef_14 rfl rfl ?_
    refine R_bro 17 (i := 3) dJ1_indexOfChar_4cfef_16 rfl (by decide) (vin_d (by decide)) ?_
    refine R_top (y := 111) (by decide) ?_
    refine R_iload 19 dJ1_indexOfChar_4cfef_17 rfl rfl ?_
    refine R_icmp_ne 22 25 dJ1_indexOfChar_4cfef_19 rfl (by decide) (fun c2 => ?_) (fun c2 => ?_)
    ·
      refine R_iinc 28 dJ1_indexOfChar_4cfef_25 rfl rfl (v := 2) (by decide) rfl (by decide) (loc' := [(0, .ref 2003), (1, .int c), (2, .int 0), (3, .int 5), (4, .int c.toInt8.toInt32), (5, .int 2)]) rfl ?_
      refine R_goto 7 dJ1_indexOfChar_4cfef_28 (by decide) ?_
      refine R_iload 9 dJ1_indexOfChar_4cfef_7 rfl rfl ?_
      refine R_iload_n 10 dJ1_indexOfChar_4cfef_9 rfl rfl ?_
      refine R_icmp_ge 13 31 dJ1_indexOfChar_4cfef_10 rfl (by decide) (fun c => absurd c (by decide)) (fun _ => ?_)
      refine R_aload_n 14 dJ1_indexOfChar_4cfef_13 rfl rfl ?_
      refine R_iload 16 dJ1_indexOfChar_4cfef_14 rfl rfl ?_
      refine R_bro 17 (i := 3) dJ1_indexOfChar_4cfef_16 rfl (by decide) (vin_d (by decide)) ?_
      refine R_top (y := 107) (by decide) ?_
      refine R_iload 19 dJ1_indexOfChar_4cfef_17 rfl rfl ?_
      refine R_icmp_ne 22 25 dJ1_indexOfChar_4cfef_19 rfl (by decide) (fun c3 => ?_) (fun c3 => ?_)
      ·
        refine R_iinc 28 dJ1_indexOfChar_4cfef_25 rfl rfl (v := 3) (by decide) rfl (by decide) (loc' := [(0, .ref 2003), (1, .int c), (2, .int 0), (3, .int 5), (4, .int c.toInt8.toInt32), (5, .int 3)]) rfl ?_
        refine R_goto 7 dJ1_indexOfChar_4cfef_28 (by decide) ?_
        refine R_iload 9 dJ1_indexOfChar_4cfef_7 rfl rfl ?_
        refine R_iload_n 10 dJ1_indexOfChar_4cfef_9 rfl rfl ?_
        refine R_icmp_ge 13 31 dJ1_indexOfChar_4cfef_10 rfl (by decide) (fun c => absurd c (by decide)) (fun _ => ?_)
        refine R_aload_n 14 dJ1_indexOfChar_4cfef_13 rfl rfl ?_
        refine R_iload 16 dJ1_indexOfChar_4cfef_14 rfl rfl ?_
        refine R_bro 17 (i := 3) dJ1_indexOfChar_4cfef_16 rfl (by decide) (vin_d (by decide)) ?_
        refine R_top (y := 98) (by decide) ?_
        refine R_iload 19 dJ1_indexOfChar_4cfef_17 rfl rfl ?_
        refine R_icmp_ne 22 25 dJ1_indexOfChar_4cfef_19 rfl (by decide) (fun c4 => ?_) (fun c4 => ?_)
        ·
          refine R_iinc 28 dJ1_indexOfChar_4cfef_25 rfl rfl (v := 4) (by decide) rfl (by decide) (loc' := [(0, .ref 2003), (1, .int c), (2, .int 0), (3, .int 5), (4, .int c.toInt8.toInt32), (5, .int 4)]) rfl ?_
          refine R_goto 7 dJ1_indexOfChar_4cfef_28 (by decide) ?_
          refine R_iload 9 dJ1_indexOfChar_4cfef_7 rfl rfl ?_
          refine R_iload_n 10 dJ1_indexOfChar_4cfef_9 rfl rfl ?_
          refine R_icmp_ge 13 31 dJ1_indexOfChar_4cfef_10 rfl (by decide) (fun c => absurd c (by decide)) (fun _ => ?_)
          refine R_aload_n 14 dJ1_indexOfChar_4cfef_13 rfl rfl ?_
          refine R_iload 16 dJ1_indexOfChar_4cfef_14 rfl rfl ?_
          refine R_bro 17 (i := 3) dJ1_indexOfChar_4cfef_16 rfl (by decide) (vin_d (by decide)) ?_
          refine R_top (y := 108) (by decide) ?_
          refine R_iload 19 dJ1_indexOfChar_4cfef_17 rfl rfl ?_
          refine R_icmp_ne 22 25 dJ1_indexOfChar_4cfef_19 rfl (by decide) (fun c5 => ?_) (fun c5 => ?_)
          ·
            refine R_iinc 28 dJ1_indexOfChar_4cfef_25 rfl rfl (v := 5) (by decide) rfl (by decide) (loc' := [(0, .ref 2003), (1, .int c), (2, .int 0), (3, .int 5), (4, .int c.toInt8.toInt32), (5, .int 5)]) rfl ?_
            refine R_goto 7 dJ1_indexOfChar_4cfef_28 (by decide) ?_
            refine R_iload 9 dJ1_indexOfChar_4cfef_7 rfl rfl ?_
            refine R_iload_n 10 dJ1_indexOfChar_4cfef_9 rfl rfl ?_
            refine R_icmp_ge 13 31 dJ1_indexOfChar_4cfef_10 rfl (by decide) (fun _ => ?_) (fun c => absurd c (by decide))
            refine R_iconst 32 dJ1_indexOfChar_4cfef_31 rfl (v := (-1)) (by decide) ?_
            refine R_ireturn dJ1_indexOfChar_4cfef_32 rfl rfl ?_
            have e : zz = (-1) := by rw [← hs]; unfold ioc3; rw [if_neg c1, if_neg c2, if_neg c3, if_neg c4, if_neg c5]
            subst e; exact ⟨rfl, rfl⟩
          ·
            refine R_iload 24 dJ1_indexOfChar_4cfef_22 rfl rfl ?_
            refine R_ireturn dJ1_indexOfChar_4cfef_24 rfl rfl ?_
            have e : zz = 4 := by rw [← hs]; unfold ioc3; rw [if_neg c1, if_neg c2, if_neg c3, if_neg c4, if_pos c5]
            subst e; exact ⟨rfl, rfl⟩
        ·
          refine R_iload 24 dJ1_indexOfChar_4cfef_22 rfl rfl ?_
          refine R_ireturn dJ1_indexOfChar_4cfef_24 rfl rfl ?_
          have e : zz = 3 := by rw [← hs]; unfold ioc3; rw [if_neg c1, if_neg c2, if_neg c3, if_pos c4]
          subst e; exact ⟨rfl, rfl⟩
      ·
        refine R_iload 24 dJ1_indexOfChar_4cfef_22 rfl rfl ?_
        refine R_ireturn dJ1_indexOfChar_4cfef_24 rfl rfl ?_
        have e : zz = 2 := by rw [← hs]; unfold ioc3; rw [if_neg c1, if_neg c2, if_pos c3]
        subst e; exact ⟨rfl, rfl⟩
    ·
      refine R_iload 24 dJ1_indexOfChar_4cfef_22 rfl rfl ?_
      refine R_ireturn dJ1_indexOfChar_4cfef_24 rfl rfl ?_
      have e : zz = 1 := by rw [← hs]; unfold ioc3; rw [if_neg c1, if_pos c2]
      subst e; exact ⟨rfl, rfl⟩
  ·
    refine R_iload 24 dJ1_indexOfChar_4cfef_22 rfl rfl ?_
    refine R_ireturn dJ1_indexOfChar_4cfef_24 rfl rfl ?_
    have e : zz = 0 := by rw [← hs]; unfold ioc3; rw [if_pos c1]
    subst e; exact ⟨rfl, rfl⟩
def io43 (c : Int32) : Int32 := if (sJ1_canEncode_9a6ad c) = true then (ioc3 c) else (-1)
set_option maxRecDepth 20000 in
theorem eJ1_indexOf_4cfef_3 {G : zG} {h : zH} {c : Int32} : EvF G mJ1_indexOf_4cfef [.ref 2003, .int c, .int 0, .int 5] h (some (.int (io43 c))) h := by
  generalize hs : (io43 c) = zz
  refine EvF.of pnJ1 rfl ?_
  refine R_iload_n 1 dJ1_indexOf_4cfef_0 rfl rfl ?_
  refine R_callSi 4 eJ1_canEncode_9a6ad dJ1_indexOf_4cfef_1 rfl kJ1_canEncode_9a6ad lJ1_88 rfl rfl rfl rfl rfl ?_
  refine R_ifb_ne 7 9 dJ1_indexOf_4cfef_4 rfl (by decide) (fun c1 => ?_) (fun c1 => ?_)
  ·
    refine R_iload_n 10 dJ1_indexOf_4cfef_9 rfl rfl ?_
    refine R_iconst 11 dJ1_indexOf_4cfef_10 rfl (v := 0) (by decide) ?_
    refine R_mmax 14 dJ1_indexOf_4cfef_11 rfl lmJ1_92 mw_max rfl rfl rfl ?_
    refine R_top (y := 0) (by decide) ?_
    refine R_istore_n 15 dJ1_indexOf_4cfef_14 rfl rfl (by decide) (loc' := [(0, .ref 2003), (1, .int c), (2, .int 0), (3, .int 5)]) rfl ?_
    refine R_iload_n 16 dJ1_indexOf_4cfef_15 rfl rfl ?_
    refine R_aload_n 17 dJ1_indexOf_4cfef_16 rfl rfl ?_
    refine R_blen 18 (i := 3) dJ1_indexOf_4cfef_17 rfl (by decide) ?_
    refine R_top (y := 5) (by decide) ?_
    refine R_mmin 21 dJ1_indexOf_4cfef_18 rfl lmJ1_38 mw_min rfl rfl rfl ?_
    refine R_top (y := 5) (by decide) ?_
    refine R_istore_n 22 dJ1_indexOf_4cfef_21 rfl rfl (by decide) (loc' := [(0, .ref 2003), (1, .int c), (2, .int 0), (3, .int 5)]) rfl ?_
    refine R_iload_n 23 dJ1_indexOf_4cfef_22 rfl rfl ?_
    refine R_iload_n 24 dJ1_indexOf_4cfef_23 rfl rfl ?_
    refine R_icmp_lt 27 29 dJ1_indexOf_4cfef_24 rfl (by decide) (fun _ => ?_) (fun c => absurd c (by decide))
    refine R_aload_n 30 dJ1_indexOf_4cfef_29 rfl rfl ?_
    refine R_iload_n 31 dJ1_indexOf_4cfef_30 rfl rfl ?_
    refine R_iload_n 32 dJ1_indexOf_4cfef_31 rfl rfl ?_
    refine R_iload_n 33 dJ1_indexOf_4cfef_32 rfl rfl ?_
    refine R_callSi 36 eJ1_indexOfChar_4cfef_3 dJ1_indexOf_4cfef_33 rfl kJ1_indexOfChar_4cfef lJ1_95 rfl rfl rfl rfl rfl ?_
    refine R_ireturn dJ1_indexOf_4cfef_36 rfl rfl ?_
    have e : zz = (ioc3 c) := by rw [← hs]; unfold io43; rw [if_pos c1]
    subst e; exact ⟨rfl, rfl⟩
  ·
    refine R_iconst 8 dJ1_indexOf_4cfef_7 rfl (v := (-1)) (by decide) ?_
    refine R_ireturn dJ1_indexOf_4cfef_8 rfl rfl ?_
    have e : zz = (-1) := by rw [← hs]; unfold io43; rw [if_neg c1]
    subst e; exact ⟨rfl, rfl⟩
def io33 (c : Int32) : Int32 := (io43 c)
set_option maxRecDepth 20000 in
theorem eJ0_indexOf_7cf53_3 {G : zG} {h : zH} {c : Int32} : EvF G mJ0_indexOf_7cf53 [.ref 1003, .int c, .int 0] h (some (.int (io33 c))) h := by
  generalize hs : (io33 c) = zz
  refine EvF.of pnJ0 rfl ?_
  refine R_aload_n 1 dJ0_indexOf_7cf53_0 rfl rfl ?_
  refine R_callTi 4 (eJ0_isLatin1_aae02 (j := 3) (by decide)) dJ0_indexOf_7cf53_1 rfl kJ0_isLatin1_aae02 lJ0_492 rfl rfl rfl rfl rfl (j := 3) rfl (by decide) rfl ?_
  refine R_top (y := 1) (by decide) ?_
  refine R_if_eq 7 23 dJ0_indexOf_7cf53_4 rfl (by decide) (fun c => absurd c (by decide)) (fun _ => ?_)
  refine R_aload_n 8 dJ0_indexOf_7cf53_7 rfl rfl ?_
  refine R_tval 11 (i := 3) dJ0_indexOf_7cf53_8 rfl (by decide) sJ0_9 ?_
  refine R_iload_n 12 dJ0_indexOf_7cf53_11 rfl rfl ?_
  refine R_iload_n 13 dJ0_indexOf_7cf53_12 rfl rfl ?_
  refine R_aload_n 14 dJ0_indexOf_7cf53_13 rfl rfl ?_
  refine R_callTi 17 (eJ0_length_8abf5 (j := 3) (by decide)) dJ0_indexOf_7cf53_14 rfl kJ0_length_8abf5 lJ0_505 rfl rfl rfl rfl rfl (j := 3) rfl (by decide) rfl ?_
  refine R_top (y := 5) (by decide) ?_
  refine R_callSi 20 eJ1_indexOf_4cfef_3 dJ0_indexOf_7cf53_17 rfl kJ1_indexOf_4cfef lJ0_637 rfl rfl rfl rfl rfl ?_
  refine R_goto 36 dJ0_indexOf_7cf53_20 (by decide) ?_
  refine R_ireturn dJ0_indexOf_7cf53_36 rfl rfl ?_
  have e : zz = (io43 c) := by rw [← hs]; unfold io33; rfl
  subst e; exact ⟨rfl, rfl⟩
def ix3 (c : Int32) : Int32 := (io33 c)
set_option maxRecDepth 20000 in
theorem eJ0_indexOf_0f7a4_3 {G : zG} {h : zH} {c : Int32} : EvF G mJ0_indexOf_0f7a4 [.ref 1003, .int c] h (some (.int (ix3 c))) h := by
  generalize hs : (ix3 c) = zz
  refine EvF.of pnJ0 rfl ?_
  refine R_aload_n 1 dJ0_indexOf_0f7a4_0 rfl rfl ?_
  refine R_iload_n 2 dJ0_indexOf_0f7a4_1 rfl rfl ?_
  refine R_iconst 3 dJ0_indexOf_0f7a4_2 rfl (v := 0) (by decide) ?_
  refine R_callTi 6 eJ0_indexOf_7cf53_3 dJ0_indexOf_0f7a4_3 rfl kJ0_indexOf_7cf53 lJ0_633 rfl rfl rfl rfl rfl (j := 3) rfl (by decide) rfl ?_
  refine R_ireturn dJ0_indexOf_0f7a4_6 rfl rfl ?_
  have e : zz = (io33 c) := by rw [← hs]; unfold ix3; rfl
  subst e; exact ⟨rfl, rfl⟩
def sX5_signAt (cf : Nat → Int32) (ca : Nat → Nat → Int32) (i0 : Int32) : Int32 := if i0 < 0 then 0 else if (cf 2) ≤ i0 then 0 else if 96 ≤ i0 then 0 else ca 33 i0.toNatClampNeg
set_option maxRecDepth 20000 in
theorem eX5_signAt_32 {G : zG} {h2 : List va_E} {n m i : zP} {cf : Nat → Int32} {ca : Nat → Nat → Int32} {i0 : Int32} (hch : zCh (ca 33)) : EvF G mX5_signAt [.ref 32, .int i0] (hC G n m i cf ca, h2) (some (.int (sX5_signAt cf ca i0))) (hC G n m i cf ca, h2) := by
  generalize hs : (sX5_signAt cf ca i0) = zz
  refine EvF.of pnX5 rfl ?_
  refine R_iload_n 1 dX5_signAt_0 rfl rfl ?_
  refine R_if_lt 4 27 dX5_signAt_1 rfl (by decide) (fun c1 => ?_) (fun c1 => ?_)
  ·
    refine R_iconst 28 dX5_signAt_27 rfl (v := 0) (by decide) ?_
    refine R_ireturn dX5_signAt_28 rfl (by decide) ?_
    have e : zz = 0 := by rw [← hs]; unfold sX5_signAt; rw [if_pos c1]
    subst e; exact ⟨rfl, rfl⟩
  ·
    refine R_iload_n 5 dX5_signAt_4 rfl rfl ?_
    refine R_aload_n 6 dX5_signAt_5 rfl rfl ?_
    refine R_get 9 dX5_signAt_6 rfl fX5_15 rfl (v := .int (cf 2)) rfl ?_
    refine R_icmp_ge 12 27 dX5_signAt_9 rfl (by decide) (fun c2 => ?_) (fun c2 => ?_)
    ·
      refine R_iconst 28 dX5_signAt_27 rfl (v := 0) (by decide) ?_
      refine R_ireturn dX5_signAt_28 rfl (by decide) ?_
      have e : zz = 0 := by rw [← hs]; unfold sX5_signAt; rw [if_neg c1, if_pos c2]
      subst e; exact ⟨rfl, rfl⟩
    ·
      refine R_iload_n 13 dX5_signAt_12 rfl rfl ?_
      refine R_bipush 15 dX5_signAt_13 rfl (v := 96) (by decide) ?_
      refine R_icmp_ge 18 27 dX5_signAt_15 rfl (by decide) (fun c3 => ?_) (fun c3 => ?_)
      ·
        refine R_iconst 28 dX5_signAt_27 rfl (v := 0) (by decide) ?_
        refine R_ireturn dX5_signAt_28 rfl (by decide) ?_
        have e : zz = 0 := by rw [← hs]; unfold sX5_signAt; rw [if_neg c1, if_neg c2, if_pos c3]
        subst e; exact ⟨rfl, rfl⟩
      ·
        refine R_aload_n 19 dX5_signAt_18 rfl rfl ?_
        refine R_get 22 dX5_signAt_19 rfl fX5_9 rfl (v := .ref 33) rfl ?_
        refine R_iload_n 23 dX5_signAt_22 rfl rfl ?_
        refine R_cald 24 dX5_signAt_23 rfl rfl rfl (vin96 (vlo1 c1) c3) ?_
        refine R_goto 28 dX5_signAt_24 (by decide) ?_
        refine R_ireturn dX5_signAt_28 rfl (hch _) ?_
        have e : zz = ca 33 i0.toNatClampNeg := by rw [← hs]; unfold sX5_signAt; rw [if_neg c1, if_neg c2, if_neg c3]
        subst e; exact ⟨rfl, rfl⟩
def sX5_digitAt (cf : Nat → Int32) (ca : Nat → Nat → Int32) (i0 : Int32) : Int32 := (sX5_signAt cf ca i0) - 48
set_option maxRecDepth 20000 in
theorem eX5_digitAt_32 {G : zG} {h2 : List va_E} {n m i : zP} {cf : Nat → Int32} {ca : Nat → Nat → Int32} {i0 : Int32} (hch : zCh (ca 33)) : EvF G mX5_digitAt [.ref 32, .int i0] (hC G n m i cf ca, h2) (some (.int (sX5_digitAt cf ca i0))) (hC G n m i cf ca, h2) := by
  generalize hs : (sX5_digitAt cf ca i0) = zz
  refine EvF.of pnX5 rfl ?_
  refine R_aload_n 1 dX5_digitAt_0 rfl rfl ?_
  refine R_iload_n 2 dX5_digitAt_1 rfl rfl ?_
  refine R_callVi 5 (eX5_signAt_32 hch) dX5_digitAt_2 rfl kX5_signAt lX5_19 rfl rfl rfl rfl rfl rfl rfl ?_
  refine R_bipush 7 dX5_digitAt_5 rfl (v := 48) (by decide) ?_
  refine R_isub 8 dX5_digitAt_7 rfl ?_
  refine R_ireturn dX5_digitAt_8 rfl rfl ?_
  have e : zz = (sX5_signAt cf ca i0) - 48 := by rw [← hs]; unfold sX5_digitAt; rfl
  subst e; exact ⟨rfl, rfl⟩
def sX5_numberAt (cf : Nat → Int32) (ca : Nat → Nat → Int32) (i0 : Int32) : Int32 := (10 * (sX5_digitAt cf ca i0)) + (sX5_digitAt cf ca (i0 + 1))
set_option maxRecDepth 20000 in
theorem eX5_numberAt_32 {G : zG} {h2 : List va_E} {n m i : zP} {cf : Nat → Int32} {ca : Nat → Nat → Int32} {i0 : Int32} (hch : zCh (ca 33)) : EvF G mX5_numberAt [.ref 32, .int i0] (hC G n m i cf ca, h2) (some (.int (sX5_numberAt cf ca i0))) (hC G n m i cf ca, h2) := by
  generalize hs : (sX5_numberAt cf ca i0) = zz
  refine EvF.of pnX5 rfl ?_
  refine R_bipush 2 dX5_numberAt_0 rfl (v := 10) (by decide) ?_
  refine R_aload_n 3 dX5_numberAt_2 rfl rfl ?_
  refine R_iload_n 4 dX5_numberAt_3 rfl rfl ?_
  refine R_callVi 7 (eX5_digitAt_32 hch) dX5_numberAt_4 rfl kX5_digitAt lX5_93 rfl rfl rfl rfl rfl rfl rfl ?_
  refine R_imul 8 dX5_numberAt_7 rfl ?_
  refine R_aload_n 9 dX5_numberAt_8 rfl rfl ?_
  refine R_iload_n 10 dX5_numberAt_9 rfl rfl ?_
  refine R_iconst 11 dX5_numberAt_10 rfl (v := 1) (by decide) ?_
  refine R_iadd 12 dX5_numberAt_11 rfl ?_
  refine R_callVi 15 (eX5_digitAt_32 hch) dX5_numberAt_12 rfl kX5_digitAt lX5_93 rfl rfl rfl rfl rfl rfl rfl ?_
  refine R_iadd 16 dX5_numberAt_15 rfl ?_
  refine R_ireturn dX5_numberAt_16 rfl rfl ?_
  have e : zz = (10 * (sX5_digitAt cf ca i0)) + (sX5_digitAt cf ca (i0 + 1)) := by rw [← hs]; unfold sX5_numberAt; rfl
  subst e; exact ⟨rfl, rfl⟩
def sX5_signedAt (cf : Nat → Int32) (ca : Nat → Nat → Int32) (i0 : Int32) (mu : Int32) : Int32 := if (sX5_signAt cf ca i0) = 45 then -mu else mu
set_option maxRecDepth 20000 in
theorem eX5_signedAt_32 {G : zG} {h2 : List va_E} {n m i : zP} {cf : Nat → Int32} {ca : Nat → Nat → Int32} {i0 mu : Int32} (hch : zCh (ca 33)) : EvF G mX5_signedAt [.ref 32, .int i0, .int mu] (hC G n m i cf ca, h2) (some (.int (sX5_signedAt cf ca i0 mu))) (hC G n m i cf ca, h2) := by
  generalize hs : (sX5_signedAt cf ca i0 mu) = zz
  refine EvF.of pnX5 rfl ?_
  refine R_aload_n 1 dX5_signedAt_0 rfl rfl ?_
  refine R_iload_n 2 dX5_signedAt_1 rfl rfl ?_
  refine R_callVi 5 (eX5_signAt_32 hch) dX5_signedAt_2 rfl kX5_signAt lX5_19 rfl rfl rfl rfl rfl rfl rfl ?_
  refine R_bipush 7 dX5_signedAt_5 rfl (v := 45) (by decide) ?_
  refine R_cut 16 [(0, .ref 32), (1, .int i0), (2, .int mu)] (.int (if (sX5_signAt cf ca i0) = 45 then -mu else mu) :: []) (hC G n m i cf ca, h2) ?_ (fun kj => ?_)
  ·
    refine R_ireturn dX5_signedAt_16 rfl rfl ?_
    have e : zz = if (sX5_signAt cf ca i0) = 45 then -mu else mu := by rw [← hs]; unfold sX5_signedAt; rfl
    subst e; exact ⟨rfl, rfl⟩
  refine R_icmp_ne 10 15 dX5_signedAt_7 rfl (by decide) (fun c1 => ?_) (fun c1 => ?_)
  · refine R_iload_n 16 dX5_signedAt_15 rfl rfl ?_
    rw [if_neg c1] at kj; exact kj
  · refine R_iload_n 11 dX5_signedAt_10 rfl rfl ?_
    refine R_ineg 12 dX5_signedAt_11 rfl ?_
    refine R_goto 16 dX5_signedAt_12 (by decide) ?_
    rw [if_pos c1] at kj; exact kj
def sX5_kindAt_1 (cf : Nat → Int32) (ca : Nat → Nat → Int32) (i0 : Int32) : Int32 := (ix1 (sX5_signAt cf ca i0))
set_option maxRecDepth 20000 in
theorem eX5_kindAt_1 {G : zG} {h2 : List va_E} {n m i : zP} {cf : Nat → Int32} {ca : Nat → Nat → Int32} {i0 : Int32} (hch : zCh (ca 33)) : EvF G mX5_kindAt [.ref 32, .ref 1001, .int i0] (hC G n m i cf ca, h2) (some (.int (sX5_kindAt_1 cf ca i0))) (hC G n m i cf ca, h2) := by
  generalize hs : (sX5_kindAt_1 cf ca i0) = zz
  refine EvF.of pnX5 rfl ?_
  refine R_aload_n 1 dX5_kindAt_0 rfl rfl ?_
  refine R_aload_n 2 dX5_kindAt_1 rfl rfl ?_
  refine R_iload_n 3 dX5_kindAt_2 rfl rfl ?_
  refine R_callVi 6 (eX5_signAt_32 hch) dX5_kindAt_3 rfl kX5_signAt lX5_19 rfl rfl rfl rfl rfl rfl rfl ?_
  refine R_callTi 9 eJ0_indexOf_0f7a4_1 dX5_kindAt_6 rfl kJ0_indexOf_0f7a4 lX5_169 rfl rfl rfl rfl rfl (j := 1) rfl (by decide) rfl ?_
  refine R_ireturn dX5_kindAt_9 rfl rfl ?_
  have e : zz = (ix1 (sX5_signAt cf ca i0)) := by rw [← hs]; unfold sX5_kindAt_1; rfl
  subst e; exact ⟨rfl, rfl⟩
def sX5_kindAt_2 (cf : Nat → Int32) (ca : Nat → Nat → Int32) (i0 : Int32) : Int32 := (ix2 (sX5_signAt cf ca i0))
set_option maxRecDepth 20000 in
theorem eX5_kindAt_2 {G : zG} {h2 : List va_E} {n m i : zP} {cf : Nat → Int32} {ca : Nat → Nat → Int32} {i0 : Int32} (hch : zCh (ca 33)) : EvF G mX5_kindAt [.ref 32, .ref 1002, .int i0] (hC G n m i cf ca, h2) (some (.int (sX5_kindAt_2 cf ca i0))) (hC G n m i cf ca, h2) := by
  generalize hs : (sX5_kindAt_2 cf ca i0) = zz
  refine EvF.of pnX5 rfl ?_
  refine R_aload_n 1 dX5_kindAt_0 rfl rfl ?_
  refine R_aload_n 2 dX5_kindAt_1 rfl rfl ?_
  refine R_iload_n 3 dX5_kindAt_2 rfl rfl ?_
  refine R_callVi 6 (eX5_signAt_32 hch) dX5_kindAt_3 rfl kX5_signAt lX5_19 rfl rfl rfl rfl rfl rfl rfl ?_
  refine R_callTi 9 eJ0_indexOf_0f7a4_2 dX5_kindAt_6 rfl kJ0_indexOf_0f7a4 lX5_169 rfl rfl rfl rfl rfl (j := 2) rfl (by decide) rfl ?_
  refine R_ireturn dX5_kindAt_9 rfl rfl ?_
  have e : zz = (ix2 (sX5_signAt cf ca i0)) := by rw [← hs]; unfold sX5_kindAt_2; rfl
  subst e; exact ⟨rfl, rfl⟩
def sX5_kindAt_3 (cf : Nat → Int32) (ca : Nat → Nat → Int32) (i0 : Int32) : Int32 := (ix3 (sX5_signAt cf ca i0))
set_option maxRecDepth 20000 in
theorem eX5_kindAt_3 {G : zG} {h2 : List va_E} {n m i : zP} {cf : Nat → Int32} {ca : Nat → Nat → Int32} {i0 : Int32} (hch : zCh (ca 33)) : EvF G mX5_kindAt [.ref 32, .ref 1003, .int i0] (hC G n m i cf ca, h2) (some (.int (sX5_kindAt_3 cf ca i0))) (hC G n m i cf ca, h2) := by
  generalize hs : (sX5_kindAt_3 cf ca i0) = zz
  refine EvF.of pnX5 rfl ?_
  refine R_aload_n 1 dX5_kindAt_0 rfl rfl ?_
  refine R_aload_n 2 dX5_kindAt_1 rfl rfl ?_
  refine R_iload_n 3 dX5_kindAt_2 rfl rfl ?_
  refine R_callVi 6 (eX5_signAt_32 hch) dX5_kindAt_3 rfl kX5_signAt lX5_19 rfl rfl rfl rfl rfl rfl rfl ?_
  refine R_callTi 9 eJ0_indexOf_0f7a4_3 dX5_kindAt_6 rfl kJ0_indexOf_0f7a4 lX5_169 rfl rfl rfl rfl rfl (j := 3) rfl (by decide) rfl ?_
  refine R_ireturn dX5_kindAt_9 rfl rfl ?_
  have e : zz = (ix3 (sX5_signAt cf ca i0)) := by rw [← hs]; unfold sX5_kindAt_3; rfl
  subst e; exact ⟨rfl, rfl⟩
def sX5_fits (sh : Int32) (c : Int32) : Bool := if sh = 35 then (if c < 48 then false else (!decide (57 < c))) else if sh = 43 then (if c = 43 then true else decide (c = 45)) else if sh = 68 then (!decide ((ix2 c) < 0)) else if sh = 80 then (!decide ((ix1 c) < 0)) else if sh = 82 then (!decide ((ix3 c) < 0)) else decide (c = sh)
set_option maxRecDepth 20000 in
theorem eX5_fits {G : zG} {h : zH} {sh c : Int32} : EvF G mX5_fits [.int sh, .int c] h (some (.int (b2i (sX5_fits sh c)))) h := by
  generalize hs : (sX5_fits sh c) = zz
  refine EvF.of pnX5 rfl ?_
  refine R_iload_n 1 dX5_fits_0 rfl rfl ?_
  by_cases c1 : sh = 35
  ·
    refine R_lookAt 52 (off := 51) 35 c1 dX5_fits_1 (by decide) (by decide) ?_
    refine R_iload_n 53 dX5_fits_52 rfl rfl ?_
    refine R_bipush 55 dX5_fits_53 rfl (v := 48) (by decide) ?_
    refine R_icmp_lt 58 68 dX5_fits_55 rfl (by decide) (fun c2 => ?_) (fun c2 => ?_)
    ·
      refine R_iconst 69 dX5_fits_68 rfl (v := 0) (by decide) ?_
      refine R_ireturn dX5_fits_69 rfl (by decide) ?_
      have e : zz = false := by rw [← hs]; unfold sX5_fits; rw [if_pos c1, if_pos c2]
      subst e; exact ⟨rfl, rfl⟩
    ·
      refine R_iload_n 59 dX5_fits_58 rfl rfl ?_
      refine R_bipush 61 dX5_fits_59 rfl (v := 57) (by decide) ?_
      refine R_cut 69 [(0, .int sh), (1, .int c)] (.int (b2i (!decide (57 < c))) :: []) h ?_ (fun kj => ?_)
      ·
        refine R_ireturn dX5_fits_69 rfl (nar_b _) ?_
        have e : zz = (!decide (57 < c)) := by rw [← hs]; unfold sX5_fits; rw [if_pos c1, if_neg c2]
        subst e; exact ⟨rfl, rfl⟩
      refine R_icmp_gt 64 68 dX5_fits_61 rfl (by decide) (fun c3 => ?_) (fun c3 => ?_)
      · refine R_iconst 69 dX5_fits_68 rfl (v := 0) (by decide) ?_
        rw [b2i_np c3] at kj; exact kj
      · refine R_iconst 65 dX5_fits_64 rfl (v := 1) (by decide) ?_
        refine R_goto 69 dX5_fits_65 (by decide) ?_
        rw [b2i_nn c3] at kj; exact kj
  by_cases c4 : sh = 43
  ·
    refine R_lookAt 70 (off := 69) 43 c4 dX5_fits_1 (by decide) (by decide) ?_
    refine R_iload_n 71 dX5_fits_70 rfl rfl ?_
    refine R_bipush 73 dX5_fits_71 rfl (v := 43) (by decide) ?_
    refine R_icmp_eq 76 82 dX5_fits_73 rfl (by decide) (fun c5 => ?_) (fun c5 => ?_)
    ·
      refine R_iconst 83 dX5_fits_82 rfl (v := 1) (by decide) ?_
      refine R_goto 87 dX5_fits_83 (by decide) ?_
      refine R_ireturn dX5_fits_87 rfl (by decide) ?_
      have e : zz = true := by rw [← hs]; unfold sX5_fits; rw [if_neg c1, if_pos c4, if_pos c5]
      subst e; exact ⟨rfl, rfl⟩
    ·
      refine R_iload_n 77 dX5_fits_76 rfl rfl ?_
      refine R_bipush 79 dX5_fits_77 rfl (v := 45) (by decide) ?_
      refine R_cut 87 [(0, .int sh), (1, .int c)] (.int (b2i (decide (c = 45))) :: []) h ?_ (fun kj => ?_)
      ·
        refine R_ireturn dX5_fits_87 rfl (nar_b _) ?_
        have e : zz = decide (c = 45) := by rw [← hs]; unfold sX5_fits; rw [if_neg c1, if_pos c4, if_neg c5]
        subst e; exact ⟨rfl, rfl⟩
      refine R_icmp_ne 82 86 dX5_fits_79 rfl (by decide) (fun c6 => ?_) (fun c6 => ?_)
      · refine R_iconst 87 dX5_fits_86 rfl (v := 0) (by decide) ?_
        rw [b2i_n c6] at kj; exact kj
      · refine R_iconst 83 dX5_fits_82 rfl (v := 1) (by decide) ?_
        refine R_goto 87 dX5_fits_83 (by decide) ?_
        rw [b2i_p c6] at kj; exact kj
  by_cases c7 : sh = 68
  ·
    refine R_lookAt 103 (off := 102) 68 c7 dX5_fits_1 (by decide) (by decide) ?_
    refine R_ldcS 105 dX5_fits_103 rfl rfl (j := 2) rfl ?_
    refine R_iload_n 106 dX5_fits_105 rfl rfl ?_
    refine R_callTi 109 eJ0_indexOf_0f7a4_2 dX5_fits_106 rfl kJ0_indexOf_0f7a4 lX5_169 rfl rfl rfl rfl rfl (j := 2) rfl (by decide) rfl ?_
    refine R_cut 117 [(0, .int sh), (1, .int c)] (.int (b2i (!decide ((ix2 c) < 0))) :: []) h ?_ (fun kj => ?_)
    ·
      refine R_ireturn dX5_fits_117 rfl (nar_b _) ?_
      have e : zz = (!decide ((ix2 c) < 0)) := by rw [← hs]; unfold sX5_fits; rw [if_neg c1, if_neg c4, if_pos c7]
      subst e; exact ⟨rfl, rfl⟩
    refine R_if_lt 112 116 dX5_fits_109 rfl (by decide) (fun c8 => ?_) (fun c8 => ?_)
    · refine R_iconst 117 dX5_fits_116 rfl (v := 0) (by decide) ?_
      rw [b2i_np c8] at kj; exact kj
    · refine R_iconst 113 dX5_fits_112 rfl (v := 1) (by decide) ?_
      refine R_goto 117 dX5_fits_113 (by decide) ?_
      rw [b2i_nn c8] at kj; exact kj
  by_cases c9 : sh = 80
  ·
    refine R_lookAt 88 (off := 87) 80 c9 dX5_fits_1 (by decide) (by decide) ?_
    refine R_ldcS 90 dX5_fits_88 rfl rfl (j := 1) rfl ?_
    refine R_iload_n 91 dX5_fits_90 rfl rfl ?_
    refine R_callTi 94 eJ0_indexOf_0f7a4_1 dX5_fits_91 rfl kJ0_indexOf_0f7a4 lX5_169 rfl rfl rfl rfl rfl (j := 1) rfl (by decide) rfl ?_
    refine R_cut 102 [(0, .int sh), (1, .int c)] (.int (b2i (!decide ((ix1 c) < 0))) :: []) h ?_ (fun kj => ?_)
    ·
      refine R_ireturn dX5_fits_102 rfl (nar_b _) ?_
      have e : zz = (!decide ((ix1 c) < 0)) := by rw [← hs]; unfold sX5_fits; rw [if_neg c1, if_neg c4, if_neg c7, if_pos c9]
      subst e; exact ⟨rfl, rfl⟩
    refine R_if_lt 97 101 dX5_fits_94 rfl (by decide) (fun c10 => ?_) (fun c10 => ?_)
    · refine R_iconst 102 dX5_fits_101 rfl (v := 0) (by decide) ?_
      rw [b2i_np c10] at kj; exact kj
    · refine R_iconst 98 dX5_fits_97 rfl (v := 1) (by decide) ?_
      refine R_goto 102 dX5_fits_98 (by decide) ?_
      rw [b2i_nn c10] at kj; exact kj
  by_cases c11 : sh = 82
  ·
    refine R_lookAt 118 (off := 117) 82 c11 dX5_fits_1 (by decide) (by decide) ?_
    refine R_ldcS 120 dX5_fits_118 rfl rfl (j := 3) rfl ?_
    refine R_iload_n 121 dX5_fits_120 rfl rfl ?_
    refine R_callTi 124 eJ0_indexOf_0f7a4_3 dX5_fits_121 rfl kJ0_indexOf_0f7a4 lX5_169 rfl rfl rfl rfl rfl (j := 3) rfl (by decide) rfl ?_
    refine R_cut 132 [(0, .int sh), (1, .int c)] (.int (b2i (!decide ((ix3 c) < 0))) :: []) h ?_ (fun kj => ?_)
    ·
      refine R_ireturn dX5_fits_132 rfl (nar_b _) ?_
      have e : zz = (!decide ((ix3 c) < 0)) := by rw [← hs]; unfold sX5_fits; rw [if_neg c1, if_neg c4, if_neg c7, if_neg c9, if_pos c11]
      subst e; exact ⟨rfl, rfl⟩
    refine R_if_lt 127 131 dX5_fits_124 rfl (by decide) (fun c12 => ?_) (fun c12 => ?_)
    · refine R_iconst 132 dX5_fits_131 rfl (v := 0) (by decide) ?_
      rw [b2i_np c12] at kj; exact kj
    · refine R_iconst 128 dX5_fits_127 rfl (v := 1) (by decide) ?_
      refine R_goto 132 dX5_fits_128 (by decide) ?_
      rw [b2i_nn c12] at kj; exact kj
  refine R_lookup 133 (off := 132) dX5_fits_1 (by decide) (by rw [lv_osw c1 (show (35 : Int32).toInt = 35 by decide), lv_osw c4 (show (43 : Int32).toInt = 43 by decide), lv_osw c7 (show (68 : Int32).toInt = 68 by decide), lv_osw c9 (show (80 : Int32).toInt = 80 by decide), lv_osw c11 (show (82 : Int32).toInt = 82 by decide)]; rfl) (by decide) ?_
  refine R_iload_n 134 dX5_fits_133 rfl rfl ?_
  refine R_iload_n 135 dX5_fits_134 rfl rfl ?_
  refine R_cut 143 [(0, .int sh), (1, .int c)] (.int (b2i (decide (c = sh))) :: []) h ?_ (fun kj => ?_)
  ·
    refine R_ireturn dX5_fits_143 rfl (nar_b _) ?_
    have e : zz = decide (c = sh) := by rw [← hs]; unfold sX5_fits; rw [if_neg c1, if_neg c4, if_neg c7, if_neg c9, if_neg c11]
    subst e; exact ⟨rfl, rfl⟩
  refine R_icmp_ne 138 142 dX5_fits_135 rfl (by decide) (fun c13 => ?_) (fun c13 => ?_)
  · refine R_iconst 143 dX5_fits_142 rfl (v := 0) (by decide) ?_
    rw [b2i_n c13] at kj; exact kj
  · refine R_iconst 139 dX5_fits_138 rfl (v := 1) (by decide) ?_
    refine R_goto 143 dX5_fits_139 (by decide) ?_
    rw [b2i_p c13] at kj; exact kj
def sX5_shapeAt (cf : Nat → Int32) (ca : Nat → Nat → Int32) (i0 : Int32) : Nat := if (sX5_signAt cf ca i0) = 100 then 7 else if (sX5_signAt cf ca i0) = 110 then 9 else if (sX5_signAt cf ca i0) = 112 then 4 else if (sX5_signAt cf ca i0) = 114 then 8 else if (sX5_signAt cf ca i0) = 115 then 6 else if (sX5_signAt cf ca i0) = 119 then 5 else 0
set_option maxRecDepth 20000 in
theorem eX5_shapeAt_32 {G : zG} {h2 : List va_E} {n m i : zP} {cf : Nat → Int32} {ca : Nat → Nat → Int32} {i0 : Int32} (hch : zCh (ca 33)) : EvF G mX5_shapeAt [.ref 32, .int i0] (hC G n m i cf ca, h2) (some (.ref (1000 + (sX5_shapeAt cf ca i0)))) (hC G n m i cf ca, h2) := by
  generalize hs : (sX5_shapeAt cf ca i0) = zz
  refine EvF.of pnX5 rfl ?_
  refine R_aload_n 1 dX5_shapeAt_0 rfl rfl ?_
  refine R_iload_n 2 dX5_shapeAt_1 rfl rfl ?_
  refine R_callVi 5 (eX5_signAt_32 hch) dX5_shapeAt_2 rfl kX5_signAt lX5_19 rfl rfl rfl rfl rfl rfl rfl ?_
  by_cases c1 : (sX5_signAt cf ca i0) = 100
  ·
    refine R_tableAt 109 (off := 104) 100 c1 dX5_shapeAt_5 (by decide) (by decide) ?_
    refine R_ldcS 111 dX5_shapeAt_109 rfl rfl (j := 7) rfl ?_
    refine R_areturn dX5_shapeAt_111 rfl ?_
    have e : zz = 7 := by rw [← hs]; unfold sX5_shapeAt; rw [if_pos c1]
    subst e; exact ⟨rfl, rfl⟩
  by_cases c2 : (sX5_signAt cf ca i0) = 110
  ·
    refine R_tableAt 115 (off := 110) 110 c2 dX5_shapeAt_5 (by decide) (by decide) ?_
    refine R_ldcS 117 dX5_shapeAt_115 rfl rfl (j := 9) rfl ?_
    refine R_areturn dX5_shapeAt_117 rfl ?_
    have e : zz = 9 := by rw [← hs]; unfold sX5_shapeAt; rw [if_neg c1, if_pos c2]
    subst e; exact ⟨rfl, rfl⟩
  by_cases c3 : (sX5_signAt cf ca i0) = 112
  ·
    refine R_tableAt 100 (off := 95) 112 c3 dX5_shapeAt_5 (by decide) (by decide) ?_
    refine R_ldcS 102 dX5_shapeAt_100 rfl rfl (j := 4) rfl ?_
    refine R_areturn dX5_shapeAt_102 rfl ?_
    have e : zz = 4 := by rw [← hs]; unfold sX5_shapeAt; rw [if_neg c1, if_neg c2, if_pos c3]
    subst e; exact ⟨rfl, rfl⟩
  by_cases c4 : (sX5_signAt cf ca i0) = 114
  ·
    refine R_tableAt 112 (off := 107) 114 c4 dX5_shapeAt_5 (by decide) (by decide) ?_
    refine R_ldcS 114 dX5_shapeAt_112 rfl rfl (j := 8) rfl ?_
    refine R_areturn dX5_shapeAt_114 rfl ?_
    have e : zz = 8 := by rw [← hs]; unfold sX5_shapeAt; rw [if_neg c1, if_neg c2, if_neg c3, if_pos c4]
    subst e; exact ⟨rfl, rfl⟩
  by_cases c5 : (sX5_signAt cf ca i0) = 115
  ·
    refine R_tableAt 106 (off := 101) 115 c5 dX5_shapeAt_5 (by decide) (by decide) ?_
    refine R_ldcS 108 dX5_shapeAt_106 rfl rfl (j := 6) rfl ?_
    refine R_areturn dX5_shapeAt_108 rfl ?_
    have e : zz = 6 := by rw [← hs]; unfold sX5_shapeAt; rw [if_neg c1, if_neg c2, if_neg c3, if_neg c4, if_pos c5]
    subst e; exact ⟨rfl, rfl⟩
  by_cases c6 : (sX5_signAt cf ca i0) = 119
  ·
    refine R_tableAt 103 (off := 98) 119 c6 dX5_shapeAt_5 (by decide) (by decide) ?_
    refine R_ldcS 105 dX5_shapeAt_103 rfl rfl (j := 5) rfl ?_
    refine R_areturn dX5_shapeAt_105 rfl ?_
    have e : zz = 5 := by rw [← hs]; unfold sX5_shapeAt; rw [if_neg c1, if_neg c2, if_neg c3, if_neg c4, if_neg c5, if_pos c6]
    subst e; exact ⟨rfl, rfl⟩
  refine R_tableD 118 [100, 110, 112, 114, 115, 119] dX5_shapeAt_5 (List.forall_mem_cons.mpr ⟨lv_neT c1 (show (100 : Int32).toInt = 100 by decide), List.forall_mem_cons.mpr ⟨lv_neT c2 (show (110 : Int32).toInt = 110 by decide), List.forall_mem_cons.mpr ⟨lv_neT c3 (show (112 : Int32).toInt = 112 by decide), List.forall_mem_cons.mpr ⟨lv_neT c4 (show (114 : Int32).toInt = 114 by decide), List.forall_mem_cons.mpr ⟨lv_neT c5 (show (115 : Int32).toInt = 115 by decide), List.forall_mem_cons.mpr ⟨lv_neT c6 (show (119 : Int32).toInt = 119 by decide), fun _ h => absurd h List.not_mem_nil⟩⟩⟩⟩⟩⟩) (by decide) (by decide) ?_
  refine R_ldcS 120 dX5_shapeAt_118 rfl rfl (j := 0) rfl ?_
  refine R_areturn dX5_shapeAt_120 rfl ?_
  have e : zz = 0 := by rw [← hs]; unfold sX5_shapeAt; rw [if_neg c1, if_neg c2, if_neg c3, if_neg c4, if_neg c5, if_neg c6]
  subst e; exact ⟨rfl, rfl⟩
theorem shape_lt (cf : Nat → Int32) (ca : Nat → Nat → Int32) (i0 : Int32) : sX5_shapeAt cf ca i0 < 10 := by
  unfold sX5_shapeAt
  repeat' split
  all_goals decide
theorem len_eq : ∀ j, j < 10 → sJ0_length_8abf5 j = Int32.ofNat (zLn.getD j 0) := by decide
theorem vlt0 {x : Int32} (h : 0 ≤ x.toInt) : ¬ x < 0 := by
  rw [Int32.lt_iff_toInt_lt, show (0 : Int32).toInt = 0 by decide]
  omega
theorem chlt {x : Int32} {j : Nat} (hj : j < 10) (h : ¬ sJ0_length_8abf5 j ≤ x) : x < Int32.ofNat (zLn.getD j 0) := by
  rw [len_eq j hj] at h
  exact Int32.not_le.mp h
theorem chb {x : Int32} {j : Nat} (hj : j < 10) (h : ¬ sJ0_length_8abf5 j ≤ x) : x.toInt < 7 := by
  have h1 := chlt hj h
  have h7 := zLn7 j hj
  have h1 : x < nI (zLn.getD j 0) := h1
  rw [Int32.lt_iff_toInt_lt, nI_toInt (by omega)] at h1
  omega
def sX5_add (cf : Nat → Int32) (ca : Nat → Nat → Int32) (c : Int32) : (Nat → Int32) × (Nat → Nat → Int32) := if (cf 2) < 0 then (cf, ca) else if 96 ≤ (cf 2) then (cf, ca) else ((upd cf 2 ((cf 2) + 1)), (up2 ca 33 (upd (ca 33) (cf 2).toNatClampNeg (vp_nar .char c))))
set_option maxRecDepth 20000 in
theorem eX5_add_32 {G : zG} {h2 : List va_E} {n m i : zP} {cf : Nat → Int32} {ca : Nat → Nat → Int32} {c : Int32} : EvF G mX5_add [.ref 32, .int c] (hC G n m i cf ca, h2) (none) (hC G n m i ((sX5_add cf ca c).1) ((sX5_add cf ca c).2), h2) := by
  generalize hs : (sX5_add cf ca c) = zz
  refine EvF.of pnX5 rfl ?_
  refine R_aload_n 1 dX5_add_0 rfl rfl ?_
  refine R_get 4 dX5_add_1 rfl fX5_15 rfl (v := .int (cf 2)) rfl ?_
  refine R_if_lt 7 36 dX5_add_4 rfl (by decide) (fun c1 => ?_) (fun c1 => ?_)
  ·
    refine R_return dX5_add_36 rfl ?_
    have e : zz = (cf, ca) := by rw [← hs]; unfold sX5_add; rw [if_pos c1]
    rw [pr1 e, pr2 e]; exact ⟨rfl, rfl⟩
  ·
    refine R_aload_n 8 dX5_add_7 rfl rfl ?_
    refine R_get 11 dX5_add_8 rfl fX5_15 rfl (v := .int (cf 2)) rfl ?_
    refine R_bipush 13 dX5_add_11 rfl (v := 96) (by decide) ?_
    refine R_icmp_ge 16 36 dX5_add_13 rfl (by decide) (fun c2 => ?_) (fun c2 => ?_)
    ·
      refine R_return dX5_add_36 rfl ?_
      have e : zz = (cf, ca) := by rw [← hs]; unfold sX5_add; rw [if_neg c1, if_pos c2]
      rw [pr1 e, pr2 e]; exact ⟨rfl, rfl⟩
    ·
      refine R_aload_n 17 dX5_add_16 rfl rfl ?_
      refine R_get 20 dX5_add_17 rfl fX5_9 rfl (v := .ref 33) rfl ?_
      refine R_aload_n 21 dX5_add_20 rfl rfl ?_
      refine R_get 24 dX5_add_21 rfl fX5_15 rfl (v := .int (cf 2)) rfl ?_
      refine R_iload_n 25 dX5_add_24 rfl rfl ?_
      refine R_cast 26 dX5_add_25 rfl rfl rfl (vin96 (vlo1 c1) c2) ?_
      refine R_h (h1 := (hC G n m i cf (up2 ca 33 (upd (ca 33) (cf 2).toNatClampNeg (vp_nar .char c))), h2)) rfl ?_
      refine R_aload_n 27 dX5_add_26 rfl rfl ?_
      refine R_dup 28 dX5_add_27 rfl rfl ?_
      refine R_get 31 dX5_add_28 rfl fX5_15 rfl (v := .int (cf 2)) rfl ?_
      refine R_iconst 32 dX5_add_31 rfl (v := 1) (by decide) ?_
      refine R_iadd 33 dX5_add_32 rfl ?_
      refine R_nm (fun z1_ hz1_ => ?_)
      refine R_put 36 dX5_add_33 rfl wX5_15 rfl rfl rfl rfl (h2 := (hC G n m i (upd cf 2 z1_) (up2 ca 33 (upd (ca 33) (cf 2).toNatClampNeg (vp_nar .char c))), h2)) rfl ?_
      refine R_return dX5_add_36 rfl ?_
      subst hz1_
      have e : zz = ((upd cf 2 ((cf 2) + 1)), (up2 ca 33 (upd (ca 33) (cf 2).toNatClampNeg (vp_nar .char c)))) := by rw [← hs]; unfold sX5_add; rw [if_neg c1, if_neg c2]
      rw [pr1 e, pr2 e]; exact ⟨rfl, rfl⟩
def sX6_letter (n : zP) (m : zP) (cf : Nat → Int32) (ca : Nat → Nat → Int32) (c : Int32) : Int32 × (Nat → Int32) × (Nat → Nat → Int32) := if (sX6_outside c 0 255) = 0 then (if (cf 2) < 96 then ((sX5_add cf ca ((c.toUInt32 % 65536).toInt32)).1 2, (sX5_add cf ca ((c.toUInt32 % 65536).toInt32)).1, (sX5_add cf ca ((c.toUInt32 % 65536).toInt32)).2) else ((sX6_refuse ca (-6)).1, cf, (sX6_refuse ca (-6)).2)) else ((sX6_refuse ca (sX6_outside c 0 255)).1, cf, (sX6_refuse ca (sX6_outside c 0 255)).2)
set_option maxRecDepth 20000 in
theorem eX6_letter_0 {G : zG} {h2 : List va_E} {n m i : zP} {cf : Nat → Int32} {ca : Nat → Nat → Int32} {c : Int32} : EvF G mX6_letter [.ref 0, .int c] (hC G n m i cf ca, h2) (some (.int ((sX6_letter n m cf ca c).1))) (hC G n m i ((sX6_letter n m cf ca c).2.1) ((sX6_letter n m cf ca c).2.2), h2) := by
  generalize hs : (sX6_letter n m cf ca c) = zz
  refine EvF.of pnX6 rfl ?_
  refine R_iload_n 1 dX6_letter_0 rfl rfl ?_
  refine R_iconst 2 dX6_letter_1 rfl (v := 0) (by decide) ?_
  refine R_sipush 5 dX6_letter_2 rfl (v := 255) (by decide) ?_
  refine R_callSi 8 eX6_outside dX6_letter_5 rfl kX6_outside lX6_43 rfl rfl rfl rfl rfl ?_
  refine R_istore_n 9 dX6_letter_8 rfl rfl (by decide) (loc' := [(0, .ref 0), (1, .int c), (2, .int (sX6_outside c 0 255))]) rfl ?_
  refine R_iload_n 10 dX6_letter_9 rfl rfl ?_
  refine R_if_ne 13 28 dX6_letter_10 rfl (by decide) (fun c1 => ?_) (fun c1 => ?_)
  ·
    refine R_iload_n 29 dX6_letter_28 rfl rfl ?_
    refine R_if_eq 32 38 dX6_letter_29 rfl (by decide) (fun c => absurd c c1) (fun _ => ?_)
    refine R_aload_n 33 dX6_letter_32 rfl rfl ?_
    refine R_iload_n 34 dX6_letter_33 rfl rfl ?_
    refine R_callVi 37 eX6_refuse_0 dX6_letter_34 rfl kX6_refuse lX6_51 rfl rfl rfl rfl rfl rfl rfl ?_
    refine R_ireturn dX6_letter_37 rfl rfl ?_
    have e : zz = ((sX6_refuse ca (sX6_outside c 0 255)).1, cf, (sX6_refuse ca (sX6_outside c 0 255)).2) := by rw [← hs]; unfold sX6_letter; rw [if_neg c1]
    rw [pr1 e, pr1 (pr2 e), pr2 (pr2 e)]; exact ⟨rfl, rfl⟩
  ·
    refine R_aload_n 14 dX6_letter_13 rfl rfl ?_
    refine R_get 17 dX6_letter_14 rfl fX6_32 rfl (v := .ref 32) rfl ?_
    refine R_get 20 dX6_letter_17 rfl fX6_47 rfl (v := .int (cf 2)) rfl ?_
    refine R_bipush 22 dX6_letter_20 rfl (v := 96) (by decide) ?_
    refine R_icmp_lt 25 28 dX6_letter_22 rfl (by decide) (fun c2 => ?_) (fun c2 => ?_)
    ·
      refine R_iload_n 29 dX6_letter_28 rfl rfl ?_
      refine R_if_eq 32 38 dX6_letter_29 rfl (by decide) (fun _ => ?_) (fun c => absurd c1 c)
      refine R_aload_n 39 dX6_letter_38 rfl rfl ?_
      refine R_get 42 dX6_letter_39 rfl fX6_32 rfl (v := .ref 32) rfl ?_
      refine R_iload_n 43 dX6_letter_42 rfl rfl ?_
      refine R_i2c 44 dX6_letter_43 rfl ?_
      refine R_callVv 47 eX5_add_32 dX6_letter_44 rfl kX5_add lX6_55 rfl rfl rfl rfl rfl rfl rfl ?_
      refine R_aload_n 48 dX6_letter_47 rfl rfl ?_
      refine R_get 51 dX6_letter_48 rfl fX6_32 rfl (v := .ref 32) rfl ?_
      refine R_get 54 dX6_letter_51 rfl fX6_47 rfl (v := .int ((sX5_add cf ca ((c.toUInt32 % 65536).toInt32)).1 2)) rfl ?_
      refine R_ireturn dX6_letter_54 rfl rfl ?_
      have e : zz = ((sX5_add cf ca ((c.toUInt32 % 65536).toInt32)).1 2, (sX5_add cf ca ((c.toUInt32 % 65536).toInt32)).1, (sX5_add cf ca ((c.toUInt32 % 65536).toInt32)).2) := by rw [← hs]; unfold sX6_letter; rw [if_pos c1, if_pos c2]
      rw [pr1 e, pr1 (pr2 e), pr2 (pr2 e)]; exact ⟨rfl, rfl⟩
    ·
      refine R_bipush 27 dX6_letter_25 rfl (v := (-6)) (by decide) ?_
      refine R_istore_n 28 dX6_letter_27 rfl rfl (by decide) (loc' := [(0, .ref 0), (1, .int c), (2, .int (-6))]) rfl ?_
      refine R_iload_n 29 dX6_letter_28 rfl rfl ?_
      refine R_if_eq 32 38 dX6_letter_29 rfl (by decide) (fun c => absurd c (by decide)) (fun _ => ?_)
      refine R_aload_n 33 dX6_letter_32 rfl rfl ?_
      refine R_iload_n 34 dX6_letter_33 rfl rfl ?_
      refine R_callVi 37 eX6_refuse_0 dX6_letter_34 rfl kX6_refuse lX6_51 rfl rfl rfl rfl rfl rfl rfl ?_
      refine R_ireturn dX6_letter_37 rfl rfl ?_
      have e : zz = ((sX6_refuse ca (-6)).1, cf, (sX6_refuse ca (-6)).2) := by rw [← hs]; unfold sX6_letter; rw [if_pos c1, if_neg c2]
      rw [pr1 e, pr1 (pr2 e), pr2 (pr2 e)]; exact ⟨rfl, rfl⟩
def sX5_tellPerson (m : zP) (cf : Nat → Int32) (ca : Nat → Nat → Int32) (i0 : Int32) : Bool × zP := if 1 < (sX5_digitAt cf ca (i0 + 4)) then (false, m) else if (sX5_digitAt cf ca (i0 + 5)) < 1 then (false, m) else if 5 < (sX5_digitAt cf ca (i0 + 5)) then (false, m) else if (m.1 6) < 0 then (false, m) else if (m.1 6) < 5 then (if (m.1 6) = 0 then (true, ((upd m.1 6 ((m.1 6) + 1)), (up2 m.2 0 (upd (upd (upd (upd (upd (upd (m.2 0) 0 (sX5_kindAt_1 cf ca (i0 + 1))) 1 (sX5_digitAt cf ca (i0 + 2))) 2 (sX5_digitAt cf ca (i0 + 3))) 3 (sX5_digitAt cf ca (i0 + 4))) 4 (sX5_digitAt cf ca (i0 + 5))) 5 (sX5_digitAt cf ca (i0 + 6)))))) else if (m.1 6) = 1 then (true, ((upd m.1 6 ((m.1 6) + 1)), (up2 m.2 1 (upd (upd (upd (upd (upd (upd (m.2 1) 0 (sX5_kindAt_1 cf ca (i0 + 1))) 1 (sX5_digitAt cf ca (i0 + 2))) 2 (sX5_digitAt cf ca (i0 + 3))) 3 (sX5_digitAt cf ca (i0 + 4))) 4 (sX5_digitAt cf ca (i0 + 5))) 5 (sX5_digitAt cf ca (i0 + 6)))))) else if (m.1 6) = 2 then (true, ((upd m.1 6 ((m.1 6) + 1)), (up2 m.2 2 (upd (upd (upd (upd (upd (upd (m.2 2) 0 (sX5_kindAt_1 cf ca (i0 + 1))) 1 (sX5_digitAt cf ca (i0 + 2))) 2 (sX5_digitAt cf ca (i0 + 3))) 3 (sX5_digitAt cf ca (i0 + 4))) 4 (sX5_digitAt cf ca (i0 + 5))) 5 (sX5_digitAt cf ca (i0 + 6)))))) else if (m.1 6) = 3 then (true, ((upd m.1 6 ((m.1 6) + 1)), (up2 m.2 3 (upd (upd (upd (upd (upd (upd (m.2 3) 0 (sX5_kindAt_1 cf ca (i0 + 1))) 1 (sX5_digitAt cf ca (i0 + 2))) 2 (sX5_digitAt cf ca (i0 + 3))) 3 (sX5_digitAt cf ca (i0 + 4))) 4 (sX5_digitAt cf ca (i0 + 5))) 5 (sX5_digitAt cf ca (i0 + 6)))))) else (true, ((upd m.1 6 ((m.1 6) + 1)), (up2 m.2 4 (upd (upd (upd (upd (upd (upd (m.2 4) 0 (sX5_kindAt_1 cf ca (i0 + 1))) 1 (sX5_digitAt cf ca (i0 + 2))) 2 (sX5_digitAt cf ca (i0 + 3))) 3 (sX5_digitAt cf ca (i0 + 4))) 4 (sX5_digitAt cf ca (i0 + 5))) 5 (sX5_digitAt cf ca (i0 + 6))))))) else (false, m)
set_option maxRecDepth 20000 in
theorem eX5_tellPerson_32 {G : zG} {h2 : List va_E} {n m i : zP} {cf : Nat → Int32} {ca : Nat → Nat → Int32} {i0 : Int32} (hch : zCh (ca 33)) : EvF G mX5_tellPerson [.ref 32, .ref 10, .int i0] (hC G n m i cf ca, h2) (some (.int (b2i ((sX5_tellPerson m cf ca i0).1)))) (hC G n ((sX5_tellPerson m cf ca i0).2) i cf ca, h2) := by
  generalize hs : (sX5_tellPerson m cf ca i0) = zz
  refine EvF.of pnX5 rfl ?_
  refine R_aload_n 1 dX5_tellPerson_0 rfl rfl ?_
  refine R_iload_n 2 dX5_tellPerson_1 rfl rfl ?_
  refine R_iconst 3 dX5_tellPerson_2 rfl (v := 4) (by decide) ?_
  refine R_iadd 4 dX5_tellPerson_3 rfl ?_
  refine R_callVi 7 (eX5_digitAt_32 hch) dX5_tellPerson_4 rfl kX5_digitAt lX5_93 rfl rfl rfl rfl rfl rfl rfl ?_
  refine R_istore_n 8 dX5_tellPerson_7 rfl rfl (by decide) (loc' := [(0, .ref 32), (1, .ref 10), (2, .int i0), (3, .int (sX5_digitAt cf ca (i0 + 4)))]) rfl ?_
  refine R_aload_n 9 dX5_tellPerson_8 rfl rfl ?_
  refine R_iload_n 10 dX5_tellPerson_9 rfl rfl ?_
  refine R_iconst 11 dX5_tellPerson_10 rfl (v := 5) (by decide) ?_
  refine R_iadd 12 dX5_tellPerson_11 rfl ?_
  refine R_callVi 15 (eX5_digitAt_32 hch) dX5_tellPerson_12 rfl kX5_digitAt lX5_93 rfl rfl rfl rfl rfl rfl rfl ?_
  refine R_istore 17 dX5_tellPerson_15 rfl rfl (by decide) (loc' := [(0, .ref 32), (1, .ref 10), (2, .int i0), (3, .int (sX5_digitAt cf ca (i0 + 4))), (4, .int (sX5_digitAt cf ca (i0 + 5)))]) rfl ?_
  refine R_aload_n 18 dX5_tellPerson_17 rfl rfl ?_
  refine R_get 21 dX5_tellPerson_18 rfl fX5_106 rfl (v := .int (m.1 6)) rfl ?_
  refine R_istore 23 dX5_tellPerson_21 rfl rfl (by decide) (loc' := [(0, .ref 32), (1, .ref 10), (2, .int i0), (3, .int (sX5_digitAt cf ca (i0 + 4))), (4, .int (sX5_digitAt cf ca (i0 + 5))), (5, .int (m.1 6))]) rfl ?_
  refine R_iload_n 24 dX5_tellPerson_23 rfl rfl ?_
  refine R_iconst 25 dX5_tellPerson_24 rfl (v := 1) (by decide) ?_
  refine R_icmp_gt 28 51 dX5_tellPerson_25 rfl (by decide) (fun c1 => ?_) (fun c1 => ?_)
  ·
    refine R_iconst 52 dX5_tellPerson_51 rfl (v := 0) (by decide) ?_
    refine R_ireturn dX5_tellPerson_52 rfl (by decide) ?_
    have e : zz = (false, m) := by rw [← hs]; unfold sX5_tellPerson; rw [if_pos c1]
    rw [pr1 e, pr2 e]; exact ⟨rfl, rfl⟩
  ·
    refine R_iload 30 dX5_tellPerson_28 rfl rfl ?_
    refine R_iconst 31 dX5_tellPerson_30 rfl (v := 1) (by decide) ?_
    refine R_icmp_lt 34 51 dX5_tellPerson_31 rfl (by decide) (fun c2 => ?_) (fun c2 => ?_)
    ·
      refine R_iconst 52 dX5_tellPerson_51 rfl (v := 0) (by decide) ?_
      refine R_ireturn dX5_tellPerson_52 rfl (by decide) ?_
      have e : zz = (false, m) := by rw [← hs]; unfold sX5_tellPerson; rw [if_neg c1, if_pos c2]
      rw [pr1 e, pr2 e]; exact ⟨rfl, rfl⟩
    ·
      refine R_iload 36 dX5_tellPerson_34 rfl rfl ?_
      refine R_iconst 37 dX5_tellPerson_36 rfl (v := 5) (by decide) ?_
      refine R_icmp_gt 40 51 dX5_tellPerson_37 rfl (by decide) (fun c3 => ?_) (fun c3 => ?_)
      ·
        refine R_iconst 52 dX5_tellPerson_51 rfl (v := 0) (by decide) ?_
        refine R_ireturn dX5_tellPerson_52 rfl (by decide) ?_
        have e : zz = (false, m) := by rw [← hs]; unfold sX5_tellPerson; rw [if_neg c1, if_neg c2, if_pos c3]
        rw [pr1 e, pr2 e]; exact ⟨rfl, rfl⟩
      ·
        refine R_iload 42 dX5_tellPerson_40 rfl rfl ?_
        refine R_if_lt 45 51 dX5_tellPerson_42 rfl (by decide) (fun c4 => ?_) (fun c4 => ?_)
        ·
          refine R_iconst 52 dX5_tellPerson_51 rfl (v := 0) (by decide) ?_
          refine R_ireturn dX5_tellPerson_52 rfl (by decide) ?_
          have e : zz = (false, m) := by rw [← hs]; unfold sX5_tellPerson; rw [if_neg c1, if_neg c2, if_neg c3, if_pos c4]
          rw [pr1 e, pr2 e]; exact ⟨rfl, rfl⟩
        ·
          refine R_iload 47 dX5_tellPerson_45 rfl rfl ?_
          refine R_iconst 48 dX5_tellPerson_47 rfl (v := 5) (by decide) ?_
          refine R_icmp_lt 51 53 dX5_tellPerson_48 rfl (by decide) (fun c5 => ?_) (fun c5 => ?_)
          ·
            refine R_aload_n 54 dX5_tellPerson_53 rfl rfl ?_
            refine R_get 57 dX5_tellPerson_54 rfl fX5_109 rfl (v := .ref 13) rfl ?_
            refine R_iload 59 dX5_tellPerson_57 rfl rfl ?_
            by_cases c6 : (m.1 6) = 0
            ·
              refine R_aaldAt 60 0 c6 dX5_tellPerson_59 rfl rfl rfl (vin_d (by decide)) (y := 14) rfl ?_
              refine R_astore 62 dX5_tellPerson_60 rfl rfl (by decide) (loc' := [(0, .ref 32), (1, .ref 10), (2, .int i0), (3, .int (sX5_digitAt cf ca (i0 + 4))), (4, .int (sX5_digitAt cf ca (i0 + 5))), (5, .int (m.1 6)), (6, .ref 14)]) rfl ?_
              refine R_aload 64 dX5_tellPerson_62 rfl rfl ?_
              refine R_aload_n 65 dX5_tellPerson_64 rfl rfl ?_
              refine R_ldcS 67 dX5_tellPerson_65 rfl rfl (j := 1) rfl ?_
              refine R_iload_n 68 dX5_tellPerson_67 rfl rfl ?_
              refine R_iconst 69 dX5_tellPerson_68 rfl (v := 1) (by decide) ?_
              refine R_iadd 70 dX5_tellPerson_69 rfl ?_
              refine R_callVi 73 (eX5_kindAt_1 hch) dX5_tellPerson_70 rfl kX5_kindAt lX5_84 rfl rfl rfl rfl rfl rfl rfl ?_
              refine R_nm (fun z1_ hz1_ => ?_)
              refine R_put 76 dX5_tellPerson_73 rfl wX5_115 rfl rfl rfl rfl (h2 := (hC G n (m.1, (up2 m.2 0 (upd (m.2 0) 0 z1_))) i cf ca, h2)) rfl ?_
              refine R_aload 78 dX5_tellPerson_76 rfl rfl ?_
              refine R_aload_n 79 dX5_tellPerson_78 rfl rfl ?_
              refine R_iload_n 80 dX5_tellPerson_79 rfl rfl ?_
              refine R_iconst 81 dX5_tellPerson_80 rfl (v := 2) (by decide) ?_
              refine R_iadd 82 dX5_tellPerson_81 rfl ?_
              refine R_callVi 85 (eX5_digitAt_32 hch) dX5_tellPerson_82 rfl kX5_digitAt lX5_93 rfl rfl rfl rfl rfl rfl rfl ?_
              refine R_nm (fun z2_ hz2_ => ?_)
              refine R_put 88 dX5_tellPerson_85 rfl wX5_118 rfl rfl rfl rfl (h2 := (hC G n (m.1, (up2 m.2 0 (upd (upd (m.2 0) 0 z1_) 1 z2_))) i cf ca, h2)) rfl ?_
              refine R_aload 90 dX5_tellPerson_88 rfl rfl ?_
              refine R_aload_n 91 dX5_tellPerson_90 rfl rfl ?_
              refine R_iload_n 92 dX5_tellPerson_91 rfl rfl ?_
              refine R_iconst 93 dX5_tellPerson_92 rfl (v := 3) (by decide) ?_
              refine R_iadd 94 dX5_tellPerson_93 rfl ?_
              refine R_callVi 97 (eX5_digitAt_32 hch) dX5_tellPerson_94 rfl kX5_digitAt lX5_93 rfl rfl rfl rfl rfl rfl rfl ?_
              refine R_nm (fun z3_ hz3_ => ?_)
              refine R_put 100 dX5_tellPerson_97 rfl wX5_121 rfl rfl rfl rfl (h2 := (hC G n (m.1, (up2 m.2 0 (upd (upd (upd (m.2 0) 0 z1_) 1 z2_) 2 z3_))) i cf ca, h2)) rfl ?_
              refine R_aload 102 dX5_tellPerson_100 rfl rfl ?_
              refine R_iload_n 103 dX5_tellPerson_102 rfl rfl ?_
              refine R_nm (fun z4_ hz4_ => ?_)
              refine R_put 106 dX5_tellPerson_103 rfl wX5_124 rfl rfl rfl rfl (h2 := (hC G n (m.1, (up2 m.2 0 (upd (upd (upd (upd (m.2 0) 0 z1_) 1 z2_) 2 z3_) 3 z4_))) i cf ca, h2)) rfl ?_
              refine R_aload 108 dX5_tellPerson_106 rfl rfl ?_
              refine R_iload 110 dX5_tellPerson_108 rfl rfl ?_
              refine R_nm (fun z5_ hz5_ => ?_)
              refine R_put 113 dX5_tellPerson_110 rfl wX5_127 rfl rfl rfl rfl (h2 := (hC G n (m.1, (up2 m.2 0 (upd (upd (upd (upd (upd (m.2 0) 0 z1_) 1 z2_) 2 z3_) 3 z4_) 4 z5_))) i cf ca, h2)) rfl ?_
              refine R_aload 115 dX5_tellPerson_113 rfl rfl ?_
              refine R_aload_n 116 dX5_tellPerson_115 rfl rfl ?_
              refine R_iload_n 117 dX5_tellPerson_116 rfl rfl ?_
              refine R_bipush 119 dX5_tellPerson_117 rfl (v := 6) (by decide) ?_
              refine R_iadd 120 dX5_tellPerson_119 rfl ?_
              refine R_callVi 123 (eX5_digitAt_32 hch) dX5_tellPerson_120 rfl kX5_digitAt lX5_93 rfl rfl rfl rfl rfl rfl rfl ?_
              refine R_nm (fun z6_ hz6_ => ?_)
              refine R_put 126 dX5_tellPerson_123 rfl wX5_130 rfl rfl rfl rfl (h2 := (hC G n (m.1, (up2 m.2 0 (upd (upd (upd (upd (upd (upd (m.2 0) 0 z1_) 1 z2_) 2 z3_) 3 z4_) 4 z5_) 5 z6_))) i cf ca, h2)) rfl ?_
              refine R_aload_n 127 dX5_tellPerson_126 rfl rfl ?_
              refine R_dup 128 dX5_tellPerson_127 rfl rfl ?_
              refine R_get 131 dX5_tellPerson_128 rfl fX5_106 rfl (v := .int (m.1 6)) rfl ?_
              refine R_iconst 132 dX5_tellPerson_131 rfl (v := 1) (by decide) ?_
              refine R_iadd 133 dX5_tellPerson_132 rfl ?_
              refine R_nm (fun z7_ hz7_ => ?_)
              refine R_put 136 dX5_tellPerson_133 rfl wX5_106 rfl rfl rfl rfl (h2 := (hC G n ((upd m.1 6 z7_), (up2 m.2 0 (upd (upd (upd (upd (upd (upd (m.2 0) 0 z1_) 1 z2_) 2 z3_) 3 z4_) 4 z5_) 5 z6_))) i cf ca, h2)) rfl ?_
              refine R_iconst 137 dX5_tellPerson_136 rfl (v := 1) (by decide) ?_
              refine R_ireturn dX5_tellPerson_137 rfl (by decide) ?_
              subst hz1_ hz2_ hz3_ hz4_ hz5_ hz6_ hz7_
              have e : zz = (true, ((upd m.1 6 ((m.1 6) + 1)), (up2 m.2 0 (upd (upd (upd (upd (upd (upd (m.2 0) 0 (sX5_kindAt_1 cf ca (i0 + 1))) 1 (sX5_digitAt cf ca (i0 + 2))) 2 (sX5_digitAt cf ca (i0 + 3))) 3 (sX5_digitAt cf ca (i0 + 4))) 4 (sX5_digitAt cf ca (i0 + 5))) 5 (sX5_digitAt cf ca (i0 + 6)))))) := by rw [← hs]; unfold sX5_tellPerson; rw [if_neg c1, if_neg c2, if_neg c3, if_neg c4, if_pos c5, if_pos c6]
              rw [pr1 e, pr2 e]; exact ⟨rfl, rfl⟩
            by_cases c7 : (m.1 6) = 1
            ·
              refine R_aaldAt 60 1 c7 dX5_tellPerson_59 rfl rfl rfl (vin_d (by decide)) (y := 15) rfl ?_
              refine R_astore 62 dX5_tellPerson_60 rfl rfl (by decide) (loc' := [(0, .ref 32), (1, .ref 10), (2, .int i0), (3, .int (sX5_digitAt cf ca (i0 + 4))), (4, .int (sX5_digitAt cf ca (i0 + 5))), (5, .int (m.1 6)), (6, .ref 15)]) rfl ?_
              refine R_aload 64 dX5_tellPerson_62 rfl rfl ?_
              refine R_aload_n 65 dX5_tellPerson_64 rfl rfl ?_
              refine R_ldcS 67 dX5_tellPerson_65 rfl rfl (j := 1) rfl ?_
              refine R_iload_n 68 dX5_tellPerson_67 rfl rfl ?_
              refine R_iconst 69 dX5_tellPerson_68 rfl (v := 1) (by decide) ?_
              refine R_iadd 70 dX5_tellPerson_69 rfl ?_
              refine R_callVi 73 (eX5_kindAt_1 hch) dX5_tellPerson_70 rfl kX5_kindAt lX5_84 rfl rfl rfl rfl rfl rfl rfl ?_
              refine R_nm (fun z8_ hz8_ => ?_)
              refine R_put 76 dX5_tellPerson_73 rfl wX5_115 rfl rfl rfl rfl (h2 := (hC G n (m.1, (up2 m.2 1 (upd (m.2 1) 0 z8_))) i cf ca, h2)) rfl ?_
              refine R_aload 78 dX5_tellPerson_76 rfl rfl ?_
              refine R_aload_n 79 dX5_tellPerson_78 rfl rfl ?_
              refine R_iload_n 80 dX5_tellPerson_79 rfl rfl ?_
              refine R_iconst 81 dX5_tellPerson_80 rfl (v := 2) (by decide) ?_
              refine R_iadd 82 dX5_tellPerson_81 rfl ?_
              refine R_callVi 85 (eX5_digitAt_32 hch) dX5_tellPerson_82 rfl kX5_digitAt lX5_93 rfl rfl rfl rfl rfl rfl rfl ?_
              refine R_nm (fun z9_ hz9_ => ?_)
              refine R_put 88 dX5_tellPerson_85 rfl wX5_118 rfl rfl rfl rfl (h2 := (hC G n (m.1, (up2 m.2 1 (upd (upd (m.2 1) 0 z8_) 1 z9_))) i cf ca, h2)) rfl ?_
              refine R_aload 90 dX5_tellPerson_88 rfl rfl ?_
              refine R_aload_n 91 dX5_tellPerson_90 rfl rfl ?_
              refine R_iload_n 92 dX5_tellPerson_91 rfl rfl ?_
              refine R_iconst 93 dX5_tellPerson_92 rfl (v := 3) (by decide) ?_
              refine R_iadd 94 dX5_tellPerson_93 rfl ?_
              refine R_callVi 97 (eX5_digitAt_32 hch) dX5_tellPerson_94 rfl kX5_digitAt lX5_93 rfl rfl rfl rfl rfl rfl rfl ?_
              refine R_nm (fun z10_ hz10_ => ?_)
              refine R_put 100 dX5_tellPerson_97 rfl wX5_121 rfl rfl rfl rfl (h2 := (hC G n (m.1, (up2 m.2 1 (upd (upd (upd (m.2 1) 0 z8_) 1 z9_) 2 z10_))) i cf ca, h2)) rfl ?_
              refine R_aload 102 dX5_tellPerson_100 rfl rfl ?_
              refine R_iload_n 103 dX5_tellPerson_102 rfl rfl ?_
              refine R_nm (fun z11_ hz11_ => ?_)
              refine R_put 106 dX5_tellPerson_103 rfl wX5_124 rfl rfl rfl rfl (h2 := (hC G n (m.1, (up2 m.2 1 (upd (upd (upd (upd (m.2 1) 0 z8_) 1 z9_) 2 z10_) 3 z11_))) i cf ca, h2)) rfl ?_
              refine R_aload 108 dX5_tellPerson_106 rfl rfl ?_
              refine R_iload 110 dX5_tellPerson_108 rfl rfl ?_
              refine R_nm (fun z12_ hz12_ => ?_)
              refine R_put 113 dX5_tellPerson_110 rfl wX5_127 rfl rfl rfl rfl (h2 := (hC G n (m.1, (up2 m.2 1 (upd (upd (upd (upd (upd (m.2 1) 0 z8_) 1 z9_) 2 z10_) 3 z11_) 4 z12_))) i cf ca, h2)) rfl ?_
              refine R_aload 115 dX5_tellPerson_113 rfl rfl ?_
              refine R_aload_n 116 dX5_tellPerson_115 rfl rfl ?_
              refine R_iload_n 117 dX5_tellPerson_116 rfl rfl ?_
              refine R_bipush 119 dX5_tellPerson_117 rfl (v := 6) (by decide) ?_
              refine R_iadd 120 dX5_tellPerson_119 rfl ?_
              refine R_callVi 123 (eX5_digitAt_32 hch) dX5_tellPerson_120 rfl kX5_digitAt lX5_93 rfl rfl rfl rfl rfl rfl rfl ?_
              refine R_nm (fun z13_ hz13_ => ?_)
              refine R_put 126 dX5_tellPerson_123 rfl wX5_130 rfl rfl rfl rfl (h2 := (hC G n (m.1, (up2 m.2 1 (upd (upd (upd (upd (upd (upd (m.2 1) 0 z8_) 1 z9_) 2 z10_) 3 z11_) 4 z12_) 5 z13_))) i cf ca, h2)) rfl ?_
              refine R_aload_n 127 dX5_tellPerson_126 rfl rfl ?_
              refine R_dup 128 dX5_tellPerson_127 rfl rfl ?_
              refine R_get 131 dX5_tellPerson_128 rfl fX5_106 rfl (v := .int (m.1 6)) rfl ?_
              refine R_iconst 132 dX5_tellPerson_131 rfl (v := 1) (by decide) ?_
              refine R_iadd 133 dX5_tellPerson_132 rfl ?_
              refine R_nm (fun z14_ hz14_ => ?_)
              refine R_put 136 dX5_tellPerson_133 rfl wX5_106 rfl rfl rfl rfl (h2 := (hC G n ((upd m.1 6 z14_), (up2 m.2 1 (upd (upd (upd (upd (upd (upd (m.2 1) 0 z8_) 1 z9_) 2 z10_) 3 z11_) 4 z12_) 5 z13_))) i cf ca, h2)) rfl ?_
              refine R_iconst 137 dX5_tellPerson_136 rfl (v := 1) (by decide) ?_
              refine R_ireturn dX5_tellPerson_137 rfl (by decide) ?_
              subst hz8_ hz9_ hz10_ hz11_ hz12_ hz13_ hz14_
              have e : zz = (true, ((upd m.1 6 ((m.1 6) + 1)), (up2 m.2 1 (upd (upd (upd (upd (upd (upd (m.2 1) 0 (sX5_kindAt_1 cf ca (i0 + 1))) 1 (sX5_digitAt cf ca (i0 + 2))) 2 (sX5_digitAt cf ca (i0 + 3))) 3 (sX5_digitAt cf ca (i0 + 4))) 4 (sX5_digitAt cf ca (i0 + 5))) 5 (sX5_digitAt cf ca (i0 + 6)))))) := by rw [← hs]; unfold sX5_tellPerson; rw [if_neg c1, if_neg c2, if_neg c3, if_neg c4, if_pos c5, if_neg c6, if_pos c7]
              rw [pr1 e, pr2 e]; exact ⟨rfl, rfl⟩
            by_cases c8 : (m.1 6) = 2
            ·
              refine R_aaldAt 60 2 c8 dX5_tellPerson_59 rfl rfl rfl (vin_d (by decide)) (y := 16) rfl ?_
              refine R_astore 62 dX5_tellPerson_60 rfl rfl (by decide) (loc' := [(0, .ref 32), (1, .ref 10), (2, .int i0), (3, .int (sX5_digitAt cf ca (i0 + 4))), (4, .int (sX5_digitAt cf ca (i0 + 5))), (5, .int (m.1 6)), (6, .ref 16)]) rfl ?_
              refine R_aload 64 dX5_tellPerson_62 rfl rfl ?_
              refine R_aload_n 65 dX5_tellPerson_64 rfl rfl ?_
              refine R_ldcS 67 dX5_tellPerson_65 rfl rfl (j := 1) rfl ?_
              refine R_iload_n 68 dX5_tellPerson_67 rfl rfl ?_
              refine R_iconst 69 dX5_tellPerson_68 rfl (v := 1) (by decide) ?_
              refine R_iadd 70 dX5_tellPerson_69 rfl ?_
              refine R_callVi 73 (eX5_kindAt_1 hch) dX5_tellPerson_70 rfl kX5_kindAt lX5_84 rfl rfl rfl rfl rfl rfl rfl ?_
              refine R_nm (fun z15_ hz15_ => ?_)
              refine R_put 76 dX5_tellPerson_73 rfl wX5_115 rfl rfl rfl rfl (h2 := (hC G n (m.1, (up2 m.2 2 (upd (m.2 2) 0 z15_))) i cf ca, h2)) rfl ?_
              refine R_aload 78 dX5_tellPerson_76 rfl rfl ?_
              refine R_aload_n 79 dX5_tellPerson_78 rfl rfl ?_
              refine R_iload_n 80 dX5_tellPerson_79 rfl rfl ?_
              refine R_iconst 81 dX5_tellPerson_80 rfl (v := 2) (by decide) ?_
              refine R_iadd 82 dX5_tellPerson_81 rfl ?_
              refine R_callVi 85 (eX5_digitAt_32 hch) dX5_tellPerson_82 rfl kX5_digitAt lX5_93 rfl rfl rfl rfl rfl rfl rfl ?_
              refine R_nm (fun z16_ hz16_ => ?_)
              refine R_put 88 dX5_tellPerson_85 rfl wX5_118 rfl rfl rfl rfl (h2 := (hC G n (m.1, (up2 m.2 2 (upd (upd (m.2 2) 0 z15_) 1 z16_))) i cf ca, h2)) rfl ?_
              refine R_aload 90 dX5_tellPerson_88 rfl rfl ?_
              refine R_aload_n 91 dX5_tellPerson_90 rfl rfl ?_
              refine R_iload_n 92 dX5_tellPerson_91 rfl rfl ?_
              refine R_iconst 93 dX5_tellPerson_92 rfl (v := 3) (by decide) ?_
              refine R_iadd 94 dX5_tellPerson_93 rfl ?_
              refine R_callVi 97 (eX5_digitAt_32 hch) dX5_tellPerson_94 rfl kX5_digitAt lX5_93 rfl rfl rfl rfl rfl rfl rfl ?_
              refine R_nm (fun z17_ hz17_ => ?_)
              refine R_put 100 dX5_tellPerson_97 rfl wX5_121 rfl rfl rfl rfl (h2 := (hC G n (m.1, (up2 m.2 2 (upd (upd (upd (m.2 2) 0 z15_) 1 z16_) 2 z17_))) i cf ca, h2)) rfl ?_
              refine R_aload 102 dX5_tellPerson_100 rfl rfl ?_
              refine R_iload_n 103 dX5_tellPerson_102 rfl rfl ?_
              refine R_nm (fun z18_ hz18_ => ?_)
              refine R_put 106 dX5_tellPerson_103 rfl wX5_124 rfl rfl rfl rfl (h2 := (hC G n (m.1, (up2 m.2 2 (upd (upd (upd (upd (m.2 2) 0 z15_) 1 z16_) 2 z17_) 3 z18_))) i cf ca, h2)) rfl ?_
              refine R_aload 108 dX5_tellPerson_106 rfl rfl ?_
              refine R_iload 110 dX5_tellPerson_108 rfl rfl ?_
              refine R_nm (fun z19_ hz19_ => ?_)
              refine R_put 113 dX5_tellPerson_110 rfl wX5_127 rfl rfl rfl rfl (h2 := (hC G n (m.1, (up2 m.2 2 (upd (upd (upd (upd (upd (m.2 2) 0 z15_) 1 z16_) 2 z17_) 3 z18_) 4 z19_))) i cf ca, h2)) rfl ?_
              refine R_aload 115 dX5_tellPerson_113 rfl rfl ?_
              refine R_aload_n 116 dX5_tellPerson_115 rfl rfl ?_
              refine R_iload_n 117 dX5_tellPerson_116 rfl rfl ?_
              refine R_bipush 119 dX5_tellPerson_117 rfl (v := 6) (by decide) ?_
              refine R_iadd 120 dX5_tellPerson_119 rfl ?_
              refine R_callVi 123 (eX5_digitAt_32 hch) dX5_tellPerson_120 rfl kX5_digitAt lX5_93 rfl rfl rfl rfl rfl rfl rfl ?_
              refine R_nm (fun z20_ hz20_ => ?_)
              refine R_put 126 dX5_tellPerson_123 rfl wX5_130 rfl rfl rfl rfl (h2 := (hC G n (m.1, (up2 m.2 2 (upd (upd (upd (upd (upd (upd (m.2 2) 0 z15_) 1 z16_) 2 z17_) 3 z18_) 4 z19_) 5 z20_))) i cf ca, h2)) rfl ?_
              refine R_aload_n 127 dX5_tellPerson_126 rfl rfl ?_
              refine R_dup 128 dX5_tellPerson_127 rfl rfl ?_
              refine R_get 131 dX5_tellPerson_128 rfl fX5_106 rfl (v := .int (m.1 6)) rfl ?_
              refine R_iconst 132 dX5_tellPerson_131 rfl (v := 1) (by decide) ?_
              refine R_iadd 133 dX5_tellPerson_132 rfl ?_
              refine R_nm (fun z21_ hz21_ => ?_)
              refine R_put 136 dX5_tellPerson_133 rfl wX5_106 rfl rfl rfl rfl (h2 := (hC G n ((upd m.1 6 z21_), (up2 m.2 2 (upd (upd (upd (upd (upd (upd (m.2 2) 0 z15_) 1 z16_) 2 z17_) 3 z18_) 4 z19_) 5 z20_))) i cf ca, h2)) rfl ?_
              refine R_iconst 137 dX5_tellPerson_136 rfl (v := 1) (by decide) ?_
              refine R_ireturn dX5_tellPerson_137 rfl (by decide) ?_
              subst hz15_ hz16_ hz17_ hz18_ hz19_ hz20_ hz21_
              have e : zz = (true, ((upd m.1 6 ((m.1 6) + 1)), (up2 m.2 2 (upd (upd (upd (upd (upd (upd (m.2 2) 0 (sX5_kindAt_1 cf ca (i0 + 1))) 1 (sX5_digitAt cf ca (i0 + 2))) 2 (sX5_digitAt cf ca (i0 + 3))) 3 (sX5_digitAt cf ca (i0 + 4))) 4 (sX5_digitAt cf ca (i0 + 5))) 5 (sX5_digitAt cf ca (i0 + 6)))))) := by rw [← hs]; unfold sX5_tellPerson; rw [if_neg c1, if_neg c2, if_neg c3, if_neg c4, if_pos c5, if_neg c6, if_neg c7, if_pos c8]
              rw [pr1 e, pr2 e]; exact ⟨rfl, rfl⟩
            by_cases c9 : (m.1 6) = 3
            ·
              refine R_aaldAt 60 3 c9 dX5_tellPerson_59 rfl rfl rfl (vin_d (by decide)) (y := 17) rfl ?_
              refine R_astore 62 dX5_tellPerson_60 rfl rfl (by decide) (loc' := [(0, .ref 32), (1, .ref 10), (2, .int i0), (3, .int (sX5_digitAt cf ca (i0 + 4))), (4, .int (sX5_digitAt cf ca (i0 + 5))), (5, .int (m.1 6)), (6, .ref 17)]) rfl ?_
              refine R_aload 64 dX5_tellPerson_62 rfl rfl ?_
              refine R_aload_n 65 dX5_tellPerson_64 rfl rfl ?_
              refine R_ldcS 67 dX5_tellPerson_65 rfl rfl (j := 1) rfl ?_
              refine R_iload_n 68 dX5_tellPerson_67 rfl rfl ?_
              refine R_iconst 69 dX5_tellPerson_68 rfl (v := 1) (by decide) ?_
              refine R_iadd 70 dX5_tellPerson_69 rfl ?_
              refine R_callVi 73 (eX5_kindAt_1 hch) dX5_tellPerson_70 rfl kX5_kindAt lX5_84 rfl rfl rfl rfl rfl rfl rfl ?_
              refine R_nm (fun z22_ hz22_ => ?_)
              refine R_put 76 dX5_tellPerson_73 rfl wX5_115 rfl rfl rfl rfl (h2 := (hC G n (m.1, (up2 m.2 3 (upd (m.2 3) 0 z22_))) i cf ca, h2)) rfl ?_
              refine R_aload 78 dX5_tellPerson_76 rfl rfl ?_
              refine R_aload_n 79 dX5_tellPerson_78 rfl rfl ?_
              refine R_iload_n 80 dX5_tellPerson_79 rfl rfl ?_
              refine R_iconst 81 dX5_tellPerson_80 rfl (v := 2) (by decide) ?_
              refine R_iadd 82 dX5_tellPerson_81 rfl ?_
              refine R_callVi 85 (eX5_digitAt_32 hch) dX5_tellPerson_82 rfl kX5_digitAt lX5_93 rfl rfl rfl rfl rfl rfl rfl ?_
              refine R_nm (fun z23_ hz23_ => ?_)
              refine R_put 88 dX5_tellPerson_85 rfl wX5_118 rfl rfl rfl rfl (h2 := (hC G n (m.1, (up2 m.2 3 (upd (upd (m.2 3) 0 z22_) 1 z23_))) i cf ca, h2)) rfl ?_
              refine R_aload 90 dX5_tellPerson_88 rfl rfl ?_
              refine R_aload_n 91 dX5_tellPerson_90 rfl rfl ?_
              refine R_iload_n 92 dX5_tellPerson_91 rfl rfl ?_
              refine R_iconst 93 dX5_tellPerson_92 rfl (v := 3) (by decide) ?_
              refine R_iadd 94 dX5_tellPerson_93 rfl ?_
              refine R_callVi 97 (eX5_digitAt_32 hch) dX5_tellPerson_94 rfl kX5_digitAt lX5_93 rfl rfl rfl rfl rfl rfl rfl ?_
              refine R_nm (fun z24_ hz24_ => ?_)
              refine R_put 100 dX5_tellPerson_97 rfl wX5_121 rfl rfl rfl rfl (h2 := (hC G n (m.1, (up2 m.2 3 (upd (upd (upd (m.2 3) 0 z22_) 1 z23_) 2 z24_))) i cf ca, h2)) rfl ?_
              refine R_aload 102 dX5_tellPerson_100 rfl rfl ?_
              refine R_iload_n 103 dX5_tellPerson_102 rfl rfl ?_
              refine R_nm (fun z25_ hz25_ => ?_)
              refine R_put 106 dX5_tellPerson_103 rfl wX5_124 rfl rfl rfl rfl (h2 := (hC G n (m.1, (up2 m.2 3 (upd (upd (upd (upd (m.2 3) 0 z22_) 1 z23_) 2 z24_) 3 z25_))) i cf ca, h2)) rfl ?_
              refine R_aload 108 dX5_tellPerson_106 rfl rfl ?_
              refine R_iload 110 dX5_tellPerson_108 rfl rfl ?_
              refine R_nm (fun z26_ hz26_ => ?_)
              refine R_put 113 dX5_tellPerson_110 rfl wX5_127 rfl rfl rfl rfl (h2 := (hC G n (m.1, (up2 m.2 3 (upd (upd (upd (upd (upd (m.2 3) 0 z22_) 1 z23_) 2 z24_) 3 z25_) 4 z26_))) i cf ca, h2)) rfl ?_
              refine R_aload 115 dX5_tellPerson_113 rfl rfl ?_
              refine R_aload_n 116 dX5_tellPerson_115 rfl rfl ?_
              refine R_iload_n 117 dX5_tellPerson_116 rfl rfl ?_
              refine R_bipush 119 dX5_tellPerson_117 rfl (v := 6) (by decide) ?_
              refine R_iadd 120 dX5_tellPerson_119 rfl ?_
              refine R_callVi 123 (eX5_digitAt_32 hch) dX5_tellPerson_120 rfl kX5_digitAt lX5_93 rfl rfl rfl rfl rfl rfl rfl ?_
              refine R_nm (fun z27_ hz27_ => ?_)
              refine R_put 126 dX5_tellPerson_123 rfl wX5_130 rfl rfl rfl rfl (h2 := (hC G n (m.1, (up2 m.2 3 (upd (upd (upd (upd (upd (upd (m.2 3) 0 z22_) 1 z23_) 2 z24_) 3 z25_) 4 z26_) 5 z27_))) i cf ca, h2)) rfl ?_
              refine R_aload_n 127 dX5_tellPerson_126 rfl rfl ?_
              refine R_dup 128 dX5_tellPerson_127 rfl rfl ?_
              refine R_get 131 dX5_tellPerson_128 rfl fX5_106 rfl (v := .int (m.1 6)) rfl ?_
              refine R_iconst 132 dX5_tellPerson_131 rfl (v := 1) (by decide) ?_
              refine R_iadd 133 dX5_tellPerson_132 rfl ?_
              refine R_nm (fun z28_ hz28_ => ?_)
              refine R_put 136 dX5_tellPerson_133 rfl wX5_106 rfl rfl rfl rfl (h2 := (hC G n ((upd m.1 6 z28_), (up2 m.2 3 (upd (upd (upd (upd (upd (upd (m.2 3) 0 z22_) 1 z23_) 2 z24_) 3 z25_) 4 z26_) 5 z27_))) i cf ca, h2)) rfl ?_
              refine R_iconst 137 dX5_tellPerson_136 rfl (v := 1) (by decide) ?_
              refine R_ireturn dX5_tellPerson_137 rfl (by decide) ?_
              subst hz22_ hz23_ hz24_ hz25_ hz26_ hz27_ hz28_
              have e : zz = (true, ((upd m.1 6 ((m.1 6) + 1)), (up2 m.2 3 (upd (upd (upd (upd (upd (upd (m.2 3) 0 (sX5_kindAt_1 cf ca (i0 + 1))) 1 (sX5_digitAt cf ca (i0 + 2))) 2 (sX5_digitAt cf ca (i0 + 3))) 3 (sX5_digitAt cf ca (i0 + 4))) 4 (sX5_digitAt cf ca (i0 + 5))) 5 (sX5_digitAt cf ca (i0 + 6)))))) := by rw [← hs]; unfold sX5_tellPerson; rw [if_neg c1, if_neg c2, if_neg c3, if_neg c4, if_pos c5, if_neg c6, if_neg c7, if_neg c8, if_pos c9]
              rw [pr1 e, pr2 e]; exact ⟨rfl, rfl⟩
            have c10 : (m.1 6) = 4 := lt5of c4 (vhi1 c5) c6 c7 c8 c9
            refine R_aaldAt 60 4 c10 dX5_tellPerson_59 rfl rfl rfl (vin_d (by decide)) (y := 18) rfl ?_
            refine R_astore 62 dX5_tellPerson_60 rfl rfl (by decide) (loc' := [(0, .ref 32), (1, .ref 10), (2, .int i0), (3, .int (sX5_digitAt cf ca (i0 + 4))), (4, .int (sX5_digitAt cf ca (i0 + 5))), (5, .int (m.1 6)), (6, .ref 18)]) rfl ?_
            refine R_aload 64 dX5_tellPerson_62 rfl rfl ?_
            refine R_aload_n 65 dX5_tellPerson_64 rfl rfl ?_
            refine R_ldcS 67 dX5_tellPerson_65 rfl rfl (j := 1) rfl ?_
            refine R_iload_n 68 dX5_tellPerson_67 rfl rfl ?_
            refine R_iconst 69 dX5_tellPerson_68 rfl (v := 1) (by decide) ?_
            refine R_iadd 70 dX5_tellPerson_69 rfl ?_
            refine R_callVi 73 (eX5_kindAt_1 hch) dX5_tellPerson_70 rfl kX5_kindAt lX5_84 rfl rfl rfl rfl rfl rfl rfl ?_
            refine R_nm (fun z29_ hz29_ => ?_)
            refine R_put 76 dX5_tellPerson_73 rfl wX5_115 rfl rfl rfl rfl (h2 := (hC G n (m.1, (up2 m.2 4 (upd (m.2 4) 0 z29_))) i cf ca, h2)) rfl ?_
            refine R_aload 78 dX5_tellPerson_76 rfl rfl ?_
            refine R_aload_n 79 dX5_tellPerson_78 rfl rfl ?_
            refine R_iload_n 80 dX5_tellPerson_79 rfl rfl ?_
            refine R_iconst 81 dX5_tellPerson_80 rfl (v := 2) (by decide) ?_
            refine R_iadd 82 dX5_tellPerson_81 rfl ?_
            refine R_callVi 85 (eX5_digitAt_32 hch) dX5_tellPerson_82 rfl kX5_digitAt lX5_93 rfl rfl rfl rfl rfl rfl rfl ?_
            refine R_nm (fun z30_ hz30_ => ?_)
            refine R_put 88 dX5_tellPerson_85 rfl wX5_118 rfl rfl rfl rfl (h2 := (hC G n (m.1, (up2 m.2 4 (upd (upd (m.2 4) 0 z29_) 1 z30_))) i cf ca, h2)) rfl ?_
            refine R_aload 90 dX5_tellPerson_88 rfl rfl ?_
            refine R_aload_n 91 dX5_tellPerson_90 rfl rfl ?_
            refine R_iload_n 92 dX5_tellPerson_91 rfl rfl ?_
            refine R_iconst 93 dX5_tellPerson_92 rfl (v := 3) (by decide) ?_
            refine R_iadd 94 dX5_tellPerson_93 rfl ?_
            refine R_callVi 97 (eX5_digitAt_32 hch) dX5_tellPerson_94 rfl kX5_digitAt lX5_93 rfl rfl rfl rfl rfl rfl rfl ?_
            refine R_nm (fun z31_ hz31_ => ?_)
            refine R_put 100 dX5_tellPerson_97 rfl wX5_121 rfl rfl rfl rfl (h2 := (hC G n (m.1, (up2 m.2 4 (upd (upd (upd (m.2 4) 0 z29_) 1 z30_) 2 z31_))) i cf ca, h2)) rfl ?_
            refine R_aload 102 dX5_tellPerson_100 rfl rfl ?_
            refine R_iload_n 103 dX5_tellPerson_102 rfl rfl ?_
            refine R_nm (fun z32_ hz32_ => ?_)
            refine R_put 106 dX5_tellPerson_103 rfl wX5_124 rfl rfl rfl rfl (h2 := (hC G n (m.1, (up2 m.2 4 (upd (upd (upd (upd (m.2 4) 0 z29_) 1 z30_) 2 z31_) 3 z32_))) i cf ca, h2)) rfl ?_
            refine R_aload 108 dX5_tellPerson_106 rfl rfl ?_
            refine R_iload 110 dX5_tellPerson_108 rfl rfl ?_
            refine R_nm (fun z33_ hz33_ => ?_)
            refine R_put 113 dX5_tellPerson_110 rfl wX5_127 rfl rfl rfl rfl (h2 := (hC G n (m.1, (up2 m.2 4 (upd (upd (upd (upd (upd (m.2 4) 0 z29_) 1 z30_) 2 z31_) 3 z32_) 4 z33_))) i cf ca, h2)) rfl ?_
            refine R_aload 115 dX5_tellPerson_113 rfl rfl ?_
            refine R_aload_n 116 dX5_tellPerson_115 rfl rfl ?_
            refine R_iload_n 117 dX5_tellPerson_116 rfl rfl ?_
            refine R_bipush 119 dX5_tellPerson_117 rfl (v := 6) (by decide) ?_
            refine R_iadd 120 dX5_tellPerson_119 rfl ?_
            refine R_callVi 123 (eX5_digitAt_32 hch) dX5_tellPerson_120 rfl kX5_digitAt lX5_93 rfl rfl rfl rfl rfl rfl rfl ?_
            refine R_nm (fun z34_ hz34_ => ?_)
            refine R_put 126 dX5_tellPerson_123 rfl wX5_130 rfl rfl rfl rfl (h2 := (hC G n (m.1, (up2 m.2 4 (upd (upd (upd (upd (upd (upd (m.2 4) 0 z29_) 1 z30_) 2 z31_) 3 z32_) 4 z33_) 5 z34_))) i cf ca, h2)) rfl ?_
            refine R_aload_n 127 dX5_tellPerson_126 rfl rfl ?_
            refine R_dup 128 dX5_tellPerson_127 rfl rfl ?_
            refine R_get 131 dX5_tellPerson_128 rfl fX5_106 rfl (v := .int (m.1 6)) rfl ?_
            refine R_iconst 132 dX5_tellPerson_131 rfl (v := 1) (by decide) ?_
            refine R_iadd 133 dX5_tellPerson_132 rfl ?_
            refine R_nm (fun z35_ hz35_ => ?_)
            refine R_put 136 dX5_tellPerson_133 rfl wX5_106 rfl rfl rfl rfl (h2 := (hC G n ((upd m.1 6 z35_), (up2 m.2 4 (upd (upd (upd (upd (upd (upd (m.2 4) 0 z29_) 1 z30_) 2 z31_) 3 z32_) 4 z33_) 5 z34_))) i cf ca, h2)) rfl ?_
            refine R_iconst 137 dX5_tellPerson_136 rfl (v := 1) (by decide) ?_
            refine R_ireturn dX5_tellPerson_137 rfl (by decide) ?_
            subst hz29_ hz30_ hz31_ hz32_ hz33_ hz34_ hz35_
            have e : zz = (true, ((upd m.1 6 ((m.1 6) + 1)), (up2 m.2 4 (upd (upd (upd (upd (upd (upd (m.2 4) 0 (sX5_kindAt_1 cf ca (i0 + 1))) 1 (sX5_digitAt cf ca (i0 + 2))) 2 (sX5_digitAt cf ca (i0 + 3))) 3 (sX5_digitAt cf ca (i0 + 4))) 4 (sX5_digitAt cf ca (i0 + 5))) 5 (sX5_digitAt cf ca (i0 + 6)))))) := by rw [← hs]; unfold sX5_tellPerson; rw [if_neg c1, if_neg c2, if_neg c3, if_neg c4, if_pos c5, if_neg c6, if_neg c7, if_neg c8, if_neg c9]
            rw [pr1 e, pr2 e]; exact ⟨rfl, rfl⟩
          ·
            refine R_iconst 52 dX5_tellPerson_51 rfl (v := 0) (by decide) ?_
            refine R_ireturn dX5_tellPerson_52 rfl (by decide) ?_
            have e : zz = (false, m) := by rw [← hs]; unfold sX5_tellPerson; rw [if_neg c1, if_neg c2, if_neg c3, if_neg c4, if_neg c5]
            rw [pr1 e, pr2 e]; exact ⟨rfl, rfl⟩
def sX5_tellStation (m : zP) (cf : Nat → Int32) (ca : Nat → Nat → Int32) (i0 : Int32) : Bool × zP := if 1 < (sX5_digitAt cf ca (i0 + 1)) then (false, m) else if (sX5_numberAt cf ca (i0 + 3)) ≤ 20 then (true, (sX2_change m (if (sX5_digitAt cf ca (i0 + 1)) = 0 then 1 else 2) (sX5_signedAt cf ca (i0 + 2) (sX5_numberAt cf ca (i0 + 3)))).2) else (false, m)
set_option maxRecDepth 20000 in
theorem eX5_tellStation_32 {G : zG} {h2 : List va_E} {n m i : zP} {cf : Nat → Int32} {ca : Nat → Nat → Int32} {i0 : Int32} (hch : zCh (ca 33)) : EvF G mX5_tellStation [.ref 32, .ref 10, .int i0] (hC G n m i cf ca, h2) (some (.int (b2i ((sX5_tellStation m cf ca i0).1)))) (hC G n ((sX5_tellStation m cf ca i0).2) i cf ca, h2) := by
  generalize hs : (sX5_tellStation m cf ca i0) = zz
  refine EvF.of pnX5 rfl ?_
  refine R_aload_n 1 dX5_tellStation_0 rfl rfl ?_
  refine R_iload_n 2 dX5_tellStation_1 rfl rfl ?_
  refine R_iconst 3 dX5_tellStation_2 rfl (v := 1) (by decide) ?_
  refine R_iadd 4 dX5_tellStation_3 rfl ?_
  refine R_callVi 7 (eX5_digitAt_32 hch) dX5_tellStation_4 rfl kX5_digitAt lX5_93 rfl rfl rfl rfl rfl rfl rfl ?_
  refine R_istore_n 8 dX5_tellStation_7 rfl rfl (by decide) (loc' := [(0, .ref 32), (1, .ref 10), (2, .int i0), (3, .int (sX5_digitAt cf ca (i0 + 1)))]) rfl ?_
  refine R_aload_n 9 dX5_tellStation_8 rfl rfl ?_
  refine R_iload_n 10 dX5_tellStation_9 rfl rfl ?_
  refine R_iconst 11 dX5_tellStation_10 rfl (v := 3) (by decide) ?_
  refine R_iadd 12 dX5_tellStation_11 rfl ?_
  refine R_callVi 15 (eX5_numberAt_32 hch) dX5_tellStation_12 rfl kX5_numberAt lX5_62 rfl rfl rfl rfl rfl rfl rfl ?_
  refine R_istore 17 dX5_tellStation_15 rfl rfl (by decide) (loc' := [(0, .ref 32), (1, .ref 10), (2, .int i0), (3, .int (sX5_digitAt cf ca (i0 + 1))), (4, .int (sX5_numberAt cf ca (i0 + 3)))]) rfl ?_
  refine R_iload_n 18 dX5_tellStation_17 rfl rfl ?_
  refine R_iconst 19 dX5_tellStation_18 rfl (v := 1) (by decide) ?_
  refine R_icmp_gt 22 29 dX5_tellStation_19 rfl (by decide) (fun c1 => ?_) (fun c1 => ?_)
  ·
    refine R_iconst 30 dX5_tellStation_29 rfl (v := 0) (by decide) ?_
    refine R_ireturn dX5_tellStation_30 rfl (by decide) ?_
    have e : zz = (false, m) := by rw [← hs]; unfold sX5_tellStation; rw [if_pos c1]
    rw [pr1 e, pr2 e]; exact ⟨rfl, rfl⟩
  ·
    refine R_iload 24 dX5_tellStation_22 rfl rfl ?_
    refine R_bipush 26 dX5_tellStation_24 rfl (v := 20) (by decide) ?_
    refine R_icmp_le 29 31 dX5_tellStation_26 rfl (by decide) (fun c2 => ?_) (fun c2 => ?_)
    ·
      refine R_aload_n 32 dX5_tellStation_31 rfl rfl ?_
      refine R_iload_n 33 dX5_tellStation_32 rfl rfl ?_
      refine R_cut 41 [(0, .ref 32), (1, .ref 10), (2, .int i0), (3, .int (sX5_digitAt cf ca (i0 + 1))), (4, .int (sX5_numberAt cf ca (i0 + 3)))] (.int (if (sX5_digitAt cf ca (i0 + 1)) = 0 then 1 else 2) :: [.ref 10]) (hC G n m i cf ca, h2) ?_ (fun kj => ?_)
      ·
        refine R_aload_n 42 dX5_tellStation_41 rfl rfl ?_
        refine R_iload_n 43 dX5_tellStation_42 rfl rfl ?_
        refine R_iconst 44 dX5_tellStation_43 rfl (v := 2) (by decide) ?_
        refine R_iadd 45 dX5_tellStation_44 rfl ?_
        refine R_iload 47 dX5_tellStation_45 rfl rfl ?_
        refine R_callVi 50 (eX5_signedAt_32 hch) dX5_tellStation_47 rfl kX5_signedAt lX5_66 rfl rfl rfl rfl rfl rfl rfl ?_
        refine R_callVi 53 eX2_change_10 dX5_tellStation_50 rfl kX2_change lX5_133 rfl rfl rfl rfl rfl rfl rfl ?_
        refine R_pop 54 dX5_tellStation_53 rfl rfl ?_
        refine R_iconst 55 dX5_tellStation_54 rfl (v := 1) (by decide) ?_
        refine R_ireturn dX5_tellStation_55 rfl (by decide) ?_
        have e : zz = (true, (sX2_change m (if (sX5_digitAt cf ca (i0 + 1)) = 0 then 1 else 2) (sX5_signedAt cf ca (i0 + 2) (sX5_numberAt cf ca (i0 + 3)))).2) := by rw [← hs]; unfold sX5_tellStation; rw [if_neg c1, if_pos c2]
        rw [pr1 e, pr2 e]; exact ⟨rfl, rfl⟩
      refine R_if_ne 36 40 dX5_tellStation_33 rfl (by decide) (fun c3 => ?_) (fun c3 => ?_)
      · refine R_iconst 41 dX5_tellStation_40 rfl (v := 2) (by decide) ?_
        rw [if_neg c3] at kj; exact kj
      · refine R_iconst 37 dX5_tellStation_36 rfl (v := 1) (by decide) ?_
        refine R_goto 41 dX5_tellStation_37 (by decide) ?_
        rw [if_pos c3] at kj; exact kj
    ·
      refine R_iconst 30 dX5_tellStation_29 rfl (v := 0) (by decide) ?_
      refine R_ireturn dX5_tellStation_30 rfl (by decide) ?_
      have e : zz = (false, m) := by rw [← hs]; unfold sX5_tellStation; rw [if_neg c1, if_neg c2]
      rw [pr1 e, pr2 e]; exact ⟨rfl, rfl⟩
def sX5_tellRule (m : zP) (cf : Nat → Int32) (ca : Nat → Nat → Int32) (i0 : Int32) : Bool × zP := if (sX6_outside (sX5_numberAt cf ca (i0 + 2)) 1 20) = 0 then (true, ((upd (upd (upd m.1 11 (sX5_kindAt_3 cf ca (i0 + 1))) 12 (sX5_numberAt cf ca (i0 + 2))) 13 (sX5_digitAt cf ca (i0 + 4))), m.2)) else (false, m)
set_option maxRecDepth 20000 in
theorem eX5_tellRule_32 {G : zG} {h2 : List va_E} {n m i : zP} {cf : Nat → Int32} {ca : Nat → Nat → Int32} {i0 : Int32} (hch : zCh (ca 33)) : EvF G mX5_tellRule [.ref 32, .ref 10, .int i0] (hC G n m i cf ca, h2) (some (.int (b2i ((sX5_tellRule m cf ca i0).1)))) (hC G n ((sX5_tellRule m cf ca i0).2) i cf ca, h2) := by
  generalize hs : (sX5_tellRule m cf ca i0) = zz
  refine EvF.of pnX5 rfl ?_
  refine R_aload_n 1 dX5_tellRule_0 rfl rfl ?_
  refine R_iload_n 2 dX5_tellRule_1 rfl rfl ?_
  refine R_iconst 3 dX5_tellRule_2 rfl (v := 2) (by decide) ?_
  refine R_iadd 4 dX5_tellRule_3 rfl ?_
  refine R_callVi 7 (eX5_numberAt_32 hch) dX5_tellRule_4 rfl kX5_numberAt lX5_62 rfl rfl rfl rfl rfl rfl rfl ?_
  refine R_istore_n 8 dX5_tellRule_7 rfl rfl (by decide) (loc' := [(0, .ref 32), (1, .ref 10), (2, .int i0), (3, .int (sX5_numberAt cf ca (i0 + 2)))]) rfl ?_
  refine R_iload_n 9 dX5_tellRule_8 rfl rfl ?_
  refine R_getsN 12 (j := 0) dX5_tellRule_9 rfl rfl nn_136 ?_
  refine R_iconst 13 dX5_tellRule_12 rfl (v := 4) (by decide) ?_
  refine R_iro 14 dX5_tellRule_13 rfl rfl (vin_d (by decide)) ?_
  refine R_top (y := 1) (by decide) ?_
  refine R_getsN 17 (j := 1) dX5_tellRule_14 rfl rfl nn_140 ?_
  refine R_iconst 18 dX5_tellRule_17 rfl (v := 4) (by decide) ?_
  refine R_iro 19 dX5_tellRule_18 rfl rfl (vin_d (by decide)) ?_
  refine R_top (y := 20) (by decide) ?_
  refine R_callSNi 22 eX6_outside dX5_tellRule_19 rfl kX6_outside nm_X5_143 rfl rfl rfl rfl rfl ?_
  refine R_if_eq 25 27 dX5_tellRule_22 rfl (by decide) (fun c1 => ?_) (fun c1 => ?_)
  ·
    refine R_aload_n 28 dX5_tellRule_27 rfl rfl ?_
    refine R_get 31 dX5_tellRule_28 rfl fX5_147 rfl (v := .ref 12) rfl ?_
    refine R_aload_n 32 dX5_tellRule_31 rfl rfl ?_
    refine R_ldcS 34 dX5_tellRule_32 rfl rfl (j := 3) rfl ?_
    refine R_iload_n 35 dX5_tellRule_34 rfl rfl ?_
    refine R_iconst 36 dX5_tellRule_35 rfl (v := 1) (by decide) ?_
    refine R_iadd 37 dX5_tellRule_36 rfl ?_
    refine R_callVi 40 (eX5_kindAt_3 hch) dX5_tellRule_37 rfl kX5_kindAt lX5_84 rfl rfl rfl rfl rfl rfl rfl ?_
    refine R_nm (fun z1_ hz1_ => ?_)
    refine R_put 43 dX5_tellRule_40 rfl wX5_153 rfl rfl rfl rfl (h2 := (hC G n ((upd m.1 11 z1_), m.2) i cf ca, h2)) rfl ?_
    refine R_aload_n 44 dX5_tellRule_43 rfl rfl ?_
    refine R_get 47 dX5_tellRule_44 rfl fX5_147 rfl (v := .ref 12) rfl ?_
    refine R_iload_n 48 dX5_tellRule_47 rfl rfl ?_
    refine R_nm (fun z2_ hz2_ => ?_)
    refine R_put 51 dX5_tellRule_48 rfl wX5_156 rfl rfl rfl rfl (h2 := (hC G n ((upd (upd m.1 11 z1_) 12 z2_), m.2) i cf ca, h2)) rfl ?_
    refine R_aload_n 52 dX5_tellRule_51 rfl rfl ?_
    refine R_get 55 dX5_tellRule_52 rfl fX5_147 rfl (v := .ref 12) rfl ?_
    refine R_aload_n 56 dX5_tellRule_55 rfl rfl ?_
    refine R_iload_n 57 dX5_tellRule_56 rfl rfl ?_
    refine R_iconst 58 dX5_tellRule_57 rfl (v := 4) (by decide) ?_
    refine R_iadd 59 dX5_tellRule_58 rfl ?_
    refine R_callVi 62 (eX5_digitAt_32 hch) dX5_tellRule_59 rfl kX5_digitAt lX5_93 rfl rfl rfl rfl rfl rfl rfl ?_
    refine R_nm (fun z3_ hz3_ => ?_)
    refine R_put 65 dX5_tellRule_62 rfl wX5_159 rfl rfl rfl rfl (h2 := (hC G n ((upd (upd (upd m.1 11 z1_) 12 z2_) 13 z3_), m.2) i cf ca, h2)) rfl ?_
    refine R_iconst 66 dX5_tellRule_65 rfl (v := 1) (by decide) ?_
    refine R_ireturn dX5_tellRule_66 rfl (by decide) ?_
    subst hz1_ hz2_ hz3_
    have e : zz = (true, ((upd (upd (upd m.1 11 (sX5_kindAt_3 cf ca (i0 + 1))) 12 (sX5_numberAt cf ca (i0 + 2))) 13 (sX5_digitAt cf ca (i0 + 4))), m.2)) := by rw [← hs]; unfold sX5_tellRule; rw [if_pos c1]
    rw [pr1 e, pr2 e]; exact ⟨rfl, rfl⟩
  ·
    refine R_iconst 26 dX5_tellRule_25 rfl (v := 0) (by decide) ?_
    refine R_ireturn dX5_tellRule_26 rfl (by decide) ?_
    have e : zz = (false, m) := by rw [← hs]; unfold sX5_tellRule; rw [if_neg c1]
    rw [pr1 e, pr2 e]; exact ⟨rfl, rfl⟩
def sX5_tellMinutes (m : zP) (cf : Nat → Int32) (ca : Nat → Nat → Int32) (i0 : Int32) : Bool × zP × (Nat → Int32) × (Nat → Nat → Int32) := if (sX5_numberAt cf ca (i0 + 1)) < 1 then (false, m, cf, ca) else if 60 < (sX5_numberAt cf ca (i0 + 1)) then (false, m, cf, ca) else if ((m.1 8) + (sX5_numberAt cf ca (i0 + 1))) ≤ 9999 then (true, (mpass true (sX5_numberAt cf ca (i0 + 1)).toNatClampNeg (m, cf, ca)).1, (mpass true (sX5_numberAt cf ca (i0 + 1)).toNatClampNeg (m, cf, ca)).2.1, (mpass true (sX5_numberAt cf ca (i0 + 1)).toNatClampNeg (m, cf, ca)).2.2) else (false, m, cf, ca)
set_option maxRecDepth 20000 in
theorem eX5_tellMinutes_32 {G : zG} {h2 : List va_E} {n m i : zP} {cf : Nat → Int32} {ca : Nat → Nat → Int32} {i0 : Int32} (hch : zCh (ca 33)) : EvF G mX5_tellMinutes [.ref 32, .ref 10, .int i0, .ref 28] (hC G n m i cf ca, h2) (some (.int (b2i ((sX5_tellMinutes m cf ca i0).1)))) (hC G n ((sX5_tellMinutes m cf ca i0).2.1) i ((sX5_tellMinutes m cf ca i0).2.2.1) ((sX5_tellMinutes m cf ca i0).2.2.2), h2) := by
  generalize hs : (sX5_tellMinutes m cf ca i0) = zz
  refine EvF.of pnX5 rfl ?_
  refine R_aload_n 1 dX5_tellMinutes_0 rfl rfl ?_
  refine R_iload_n 2 dX5_tellMinutes_1 rfl rfl ?_
  refine R_iconst 3 dX5_tellMinutes_2 rfl (v := 1) (by decide) ?_
  refine R_iadd 4 dX5_tellMinutes_3 rfl ?_
  refine R_callVi 7 (eX5_numberAt_32 hch) dX5_tellMinutes_4 rfl kX5_numberAt lX5_62 rfl rfl rfl rfl rfl rfl rfl ?_
  refine R_istore 9 dX5_tellMinutes_7 rfl rfl (by decide) (loc' := [(0, .ref 32), (1, .ref 10), (2, .int i0), (3, .ref 28), (4, .int (sX5_numberAt cf ca (i0 + 1)))]) rfl ?_
  refine R_iload 11 dX5_tellMinutes_9 rfl rfl ?_
  refine R_iconst 12 dX5_tellMinutes_11 rfl (v := 1) (by decide) ?_
  refine R_icmp_lt 15 35 dX5_tellMinutes_12 rfl (by decide) (fun c1 => ?_) (fun c1 => ?_)
  ·
    refine R_iconst 36 dX5_tellMinutes_35 rfl (v := 0) (by decide) ?_
    refine R_ireturn dX5_tellMinutes_36 rfl (by decide) ?_
    have e : zz = (false, m, cf, ca) := by rw [← hs]; unfold sX5_tellMinutes; rw [if_pos c1]
    rw [pr1 e, pr1 (pr2 e), pr1 (pr2 (pr2 e)), pr2 (pr2 (pr2 e))]; exact ⟨rfl, rfl⟩
  ·
    refine R_iload 17 dX5_tellMinutes_15 rfl rfl ?_
    refine R_bipush 19 dX5_tellMinutes_17 rfl (v := 60) (by decide) ?_
    refine R_icmp_gt 22 35 dX5_tellMinutes_19 rfl (by decide) (fun c2 => ?_) (fun c2 => ?_)
    ·
      refine R_iconst 36 dX5_tellMinutes_35 rfl (v := 0) (by decide) ?_
      refine R_ireturn dX5_tellMinutes_36 rfl (by decide) ?_
      have e : zz = (false, m, cf, ca) := by rw [← hs]; unfold sX5_tellMinutes; rw [if_neg c1, if_pos c2]
      rw [pr1 e, pr1 (pr2 e), pr1 (pr2 (pr2 e)), pr2 (pr2 (pr2 e))]; exact ⟨rfl, rfl⟩
    ·
      refine R_aload_n 23 dX5_tellMinutes_22 rfl rfl ?_
      refine R_get 26 dX5_tellMinutes_23 rfl fX5_162 rfl (v := .int (m.1 8)) rfl ?_
      refine R_iload 28 dX5_tellMinutes_26 rfl rfl ?_
      refine R_iadd 29 dX5_tellMinutes_28 rfl ?_
      refine R_sipush 32 dX5_tellMinutes_29 rfl (v := 9999) (by decide) ?_
      refine R_icmp_le 35 37 dX5_tellMinutes_32 rfl (by decide) (fun c3 => ?_) (fun c3 => ?_)
      ·
        refine R_aload_n 38 dX5_tellMinutes_37 rfl rfl ?_
        refine R_iload 40 dX5_tellMinutes_38 rfl rfl ?_
        refine R_iconst 41 dX5_tellMinutes_40 rfl (v := 1) (by decide) ?_
        refine R_aload_n 42 dX5_tellMinutes_41 rfl rfl ?_
        refine R_callVv 45 (eX2_passMinutes_10 (mg := true) (x := (sX5_numberAt cf ca (i0 + 1)))) dX5_tellMinutes_42 rfl kX2_passMinutes lX5_165 rfl rfl rfl rfl rfl rfl rfl ?_
        refine R_iconst 46 dX5_tellMinutes_45 rfl (v := 1) (by decide) ?_
        refine R_ireturn dX5_tellMinutes_46 rfl (by decide) ?_
        have e : zz = (true, (mpass true (sX5_numberAt cf ca (i0 + 1)).toNatClampNeg (m, cf, ca)).1, (mpass true (sX5_numberAt cf ca (i0 + 1)).toNatClampNeg (m, cf, ca)).2.1, (mpass true (sX5_numberAt cf ca (i0 + 1)).toNatClampNeg (m, cf, ca)).2.2) := by rw [← hs]; unfold sX5_tellMinutes; rw [if_neg c1, if_neg c2, if_pos c3]
        rw [pr1 e, pr1 (pr2 e), pr1 (pr2 (pr2 e)), pr2 (pr2 (pr2 e))]; exact ⟨rfl, rfl⟩
      ·
        refine R_iconst 36 dX5_tellMinutes_35 rfl (v := 0) (by decide) ?_
        refine R_ireturn dX5_tellMinutes_36 rfl (by decide) ?_
        have e : zz = (false, m, cf, ca) := by rw [← hs]; unfold sX5_tellMinutes; rw [if_neg c1, if_neg c2, if_neg c3]
        rw [pr1 e, pr1 (pr2 e), pr1 (pr2 (pr2 e)), pr2 (pr2 (pr2 e))]; exact ⟨rfl, rfl⟩
def sX5_tellTo (m : zP) (cf : Nat → Int32) (ca : Nat → Nat → Int32) (i0 : Int32) : Bool × zP × (Nat → Int32) × (Nat → Nat → Int32) := if (sX5_signAt cf ca i0) = 100 then (true, ((upd (upd m.1 9 (sX5_kindAt_2 cf ca (i0 + 1))) 10 (sX5_signedAt cf ca (i0 + 2) (sX5_digitAt cf ca (i0 + 3)))), m.2), cf, ca) else if (sX5_signAt cf ca i0) = 112 then (((sX5_tellPerson m cf ca i0).1), (sX5_tellPerson m cf ca i0).2, cf, ca) else if (sX5_signAt cf ca i0) = 114 then (((sX5_tellRule m cf ca i0).1), (sX5_tellRule m cf ca i0).2, cf, ca) else if (sX5_signAt cf ca i0) = 115 then (((sX5_tellStation m cf ca i0).1), (sX5_tellStation m cf ca i0).2, cf, ca) else if (sX5_signAt cf ca i0) = 119 then (true, ((upd m.1 0 (sX5_signedAt cf ca (i0 + 1) (sX5_numberAt cf ca (i0 + 2)))), m.2), cf, ca) else (((sX5_tellMinutes m cf ca i0).1), (sX5_tellMinutes m cf ca i0).2.1, (sX5_tellMinutes m cf ca i0).2.2.1, (sX5_tellMinutes m cf ca i0).2.2.2)
set_option maxRecDepth 20000 in
theorem eX5_tellTo_32 {G : zG} {h2 : List va_E} {n m i : zP} {cf : Nat → Int32} {ca : Nat → Nat → Int32} {i0 : Int32} (hch : zCh (ca 33)) : EvF G mX5_tellTo [.ref 32, .ref 10, .int i0, .ref 28] (hC G n m i cf ca, h2) (some (.int (b2i ((sX5_tellTo m cf ca i0).1)))) (hC G n ((sX5_tellTo m cf ca i0).2.1) i ((sX5_tellTo m cf ca i0).2.2.1) ((sX5_tellTo m cf ca i0).2.2.2), h2) := by
  generalize hs : (sX5_tellTo m cf ca i0) = zz
  refine EvF.of pnX5 rfl ?_
  refine R_aload_n 1 dX5_tellTo_0 rfl rfl ?_
  refine R_iload_n 2 dX5_tellTo_1 rfl rfl ?_
  refine R_callVi 5 (eX5_signAt_32 hch) dX5_tellTo_2 rfl kX5_signAt lX5_19 rfl rfl rfl rfl rfl rfl rfl ?_
  by_cases c1 : (sX5_signAt cf ca i0) = 100
  ·
    refine R_lookAt 90 (off := 85) 100 c1 dX5_tellTo_5 (by decide) (by decide) ?_
    refine R_aload_n 91 dX5_tellTo_90 rfl rfl ?_
    refine R_get 94 dX5_tellTo_91 rfl fX5_78 rfl (v := .ref 11) rfl ?_
    refine R_aload_n 95 dX5_tellTo_94 rfl rfl ?_
    refine R_ldcS 97 dX5_tellTo_95 rfl rfl (j := 2) rfl ?_
    refine R_iload_n 98 dX5_tellTo_97 rfl rfl ?_
    refine R_iconst 99 dX5_tellTo_98 rfl (v := 1) (by decide) ?_
    refine R_iadd 100 dX5_tellTo_99 rfl ?_
    refine R_callVi 103 (eX5_kindAt_2 hch) dX5_tellTo_100 rfl kX5_kindAt lX5_84 rfl rfl rfl rfl rfl rfl rfl ?_
    refine R_nm (fun z1_ hz1_ => ?_)
    refine R_put 106 dX5_tellTo_103 rfl wX5_88 rfl rfl rfl rfl (h2 := (hC G n ((upd m.1 9 z1_), m.2) i cf ca, h2)) rfl ?_
    refine R_aload_n 107 dX5_tellTo_106 rfl rfl ?_
    refine R_get 110 dX5_tellTo_107 rfl fX5_78 rfl (v := .ref 11) rfl ?_
    refine R_aload_n 111 dX5_tellTo_110 rfl rfl ?_
    refine R_iload_n 112 dX5_tellTo_111 rfl rfl ?_
    refine R_iconst 113 dX5_tellTo_112 rfl (v := 2) (by decide) ?_
    refine R_iadd 114 dX5_tellTo_113 rfl ?_
    refine R_aload_n 115 dX5_tellTo_114 rfl rfl ?_
    refine R_iload_n 116 dX5_tellTo_115 rfl rfl ?_
    refine R_iconst 117 dX5_tellTo_116 rfl (v := 3) (by decide) ?_
    refine R_iadd 118 dX5_tellTo_117 rfl ?_
    refine R_callVi 121 (eX5_digitAt_32 hch) dX5_tellTo_118 rfl kX5_digitAt lX5_93 rfl rfl rfl rfl rfl rfl rfl ?_
    refine R_callVi 124 (eX5_signedAt_32 hch) dX5_tellTo_121 rfl kX5_signedAt lX5_66 rfl rfl rfl rfl rfl rfl rfl ?_
    refine R_nm (fun z2_ hz2_ => ?_)
    refine R_put 127 dX5_tellTo_124 rfl wX5_96 rfl rfl rfl rfl (h2 := (hC G n ((upd (upd m.1 9 z1_) 10 z2_), m.2) i cf ca, h2)) rfl ?_
    refine R_iconst 128 dX5_tellTo_127 rfl (v := 1) (by decide) ?_
    refine R_ireturn dX5_tellTo_128 rfl (by decide) ?_
    subst hz1_ hz2_
    have e : zz = (true, ((upd (upd m.1 9 (sX5_kindAt_2 cf ca (i0 + 1))) 10 (sX5_signedAt cf ca (i0 + 2) (sX5_digitAt cf ca (i0 + 3)))), m.2), cf, ca) := by rw [← hs]; unfold sX5_tellTo; rw [if_pos c1]
    rw [pr1 e, pr1 (pr2 e), pr1 (pr2 (pr2 e)), pr2 (pr2 (pr2 e))]; exact ⟨rfl, rfl⟩
  by_cases c2 : (sX5_signAt cf ca i0) = 112
  ·
    refine R_lookAt 56 (off := 51) 112 c2 dX5_tellTo_5 (by decide) (by decide) ?_
    refine R_aload_n 57 dX5_tellTo_56 rfl rfl ?_
    refine R_aload_n 58 dX5_tellTo_57 rfl rfl ?_
    refine R_iload_n 59 dX5_tellTo_58 rfl rfl ?_
    refine R_callVi 62 (eX5_tellPerson_32 hch) dX5_tellTo_59 rfl kX5_tellPerson lX5_58 rfl rfl rfl rfl rfl rfl rfl ?_
    refine R_ireturn dX5_tellTo_62 rfl (nar_b _) ?_
    have e : zz = (((sX5_tellPerson m cf ca i0).1), (sX5_tellPerson m cf ca i0).2, cf, ca) := by rw [← hs]; unfold sX5_tellTo; rw [if_neg c1, if_pos c2]
    rw [pr1 e, pr1 (pr2 e), pr1 (pr2 (pr2 e)), pr2 (pr2 (pr2 e))]; exact ⟨rfl, rfl⟩
  by_cases c3 : (sX5_signAt cf ca i0) = 114
  ·
    refine R_lookAt 129 (off := 124) 114 c3 dX5_tellTo_5 (by decide) (by decide) ?_
    refine R_aload_n 130 dX5_tellTo_129 rfl rfl ?_
    refine R_aload_n 131 dX5_tellTo_130 rfl rfl ?_
    refine R_iload_n 132 dX5_tellTo_131 rfl rfl ?_
    refine R_callVi 135 (eX5_tellRule_32 hch) dX5_tellTo_132 rfl kX5_tellRule lX5_99 rfl rfl rfl rfl rfl rfl rfl ?_
    refine R_ireturn dX5_tellTo_135 rfl (nar_b _) ?_
    have e : zz = (((sX5_tellRule m cf ca i0).1), (sX5_tellRule m cf ca i0).2, cf, ca) := by rw [← hs]; unfold sX5_tellTo; rw [if_neg c1, if_neg c2, if_pos c3]
    rw [pr1 e, pr1 (pr2 e), pr1 (pr2 (pr2 e)), pr2 (pr2 (pr2 e))]; exact ⟨rfl, rfl⟩
  by_cases c4 : (sX5_signAt cf ca i0) = 115
  ·
    refine R_lookAt 83 (off := 78) 115 c4 dX5_tellTo_5 (by decide) (by decide) ?_
    refine R_aload_n 84 dX5_tellTo_83 rfl rfl ?_
    refine R_aload_n 85 dX5_tellTo_84 rfl rfl ?_
    refine R_iload_n 86 dX5_tellTo_85 rfl rfl ?_
    refine R_callVi 89 (eX5_tellStation_32 hch) dX5_tellTo_86 rfl kX5_tellStation lX5_75 rfl rfl rfl rfl rfl rfl rfl ?_
    refine R_ireturn dX5_tellTo_89 rfl (nar_b _) ?_
    have e : zz = (((sX5_tellStation m cf ca i0).1), (sX5_tellStation m cf ca i0).2, cf, ca) := by rw [← hs]; unfold sX5_tellTo; rw [if_neg c1, if_neg c2, if_neg c3, if_pos c4]
    rw [pr1 e, pr1 (pr2 e), pr1 (pr2 (pr2 e)), pr2 (pr2 (pr2 e))]; exact ⟨rfl, rfl⟩
  by_cases c5 : (sX5_signAt cf ca i0) = 119
  ·
    refine R_lookAt 63 (off := 58) 119 c5 dX5_tellTo_5 (by decide) (by decide) ?_
    refine R_aload_n 64 dX5_tellTo_63 rfl rfl ?_
    refine R_aload_n 65 dX5_tellTo_64 rfl rfl ?_
    refine R_iload_n 66 dX5_tellTo_65 rfl rfl ?_
    refine R_iconst 67 dX5_tellTo_66 rfl (v := 1) (by decide) ?_
    refine R_iadd 68 dX5_tellTo_67 rfl ?_
    refine R_aload_n 69 dX5_tellTo_68 rfl rfl ?_
    refine R_iload_n 70 dX5_tellTo_69 rfl rfl ?_
    refine R_iconst 71 dX5_tellTo_70 rfl (v := 2) (by decide) ?_
    refine R_iadd 72 dX5_tellTo_71 rfl ?_
    refine R_callVi 75 (eX5_numberAt_32 hch) dX5_tellTo_72 rfl kX5_numberAt lX5_62 rfl rfl rfl rfl rfl rfl rfl ?_
    refine R_callVi 78 (eX5_signedAt_32 hch) dX5_tellTo_75 rfl kX5_signedAt lX5_66 rfl rfl rfl rfl rfl rfl rfl ?_
    refine R_nm (fun z3_ hz3_ => ?_)
    refine R_put 81 dX5_tellTo_78 rfl wX5_70 rfl rfl rfl rfl (h2 := (hC G n ((upd m.1 0 z3_), m.2) i cf ca, h2)) rfl ?_
    refine R_iconst 82 dX5_tellTo_81 rfl (v := 1) (by decide) ?_
    refine R_ireturn dX5_tellTo_82 rfl (by decide) ?_
    subst hz3_
    have e : zz = (true, ((upd m.1 0 (sX5_signedAt cf ca (i0 + 1) (sX5_numberAt cf ca (i0 + 2)))), m.2), cf, ca) := by rw [← hs]; unfold sX5_tellTo; rw [if_neg c1, if_neg c2, if_neg c3, if_neg c4, if_pos c5]
    rw [pr1 e, pr1 (pr2 e), pr1 (pr2 (pr2 e)), pr2 (pr2 (pr2 e))]; exact ⟨rfl, rfl⟩
  refine R_lookup 136 (off := 131) dX5_tellTo_5 (by decide) (by rw [lv_osw c1 (show (100 : Int32).toInt = 100 by decide), lv_osw c2 (show (112 : Int32).toInt = 112 by decide), lv_osw c3 (show (114 : Int32).toInt = 114 by decide), lv_osw c4 (show (115 : Int32).toInt = 115 by decide), lv_osw c5 (show (119 : Int32).toInt = 119 by decide)]; rfl) (by decide) ?_
  refine R_aload_n 137 dX5_tellTo_136 rfl rfl ?_
  refine R_aload_n 138 dX5_tellTo_137 rfl rfl ?_
  refine R_iload_n 139 dX5_tellTo_138 rfl rfl ?_
  refine R_aload_n 140 dX5_tellTo_139 rfl rfl ?_
  refine R_callVi 143 (eX5_tellMinutes_32 hch) dX5_tellTo_140 rfl kX5_tellMinutes lX5_102 rfl rfl rfl rfl rfl rfl rfl ?_
  refine R_ireturn dX5_tellTo_143 rfl (nar_b _) ?_
  have e : zz = (((sX5_tellMinutes m cf ca i0).1), (sX5_tellMinutes m cf ca i0).2.1, (sX5_tellMinutes m cf ca i0).2.2.1, (sX5_tellMinutes m cf ca i0).2.2.2) := by rw [← hs]; unfold sX5_tellTo; rw [if_neg c1, if_neg c2, if_neg c3, if_neg c4, if_neg c5]
  rw [pr1 e, pr1 (pr2 e), pr1 (pr2 (pr2 e)), pr2 (pr2 (pr2 e))]; exact ⟨rfl, rfl⟩
def exX5_firstUnfit (cf : Nat → Int32) (ca : Nat → Nat → Int32) (a : Nat) (sh : Nat) (dn : Int32) : Int32 := if (cf 2) = 0 then cf 2 else if (sJ0_length_8abf5 sh) ≤ dn then (-9) else cf 2
def stX5_firstUnfit (cf : Nat → Int32) (ca : Nat → Nat → Int32) (a : Nat) (sh : Nat) (dn : Int32) : (Int32) ⊕ (Nat × Int32) := if (sJ0_length_8abf5 sh) ≤ dn then (if (sJ0_isEmpty_aae02 (sX5_shapeAt cf ca (nI a))) = true then .inl (nI a) else .inr ((sX5_shapeAt cf ca (nI a)), 0)) else if (sX5_fits (sJ0_charAt_5068e sh dn) (sX5_signAt cf ca (nI a))) = true then .inr (sh, dn + 1) else .inl (nI a)
def itX5_firstUnfit (cf : Nat → Int32) (ca : Nat → Nat → Int32) (j a : Nat) (sh : Nat) (dn : Int32) : Int32 := itG (fun a (s : Nat × Int32) => exX5_firstUnfit cf ca a s.1 s.2) (fun a (s : Nat × Int32) => stX5_firstUnfit cf ca a s.1 s.2) j a (sh, dn)
theorem itX5_firstUnfit_r {cf : Nat → Int32} {ca : Nat → Nat → Int32} {j a : Nat} {sh : Nat} {dn : Int32} {r : Int32} (e : stX5_firstUnfit cf ca a sh dn = .inl r) : (itX5_firstUnfit cf ca (j + 1) a sh dn) = r := itG_r (st := fun a (s : Nat × Int32) => stX5_firstUnfit cf ca a s.1 s.2) (s := (sh, dn)) e
theorem itX5_firstUnfit_n {cf : Nat → Int32} {ca : Nat → Nat → Int32} {j a : Nat} {sh : Nat} {dn : Int32} {s0_ : Nat} {s1_ : Int32} (e : stX5_firstUnfit cf ca a sh dn = .inr (s0_, s1_)) : (itX5_firstUnfit cf ca (j + 1) a sh dn) = (itX5_firstUnfit cf ca j (a + 1) s0_ s1_) := itG_n (st := fun a (s : Nat × Int32) => stX5_firstUnfit cf ca a s.1 s.2) (s := (sh, dn)) (s1 := (s0_, s1_)) e
set_option maxRecDepth 20000 in
theorem lpX5_firstUnfit {G : zG} {h2 : List va_E} {n m i : zP} {cf : Nat → Int32} {ca : Nat → Nat → Int32} (hch : zCh (ca 33)) : ∀ (j a : Nat) (sh : Nat) (dn : Int32), (a + j = (cf 2).toNatClampNeg ∧ sh < 10 ∧ 0 ≤ dn.toInt ∧ dn.toInt < 100) → R G mX5_firstUnfit 7 [(0, .ref 32), (1, .ref (1000 + sh)), (2, .int dn), (3, .int (nI a))] [] (hC G n m i cf ca, h2) (fun r0 h0 => r0 = some (.int (itX5_firstUnfit cf ca j a sh dn)) ∧ h0 = (hC G n m i cf ca, h2)) := by
  intro j
  induction j with
  | zero =>
    intro a sh dn hj
    have hx := cl_of (cf 2)
    have hc : cf 2 ≤ nI a := cl_le (by omega) (by omega)
    refine R_iload_n 8 dX5_firstUnfit_7 rfl rfl ?_
    refine R_aload_n 9 dX5_firstUnfit_8 rfl rfl ?_
    refine R_get 12 dX5_firstUnfit_9 rfl fX5_15 rfl (v := .int (cf 2)) rfl ?_
    refine R_icmp_ge 15 70 dX5_firstUnfit_12 rfl (by decide) (fun _ => ?_) (fun c => absurd hc c)
    refine R_aload_n 71 dX5_firstUnfit_70 rfl rfl ?_
    refine R_get 74 dX5_firstUnfit_71 rfl fX5_15 rfl (v := .int (cf 2)) rfl ?_
    refine R_if_eq 77 85 dX5_firstUnfit_74 rfl (by decide) (fun c1 => ?_) (fun c1 => ?_)
    ·
      refine R_aload_n 86 dX5_firstUnfit_85 rfl rfl ?_
      refine R_get 89 dX5_firstUnfit_86 rfl fX5_15 rfl (v := .int (cf 2)) rfl ?_
      refine R_goto 94 dX5_firstUnfit_89 (by decide) ?_
      refine R_ireturn dX5_firstUnfit_94 rfl rfl ?_
      have e : (itX5_firstUnfit cf ca 0 a sh dn) = cf 2 := by show exX5_firstUnfit cf ca a sh dn = _; unfold exX5_firstUnfit; rw [if_pos c1]
      rw [e]; exact ⟨rfl, rfl⟩
    ·
      refine R_iload_n 78 dX5_firstUnfit_77 rfl rfl ?_
      refine R_aload_n 79 dX5_firstUnfit_78 rfl rfl ?_
      refine R_callTi 82 (eJ0_length_8abf5 (j := sh) hj.2.1) dX5_firstUnfit_79 rfl kJ0_length_8abf5 lX5_37 rfl rfl rfl rfl rfl (j := sh) rfl hj.2.1 rfl ?_
      refine R_cut 94 [(0, .ref 32), (1, .ref (1000 + sh)), (2, .int dn), (3, .int (nI a))] (.int (if (sJ0_length_8abf5 sh) ≤ dn then (-9) else cf 2) :: []) (hC G n m i cf ca, h2) ?_ (fun kj => ?_)
      ·
        refine R_ireturn dX5_firstUnfit_94 rfl rfl ?_
        have e : (itX5_firstUnfit cf ca 0 a sh dn) = if (sJ0_length_8abf5 sh) ≤ dn then (-9) else cf 2 := by show exX5_firstUnfit cf ca a sh dn = _; unfold exX5_firstUnfit; rw [if_neg c1]
        rw [e]; exact ⟨rfl, rfl⟩
      refine R_icmp_ge 85 92 dX5_firstUnfit_82 rfl (by decide) (fun c2 => ?_) (fun c2 => ?_)
      · refine R_bipush 94 dX5_firstUnfit_92 rfl (v := (-9)) (by decide) ?_
        rw [if_pos c2] at kj; exact kj
      · refine R_aload_n 86 dX5_firstUnfit_85 rfl rfl ?_
        refine R_get 89 dX5_firstUnfit_86 rfl fX5_15 rfl (v := .int (cf 2)) rfl ?_
        refine R_goto 94 dX5_firstUnfit_89 (by decide) ?_
        rw [if_neg c2] at kj; exact kj
  | succ j ih =>
    intro a sh dn hj
    have hc : ¬ cf 2 ≤ nI a := cl_gt (by omega)
    refine R_iload_n 8 dX5_firstUnfit_7 rfl rfl ?_
    refine R_aload_n 9 dX5_firstUnfit_8 rfl rfl ?_
    refine R_get 12 dX5_firstUnfit_9 rfl fX5_15 rfl (v := .int (cf 2)) rfl ?_
    refine R_icmp_ge 15 70 dX5_firstUnfit_12 rfl (by decide) (fun c => absurd c hc) (fun _ => ?_)
    refine R_iload_n 16 dX5_firstUnfit_15 rfl rfl ?_
    refine R_aload_n 17 dX5_firstUnfit_16 rfl rfl ?_
    refine R_callTi 20 (eJ0_length_8abf5 (j := sh) hj.2.1) dX5_firstUnfit_17 rfl kJ0_length_8abf5 lX5_37 rfl rfl rfl rfl rfl (j := sh) rfl hj.2.1 rfl ?_
    refine R_icmp_ge 23 47 dX5_firstUnfit_20 rfl (by decide) (fun c1 => ?_) (fun c1 => ?_)
    ·
      refine R_aload_n 48 dX5_firstUnfit_47 rfl rfl ?_
      refine R_iload_n 49 dX5_firstUnfit_48 rfl rfl ?_
      refine R_callVr 52 (eX5_shapeAt_32 hch) dX5_firstUnfit_49 rfl kX5_shapeAt lX5_50 rfl rfl rfl rfl rfl rfl rfl ?_
      refine R_astore_n 53 dX5_firstUnfit_52 rfl rfl (by decide) (loc' := [(0, .ref 32), (1, .ref (1000 + (sX5_shapeAt cf ca (nI a)))), (2, .int dn), (3, .int (nI a))]) rfl ?_
      refine R_iconst 54 dX5_firstUnfit_53 rfl (v := 0) (by decide) ?_
      refine R_istore_n 55 dX5_firstUnfit_54 rfl rfl (by decide) (loc' := [(0, .ref 32), (1, .ref (1000 + (sX5_shapeAt cf ca (nI a)))), (2, .int 0), (3, .int (nI a))]) rfl ?_
      refine R_aload_n 56 dX5_firstUnfit_55 rfl rfl ?_
      refine R_callTi 59 (eJ0_isEmpty_aae02 (j := (sX5_shapeAt cf ca (nI a))) (shape_lt _ _ _)) dX5_firstUnfit_56 rfl kJ0_isEmpty_aae02 lX5_54 rfl rfl rfl rfl rfl (j := (sX5_shapeAt cf ca (nI a))) rfl (shape_lt _ _ _) rfl ?_
      refine R_ifb_eq 62 64 dX5_firstUnfit_59 rfl (by decide) (fun c2 => ?_) (fun c2 => ?_)
      ·
        refine R_iinc 67 dX5_firstUnfit_64 rfl rfl (v := (nI (a + 1))) (nI_1 a) rfl (by decide) (loc' := [(0, .ref 32), (1, .ref (1000 + (sX5_shapeAt cf ca (nI a)))), (2, .int 0), (3, .int (nI (a + 1)))]) rfl ?_
        refine R_goto 7 dX5_firstUnfit_67 (by decide) ?_
        refine R_pick [0, 1, 2, 3] rfl ?_
        have e : stX5_firstUnfit cf ca a sh dn = .inr ((sX5_shapeAt cf ca (nI a)), 0) := by unfold stX5_firstUnfit; rw [if_pos c1, if_neg c2]
        have e2 : (itX5_firstUnfit cf ca (j + 1) a sh dn) = (itX5_firstUnfit cf ca j (a + 1) (sX5_shapeAt cf ca (nI a)) 0) := itX5_firstUnfit_n e
        rw [e2]; exact ih (a + 1) (sX5_shapeAt cf ca (nI a)) 0 ⟨by omega, shape_lt _ _ _, by decide, by decide⟩
      ·
        refine R_iload_n 63 dX5_firstUnfit_62 rfl rfl ?_
        refine R_ireturn dX5_firstUnfit_63 rfl rfl ?_
        have e : stX5_firstUnfit cf ca a sh dn = .inl (nI a) := by unfold stX5_firstUnfit; rw [if_pos c1, if_pos c2]
        have e2 : (itX5_firstUnfit cf ca (j + 1) a sh dn) = nI a := itX5_firstUnfit_r e
        rw [e2]; exact ⟨rfl, rfl⟩
    ·
      refine R_aload_n 24 dX5_firstUnfit_23 rfl rfl ?_
      refine R_iload_n 25 dX5_firstUnfit_24 rfl rfl ?_
      refine R_callTi 28 (eJ0_charAt_5068e hj.2.1 (vlt0 hj.2.2.1) (chlt hj.2.1 c1)) dX5_firstUnfit_25 rfl kJ0_charAt_5068e lX5_43 rfl rfl rfl rfl rfl (j := sh) rfl hj.2.1 rfl ?_
      refine R_aload_n 29 dX5_firstUnfit_28 rfl rfl ?_
      refine R_iload_n 30 dX5_firstUnfit_29 rfl rfl ?_
      refine R_callVi 33 (eX5_signAt_32 hch) dX5_firstUnfit_30 rfl kX5_signAt lX5_19 rfl rfl rfl rfl rfl rfl rfl ?_
      refine R_callSi 36 eX5_fits dX5_firstUnfit_33 rfl kX5_fits lX5_46 rfl rfl rfl rfl rfl ?_
      refine R_ifb_ne 39 41 dX5_firstUnfit_36 rfl (by decide) (fun c3 => ?_) (fun c3 => ?_)
      ·
        refine R_iinc 44 dX5_firstUnfit_41 rfl rfl (v := (dn + 1)) rfl rfl (by decide) (loc' := [(0, .ref 32), (1, .ref (1000 + sh)), (2, .int (dn + 1)), (3, .int (nI a))]) rfl ?_
        refine R_goto 64 dX5_firstUnfit_44 (by decide) ?_
        refine R_iinc 67 dX5_firstUnfit_64 rfl rfl (v := (nI (a + 1))) (nI_1 a) rfl (by decide) (loc' := [(0, .ref 32), (1, .ref (1000 + sh)), (2, .int (dn + 1)), (3, .int (nI (a + 1)))]) rfl ?_
        refine R_goto 7 dX5_firstUnfit_67 (by decide) ?_
        refine R_pick [0, 1, 2, 3] rfl ?_
        have e : stX5_firstUnfit cf ca a sh dn = .inr (sh, dn + 1) := by unfold stX5_firstUnfit; rw [if_neg c1, if_pos c3]
        have e2 : (itX5_firstUnfit cf ca (j + 1) a sh dn) = (itX5_firstUnfit cf ca j (a + 1) sh (dn + 1)) := itX5_firstUnfit_n e
        rw [e2]; exact ih (a + 1) sh (dn + 1) ⟨by omega, hj.2.1, by rw [i_s1 (by omega)]; omega, by rw [i_s1 (by omega)]; have := chb hj.2.1 c1; omega⟩
      ·
        refine R_iload_n 40 dX5_firstUnfit_39 rfl rfl ?_
        refine R_ireturn dX5_firstUnfit_40 rfl rfl ?_
        have e : stX5_firstUnfit cf ca a sh dn = .inl (nI a) := by unfold stX5_firstUnfit; rw [if_neg c1, if_neg c3]
        have e2 : (itX5_firstUnfit cf ca (j + 1) a sh dn) = nI a := itX5_firstUnfit_r e
        rw [e2]; exact ⟨rfl, rfl⟩
def sX5_firstUnfit (cf : Nat → Int32) (ca : Nat → Nat → Int32) : Int32 := (itX5_firstUnfit cf ca (cf 2).toNatClampNeg 0 0 0)
set_option maxRecDepth 20000 in
theorem eX5_firstUnfit_32 {G : zG} {h2 : List va_E} {n m i : zP} {cf : Nat → Int32} {ca : Nat → Nat → Int32} (hch : zCh (ca 33)) : EvF G mX5_firstUnfit [.ref 32] (hC G n m i cf ca, h2) (some (.int (sX5_firstUnfit cf ca))) (hC G n m i cf ca, h2) := by
  generalize hs : (sX5_firstUnfit cf ca) = zz
  refine EvF.of pnX5 rfl ?_
  refine R_ldcS 2 dX5_firstUnfit_0 rfl rfl (j := 0) rfl ?_
  refine R_astore_n 3 dX5_firstUnfit_2 rfl rfl (by decide) (loc' := [(0, .ref 32), (1, .ref 1000)]) rfl ?_
  refine R_iconst 4 dX5_firstUnfit_3 rfl (v := 0) (by decide) ?_
  refine R_istore_n 5 dX5_firstUnfit_4 rfl rfl (by decide) (loc' := [(0, .ref 32), (1, .ref 1000), (2, .int 0)]) rfl ?_
  refine R_iconst 6 dX5_firstUnfit_5 rfl (v := 0) (by decide) ?_
  refine R_istore_n 7 dX5_firstUnfit_6 rfl rfl (by decide) (loc' := [(0, .ref 32), (1, .ref 1000), (2, .int 0), (3, .int 0)]) rfl ?_
  refine R_pick [0, 1, 2, 3] rfl ?_
  have e : zz = (itX5_firstUnfit cf ca (cf 2).toNatClampNeg 0 0 0) := by rw [← hs]; unfold sX5_firstUnfit; rfl
  subst e; exact lpX5_firstUnfit hch ((cf 2).toNatClampNeg) 0 0 0 ⟨Nat.zero_add _, by decide, by decide, by decide⟩
theorem tellTo_cf {m : zP} {cf : Nat → Int32} {ca : Nat → Nat → Int32} {i0 : Int32} {q : Nat} (h3 : q ≠ 3) (h4 : q ≠ 4) (h5 : q ≠ 5) : (sX5_tellTo m cf ca i0).2.2.1 q = cf q := by
  have hm : (sX5_tellMinutes m cf ca i0).2.2.1 q = cf q := by
    unfold sX5_tellMinutes
    repeat' split
    all_goals first | rfl | exact mpass_cf h3 h4 h5 _ _
  unfold sX5_tellTo
  repeat' split
  all_goals first | rfl | exact hm
theorem tellTo_ca {m : zP} {cf : Nat → Int32} {ca : Nat → Nat → Int32} {i0 : Int32} {q : Nat} (h29 : q ≠ 29) (h30 : q ≠ 30) (h31 : q ≠ 31) : (sX5_tellTo m cf ca i0).2.2.2 q = ca q := by
  have hm : (sX5_tellMinutes m cf ca i0).2.2.2 q = ca q := by
    unfold sX5_tellMinutes
    repeat' split
    all_goals first | rfl | exact mpass_ca h29 h30 h31 _ _
  unfold sX5_tellTo
  repeat' split
  all_goals first | rfl | exact hm
theorem tellTo_ch {m : zP} {cf : Nat → Int32} {ca : Nat → Nat → Int32} {i0 : Int32} (h : zCh (ca 33)) : zCh ((sX5_tellTo m cf ca i0).2.2.2 33) := by
  rw [tellTo_ca (by decide) (by decide) (by decide)]
  exact h
theorem st_next {st : Int32} {k : Nat} (h0 : 0 ≤ st.toInt) (h1 : st.toInt ≤ 96) (hk : k < 10) : (st + (1 + sJ0_length_8abf5 k)).toInt = st.toInt + 1 + (zLn.getD k 0 : Nat) := by
  have h7 := zLn7 k hk
  rw [len_eq k hk]
  have e : (Int32.ofNat (zLn.getD k 0)).toInt = (zLn.getD k 0 : Nat) := nI_toInt (n := zLn.getD k 0) (by omega)
  rw [Int32.toInt_add, Int32.toInt_add, e, show (1 : Int32).toInt = 1 by decide, Int.bmod_eq_of_le (n := 1 + ((zLn.getD k 0 : Nat) : Int)) (by omega) (by omega), Int.bmod_eq_of_le (by omega) (by omega)]
  omega
theorem ta_next {m : zP} {cf : Nat → Int32} {ca : Nat → Nat → Int32} {st : Int32} {j k : Nat} (hj : (cf 2).toInt ≤ st.toInt + ((j + 1 : Nat) : Int) ∧ 0 ≤ st.toInt ∧ st.toInt ≤ 200 ∧ zCh (ca 33) ∧ (cf 2).toInt ≤ 96) (c1 : ¬ cf 2 ≤ st) (hk : k < 10) : ((sX5_tellTo m cf ca st).2.2.1 2).toInt ≤ (st + (1 + sJ0_length_8abf5 k)).toInt + (j : Int) ∧ 0 ≤ (st + (1 + sJ0_length_8abf5 k)).toInt ∧ (st + (1 + sJ0_length_8abf5 k)).toInt ≤ 200 ∧ zCh ((sX5_tellTo m cf ca st).2.2.2 33) ∧ ((sX5_tellTo m cf ca st).2.2.1 2).toInt ≤ 96 := by
  have h7 := zLn7 k hk
  rw [Int32.le_iff_toInt_le] at c1
  rw [tellTo_cf (by decide) (by decide) (by decide), st_next hj.2.1 (by omega) hk]
  exact ⟨by omega, by omega, by omega, tellTo_ch hj.2.2.2.1, hj.2.2.2.2⟩
def exX6_tellAll  (a : Nat) (n : zP) (m : zP) (cf : Nat → Int32) (ca : Nat → Nat → Int32) (sn : Int32) (st : Int32) : Int32 × zP × zP × (Nat → Int32) × (Nat → Nat → Int32) := (sn, m, m, cf, ca)
def stX6_tellAll  (a : Nat) (n : zP) (m : zP) (cf : Nat → Int32) (ca : Nat → Nat → Int32) (sn : Int32) (st : Int32) : (Int32 × zP × zP × (Nat → Int32) × (Nat → Nat → Int32)) ⊕ (zP × zP × (Nat → Int32) × (Nat → Nat → Int32) × Int32 × Int32) := if (cf 2) ≤ st then .inl (sn, m, m, cf, ca) else if ((sX5_tellTo m cf ca st).1) = true then .inr (n, (sX5_tellTo m cf ca st).2.1, (sX5_tellTo m cf ca st).2.2.1, (sX5_tellTo m cf ca st).2.2.2, sn + 1, (st + (1 + (sJ0_length_8abf5 (sX5_shapeAt ((sX5_tellTo m cf ca st).2.2.1) ((sX5_tellTo m cf ca st).2.2.2) st))))) else .inl ((-2000) - st, n, (sX5_tellTo m cf ca st).2.1, (sX5_tellTo m cf ca st).2.2.1, (sX5_tellTo m cf ca st).2.2.2)
def itX6_tellAll  (j a : Nat) (n : zP) (m : zP) (cf : Nat → Int32) (ca : Nat → Nat → Int32) (sn : Int32) (st : Int32) : Int32 × zP × zP × (Nat → Int32) × (Nat → Nat → Int32) := itG (fun a (s : zP × zP × (Nat → Int32) × (Nat → Nat → Int32) × Int32 × Int32) => exX6_tellAll  a s.1 s.2.1 s.2.2.1 s.2.2.2.1 s.2.2.2.2.1 s.2.2.2.2.2) (fun a (s : zP × zP × (Nat → Int32) × (Nat → Nat → Int32) × Int32 × Int32) => stX6_tellAll  a s.1 s.2.1 s.2.2.1 s.2.2.2.1 s.2.2.2.2.1 s.2.2.2.2.2) j a (n, m, cf, ca, sn, st)
theorem itX6_tellAll_r  {j a : Nat} {n : zP} {m : zP} {cf : Nat → Int32} {ca : Nat → Nat → Int32} {sn : Int32} {st : Int32} {r : Int32 × zP × zP × (Nat → Int32) × (Nat → Nat → Int32)} (e : stX6_tellAll  a n m cf ca sn st = .inl r) : (itX6_tellAll  (j + 1) a n m cf ca sn st) = r := itG_r (st := fun a (s : zP × zP × (Nat → Int32) × (Nat → Nat → Int32) × Int32 × Int32) => stX6_tellAll  a s.1 s.2.1 s.2.2.1 s.2.2.2.1 s.2.2.2.2.1 s.2.2.2.2.2) (s := (n, m, cf, ca, sn, st)) e
theorem itX6_tellAll_n  {j a : Nat} {n : zP} {m : zP} {cf : Nat → Int32} {ca : Nat → Nat → Int32} {sn : Int32} {st : Int32} {s0_ : zP} {s1_ : zP} {s2_ : Nat → Int32} {s3_ : Nat → Nat → Int32} {s4_ : Int32} {s5_ : Int32} (e : stX6_tellAll  a n m cf ca sn st = .inr (s0_, s1_, s2_, s3_, s4_, s5_)) : (itX6_tellAll  (j + 1) a n m cf ca sn st) = (itX6_tellAll  j (a + 1) s0_ s1_ s2_ s3_ s4_ s5_) := itG_n (st := fun a (s : zP × zP × (Nat → Int32) × (Nat → Nat → Int32) × Int32 × Int32) => stX6_tellAll  a s.1 s.2.1 s.2.2.1 s.2.2.2.1 s.2.2.2.2.1 s.2.2.2.2.2) (s := (n, m, cf, ca, sn, st)) (s1 := (s0_, s1_, s2_, s3_, s4_, s5_)) e
set_option maxRecDepth 20000 in
theorem lpX6_tellAll {G : zG} {h2 : List va_E} {i : zP} : ∀ (j a : Nat) (n : zP) (m : zP) (cf : Nat → Int32) (ca : Nat → Nat → Int32) (sn : Int32) (st : Int32), ((cf 2).toInt ≤ st.toInt + (j : Int) ∧ 0 ≤ st.toInt ∧ st.toInt ≤ 200 ∧ zCh (ca 33) ∧ (cf 2).toInt ≤ 96) → R G mX6_tellAll 8 [(0, .ref 0), (1, .int sn), (2, .int st)] [] (hC G n m i cf ca, h2) (fun r0 h0 => r0 = some (.int ((itX6_tellAll  j a n m cf ca sn st).1)) ∧ h0 = (hC G ((itX6_tellAll  j a n m cf ca sn st).2.1) ((itX6_tellAll  j a n m cf ca sn st).2.2.1) i ((itX6_tellAll  j a n m cf ca sn st).2.2.2.1) ((itX6_tellAll  j a n m cf ca sn st).2.2.2.2), h2)) := by
  intro j
  induction j with
  | zero =>
    intro a n m cf ca sn st hj
    have hc : cf 2 ≤ st := by rw [Int32.le_iff_toInt_le]; omega
    refine R_iload_n 9 dX6_tellAll_8 rfl rfl ?_
    refine R_aload_n 10 dX6_tellAll_9 rfl rfl ?_
    refine R_get 13 dX6_tellAll_10 rfl fX6_32 rfl (v := .ref 32) rfl ?_
    refine R_get 16 dX6_tellAll_13 rfl fX6_47 rfl (v := .int (cf 2)) rfl ?_
    refine R_icmp_ge 19 66 dX6_tellAll_16 rfl (by decide) (fun _ => ?_) (fun c => absurd hc c)
    refine R_aload_n 67 dX6_tellAll_66 rfl rfl ?_
    refine R_get 70 dX6_tellAll_67 rfl fX6_10 rfl (v := .ref 1) rfl ?_
    refine R_aload_n 71 dX6_tellAll_70 rfl rfl ?_
    refine R_get 74 dX6_tellAll_71 rfl fX6_16 rfl (v := .ref 10) rfl ?_
    refine R_callVv 77 eX2_become_1_10 dX6_tellAll_74 rfl kX2_become lX6_165 rfl rfl rfl rfl rfl rfl rfl ?_
    refine R_iload_n 78 dX6_tellAll_77 rfl rfl ?_
    refine R_ireturn dX6_tellAll_78 rfl rfl ?_
    have e : (itX6_tellAll  0 a n m cf ca sn st) = (sn, m, m, cf, ca) := rfl
    rw [e]; exact ⟨rfl, rfl⟩
  | succ j ih =>
    intro a n m cf ca sn st hj
    refine R_iload_n 9 dX6_tellAll_8 rfl rfl ?_
    refine R_aload_n 10 dX6_tellAll_9 rfl rfl ?_
    refine R_get 13 dX6_tellAll_10 rfl fX6_32 rfl (v := .ref 32) rfl ?_
    refine R_get 16 dX6_tellAll_13 rfl fX6_47 rfl (v := .int (cf 2)) rfl ?_
    refine R_icmp_ge 19 66 dX6_tellAll_16 rfl (by decide) (fun c1 => ?_) (fun c1 => ?_)
    ·
      refine R_aload_n 67 dX6_tellAll_66 rfl rfl ?_
      refine R_get 70 dX6_tellAll_67 rfl fX6_10 rfl (v := .ref 1) rfl ?_
      refine R_aload_n 71 dX6_tellAll_70 rfl rfl ?_
      refine R_get 74 dX6_tellAll_71 rfl fX6_16 rfl (v := .ref 10) rfl ?_
      refine R_callVv 77 eX2_become_1_10 dX6_tellAll_74 rfl kX2_become lX6_165 rfl rfl rfl rfl rfl rfl rfl ?_
      refine R_iload_n 78 dX6_tellAll_77 rfl rfl ?_
      refine R_ireturn dX6_tellAll_78 rfl rfl ?_
      have e : stX6_tellAll  a n m cf ca sn st = .inl (sn, m, m, cf, ca) := by unfold stX6_tellAll; rw [if_pos c1]
      have e2 : (itX6_tellAll  (j + 1) a n m cf ca sn st) = (sn, m, m, cf, ca) := itX6_tellAll_r e
      rw [e2]; exact ⟨rfl, rfl⟩
    ·
      refine R_aload_n 20 dX6_tellAll_19 rfl rfl ?_
      refine R_get 23 dX6_tellAll_20 rfl fX6_32 rfl (v := .ref 32) rfl ?_
      refine R_aload_n 24 dX6_tellAll_23 rfl rfl ?_
      refine R_get 27 dX6_tellAll_24 rfl fX6_16 rfl (v := .ref 10) rfl ?_
      refine R_iload_n 28 dX6_tellAll_27 rfl rfl ?_
      refine R_aload_n 29 dX6_tellAll_28 rfl rfl ?_
      refine R_get 32 dX6_tellAll_29 rfl fX6_25 rfl (v := .ref 28) rfl ?_
      refine R_callVi 35 (eX5_tellTo_32 hj.2.2.2.1) dX6_tellAll_32 rfl kX5_tellTo lX6_196 rfl rfl rfl rfl rfl rfl rfl ?_
      refine R_ifb_ne 38 44 dX6_tellAll_35 rfl (by decide) (fun c2 => ?_) (fun c2 => ?_)
      ·
        refine R_iinc 47 dX6_tellAll_44 rfl rfl (v := (sn + 1)) rfl rfl (by decide) (loc' := [(0, .ref 0), (1, .int (sn + 1)), (2, .int st)]) rfl ?_
        refine R_iload_n 48 dX6_tellAll_47 rfl rfl ?_
        refine R_iconst 49 dX6_tellAll_48 rfl (v := 1) (by decide) ?_
        refine R_aload_n 50 dX6_tellAll_49 rfl rfl ?_
        refine R_get 53 dX6_tellAll_50 rfl fX6_32 rfl (v := .ref 32) rfl ?_
        refine R_iload_n 54 dX6_tellAll_53 rfl rfl ?_
        refine R_callVr 57 (eX5_shapeAt_32 (tellTo_ch hj.2.2.2.1)) dX6_tellAll_54 rfl kX5_shapeAt lX6_200 rfl rfl rfl rfl rfl rfl rfl ?_
        refine R_callTi 60 (eJ0_length_8abf5 (j := (sX5_shapeAt ((sX5_tellTo m cf ca st).2.2.1) ((sX5_tellTo m cf ca st).2.2.2) st)) (shape_lt _ _ _)) dX6_tellAll_57 rfl kJ0_length_8abf5 lX6_204 rfl rfl rfl rfl rfl (j := (sX5_shapeAt ((sX5_tellTo m cf ca st).2.2.1) ((sX5_tellTo m cf ca st).2.2.2) st)) rfl (shape_lt _ _ _) rfl ?_
        refine R_iadd 61 dX6_tellAll_60 rfl ?_
        refine R_iadd 62 dX6_tellAll_61 rfl ?_
        refine R_nm (fun z1_ hz1_ => ?_)
        refine R_istore_n 63 dX6_tellAll_62 rfl rfl (by decide) (loc' := [(0, .ref 0), (1, .int (sn + 1)), (2, .int z1_)]) rfl ?_
        refine R_goto 8 dX6_tellAll_63 (by decide) ?_
        subst hz1_
        refine R_pick [0, 1, 2] rfl ?_
        have e : stX6_tellAll  a n m cf ca sn st = .inr (n, (sX5_tellTo m cf ca st).2.1, (sX5_tellTo m cf ca st).2.2.1, (sX5_tellTo m cf ca st).2.2.2, sn + 1, (st + (1 + (sJ0_length_8abf5 (sX5_shapeAt ((sX5_tellTo m cf ca st).2.2.1) ((sX5_tellTo m cf ca st).2.2.2) st))))) := by unfold stX6_tellAll; rw [if_neg c1, if_pos c2]
        have e2 : (itX6_tellAll  (j + 1) a n m cf ca sn st) = (itX6_tellAll  j (a + 1) n ((sX5_tellTo m cf ca st).2.1) ((sX5_tellTo m cf ca st).2.2.1) ((sX5_tellTo m cf ca st).2.2.2) (sn + 1) (st + (1 + (sJ0_length_8abf5 (sX5_shapeAt ((sX5_tellTo m cf ca st).2.2.1) ((sX5_tellTo m cf ca st).2.2.2) st))))) := itX6_tellAll_n e
        rw [e2]; exact ih (a + 1) n ((sX5_tellTo m cf ca st).2.1) ((sX5_tellTo m cf ca st).2.2.1) ((sX5_tellTo m cf ca st).2.2.2) (sn + 1) (st + (1 + (sJ0_length_8abf5 (sX5_shapeAt ((sX5_tellTo m cf ca st).2.2.1) ((sX5_tellTo m cf ca st).2.2.2) st)))) (ta_next hj c1 (shape_lt _ _ _))
      ·
        refine R_sipush 41 dX6_tellAll_38 rfl (v := (-2000)) (by decide) ?_
        refine R_iload_n 42 dX6_tellAll_41 rfl rfl ?_
        refine R_isub 43 dX6_tellAll_42 rfl ?_
        refine R_ireturn dX6_tellAll_43 rfl rfl ?_
        have e : stX6_tellAll  a n m cf ca sn st = .inl ((-2000) - st, n, (sX5_tellTo m cf ca st).2.1, (sX5_tellTo m cf ca st).2.2.1, (sX5_tellTo m cf ca st).2.2.2) := by unfold stX6_tellAll; rw [if_neg c1, if_neg c2]
        have e2 : (itX6_tellAll  (j + 1) a n m cf ca sn st) = ((-2000) - st, n, (sX5_tellTo m cf ca st).2.1, (sX5_tellTo m cf ca st).2.2.1, (sX5_tellTo m cf ca st).2.2.2) := itX6_tellAll_r e
        rw [e2]; exact ⟨rfl, rfl⟩
def sX6_tellAll (n : zP) (m : zP) (cf : Nat → Int32) (ca : Nat → Nat → Int32) : Int32 × zP × zP × (Nat → Int32) × (Nat → Nat → Int32) := ((itX6_tellAll  96 0 n ((sX6_think n cf ca).1) ((sX6_think n cf ca).2.1) ((sX6_think n cf ca).2.2) 0 0).1, (itX6_tellAll  96 0 n ((sX6_think n cf ca).1) ((sX6_think n cf ca).2.1) ((sX6_think n cf ca).2.2) 0 0).2.1, (itX6_tellAll  96 0 n ((sX6_think n cf ca).1) ((sX6_think n cf ca).2.1) ((sX6_think n cf ca).2.2) 0 0).2.2.1, (itX6_tellAll  96 0 n ((sX6_think n cf ca).1) ((sX6_think n cf ca).2.1) ((sX6_think n cf ca).2.2) 0 0).2.2.2.1, (itX6_tellAll  96 0 n ((sX6_think n cf ca).1) ((sX6_think n cf ca).2.1) ((sX6_think n cf ca).2.2) 0 0).2.2.2.2)
set_option maxRecDepth 20000 in
theorem eX6_tellAll_0 {G : zG} {h2 : List va_E} {n m i : zP} {cf : Nat → Int32} {ca : Nat → Nat → Int32} (hch : zCh (ca 33)) (hs0 : 0 ≤ (cf 2).toInt ∧ (cf 2).toInt ≤ 96) : EvF G mX6_tellAll [.ref 0] (hC G n m i cf ca, h2) (some (.int ((sX6_tellAll n m cf ca).1))) (hC G ((sX6_tellAll n m cf ca).2.1) ((sX6_tellAll n m cf ca).2.2.1) i ((sX6_tellAll n m cf ca).2.2.2.1) ((sX6_tellAll n m cf ca).2.2.2.2), h2) := by
  generalize hs : (sX6_tellAll n m cf ca) = zz
  refine EvF.of pnX6 rfl ?_
  refine R_aload_n 1 dX6_tellAll_0 rfl rfl ?_
  refine R_callVv 4 eX6_think_0 dX6_tellAll_1 rfl kX6_think lX6_120 rfl rfl rfl rfl rfl rfl rfl ?_
  refine R_iconst 5 dX6_tellAll_4 rfl (v := 0) (by decide) ?_
  refine R_istore_n 6 dX6_tellAll_5 rfl rfl (by decide) (loc' := [(0, .ref 0), (1, .int 0)]) rfl ?_
  refine R_iconst 7 dX6_tellAll_6 rfl (v := 0) (by decide) ?_
  refine R_istore_n 8 dX6_tellAll_7 rfl rfl (by decide) (loc' := [(0, .ref 0), (1, .int 0), (2, .int 0)]) rfl ?_
  refine R_pick [0, 1, 2] rfl ?_
  have e : zz = ((itX6_tellAll  96 0 n ((sX6_think n cf ca).1) ((sX6_think n cf ca).2.1) ((sX6_think n cf ca).2.2) 0 0).1, (itX6_tellAll  96 0 n ((sX6_think n cf ca).1) ((sX6_think n cf ca).2.1) ((sX6_think n cf ca).2.2) 0 0).2.1, (itX6_tellAll  96 0 n ((sX6_think n cf ca).1) ((sX6_think n cf ca).2.1) ((sX6_think n cf ca).2.2) 0 0).2.2.1, (itX6_tellAll  96 0 n ((sX6_think n cf ca).1) ((sX6_think n cf ca).2.1) ((sX6_think n cf ca).2.2) 0 0).2.2.2.1, (itX6_tellAll  96 0 n ((sX6_think n cf ca).1) ((sX6_think n cf ca).2.1) ((sX6_think n cf ca).2.2) 0 0).2.2.2.2) := by rw [← hs]; unfold sX6_tellAll; rfl
  rw [pr1 e, pr1 (pr2 e), pr1 (pr2 (pr2 e)), pr1 (pr2 (pr2 (pr2 e))), pr2 (pr2 (pr2 (pr2 e)))]; exact lpX6_tellAll 96 0 n ((sX6_think n cf ca).1) ((sX6_think n cf ca).2.1) ((sX6_think n cf ca).2.2) 0 0 ⟨Int.le_trans hs0.2 (by decide), by decide, by decide, hch, hs0.2⟩
def sX6_parlour (n : zP) (m : zP) (cf : Nat → Int32) (ca : Nat → Nat → Int32) : Int32 × zP × zP × (Nat → Int32) × (Nat → Nat → Int32) := if (sX5_firstUnfit cf ca) = (-9) then ((sX6_tellAll n m cf ca).1, (sX6_tellAll n m cf ca).2.1, (sX6_tellAll n m cf ca).2.2.1, (upd (sX6_tellAll n m cf ca).2.2.2.1 2 0), (sX6_tellAll n m cf ca).2.2.2.2) else ((-1000) - (sX5_firstUnfit cf ca), n, m, (upd cf 2 0), ca)
set_option maxRecDepth 20000 in
theorem eX6_parlour_0 {G : zG} {h2 : List va_E} {n m i : zP} {cf : Nat → Int32} {ca : Nat → Nat → Int32} (hch : zCh (ca 33)) (hs0 : 0 ≤ (cf 2).toInt ∧ (cf 2).toInt ≤ 96) : EvF G mX6_parlour [.ref 0] (hC G n m i cf ca, h2) (some (.int ((sX6_parlour n m cf ca).1))) (hC G ((sX6_parlour n m cf ca).2.1) ((sX6_parlour n m cf ca).2.2.1) i ((sX6_parlour n m cf ca).2.2.2.1) ((sX6_parlour n m cf ca).2.2.2.2), h2) := by
  generalize hs : (sX6_parlour n m cf ca) = zz
  refine EvF.of pnX6 rfl ?_
  refine R_aload_n 1 dX6_parlour_0 rfl rfl ?_
  refine R_get 4 dX6_parlour_1 rfl fX6_32 rfl (v := .ref 32) rfl ?_
  refine R_callVi 7 (eX5_firstUnfit_32 hch) dX6_parlour_4 rfl kX5_firstUnfit lX6_59 rfl rfl rfl rfl rfl rfl rfl ?_
  refine R_istore_n 8 dX6_parlour_7 rfl rfl (by decide) (loc' := [(0, .ref 0), (1, .int (sX5_firstUnfit cf ca))]) rfl ?_
  refine R_iload_n 9 dX6_parlour_8 rfl rfl ?_
  refine R_bipush 11 dX6_parlour_9 rfl (v := (-9)) (by decide) ?_
  refine R_icmp_ne 14 21 dX6_parlour_11 rfl (by decide) (fun c1 => ?_) (fun c1 => ?_)
  ·
    refine R_sipush 24 dX6_parlour_21 rfl (v := (-1000)) (by decide) ?_
    refine R_iload_n 25 dX6_parlour_24 rfl rfl ?_
    refine R_isub 26 dX6_parlour_25 rfl ?_
    refine R_istore_n 27 dX6_parlour_26 rfl rfl (by decide) (loc' := [(0, .ref 0), (1, .int (sX5_firstUnfit cf ca)), (2, .int ((-1000) - (sX5_firstUnfit cf ca)))]) rfl ?_
    refine R_aload_n 28 dX6_parlour_27 rfl rfl ?_
    refine R_get 31 dX6_parlour_28 rfl fX6_32 rfl (v := .ref 32) rfl ?_
    refine R_iconst 32 dX6_parlour_31 rfl (v := 0) (by decide) ?_
    refine R_put 35 dX6_parlour_32 rfl wX6_47 rfl rfl rfl rfl (h2 := (hC G n m i (upd cf 2 0) ca, h2)) rfl ?_
    refine R_iload_n 36 dX6_parlour_35 rfl rfl ?_
    refine R_ireturn dX6_parlour_36 rfl rfl ?_
    have e : zz = ((-1000) - (sX5_firstUnfit cf ca), n, m, (upd cf 2 0), ca) := by rw [← hs]; unfold sX6_parlour; rw [if_neg c1]
    rw [pr1 e, pr1 (pr2 e), pr1 (pr2 (pr2 e)), pr1 (pr2 (pr2 (pr2 e))), pr2 (pr2 (pr2 (pr2 e)))]; exact ⟨rfl, rfl⟩
  ·
    refine R_aload_n 15 dX6_parlour_14 rfl rfl ?_
    refine R_callVi 18 (eX6_tellAll_0 hch hs0) dX6_parlour_15 rfl kX6_tellAll lX6_63 rfl rfl rfl rfl rfl rfl rfl ?_
    refine R_goto 26 dX6_parlour_18 (by decide) ?_
    refine R_istore_n 27 dX6_parlour_26 rfl rfl (by decide) (loc' := [(0, .ref 0), (1, .int (sX5_firstUnfit cf ca)), (2, .int ((sX6_tellAll n m cf ca).1))]) rfl ?_
    refine R_aload_n 28 dX6_parlour_27 rfl rfl ?_
    refine R_get 31 dX6_parlour_28 rfl fX6_32 rfl (v := .ref 32) rfl ?_
    refine R_iconst 32 dX6_parlour_31 rfl (v := 0) (by decide) ?_
    refine R_put 35 dX6_parlour_32 rfl wX6_47 rfl rfl rfl rfl (h2 := (hC G ((sX6_tellAll n m cf ca).2.1) ((sX6_tellAll n m cf ca).2.2.1) i (upd (sX6_tellAll n m cf ca).2.2.2.1 2 0) ((sX6_tellAll n m cf ca).2.2.2.2), h2)) rfl ?_
    refine R_iload_n 36 dX6_parlour_35 rfl rfl ?_
    refine R_ireturn dX6_parlour_36 rfl rfl ?_
    have e : zz = ((sX6_tellAll n m cf ca).1, (sX6_tellAll n m cf ca).2.1, (sX6_tellAll n m cf ca).2.2.1, (upd (sX6_tellAll n m cf ca).2.2.2.1 2 0), (sX6_tellAll n m cf ca).2.2.2.2) := by rw [← hs]; unfold sX6_parlour; rw [if_pos c1]
    rw [pr1 e, pr1 (pr2 e), pr1 (pr2 (pr2 e)), pr1 (pr2 (pr2 (pr2 e))), pr2 (pr2 (pr2 (pr2 e)))]; exact ⟨rfl, rfl⟩
