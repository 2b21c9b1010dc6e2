theorem R_pick {G : zG} {M : zM} {pc : Nat} {loc : List (Nat × Value)} {st : List Value} {h : zH} {Q : Option Value → zH → Prop} (ks : List Nat) {loc1 : List (Nat × Value)} (hk : ks.filterMap (fun k => loc[k]?) = loc1) (k : R G M pc loc1 st h Q) : R G M pc loc st h Q := by
  intro p l e s m args below meth c ad D A K cells slots C hr hf H locs ls hP hD hS hl
  refine k p l e s m args below meth c ad D A K cells slots C hr hf H locs ls hP hD hS ⟨hl.1, hl.2.1, fun q hq => ?_⟩
  obtain ⟨q0, h0, rfl⟩ := List.mem_map.mp hq
  rw [← hk] at h0
  obtain ⟨j, -, hj⟩ := List.mem_filterMap.mp h0
  exact hl.2.2 _ (List.mem_map.mpr ⟨q0, List.mem_of_getElem? hj, rfl⟩)
theorem cl_of (x : Int32) : x.toNatClampNeg < 2 ^ 31 := by
  have := x.toInt_lt
  unfold Int32.toNatClampNeg
  omega
theorem cl_le {x : Int32} {a : Nat} (h : x.toNatClampNeg ≤ a) (ha : a < 2 ^ 31) : x ≤ nI a := by
  rw [Int32.le_iff_toInt_le, nI_toInt ha]
  unfold Int32.toNatClampNeg at h
  omega
theorem cl_gt {x : Int32} {a : Nat} (h : a < x.toNatClampNeg) : ¬ x ≤ nI a := by
  have h1 := cl_of x
  rw [Int32.le_iff_toInt_le, nI_toInt (by omega)]
  unfold Int32.toNatClampNeg at h
  omega
def rh (fi la k x : Int32) : Int32 := if k < fi then x else if la < k then x else 1
def sX2_refineHands (m : zP) (fi : Int32) (la : Int32) : zP := if (m.1 6) ≤ 0 then m else if (m.1 6) ≤ 1 then (m.1, (up2 m.2 0 (upd (m.2 0) 4 (rh fi la 0 (m.2 0 4))))) else if (m.1 6) ≤ 2 then (m.1, (up2 (up2 m.2 0 (upd (m.2 0) 4 (rh fi la 0 (m.2 0 4)))) 1 (upd (m.2 1) 4 (rh fi la 1 (m.2 1 4))))) else if (m.1 6) ≤ 3 then (m.1, (up2 (up2 (up2 m.2 0 (upd (m.2 0) 4 (rh fi la 0 (m.2 0 4)))) 1 (upd (m.2 1) 4 (rh fi la 1 (m.2 1 4)))) 2 (upd (m.2 2) 4 (rh fi la 2 (m.2 2 4))))) else if (m.1 6) ≤ 4 then (m.1, (up2 (up2 (up2 (up2 m.2 0 (upd (m.2 0) 4 (rh fi la 0 (m.2 0 4)))) 1 (upd (m.2 1) 4 (rh fi la 1 (m.2 1 4)))) 2 (upd (m.2 2) 4 (rh fi la 2 (m.2 2 4)))) 3 (upd (m.2 3) 4 (rh fi la 3 (m.2 3 4))))) else if (m.1 6) ≤ 5 then (m.1, (up2 (up2 (up2 (up2 (up2 m.2 0 (upd (m.2 0) 4 (rh fi la 0 (m.2 0 4)))) 1 (upd (m.2 1) 4 (rh fi la 1 (m.2 1 4)))) 2 (upd (m.2 2) 4 (rh fi la 2 (m.2 2 4)))) 3 (upd (m.2 3) 4 (rh fi la 3 (m.2 3 4)))) 4 (upd (m.2 4) 4 (rh fi la 4 (m.2 4 4))))) else (m.1, (up2 (up2 (up2 (up2 (up2 m.2 0 (upd (m.2 0) 4 (rh fi la 0 (m.2 0 4)))) 1 (upd (m.2 1) 4 (rh fi la 1 (m.2 1 4)))) 2 (upd (m.2 2) 4 (rh fi la 2 (m.2 2 4)))) 3 (upd (m.2 3) 4 (rh fi la 3 (m.2 3 4)))) 4 (upd (m.2 4) 4 (rh fi la 4 (m.2 4 4)))))
set_option maxRecDepth 20000 in
theorem eX2_refineHands_10 {G : zG} {h2 : List va_E} {n m i : zP} {cf : Nat → Int32} {ca : Nat → Nat → Int32} {fi la : Int32} : EvF G mX2_refineHands [.ref 10, .int fi, .int la] (hC G n m i cf ca, h2) (none) (hC G n (sX2_refineHands m fi la) i cf ca, h2) := by
  generalize hs : (sX2_refineHands m fi la) = zz
  refine EvF.of pnX2 rfl ?_
  refine R_iconst 1 dX2_refineHands_0 rfl (v := 0) (by decide) ?_
  refine R_istore_n 2 dX2_refineHands_1 rfl rfl (by decide) (loc' := [(0, .ref 10), (1, .int fi), (2, .int la), (3, .int 0)]) rfl ?_
  refine R_iload_n 3 dX2_refineHands_2 rfl rfl ?_
  refine R_aload_n 4 dX2_refineHands_3 rfl rfl ?_
  refine R_get 7 dX2_refineHands_4 rfl fX2_49 rfl (v := .int (m.1 6)) rfl ?_
  refine R_icmp_ge 10 41 dX2_refineHands_7 rfl (by decide) (fun c1 => ?_) (fun c1 => ?_)
  ·
    refine R_return dX2_refineHands_41 rfl ?_
    have e : zz = m := by rw [← hs]; unfold sX2_refineHands; rw [if_pos c1]
    subst e; exact ⟨rfl, rfl⟩
  ·
    refine R_iload_n 11 dX2_refineHands_10 rfl rfl ?_
    refine R_iconst 12 dX2_refineHands_11 rfl (v := 5) (by decide) ?_
    refine R_icmp_ge 15 41 dX2_refineHands_12 rfl (by decide) (fun c => absurd c (by decide)) (fun _ => ?_)
    obtain ⟨z1_, hz1_⟩ : ∃ z : Int32, z = rh fi la 0 (m.2 0 4) := ⟨_, rfl⟩
    refine R_cut 35 [(0, .ref 10), (1, .int fi), (2, .int la), (3, .int 0)] [] (hC G n (m.1, (up2 m.2 0 (upd (m.2 0) 4 z1_))) i cf ca, h2) ?_ (fun kj => ?_)
    ·
      refine R_iinc 38 dX2_refineHands_35 rfl rfl (v := 1) (by decide) rfl (by decide) (loc' := [(0, .ref 10), (1, .int fi), (2, .int la), (3, .int 1)]) rfl ?_
      refine R_goto 2 dX2_refineHands_38 (by decide) ?_
      refine R_iload_n 3 dX2_refineHands_2 rfl rfl ?_
      refine R_aload_n 4 dX2_refineHands_3 rfl rfl ?_
      refine R_get 7 dX2_refineHands_4 rfl fX2_49 rfl (v := .int (m.1 6)) rfl ?_
      refine R_icmp_ge 10 41 dX2_refineHands_7 rfl (by decide) (fun c2 => ?_) (fun c2 => ?_)
      ·
        refine R_return dX2_refineHands_41 rfl ?_
        subst hz1_
        have e : zz = (m.1, (up2 m.2 0 (upd (m.2 0) 4 (rh fi la 0 (m.2 0 4))))) := by rw [← hs]; unfold sX2_refineHands; rw [if_neg c1, if_pos c2]
        subst e; exact ⟨rfl, rfl⟩
      ·
        refine R_iload_n 11 dX2_refineHands_10 rfl rfl ?_
        refine R_iconst 12 dX2_refineHands_11 rfl (v := 5) (by decide) ?_
        refine R_icmp_ge 15 41 dX2_refineHands_12 rfl (by decide) (fun c => absurd c (by decide)) (fun _ => ?_)
        obtain ⟨z2_, hz2_⟩ : ∃ z : Int32, z = rh fi la 1 (m.2 1 4) := ⟨_, rfl⟩
        refine R_cut 35 [(0, .ref 10), (1, .int fi), (2, .int la), (3, .int 1)] [] (hC G n (m.1, (up2 (up2 m.2 0 (upd (m.2 0) 4 z1_)) 1 (upd (m.2 1) 4 z2_))) i cf ca, h2) ?_ (fun kj => ?_)
        ·
          refine R_iinc 38 dX2_refineHands_35 rfl rfl (v := 2) (by decide) rfl (by decide) (loc' := [(0, .ref 10), (1, .int fi), (2, .int la), (3, .int 2)]) rfl ?_
          refine R_goto 2 dX2_refineHands_38 (by decide) ?_
          refine R_iload_n 3 dX2_refineHands_2 rfl rfl ?_
          refine R_aload_n 4 dX2_refineHands_3 rfl rfl ?_
          refine R_get 7 dX2_refineHands_4 rfl fX2_49 rfl (v := .int (m.1 6)) rfl ?_
          refine R_icmp_ge 10 41 dX2_refineHands_7 rfl (by decide) (fun c3 => ?_) (fun c3 => ?_)
          ·
            refine R_return dX2_refineHands_41 rfl ?_
            subst hz1_ hz2_
            have e : zz = (m.1, (up2 (up2 m.2 0 (upd (m.2 0) 4 (rh fi la 0 (m.2 0 4)))) 1 (upd (m.2 1) 4 (rh fi la 1 (m.2 1 4))))) := by rw [← hs]; unfold sX2_refineHands; rw [if_neg c1, if_neg c2, if_pos c3]
            subst e; exact ⟨rfl, rfl⟩
          ·
            refine R_iload_n 11 dX2_refineHands_10 rfl rfl ?_
            refine R_iconst 12 dX2_refineHands_11 rfl (v := 5) (by decide) ?_
            refine R_icmp_ge 15 41 dX2_refineHands_12 rfl (by decide) (fun c => absurd c (by decide)) (fun _ => ?_)
            obtain ⟨z3_, hz3_⟩ : ∃ z : Int32, z = rh fi la 2 (m.2 2 4) := ⟨_, rfl⟩
            refine R_cut 35 [(0, .ref 10), (1, .int fi), (2, .int la), (3, .int 2)] [] (hC G n (m.1, (up2 (up2 (up2 m.2 0 (upd (m.2 0) 4 z1_)) 1 (upd (m.2 1) 4 z2_)) 2 (upd (m.2 2) 4 z3_))) i cf ca, h2) ?_ (fun kj => ?_)
            ·
              refine R_iinc 38 dX2_refineHands_35 rfl rfl (v := 3) (by decide) rfl (by decide) (loc' := [(0, .ref 10), (1, .int fi), (2, .int la), (3, .int 3)]) rfl ?_
              refine R_goto 2 dX2_refineHands_38 (by decide) ?_
              refine R_iload_n 3 dX2_refineHands_2 rfl rfl ?_
              refine R_aload_n 4 dX2_refineHands_3 rfl rfl ?_
              refine R_get 7 dX2_refineHands_4 rfl fX2_49 rfl (v := .int (m.1 6)) rfl ?_
              refine R_icmp_ge 10 41 dX2_refineHands_7 rfl (by decide) (fun c4 => ?_) (fun c4 => ?_)
              ·
                refine R_return dX2_refineHands_41 rfl ?_
                subst hz1_ hz2_ hz3_
                have e : zz = (m.1, (up2 (up2 (up2 m.2 0 (upd (m.2 0) 4 (rh fi la 0 (m.2 0 4)))) 1 (upd (m.2 1) 4 (rh fi la 1 (m.2 1 4)))) 2 (upd (m.2 2) 4 (rh fi la 2 (m.2 2 4))))) := by rw [← hs]; unfold sX2_refineHands; rw [if_neg c1, if_neg c2, if_neg c3, if_pos c4]
                subst e; exact ⟨rfl, rfl⟩
              ·
                refine R_iload_n 11 dX2_refineHands_10 rfl rfl ?_
                refine R_iconst 12 dX2_refineHands_11 rfl (v := 5) (by decide) ?_
                refine R_icmp_ge 15 41 dX2_refineHands_12 rfl (by decide) (fun c => absurd c (by decide)) (fun _ => ?_)
                obtain ⟨z4_, hz4_⟩ : ∃ z : Int32, z = rh fi la 3 (m.2 3 4) := ⟨_, rfl⟩
                refine R_cut 35 [(0, .ref 10), (1, .int fi), (2, .int la), (3, .int 3)] [] (hC G n (m.1, (up2 (up2 (up2 (up2 m.2 0 (upd (m.2 0) 4 z1_)) 1 (upd (m.2 1) 4 z2_)) 2 (upd (m.2 2) 4 z3_)) 3 (upd (m.2 3) 4 z4_))) i cf ca, h2) ?_ (fun kj => ?_)
                ·
                  refine R_iinc 38 dX2_refineHands_35 rfl rfl (v := 4) (by decide) rfl (by decide) (loc' := [(0, .ref 10), (1, .int fi), (2, .int la), (3, .int 4)]) rfl ?_
                  refine R_goto 2 dX2_refineHands_38 (by decide) ?_
                  refine R_iload_n 3 dX2_refineHands_2 rfl rfl ?_
                  refine R_aload_n 4 dX2_refineHands_3 rfl rfl ?_
                  refine R_get 7 dX2_refineHands_4 rfl fX2_49 rfl (v := .int (m.1 6)) rfl ?_
                  refine R_icmp_ge 10 41 dX2_refineHands_7 rfl (by decide) (fun c5 => ?_) (fun c5 => ?_)
                  ·
                    refine R_return dX2_refineHands_41 rfl ?_
                    subst hz1_ hz2_ hz3_ hz4_
                    have e : zz = (m.1, (up2 (up2 (up2 (up2 m.2 0 (upd (m.2 0) 4 (rh fi la 0 (m.2 0 4)))) 1 (upd (m.2 1) 4 (rh fi la 1 (m.2 1 4)))) 2 (upd (m.2 2) 4 (rh fi la 2 (m.2 2 4)))) 3 (upd (m.2 3) 4 (rh fi la 3 (m.2 3 4))))) := by rw [← hs]; unfold sX2_refineHands; rw [if_neg c1, if_neg c2, if_neg c3, if_neg c4, if_pos c5]
                    subst e; exact ⟨rfl, rfl⟩
                  ·
                    refine R_iload_n 11 dX2_refineHands_10 rfl rfl ?_
                    refine R_iconst 12 dX2_refineHands_11 rfl (v := 5) (by decide) ?_
                    refine R_icmp_ge 15 41 dX2_refineHands_12 rfl (by decide) (fun c => absurd c (by decide)) (fun _ => ?_)
                    obtain ⟨z5_, hz5_⟩ : ∃ z : Int32, z = rh fi la 4 (m.2 4 4) := ⟨_, rfl⟩
                    refine R_cut 35 [(0, .ref 10), (1, .int fi), (2, .int la), (3, .int 4)] [] (hC G n (m.1, (up2 (up2 (up2 (up2 (up2 m.2 0 (upd (m.2 0) 4 z1_)) 1 (upd (m.2 1) 4 z2_)) 2 (upd (m.2 2) 4 z3_)) 3 (upd (m.2 3) 4 z4_)) 4 (upd (m.2 4) 4 z5_))) i cf ca, h2) ?_ (fun kj => ?_)
                    ·
                      refine R_iinc 38 dX2_refineHands_35 rfl rfl (v := 5) (by decide) rfl (by decide) (loc' := [(0, .ref 10), (1, .int fi), (2, .int la), (3, .int 5)]) rfl ?_
                      refine R_goto 2 dX2_refineHands_38 (by decide) ?_
                      refine R_iload_n 3 dX2_refineHands_2 rfl rfl ?_
                      refine R_aload_n 4 dX2_refineHands_3 rfl rfl ?_
                      refine R_get 7 dX2_refineHands_4 rfl fX2_49 rfl (v := .int (m.1 6)) rfl ?_
                      refine R_icmp_ge 10 41 dX2_refineHands_7 rfl (by decide) (fun c6 => ?_) (fun c6 => ?_)
                      ·
                        refine R_return dX2_refineHands_41 rfl ?_
                        subst hz1_ hz2_ hz3_ hz4_ hz5_
                        have e : zz = (m.1, (up2 (up2 (up2 (up2 (up2 m.2 0 (upd (m.2 0) 4 (rh fi la 0 (m.2 0 4)))) 1 (upd (m.2 1) 4 (rh fi la 1 (m.2 1 4)))) 2 (upd (m.2 2) 4 (rh fi la 2 (m.2 2 4)))) 3 (upd (m.2 3) 4 (rh fi la 3 (m.2 3 4)))) 4 (upd (m.2 4) 4 (rh fi la 4 (m.2 4 4))))) := by rw [← hs]; unfold sX2_refineHands; rw [if_neg c1, if_neg c2, if_neg c3, if_neg c4, if_neg c5, if_pos c6]
                        subst e; exact ⟨rfl, rfl⟩
                      ·
                        refine R_iload_n 11 dX2_refineHands_10 rfl rfl ?_
                        refine R_iconst 12 dX2_refineHands_11 rfl (v := 5) (by decide) ?_
                        refine R_icmp_ge 15 41 dX2_refineHands_12 rfl (by decide) (fun _ => ?_) (fun c => absurd c (by decide))
                        refine R_return dX2_refineHands_41 rfl ?_
                        subst hz1_ hz2_ hz3_ hz4_ hz5_
                        have e : zz = (m.1, (up2 (up2 (up2 (up2 (up2 m.2 0 (upd (m.2 0) 4 (rh fi la 0 (m.2 0 4)))) 1 (upd (m.2 1) 4 (rh fi la 1 (m.2 1 4)))) 2 (upd (m.2 2) 4 (rh fi la 2 (m.2 2 4)))) 3 (upd (m.2 3) 4 (rh fi la 3 (m.2 3 4)))) 4 (upd (m.2 4) 4 (rh fi la 4 (m.2 4 4))))) := by rw [← hs]; unfold sX2_refineHands; rw [if_neg c1, if_neg c2, if_neg c3, if_neg c4, if_neg c5, if_neg c6]
                        subst e; exact ⟨rfl, rfl⟩
                    refine R_iload_n 16 dX2_refineHands_15 rfl rfl ?_
                    refine R_iload_n 17 dX2_refineHands_16 rfl rfl ?_
                    refine R_icmp_lt 20 35 dX2_refineHands_17 rfl (by decide) (fun c7 => ?_) (fun c7 => ?_)
                    ·
                      have hh : m.2 4 4 = z5_ := by rw [hz5_]; unfold rh; rw [if_pos c7]
                      rw [← hh] at kj; exact kj
                    ·
                      refine R_iload_n 21 dX2_refineHands_20 rfl rfl ?_
                      refine R_iload_n 22 dX2_refineHands_21 rfl rfl ?_
                      refine R_icmp_gt 25 35 dX2_refineHands_22 rfl (by decide) (fun c8 => ?_) (fun c8 => ?_)
                      ·
                        have hh : m.2 4 4 = z5_ := by rw [hz5_]; unfold rh; rw [if_neg c7, if_pos c8]
                        rw [← hh] at kj; exact kj
                      ·
                        refine R_aload_n 26 dX2_refineHands_25 rfl rfl ?_
                        refine R_get 29 dX2_refineHands_26 rfl fX2_31 rfl (v := .ref 13) rfl ?_
                        refine R_iload_n 30 dX2_refineHands_29 rfl rfl ?_
                        refine R_aald 31 dX2_refineHands_30 rfl rfl rfl (vin_d (by decide)) (y := 18) rfl ?_
                        refine R_iconst 32 dX2_refineHands_31 rfl (v := 1) (by decide) ?_
                        refine R_put 35 dX2_refineHands_32 rfl wX2_81 rfl rfl rfl rfl (h2 := (hC G n (m.1, (up2 (up2 (up2 (up2 (up2 m.2 0 (upd (m.2 0) 4 z1_)) 1 (upd (m.2 1) 4 z2_)) 2 (upd (m.2 2) 4 z3_)) 3 (upd (m.2 3) 4 z4_)) 4 (upd (m.2 4) 4 1))) i cf ca, h2)) rfl ?_
                        have hh : 1 = z5_ := by rw [hz5_]; unfold rh; rw [if_neg c7, if_neg c8]
                        rw [← hh] at kj; exact kj
                refine R_iload_n 16 dX2_refineHands_15 rfl rfl ?_
                refine R_iload_n 17 dX2_refineHands_16 rfl rfl ?_
                refine R_icmp_lt 20 35 dX2_refineHands_17 rfl (by decide) (fun c9 => ?_) (fun c9 => ?_)
                ·
                  have hh : m.2 3 4 = z4_ := by rw [hz4_]; unfold rh; rw [if_pos c9]
                  rw [← hh] at kj; exact kj
                ·
                  refine R_iload_n 21 dX2_refineHands_20 rfl rfl ?_
                  refine R_iload_n 22 dX2_refineHands_21 rfl rfl ?_
                  refine R_icmp_gt 25 35 dX2_refineHands_22 rfl (by decide) (fun c10 => ?_) (fun c10 => ?_)
                  ·
                    have hh : m.2 3 4 = z4_ := by rw [hz4_]; unfold rh; rw [if_neg c9, if_pos c10]
                    rw [← hh] at kj; exact kj
                  ·
                    refine R_aload_n 26 dX2_refineHands_25 rfl rfl ?_
                    refine R_get 29 dX2_refineHands_26 rfl fX2_31 rfl (v := .ref 13) rfl ?_
                    refine R_iload_n 30 dX2_refineHands_29 rfl rfl ?_
                    refine R_aald 31 dX2_refineHands_30 rfl rfl rfl (vin_d (by decide)) (y := 17) rfl ?_
                    refine R_iconst 32 dX2_refineHands_31 rfl (v := 1) (by decide) ?_
                    refine R_put 35 dX2_refineHands_32 rfl wX2_81 rfl rfl rfl rfl (h2 := (hC G n (m.1, (up2 (up2 (up2 (up2 m.2 0 (upd (m.2 0) 4 z1_)) 1 (upd (m.2 1) 4 z2_)) 2 (upd (m.2 2) 4 z3_)) 3 (upd (m.2 3) 4 1))) i cf ca, h2)) rfl ?_
                    have hh : 1 = z4_ := by rw [hz4_]; unfold rh; rw [if_neg c9, if_neg c10]
                    rw [← hh] at kj; exact kj
            refine R_iload_n 16 dX2_refineHands_15 rfl rfl ?_
            refine R_iload_n 17 dX2_refineHands_16 rfl rfl ?_
            refine R_icmp_lt 20 35 dX2_refineHands_17 rfl (by decide) (fun c11 => ?_) (fun c11 => ?_)
            ·
              have hh : m.2 2 4 = z3_ := by rw [hz3_]; unfold rh; rw [if_pos c11]
              rw [← hh] at kj; exact kj
            ·
              refine R_iload_n 21 dX2_refineHands_20 rfl rfl ?_
              refine R_iload_n 22 dX2_refineHands_21 rfl rfl ?_
              refine R_icmp_gt 25 35 dX2_refineHands_22 rfl (by decide) (fun c12 => ?_) (fun c12 => ?_)
              ·
                have hh : m.2 2 4 = z3_ := by rw [hz3_]; unfold rh; rw [if_neg c11, if_pos c12]
                rw [← hh] at kj; exact kj
              ·
                refine R_aload_n 26 dX2_refineHands_25 rfl rfl ?_
                refine R_get 29 dX2_refineHands_26 rfl fX2_31 rfl (v := .ref 13) rfl ?_
                refine R_iload_n 30 dX2_refineHands_29 rfl rfl ?_
                refine R_aald 31 dX2_refineHands_30 rfl rfl rfl (vin_d (by decide)) (y := 16) rfl ?_
                refine R_iconst 32 dX2_refineHands_31 rfl (v := 1) (by decide) ?_
                refine R_put 35 dX2_refineHands_32 rfl wX2_81 rfl rfl rfl rfl (h2 := (hC G n (m.1, (up2 (up2 (up2 m.2 0 (upd (m.2 0) 4 z1_)) 1 (upd (m.2 1) 4 z2_)) 2 (upd (m.2 2) 4 1))) i cf ca, h2)) rfl ?_
                have hh : 1 = z3_ := by rw [hz3_]; unfold rh; rw [if_neg c11, if_neg c12]
                rw [← hh] at kj; exact kj
        refine R_iload_n 16 dX2_refineHands_15 rfl rfl ?_
        refine R_iload_n 17 dX2_refineHands_16 rfl rfl ?_
        refine R_icmp_lt 20 35 dX2_refineHands_17 rfl (by decide) (fun c13 => ?_) (fun c13 => ?_)
        ·
          have hh : m.2 1 4 = z2_ := by rw [hz2_]; unfold rh; rw [if_pos c13]
          rw [← hh] at kj; exact kj
        ·
          refine R_iload_n 21 dX2_refineHands_20 rfl rfl ?_
          refine R_iload_n 22 dX2_refineHands_21 rfl rfl ?_
          refine R_icmp_gt 25 35 dX2_refineHands_22 rfl (by decide) (fun c14 => ?_) (fun c14 => ?_)
          ·
            have hh : m.2 1 4 = z2_ := by rw [hz2_]; unfold rh; rw [if_neg c13, if_pos c14]
            rw [← hh] at kj; exact kj
          ·
            refine R_aload_n 26 dX2_refineHands_25 rfl rfl ?_
            refine R_get 29 dX2_refineHands_26 rfl fX2_31 rfl (v := .ref 13) rfl ?_
            refine R_iload_n 30 dX2_refineHands_29 rfl rfl ?_
            refine R_aald 31 dX2_refineHands_30 rfl rfl rfl (vin_d (by decide)) (y := 15) rfl ?_
            refine R_iconst 32 dX2_refineHands_31 rfl (v := 1) (by decide) ?_
            refine R_put 35 dX2_refineHands_32 rfl wX2_81 rfl rfl rfl rfl (h2 := (hC G n (m.1, (up2 (up2 m.2 0 (upd (m.2 0) 4 z1_)) 1 (upd (m.2 1) 4 1))) i cf ca, h2)) rfl ?_
            have hh : 1 = z2_ := by rw [hz2_]; unfold rh; rw [if_neg c13, if_neg c14]
            rw [← hh] at kj; exact kj
    refine R_iload_n 16 dX2_refineHands_15 rfl rfl ?_
    refine R_iload_n 17 dX2_refineHands_16 rfl rfl ?_
    refine R_icmp_lt 20 35 dX2_refineHands_17 rfl (by decide) (fun c15 => ?_) (fun c15 => ?_)
    ·
      have hh : m.2 0 4 = z1_ := by rw [hz1_]; unfold rh; rw [if_pos c15]
      rw [← hh] at kj; exact kj
    ·
      refine R_iload_n 21 dX2_refineHands_20 rfl rfl ?_
      refine R_iload_n 22 dX2_refineHands_21 rfl rfl ?_
      refine R_icmp_gt 25 35 dX2_refineHands_22 rfl (by decide) (fun c16 => ?_) (fun c16 => ?_)
      ·
        have hh : m.2 0 4 = z1_ := by rw [hz1_]; unfold rh; rw [if_neg c15, if_pos c16]
        rw [← hh] at kj; exact kj
      ·
        refine R_aload_n 26 dX2_refineHands_25 rfl rfl ?_
        refine R_get 29 dX2_refineHands_26 rfl fX2_31 rfl (v := .ref 13) rfl ?_
        refine R_iload_n 30 dX2_refineHands_29 rfl rfl ?_
        refine R_aald 31 dX2_refineHands_30 rfl rfl rfl (vin_d (by decide)) (y := 14) rfl ?_
        refine R_iconst 32 dX2_refineHands_31 rfl (v := 1) (by decide) ?_
        refine R_put 35 dX2_refineHands_32 rfl wX2_81 rfl rfl rfl rfl (h2 := (hC G n (m.1, (up2 m.2 0 (upd (m.2 0) 4 1))) i cf ca, h2)) rfl ?_
        have hh : 1 = z1_ := by rw [hz1_]; unfold rh; rw [if_neg c15, if_neg c16]
        rw [← hh] at kj; exact kj
set_option maxRecDepth 20000 in
theorem eX2_become_10_1 {G : zG} {h2 : List va_E} {n m i : zP} {cf : Nat → Int32} {ca : Nat → Nat → Int32} : EvF G mX2_become [.ref 10, .ref 1] (hC G n m i cf ca, h2) none (hC G n n i cf ca, h2) := by
  refine EvF.of pnX2 rfl ?_
  refine R_aload_n 1 dX2_become_0 rfl rfl ?_
  refine R_aload_n 2 dX2_become_1 rfl rfl ?_
  refine R_get 5 dX2_become_2 rfl fX2_36 rfl (v := .int (n.1 0)) rfl ?_
  refine R_put 8 dX2_become_5 rfl wX2_36 rfl rfl rfl rfl (h2 := (hC G n ((upd m.1 0 (n.1 0)), m.2) i cf ca, h2)) rfl ?_
  refine R_aload_n 9 dX2_become_8 rfl rfl ?_
  refine R_aload_n 10 dX2_become_9 rfl rfl ?_
  refine R_get 13 dX2_become_10 rfl fX2_39 rfl (v := .int (n.1 1)) rfl ?_
  refine R_put 16 dX2_become_13 rfl wX2_39 rfl rfl rfl rfl (h2 := (hC G n ((upd (upd m.1 0 (n.1 0)) 1 (n.1 1)), m.2) i cf ca, h2)) rfl ?_
  refine R_aload_n 17 dX2_become_16 rfl rfl ?_
  refine R_aload_n 18 dX2_become_17 rfl rfl ?_
  refine R_get 21 dX2_become_18 rfl fX2_9 rfl (v := .int (n.1 2)) rfl ?_
  refine R_put 24 dX2_become_21 rfl wX2_9 rfl rfl rfl rfl (h2 := (hC G n ((upd (upd (upd m.1 0 (n.1 0)) 1 (n.1 1)) 2 (n.1 2)), m.2) i cf ca, h2)) rfl ?_
  refine R_aload_n 25 dX2_become_24 rfl rfl ?_
  refine R_get 28 dX2_become_25 rfl fX2_18 rfl (v := .ref 11) rfl ?_
  refine R_aload_n 29 dX2_become_28 rfl rfl ?_
  refine R_get 32 dX2_become_29 rfl fX2_18 rfl (v := .ref 2) rfl ?_
  refine R_callVv 35 (eX1_become (a0 := m.1 9) (b0 := n.1 9) (a1 := m.1 10) (b1 := n.1 10) (by decide) rfl rfl) dX2_become_32 rfl kX1_become lX2_42 rfl rfl rfl rfl rfl rfl rfl ?_
  refine R_h (h1 := (hC G n ((upd (upd (upd (upd (upd m.1 0 (n.1 0)) 1 (n.1 1)) 2 (n.1 2)) 9 (n.1 9)) 10 (n.1 10)), m.2) i cf ca, h2)) rfl ?_
  refine R_aload_n 36 dX2_become_35 rfl rfl ?_
  refine R_get 39 dX2_become_36 rfl fX2_25 rfl (v := .ref 12) rfl ?_
  refine R_aload_n 40 dX2_become_39 rfl rfl ?_
  refine R_get 43 dX2_become_40 rfl fX2_25 rfl (v := .ref 3) rfl ?_
  refine R_callVv 46 (eX4_become (a0 := m.1 11) (b0 := n.1 11) (a1 := m.1 12) (b1 := n.1 12) (a2 := m.1 13) (b2 := n.1 13) (by decide) rfl rfl) dX2_become_43 rfl kX4_become lX2_46 rfl rfl rfl rfl rfl rfl rfl ?_
  refine R_h (h1 := (hC G n ((upd (upd (upd (upd (upd (upd (upd (upd m.1 0 (n.1 0)) 1 (n.1 1)) 2 (n.1 2)) 9 (n.1 9)) 10 (n.1 10)) 11 (n.1 11)) 12 (n.1 12)) 13 (n.1 13)), m.2) i cf ca, h2)) rfl ?_
  refine R_aload_n 47 dX2_become_46 rfl rfl ?_
  refine R_aload_n 48 dX2_become_47 rfl rfl ?_
  refine R_get 51 dX2_become_48 rfl fX2_49 rfl (v := .int (n.1 6)) rfl ?_
  refine R_put 54 dX2_become_51 rfl wX2_49 rfl rfl rfl rfl (h2 := (hC G n ((upd (upd (upd (upd (upd (upd (upd (upd (upd m.1 0 (n.1 0)) 1 (n.1 1)) 2 (n.1 2)) 9 (n.1 9)) 10 (n.1 10)) 11 (n.1 11)) 12 (n.1 12)) 13 (n.1 13)) 6 (n.1 6)), m.2) i cf ca, h2)) rfl ?_
  refine R_iconst 55 dX2_become_54 rfl (v := 0) (by decide) ?_
  refine R_istore_n 56 dX2_become_55 rfl rfl (by decide) (loc' := [(0, .ref 10), (1, .ref 1), (2, .int 0)]) rfl ?_
  refine R_iload_n 57 dX2_become_56 rfl rfl ?_
  refine R_iconst 58 dX2_become_57 rfl (v := 5) (by decide) ?_
  refine R_icmp_ge 61 82 dX2_become_58 rfl (by decide) (fun c => absurd c (by decide)) (fun _ => ?_)
  refine R_aload_n 62 dX2_become_61 rfl rfl ?_
  refine R_get 65 dX2_become_62 rfl fX2_31 rfl (v := .ref 13) rfl ?_
  refine R_iload_n 66 dX2_become_65 rfl rfl ?_
  refine R_aald 67 dX2_become_66 rfl rfl rfl (vin_d (by decide)) (y := 14) rfl ?_
  refine R_aload_n 68 dX2_become_67 rfl rfl ?_
  refine R_get 71 dX2_become_68 rfl fX2_31 rfl (v := .ref 4) rfl ?_
  refine R_iload_n 72 dX2_become_71 rfl rfl ?_
  refine R_aald 73 dX2_become_72 rfl rfl rfl (vin_d (by decide)) (y := 5) rfl ?_
  refine R_callVv 76 (eX3_become (a0 := m.2 0 0) (b0 := n.2 0 0) (a1 := m.2 0 1) (b1 := n.2 0 1) (a2 := m.2 0 2) (b2 := n.2 0 2) (a3 := m.2 0 3) (b3 := n.2 0 3) (a4 := m.2 0 4) (b4 := n.2 0 4) (a5 := m.2 0 5) (b5 := n.2 0 5) (by decide) rfl rfl) dX2_become_73 rfl kX3_become lX2_52 rfl rfl rfl rfl rfl rfl rfl ?_
  refine R_h (h1 := (hC G n ((upd (upd (upd (upd (upd (upd (upd (upd (upd m.1 0 (n.1 0)) 1 (n.1 1)) 2 (n.1 2)) 9 (n.1 9)) 10 (n.1 10)) 11 (n.1 11)) 12 (n.1 12)) 13 (n.1 13)) 6 (n.1 6)), (up2 m.2 0 (upd (upd (upd (upd (upd (upd (m.2 0) 0 (n.2 0 0)) 1 (n.2 0 1)) 2 (n.2 0 2)) 3 (n.2 0 3)) 4 (n.2 0 4)) 5 (n.2 0 5)))) i cf ca, h2)) rfl ?_
  refine R_iinc 79 dX2_become_76 rfl rfl (v := 1) (by decide) rfl (by decide) (loc' := [(0, .ref 10), (1, .ref 1), (2, .int 1)]) rfl ?_
  refine R_goto 56 dX2_become_79 (by decide) ?_
  refine R_iload_n 57 dX2_become_56 rfl rfl ?_
  refine R_iconst 58 dX2_become_57 rfl (v := 5) (by decide) ?_
  refine R_icmp_ge 61 82 dX2_become_58 rfl (by decide) (fun c => absurd c (by decide)) (fun _ => ?_)
  refine R_aload_n 62 dX2_become_61 rfl rfl ?_
  refine R_get 65 dX2_become_62 rfl fX2_31 rfl (v := .ref 13) rfl ?_
  refine R_iload_n 66 dX2_become_65 rfl rfl ?_
  refine R_aald 67 dX2_become_66 rfl rfl rfl (vin_d (by decide)) (y := 15) rfl ?_
  refine R_aload_n 68 dX2_become_67 rfl rfl ?_
  refine R_get 71 dX2_become_68 rfl fX2_31 rfl (v := .ref 4) rfl ?_
  refine R_iload_n 72 dX2_become_71 rfl rfl ?_
  refine R_aald 73 dX2_become_72 rfl rfl rfl (vin_d (by decide)) (y := 6) rfl ?_
  refine R_callVv 76 (eX3_become (a0 := m.2 1 0) (b0 := n.2 1 0) (a1 := m.2 1 1) (b1 := n.2 1 1) (a2 := m.2 1 2) (b2 := n.2 1 2) (a3 := m.2 1 3) (b3 := n.2 1 3) (a4 := m.2 1 4) (b4 := n.2 1 4) (a5 := m.2 1 5) (b5 := n.2 1 5) (by decide) rfl rfl) dX2_become_73 rfl kX3_become lX2_52 rfl rfl rfl rfl rfl rfl rfl ?_
  refine R_h (h1 := (hC G n ((upd (upd (upd (upd (upd (upd (upd (upd (upd m.1 0 (n.1 0)) 1 (n.1 1)) 2 (n.1 2)) 9 (n.1 9)) 10 (n.1 10)) 11 (n.1 11)) 12 (n.1 12)) 13 (n.1 13)) 6 (n.1 6)), (up2 (up2 m.2 0 (upd (upd (upd (upd (upd (upd (m.2 0) 0 (n.2 0 0)) 1 (n.2 0 1)) 2 (n.2 0 2)) 3 (n.2 0 3)) 4 (n.2 0 4)) 5 (n.2 0 5))) 1 (upd (upd (upd (upd (upd (upd (m.2 1) 0 (n.2 1 0)) 1 (n.2 1 1)) 2 (n.2 1 2)) 3 (n.2 1 3)) 4 (n.2 1 4)) 5 (n.2 1 5)))) i cf ca, h2)) rfl ?_
  refine R_iinc 79 dX2_become_76 rfl rfl (v := 2) (by decide) rfl (by decide) (loc' := [(0, .ref 10), (1, .ref 1), (2, .int 2)]) rfl ?_
  refine R_goto 56 dX2_become_79 (by decide) ?_
  refine R_iload_n 57 dX2_become_56 rfl rfl ?_
  refine R_iconst 58 dX2_become_57 rfl (v := 5) (by decide) ?_
  refine R_icmp_ge 61 82 dX2_become_58 rfl (by decide) (fun c => absurd c (by decide)) (fun _ => ?_)
  refine R_aload_n 62 dX2_become_61 rfl rfl ?_
  refine R_get 65 dX2_become_62 rfl fX2_31 rfl (v := .ref 13) rfl ?_
  refine R_iload_n 66 dX2_become_65 rfl rfl ?_
  refine R_aald 67 dX2_become_66 rfl rfl rfl (vin_d (by decide)) (y := 16) rfl ?_
  refine R_aload_n 68 dX2_become_67 rfl rfl ?_
  refine R_get 71 dX2_become_68 rfl fX2_31 rfl (v := .ref 4) rfl ?_
  refine R_iload_n 72 dX2_become_71 rfl rfl ?_
  refine R_aald 73 dX2_become_72 rfl rfl rfl (vin_d (by decide)) (y := 7) rfl ?_
  refine R_callVv 76 (eX3_become (a0 := m.2 2 0) (b0 := n.2 2 0) (a1 := m.2 2 1) (b1 := n.2 2 1) (a2 := m.2 2 2) (b2 := n.2 2 2) (a3 := m.2 2 3) (b3 := n.2 2 3) (a4 := m.2 2 4) (b4 := n.2 2 4) (a5 := m.2 2 5) (b5 := n.2 2 5) (by decide) rfl rfl) dX2_become_73 rfl kX3_become lX2_52 rfl rfl rfl rfl rfl rfl rfl ?_
  refine R_h (h1 := (hC G n ((upd (upd (upd (upd (upd (upd (upd (upd (upd m.1 0 (n.1 0)) 1 (n.1 1)) 2 (n.1 2)) 9 (n.1 9)) 10 (n.1 10)) 11 (n.1 11)) 12 (n.1 12)) 13 (n.1 13)) 6 (n.1 6)), (up2 (up2 (up2 m.2 0 (upd (upd (upd (upd (upd (upd (m.2 0) 0 (n.2 0 0)) 1 (n.2 0 1)) 2 (n.2 0 2)) 3 (n.2 0 3)) 4 (n.2 0 4)) 5 (n.2 0 5))) 1 (upd (upd (upd (upd (upd (upd (m.2 1) 0 (n.2 1 0)) 1 (n.2 1 1)) 2 (n.2 1 2)) 3 (n.2 1 3)) 4 (n.2 1 4)) 5 (n.2 1 5))) 2 (upd (upd (upd (upd (upd (upd (m.2 2) 0 (n.2 2 0)) 1 (n.2 2 1)) 2 (n.2 2 2)) 3 (n.2 2 3)) 4 (n.2 2 4)) 5 (n.2 2 5)))) i cf ca, h2)) rfl ?_
  refine R_iinc 79 dX2_become_76 rfl rfl (v := 3) (by decide) rfl (by decide) (loc' := [(0, .ref 10), (1, .ref 1), (2, .int 3)]) rfl ?_
  refine R_goto 56 dX2_become_79 (by decide) ?_
  refine R_iload_n 57 dX2_become_56 rfl rfl ?_
  refine R_iconst 58 dX2_become_57 rfl (v := 5) (by decide) ?_
  refine R_icmp_ge 61 82 dX2_become_58 rfl (by decide) (fun c => absurd c (by decide)) (fun _ => ?_)
  refine R_aload_n 62 dX2_become_61 rfl rfl ?_
  refine R_get 65 dX2_become_62 rfl fX2_31 rfl (v := .ref 13) rfl ?_
  refine R_iload_n 66 dX2_become_65 rfl rfl ?_
  refine R_aald 67 dX2_become_66 rfl rfl rfl (vin_d (by decide)) (y := 17) rfl ?_
  refine R_aload_n 68 dX2_become_67 rfl rfl ?_
  refine R_get 71 dX2_become_68 rfl fX2_31 rfl (v := .ref 4) rfl ?_
  refine R_iload_n 72 dX2_become_71 rfl rfl ?_
  refine R_aald 73 dX2_become_72 rfl rfl rfl (vin_d (by decide)) (y := 8) rfl ?_
  refine R_callVv 76 (eX3_become (a0 := m.2 3 0) (b0 := n.2 3 0) (a1 := m.2 3 1) (b1 := n.2 3 1) (a2 := m.2 3 2) (b2 := n.2 3 2) (a3 := m.2 3 3) (b3 := n.2 3 3) (a4 := m.2 3 4) (b4 := n.2 3 4) (a5 := m.2 3 5) (b5 := n.2 3 5) (by decide) rfl rfl) dX2_become_73 rfl kX3_become lX2_52 rfl rfl rfl rfl rfl rfl rfl ?_
  refine R_h (h1 := (hC G n ((upd (upd (upd (upd (upd (upd (upd (upd (upd m.1 0 (n.1 0)) 1 (n.1 1)) 2 (n.1 2)) 9 (n.1 9)) 10 (n.1 10)) 11 (n.1 11)) 12 (n.1 12)) 13 (n.1 13)) 6 (n.1 6)), (up2 (up2 (up2 (up2 m.2 0 (upd (upd (upd (upd (upd (upd (m.2 0) 0 (n.2 0 0)) 1 (n.2 0 1)) 2 (n.2 0 2)) 3 (n.2 0 3)) 4 (n.2 0 4)) 5 (n.2 0 5))) 1 (upd (upd (upd (upd (upd (upd (m.2 1) 0 (n.2 1 0)) 1 (n.2 1 1)) 2 (n.2 1 2)) 3 (n.2 1 3)) 4 (n.2 1 4)) 5 (n.2 1 5))) 2 (upd (upd (upd (upd (upd (upd (m.2 2) 0 (n.2 2 0)) 1 (n.2 2 1)) 2 (n.2 2 2)) 3 (n.2 2 3)) 4 (n.2 2 4)) 5 (n.2 2 5))) 3 (upd (upd (upd (upd (upd (upd (m.2 3) 0 (n.2 3 0)) 1 (n.2 3 1)) 2 (n.2 3 2)) 3 (n.2 3 3)) 4 (n.2 3 4)) 5 (n.2 3 5)))) i cf ca, h2)) rfl ?_
  refine R_iinc 79 dX2_become_76 rfl rfl (v := 4) (by decide) rfl (by decide) (loc' := [(0, .ref 10), (1, .ref 1), (2, .int 4)]) rfl ?_
  refine R_goto 56 dX2_become_79 (by decide) ?_
  refine R_iload_n 57 dX2_become_56 rfl rfl ?_
  refine R_iconst 58 dX2_become_57 rfl (v := 5) (by decide) ?_
  refine R_icmp_ge 61 82 dX2_become_58 rfl (by decide) (fun c => absurd c (by decide)) (fun _ => ?_)
  refine R_aload_n 62 dX2_become_61 rfl rfl ?_
  refine R_get 65 dX2_become_62 rfl fX2_31 rfl (v := .ref 13) rfl ?_
  refine R_iload_n 66 dX2_become_65 rfl rfl ?_
  refine R_aald 67 dX2_become_66 rfl rfl rfl (vin_d (by decide)) (y := 18) rfl ?_
  refine R_aload_n 68 dX2_become_67 rfl rfl ?_
  refine R_get 71 dX2_become_68 rfl fX2_31 rfl (v := .ref 4) rfl ?_
  refine R_iload_n 72 dX2_become_71 rfl rfl ?_
  refine R_aald 73 dX2_become_72 rfl rfl rfl (vin_d (by decide)) (y := 9) rfl ?_
  refine R_callVv 76 (eX3_become (a0 := m.2 4 0) (b0 := n.2 4 0) (a1 := m.2 4 1) (b1 := n.2 4 1) (a2 := m.2 4 2) (b2 := n.2 4 2) (a3 := m.2 4 3) (b3 := n.2 4 3) (a4 := m.2 4 4) (b4 := n.2 4 4) (a5 := m.2 4 5) (b5 := n.2 4 5) (by decide) rfl rfl) dX2_become_73 rfl kX3_become lX2_52 rfl rfl rfl rfl rfl rfl rfl ?_
  refine R_h (h1 := (hC G n ((upd (upd (upd (upd (upd (upd (upd (upd (upd m.1 0 (n.1 0)) 1 (n.1 1)) 2 (n.1 2)) 9 (n.1 9)) 10 (n.1 10)) 11 (n.1 11)) 12 (n.1 12)) 13 (n.1 13)) 6 (n.1 6)), (up2 (up2 (up2 (up2 (up2 m.2 0 (upd (upd (upd (upd (upd (upd (m.2 0) 0 (n.2 0 0)) 1 (n.2 0 1)) 2 (n.2 0 2)) 3 (n.2 0 3)) 4 (n.2 0 4)) 5 (n.2 0 5))) 1 (upd (upd (upd (upd (upd (upd (m.2 1) 0 (n.2 1 0)) 1 (n.2 1 1)) 2 (n.2 1 2)) 3 (n.2 1 3)) 4 (n.2 1 4)) 5 (n.2 1 5))) 2 (upd (upd (upd (upd (upd (upd (m.2 2) 0 (n.2 2 0)) 1 (n.2 2 1)) 2 (n.2 2 2)) 3 (n.2 2 3)) 4 (n.2 2 4)) 5 (n.2 2 5))) 3 (upd (upd (upd (upd (upd (upd (m.2 3) 0 (n.2 3 0)) 1 (n.2 3 1)) 2 (n.2 3 2)) 3 (n.2 3 3)) 4 (n.2 3 4)) 5 (n.2 3 5))) 4 (upd (upd (upd (upd (upd (upd (m.2 4) 0 (n.2 4 0)) 1 (n.2 4 1)) 2 (n.2 4 2)) 3 (n.2 4 3)) 4 (n.2 4 4)) 5 (n.2 4 5)))) i cf ca, h2)) rfl ?_
  refine R_iinc 79 dX2_become_76 rfl rfl (v := 5) (by decide) rfl (by decide) (loc' := [(0, .ref 10), (1, .ref 1), (2, .int 5)]) rfl ?_
  refine R_goto 56 dX2_become_79 (by decide) ?_
  refine R_iload_n 57 dX2_become_56 rfl rfl ?_
  refine R_iconst 58 dX2_become_57 rfl (v := 5) (by decide) ?_
  refine R_icmp_ge 61 82 dX2_become_58 rfl (by decide) (fun _ => ?_) (fun c => absurd c (by decide))
  refine R_aload_n 83 dX2_become_82 rfl rfl ?_
  refine R_aload_n 84 dX2_become_83 rfl rfl ?_
  refine R_get 87 dX2_become_84 rfl fX2_55 rfl (v := .int (n.1 7)) rfl ?_
  refine R_put 90 dX2_become_87 rfl wX2_55 rfl rfl rfl rfl (h2 := (hC G n ((upd (upd (upd (upd (upd (upd (upd (upd (upd (upd m.1 0 (n.1 0)) 1 (n.1 1)) 2 (n.1 2)) 9 (n.1 9)) 10 (n.1 10)) 11 (n.1 11)) 12 (n.1 12)) 13 (n.1 13)) 6 (n.1 6)) 7 (n.1 7)), (up2 (up2 (up2 (up2 (up2 m.2 0 (upd (upd (upd (upd (upd (upd (m.2 0) 0 (n.2 0 0)) 1 (n.2 0 1)) 2 (n.2 0 2)) 3 (n.2 0 3)) 4 (n.2 0 4)) 5 (n.2 0 5))) 1 (upd (upd (upd (upd (upd (upd (m.2 1) 0 (n.2 1 0)) 1 (n.2 1 1)) 2 (n.2 1 2)) 3 (n.2 1 3)) 4 (n.2 1 4)) 5 (n.2 1 5))) 2 (upd (upd (upd (upd (upd (upd (m.2 2) 0 (n.2 2 0)) 1 (n.2 2 1)) 2 (n.2 2 2)) 3 (n.2 2 3)) 4 (n.2 2 4)) 5 (n.2 2 5))) 3 (upd (upd (upd (upd (upd (upd (m.2 3) 0 (n.2 3 0)) 1 (n.2 3 1)) 2 (n.2 3 2)) 3 (n.2 3 3)) 4 (n.2 3 4)) 5 (n.2 3 5))) 4 (upd (upd (upd (upd (upd (upd (m.2 4) 0 (n.2 4 0)) 1 (n.2 4 1)) 2 (n.2 4 2)) 3 (n.2 4 3)) 4 (n.2 4 4)) 5 (n.2 4 5)))) i cf ca, h2)) rfl ?_
  refine R_aload_n 91 dX2_become_90 rfl rfl ?_
  refine R_aload_n 92 dX2_become_91 rfl rfl ?_
  refine R_get 95 dX2_become_92 rfl fX2_58 rfl (v := .int (n.1 8)) rfl ?_
  refine R_put 98 dX2_become_95 rfl wX2_58 rfl rfl rfl rfl (h2 := (hC G n ((upd (upd (upd (upd (upd (upd (upd (upd (upd (upd (upd m.1 0 (n.1 0)) 1 (n.1 1)) 2 (n.1 2)) 9 (n.1 9)) 10 (n.1 10)) 11 (n.1 11)) 12 (n.1 12)) 13 (n.1 13)) 6 (n.1 6)) 7 (n.1 7)) 8 (n.1 8)), (up2 (up2 (up2 (up2 (up2 m.2 0 (upd (upd (upd (upd (upd (upd (m.2 0) 0 (n.2 0 0)) 1 (n.2 0 1)) 2 (n.2 0 2)) 3 (n.2 0 3)) 4 (n.2 0 4)) 5 (n.2 0 5))) 1 (upd (upd (upd (upd (upd (upd (m.2 1) 0 (n.2 1 0)) 1 (n.2 1 1)) 2 (n.2 1 2)) 3 (n.2 1 3)) 4 (n.2 1 4)) 5 (n.2 1 5))) 2 (upd (upd (upd (upd (upd (upd (m.2 2) 0 (n.2 2 0)) 1 (n.2 2 1)) 2 (n.2 2 2)) 3 (n.2 2 3)) 4 (n.2 2 4)) 5 (n.2 2 5))) 3 (upd (upd (upd (upd (upd (upd (m.2 3) 0 (n.2 3 0)) 1 (n.2 3 1)) 2 (n.2 3 2)) 3 (n.2 3 3)) 4 (n.2 3 4)) 5 (n.2 3 5))) 4 (upd (upd (upd (upd (upd (upd (m.2 4) 0 (n.2 4 0)) 1 (n.2 4 1)) 2 (n.2 4 2)) 3 (n.2 4 3)) 4 (n.2 4 4)) 5 (n.2 4 5)))) i cf ca, h2)) rfl ?_
  refine R_return dX2_become_98 rfl ?_
  exact ⟨rfl, rfl⟩
set_option maxRecDepth 20000 in
theorem eX2_become_19_1 {G : zG} {h2 : List va_E} {n k m : zP} {cf : Nat → Int32} {ca : Nat → Nat → Int32} : EvF G mX2_become [.ref 19, .ref 1] (hC G n k m cf ca, h2) none (hC G n k n cf ca, h2) := by
  refine EvF.of pnX2 rfl ?_
  refine R_aload_n 1 dX2_become_0 rfl rfl ?_
  refine R_aload_n 2 dX2_become_1 rfl rfl ?_
  refine R_get 5 dX2_become_2 rfl fX2_36 rfl (v := .int (n.1 0)) rfl ?_
  refine R_put 8 dX2_become_5 rfl wX2_36 rfl rfl rfl rfl (h2 := (hC G n k ((upd m.1 0 (n.1 0)), m.2) cf ca, h2)) rfl ?_
  refine R_aload_n 9 dX2_become_8 rfl rfl ?_
  refine R_aload_n 10 dX2_become_9 rfl rfl ?_
  refine R_get 13 dX2_become_10 rfl fX2_39 rfl (v := .int (n.1 1)) rfl ?_
  refine R_put 16 dX2_become_13 rfl wX2_39 rfl rfl rfl rfl (h2 := (hC G n k ((upd (upd m.1 0 (n.1 0)) 1 (n.1 1)), m.2) cf ca, h2)) rfl ?_
  refine R_aload_n 17 dX2_become_16 rfl rfl ?_
  refine R_aload_n 18 dX2_become_17 rfl rfl ?_
  refine R_get 21 dX2_become_18 rfl fX2_9 rfl (v := .int (n.1 2)) rfl ?_
  refine R_put 24 dX2_become_21 rfl wX2_9 rfl rfl rfl rfl (h2 := (hC G n k ((upd (upd (upd m.1 0 (n.1 0)) 1 (n.1 1)) 2 (n.1 2)), m.2) cf ca, h2)) rfl ?_
  refine R_aload_n 25 dX2_become_24 rfl rfl ?_
  refine R_get 28 dX2_become_25 rfl fX2_18 rfl (v := .ref 20) rfl ?_
  refine R_aload_n 29 dX2_become_28 rfl rfl ?_
  refine R_get 32 dX2_become_29 rfl fX2_18 rfl (v := .ref 2) rfl ?_
  refine R_callVv 35 (eX1_become (a0 := m.1 9) (b0 := n.1 9) (a1 := m.1 10) (b1 := n.1 10) (by decide) rfl rfl) dX2_become_32 rfl kX1_become lX2_42 rfl rfl rfl rfl rfl rfl rfl ?_
  refine R_h (h1 := (hC G n k ((upd (upd (upd (upd (upd m.1 0 (n.1 0)) 1 (n.1 1)) 2 (n.1 2)) 9 (n.1 9)) 10 (n.1 10)), m.2) cf ca, h2)) rfl ?_
  refine R_aload_n 36 dX2_become_35 rfl rfl ?_
  refine R_get 39 dX2_become_36 rfl fX2_25 rfl (v := .ref 21) rfl ?_
  refine R_aload_n 40 dX2_become_39 rfl rfl ?_
  refine R_get 43 dX2_become_40 rfl fX2_25 rfl (v := .ref 3) rfl ?_
  refine R_callVv 46 (eX4_become (a0 := m.1 11) (b0 := n.1 11) (a1 := m.1 12) (b1 := n.1 12) (a2 := m.1 13) (b2 := n.1 13) (by decide) rfl rfl) dX2_become_43 rfl kX4_become lX2_46 rfl rfl rfl rfl rfl rfl rfl ?_
  refine R_h (h1 := (hC G n k ((upd (upd (upd (upd (upd (upd (upd (upd m.1 0 (n.1 0)) 1 (n.1 1)) 2 (n.1 2)) 9 (n.1 9)) 10 (n.1 10)) 11 (n.1 11)) 12 (n.1 12)) 13 (n.1 13)), m.2) cf ca, h2)) rfl ?_
  refine R_aload_n 47 dX2_become_46 rfl rfl ?_
  refine R_aload_n 48 dX2_become_47 rfl rfl ?_
  refine R_get 51 dX2_become_48 rfl fX2_49 rfl (v := .int (n.1 6)) rfl ?_
  refine R_put 54 dX2_become_51 rfl wX2_49 rfl rfl rfl rfl (h2 := (hC G n k ((upd (upd (upd (upd (upd (upd (upd (upd (upd m.1 0 (n.1 0)) 1 (n.1 1)) 2 (n.1 2)) 9 (n.1 9)) 10 (n.1 10)) 11 (n.1 11)) 12 (n.1 12)) 13 (n.1 13)) 6 (n.1 6)), m.2) cf ca, h2)) rfl ?_
  refine R_iconst 55 dX2_become_54 rfl (v := 0) (by decide) ?_
  refine R_istore_n 56 dX2_become_55 rfl rfl (by decide) (loc' := [(0, .ref 19), (1, .ref 1), (2, .int 0)]) rfl ?_
  refine R_iload_n 57 dX2_become_56 rfl rfl ?_
  refine R_iconst 58 dX2_become_57 rfl (v := 5) (by decide) ?_
  refine R_icmp_ge 61 82 dX2_become_58 rfl (by decide) (fun c => absurd c (by decide)) (fun _ => ?_)
  refine R_aload_n 62 dX2_become_61 rfl rfl ?_
  refine R_get 65 dX2_become_62 rfl fX2_31 rfl (v := .ref 22) rfl ?_
  refine R_iload_n 66 dX2_become_65 rfl rfl ?_
  refine R_aald 67 dX2_become_66 rfl rfl rfl (vin_d (by decide)) (y := 23) rfl ?_
  refine R_aload_n 68 dX2_become_67 rfl rfl ?_
  refine R_get 71 dX2_become_68 rfl fX2_31 rfl (v := .ref 4) rfl ?_
  refine R_iload_n 72 dX2_become_71 rfl rfl ?_
  refine R_aald 73 dX2_become_72 rfl rfl rfl (vin_d (by decide)) (y := 5) rfl ?_
  refine R_callVv 76 (eX3_become (a0 := m.2 0 0) (b0 := n.2 0 0) (a1 := m.2 0 1) (b1 := n.2 0 1) (a2 := m.2 0 2) (b2 := n.2 0 2) (a3 := m.2 0 3) (b3 := n.2 0 3) (a4 := m.2 0 4) (b4 := n.2 0 4) (a5 := m.2 0 5) (b5 := n.2 0 5) (by decide) rfl rfl) dX2_become_73 rfl kX3_become lX2_52 rfl rfl rfl rfl rfl rfl rfl ?_
  refine R_h (h1 := (hC G n k ((upd (upd (upd (upd (upd (upd (upd (upd (upd m.1 0 (n.1 0)) 1 (n.1 1)) 2 (n.1 2)) 9 (n.1 9)) 10 (n.1 10)) 11 (n.1 11)) 12 (n.1 12)) 13 (n.1 13)) 6 (n.1 6)), (up2 m.2 0 (upd (upd (upd (upd (upd (upd (m.2 0) 0 (n.2 0 0)) 1 (n.2 0 1)) 2 (n.2 0 2)) 3 (n.2 0 3)) 4 (n.2 0 4)) 5 (n.2 0 5)))) cf ca, h2)) rfl ?_
  refine R_iinc 79 dX2_become_76 rfl rfl (v := 1) (by decide) rfl (by decide) (loc' := [(0, .ref 19), (1, .ref 1), (2, .int 1)]) rfl ?_
  refine R_goto 56 dX2_become_79 (by decide) ?_
  refine R_iload_n 57 dX2_become_56 rfl rfl ?_
  refine R_iconst 58 dX2_become_57 rfl (v := 5) (by decide) ?_
  refine R_icmp_ge 61 82 dX2_become_58 rfl (by decide) (fun c => absurd c (by decide)) (fun _ => ?_)
  refine R_aload_n 62 dX2_become_61 rfl rfl ?_
  refine R_get 65 dX2_become_62 rfl fX2_31 rfl (v := .ref 22) rfl ?_
  refine R_iload_n 66 dX2_become_65 rfl rfl ?_
  refine R_aald 67 dX2_become_66 rfl rfl rfl (vin_d (by decide)) (y := 24) rfl ?_
  refine R_aload_n 68 dX2_become_67 rfl rfl ?_
  refine R_get 71 dX2_become_68 rfl fX2_31 rfl (v := .ref 4) rfl ?_
  refine R_iload_n 72 dX2_become_71 rfl rfl ?_
  refine R_aald 73 dX2_become_72 rfl rfl rfl (vin_d (by decide)) (y := 6) rfl ?_
  refine R_callVv 76 (eX3_become (a0 := m.2 1 0) (b0 := n.2 1 0) (a1 := m.2 1 1) (b1 := n.2 1 1) (a2 := m.2 1 2) (b2 := n.2 1 2) (a3 := m.2 1 3) (b3 := n.2 1 3) (a4 := m.2 1 4) (b4 := n.2 1 4) (a5 := m.2 1 5) (b5 := n.2 1 5) (by decide) rfl rfl) dX2_become_73 rfl kX3_become lX2_52 rfl rfl rfl rfl rfl rfl rfl ?_
  refine R_h (h1 := (hC G n k ((upd (upd (upd (upd (upd (upd (upd (upd (upd m.1 0 (n.1 0)) 1 (n.1 1)) 2 (n.1 2)) 9 (n.1 9)) 10 (n.1 10)) 11 (n.1 11)) 12 (n.1 12)) 13 (n.1 13)) 6 (n.1 6)), (up2 (up2 m.2 0 (upd (upd (upd (upd (upd (upd (m.2 0) 0 (n.2 0 0)) 1 (n.2 0 1)) 2 (n.2 0 2)) 3 (n.2 0 3)) 4 (n.2 0 4)) 5 (n.2 0 5))) 1 (upd (upd (upd (upd (upd (upd (m.2 1) 0 (n.2 1 0)) 1 (n.2 1 1)) 2 (n.2 1 2)) 3 (n.2 1 3)) 4 (n.2 1 4)) 5 (n.2 1 5)))) cf ca, h2)) rfl ?_
  refine R_iinc 79 dX2_become_76 rfl rfl (v := 2) (by decide) rfl (by decide) (loc' := [(0, .ref 19), (1, .ref 1), (2, .int 2)]) rfl ?_
  refine R_goto 56 dX2_become_79 (by decide) ?_
  refine R_iload_n 57 dX2_become_56 rfl rfl ?_
  refine R_iconst 58 dX2_become_57 rfl (v := 5) (by decide) ?_
  refine R_icmp_ge 61 82 dX2_become_58 rfl (by decide) (fun c => absurd c (by decide)) (fun _ => ?_)
  refine R_aload_n 62 dX2_become_61 rfl rfl ?_
  refine R_get 65 dX2_become_62 rfl fX2_31 rfl (v := .ref 22) rfl ?_
  refine R_iload_n 66 dX2_become_65 rfl rfl ?_
  refine R_aald 67 dX2_become_66 rfl rfl rfl (vin_d (by decide)) (y := 25) rfl ?_
  refine R_aload_n 68 dX2_become_67 rfl rfl ?_
  refine R_get 71 dX2_become_68 rfl fX2_31 rfl (v := .ref 4) rfl ?_
  refine R_iload_n 72 dX2_become_71 rfl rfl ?_
  refine R_aald 73 dX2_become_72 rfl rfl rfl (vin_d (by decide)) (y := 7) rfl ?_
  refine R_callVv 76 (eX3_become (a0 := m.2 2 0) (b0 := n.2 2 0) (a1 := m.2 2 1) (b1 := n.2 2 1) (a2 := m.2 2 2) (b2 := n.2 2 2) (a3 := m.2 2 3) (b3 := n.2 2 3) (a4 := m.2 2 4) (b4 := n.2 2 4) (a5 := m.2 2 5) (b5 := n.2 2 5) (by decide) rfl rfl) dX2_become_73 rfl kX3_become lX2_52 rfl rfl rfl rfl rfl rfl rfl ?_
  refine R_h (h1 := (hC G n k ((upd (upd (upd (upd (upd (upd (upd (upd (upd m.1 0 (n.1 0)) 1 (n.1 1)) 2 (n.1 2)) 9 (n.1 9)) 10 (n.1 10)) 11 (n.1 11)) 12 (n.1 12)) 13 (n.1 13)) 6 (n.1 6)), (up2 (up2 (up2 m.2 0 (upd (upd (upd (upd (upd (upd (m.2 0) 0 (n.2 0 0)) 1 (n.2 0 1)) 2 (n.2 0 2)) 3 (n.2 0 3)) 4 (n.2 0 4)) 5 (n.2 0 5))) 1 (upd (upd (upd (upd (upd (upd (m.2 1) 0 (n.2 1 0)) 1 (n.2 1 1)) 2 (n.2 1 2)) 3 (n.2 1 3)) 4 (n.2 1 4)) 5 (n.2 1 5))) 2 (upd (upd (upd (upd (upd (upd (m.2 2) 0 (n.2 2 0)) 1 (n.2 2 1)) 2 (n.2 2 2)) 3 (n.2 2 3)) 4 (n.2 2 4)) 5 (n.2 2 5)))) cf ca, h2)) rfl ?_
  refine R_iinc 79 dX2_become_76 rfl rfl (v := 3) (by decide) rfl (by decide) (loc' := [(0, .ref 19), (1, .ref 1), (2, .int 3)]) rfl ?_
  refine R_goto 56 dX2_become_79 (by decide) ?_
  refine R_iload_n 57 dX2_become_56 rfl rfl ?_
  refine R_iconst 58 dX2_become_57 rfl (v := 5) (by decide) ?_
  refine R_icmp_ge 61 82 dX2_become_58 rfl (by decide) (fun c => absurd c (by decide)) (fun _ => ?_)
  refine R_aload_n 62 dX2_become_61 rfl rfl ?_
  refine R_get 65 dX2_become_62 rfl fX2_31 rfl (v := .ref 22) rfl ?_
  refine R_iload_n 66 dX2_become_65 rfl rfl ?_
  refine R_aald 67 dX2_become_66 rfl rfl rfl (vin_d (by decide)) (y := 26) rfl ?_
  refine R_aload_n 68 dX2_become_67 rfl rfl ?_
  refine R_get 71 dX2_become_68 rfl fX2_31 rfl (v := .ref 4) rfl ?_
  refine R_iload_n 72 dX2_become_71 rfl rfl ?_
  refine R_aald 73 dX2_become_72 rfl rfl rfl (vin_d (by decide)) (y := 8) rfl ?_
  refine R_callVv 76 (eX3_become (a0 := m.2 3 0) (b0 := n.2 3 0) (a1 := m.2 3 1) (b1 := n.2 3 1) (a2 := m.2 3 2) (b2 := n.2 3 2) (a3 := m.2 3 3) (b3 := n.2 3 3) (a4 := m.2 3 4) (b4 := n.2 3 4) (a5 := m.2 3 5) (b5 := n.2 3 5) (by decide) rfl rfl) dX2_become_73 rfl kX3_become lX2_52 rfl rfl rfl rfl rfl rfl rfl ?_
  refine R_h (h1 := (hC G n k ((upd (upd (upd (upd (upd (upd (upd (upd (upd m.1 0 (n.1 0)) 1 (n.1 1)) 2 (n.1 2)) 9 (n.1 9)) 10 (n.1 10)) 11 (n.1 11)) 12 (n.1 12)) 13 (n.1 13)) 6 (n.1 6)), (up2 (up2 (up2 (up2 m.2 0 (upd (upd (upd (upd (upd (upd (m.2 0) 0 (n.2 0 0)) 1 (n.2 0 1)) 2 (n.2 0 2)) 3 (n.2 0 3)) 4 (n.2 0 4)) 5 (n.2 0 5))) 1 (upd (upd (upd (upd (upd (upd (m.2 1) 0 (n.2 1 0)) 1 (n.2 1 1)) 2 (n.2 1 2)) 3 (n.2 1 3)) 4 (n.2 1 4)) 5 (n.2 1 5))) 2 (upd (upd (upd (upd (upd (upd (m.2 2) 0 (n.2 2 0)) 1 (n.2 2 1)) 2 (n.2 2 2)) 3 (n.2 2 3)) 4 (n.2 2 4)) 5 (n.2 2 5))) 3 (upd (upd (upd (upd (upd (upd (m.2 3) 0 (n.2 3 0)) 1 (n.2 3 1)) 2 (n.2 3 2)) 3 (n.2 3 3)) 4 (n.2 3 4)) 5 (n.2 3 5)))) cf ca, h2)) rfl ?_
  refine R_iinc 79 dX2_become_76 rfl rfl (v := 4) (by decide) rfl (by decide) (loc' := [(0, .ref 19), (1, .ref 1), (2, .int 4)]) rfl ?_
  refine R_goto 56 dX2_become_79 (by decide) ?_
  refine R_iload_n 57 dX2_become_56 rfl rfl ?_
  refine R_iconst 58 dX2_become_57 rfl (v := 5) (by decide) ?_
  refine R_icmp_ge 61 82 dX2_become_58 rfl (by decide) (fun c => absurd c (by decide)) (fun _ => ?_)
  refine R_aload_n 62 dX2_become_61 rfl rfl ?_
  refine R_get 65 dX2_become_62 rfl fX2_31 rfl (v := .ref 22) rfl ?_
  refine R_iload_n 66 dX2_become_65 rfl rfl ?_
  refine R_aald 67 dX2_become_66 rfl rfl rfl (vin_d (by decide)) (y := 27) rfl ?_
  refine R_aload_n 68 dX2_become_67 rfl rfl ?_
  refine R_get 71 dX2_become_68 rfl fX2_31 rfl (v := .ref 4) rfl ?_
  refine R_iload_n 72 dX2_become_71 rfl rfl ?_
  refine R_aald 73 dX2_become_72 rfl rfl rfl (vin_d (by decide)) (y := 9) rfl ?_
  refine R_callVv 76 (eX3_become (a0 := m.2 4 0) (b0 := n.2 4 0) (a1 := m.2 4 1) (b1 := n.2 4 1) (a2 := m.2 4 2) (b2 := n.2 4 2) (a3 := m.2 4 3) (b3 := n.2 4 3) (a4 := m.2 4 4) (b4 := n.2 4 4) (a5 := m.2 4 5) (b5 := n.2 4 5) (by decide) rfl rfl) dX2_become_73 rfl kX3_become lX2_52 rfl rfl rfl rfl rfl rfl rfl ?_
  refine R_h (h1 := (hC G n k ((upd (upd (upd (upd (upd (upd (upd (upd (upd m.1 0 (n.1 0)) 1 (n.1 1)) 2 (n.1 2)) 9 (n.1 9)) 10 (n.1 10)) 11 (n.1 11)) 12 (n.1 12)) 13 (n.1 13)) 6 (n.1 6)), (up2 (up2 (up2 (up2 (up2 m.2 0 (upd (upd (upd (upd (upd (upd (m.2 0) 0 (n.2 0 0)) 1 (n.2 0 1)) 2 (n.2 0 2)) 3 (n.2 0 3)) 4 (n.2 0 4)) 5 (n.2 0 5))) 1 (upd (upd (upd (upd (upd (upd (m.2 1) 0 (n.2 1 0)) 1 (n.2 1 1)) 2 (n.2 1 2)) 3 (n.2 1 3)) 4 (n.2 1 4)) 5 (n.2 1 5))) 2 (upd (upd (upd (upd (upd (upd (m.2 2) 0 (n.2 2 0)) 1 (n.2 2 1)) 2 (n.2 2 2)) 3 (n.2 2 3)) 4 (n.2 2 4)) 5 (n.2 2 5))) 3 (upd (upd (upd (upd (upd (upd (m.2 3) 0 (n.2 3 0)) 1 (n.2 3 1)) 2 (n.2 3 2)) 3 (n.2 3 3)) 4 (n.2 3 4)) 5 (n.2 3 5))) 4 (upd (upd (upd (upd (upd (upd (m.2 4) 0 (n.2 4 0)) 1 (n.2 4 1)) 2 (n.2 4 2)) 3 (n.2 4 3)) 4 (n.2 4 4)) 5 (n.2 4 5)))) cf ca, h2)) rfl ?_
  refine R_iinc 79 dX2_become_76 rfl rfl (v := 5) (by decide) rfl (by decide) (loc' := [(0, .ref 19), (1, .ref 1), (2, .int 5)]) rfl ?_
  refine R_goto 56 dX2_become_79 (by decide) ?_
  refine R_iload_n 57 dX2_become_56 rfl rfl ?_
  refine R_iconst 58 dX2_become_57 rfl (v := 5) (by decide) ?_
  refine R_icmp_ge 61 82 dX2_become_58 rfl (by decide) (fun _ => ?_) (fun c => absurd c (by decide))
  refine R_aload_n 83 dX2_become_82 rfl rfl ?_
  refine R_aload_n 84 dX2_become_83 rfl rfl ?_
  refine R_get 87 dX2_become_84 rfl fX2_55 rfl (v := .int (n.1 7)) rfl ?_
  refine R_put 90 dX2_become_87 rfl wX2_55 rfl rfl rfl rfl (h2 := (hC G n k ((upd (upd (upd (upd (upd (upd (upd (upd (upd (upd m.1 0 (n.1 0)) 1 (n.1 1)) 2 (n.1 2)) 9 (n.1 9)) 10 (n.1 10)) 11 (n.1 11)) 12 (n.1 12)) 13 (n.1 13)) 6 (n.1 6)) 7 (n.1 7)), (up2 (up2 (up2 (up2 (up2 m.2 0 (upd (upd (upd (upd (upd (upd (m.2 0) 0 (n.2 0 0)) 1 (n.2 0 1)) 2 (n.2 0 2)) 3 (n.2 0 3)) 4 (n.2 0 4)) 5 (n.2 0 5))) 1 (upd (upd (upd (upd (upd (upd (m.2 1) 0 (n.2 1 0)) 1 (n.2 1 1)) 2 (n.2 1 2)) 3 (n.2 1 3)) 4 (n.2 1 4)) 5 (n.2 1 5))) 2 (upd (upd (upd (upd (upd (upd (m.2 2) 0 (n.2 2 0)) 1 (n.2 2 1)) 2 (n.2 2 2)) 3 (n.2 2 3)) 4 (n.2 2 4)) 5 (n.2 2 5))) 3 (upd (upd (upd (upd (upd (upd (m.2 3) 0 (n.2 3 0)) 1 (n.2 3 1)) 2 (n.2 3 2)) 3 (n.2 3 3)) 4 (n.2 3 4)) 5 (n.2 3 5))) 4 (upd (upd (upd (upd (upd (upd (m.2 4) 0 (n.2 4 0)) 1 (n.2 4 1)) 2 (n.2 4 2)) 3 (n.2 4 3)) 4 (n.2 4 4)) 5 (n.2 4 5)))) cf ca, h2)) rfl ?_
  refine R_aload_n 91 dX2_become_90 rfl rfl ?_
  refine R_aload_n 92 dX2_become_91 rfl rfl ?_
  refine R_get 95 dX2_become_92 rfl fX2_58 rfl (v := .int (n.1 8)) rfl ?_
  refine R_put 98 dX2_become_95 rfl wX2_58 rfl rfl rfl rfl (h2 := (hC G n k ((upd (upd (upd (upd (upd (upd (upd (upd (upd (upd (upd m.1 0 (n.1 0)) 1 (n.1 1)) 2 (n.1 2)) 9 (n.1 9)) 10 (n.1 10)) 11 (n.1 11)) 12 (n.1 12)) 13 (n.1 13)) 6 (n.1 6)) 7 (n.1 7)) 8 (n.1 8)), (up2 (up2 (up2 (up2 (up2 m.2 0 (upd (upd (upd (upd (upd (upd (m.2 0) 0 (n.2 0 0)) 1 (n.2 0 1)) 2 (n.2 0 2)) 3 (n.2 0 3)) 4 (n.2 0 4)) 5 (n.2 0 5))) 1 (upd (upd (upd (upd (upd (upd (m.2 1) 0 (n.2 1 0)) 1 (n.2 1 1)) 2 (n.2 1 2)) 3 (n.2 1 3)) 4 (n.2 1 4)) 5 (n.2 1 5))) 2 (upd (upd (upd (upd (upd (upd (m.2 2) 0 (n.2 2 0)) 1 (n.2 2 1)) 2 (n.2 2 2)) 3 (n.2 2 3)) 4 (n.2 2 4)) 5 (n.2 2 5))) 3 (upd (upd (upd (upd (upd (upd (m.2 3) 0 (n.2 3 0)) 1 (n.2 3 1)) 2 (n.2 3 2)) 3 (n.2 3 3)) 4 (n.2 3 4)) 5 (n.2 3 5))) 4 (upd (upd (upd (upd (upd (upd (m.2 4) 0 (n.2 4 0)) 1 (n.2 4 1)) 2 (n.2 4 2)) 3 (n.2 4 3)) 4 (n.2 4 4)) 5 (n.2 4 5)))) cf ca, h2)) rfl ?_
  refine R_return dX2_become_98 rfl ?_
  exact ⟨rfl, rfl⟩
set_option maxRecDepth 20000 in
theorem eX2_become_1_19 {G : zG} {h2 : List va_E} {m k n : zP} {cf : Nat → Int32} {ca : Nat → Nat → Int32} : EvF G mX2_become [.ref 1, .ref 19] (hC G m k n cf ca, h2) none (hC G n k n cf ca, h2) := by
  refine EvF.of pnX2 rfl ?_
  refine R_aload_n 1 dX2_become_0 rfl rfl ?_
  refine R_aload_n 2 dX2_become_1 rfl rfl ?_
  refine R_get 5 dX2_become_2 rfl fX2_36 rfl (v := .int (n.1 0)) rfl ?_
  refine R_put 8 dX2_become_5 rfl wX2_36 rfl rfl rfl rfl (h2 := (hC G ((upd m.1 0 (n.1 0)), m.2) k n cf ca, h2)) rfl ?_
  refine R_aload_n 9 dX2_become_8 rfl rfl ?_
  refine R_aload_n 10 dX2_become_9 rfl rfl ?_
  refine R_get 13 dX2_become_10 rfl fX2_39 rfl (v := .int (n.1 1)) rfl ?_
  refine R_put 16 dX2_become_13 rfl wX2_39 rfl rfl rfl rfl (h2 := (hC G ((upd (upd m.1 0 (n.1 0)) 1 (n.1 1)), m.2) k n cf ca, h2)) rfl ?_
  refine R_aload_n 17 dX2_become_16 rfl rfl ?_
  refine R_aload_n 18 dX2_become_17 rfl rfl ?_
  refine R_get 21 dX2_become_18 rfl fX2_9 rfl (v := .int (n.1 2)) rfl ?_
  refine R_put 24 dX2_become_21 rfl wX2_9 rfl rfl rfl rfl (h2 := (hC G ((upd (upd (upd m.1 0 (n.1 0)) 1 (n.1 1)) 2 (n.1 2)), m.2) k n cf ca, h2)) rfl ?_
  refine R_aload_n 25 dX2_become_24 rfl rfl ?_
  refine R_get 28 dX2_become_25 rfl fX2_18 rfl (v := .ref 2) rfl ?_
  refine R_aload_n 29 dX2_become_28 rfl rfl ?_
  refine R_get 32 dX2_become_29 rfl fX2_18 rfl (v := .ref 20) rfl ?_
  refine R_callVv 35 (eX1_become (a0 := m.1 9) (b0 := n.1 9) (a1 := m.1 10) (b1 := n.1 10) (by decide) rfl rfl) dX2_become_32 rfl kX1_become lX2_42 rfl rfl rfl rfl rfl rfl rfl ?_
  refine R_h (h1 := (hC G ((upd (upd (upd (upd (upd m.1 0 (n.1 0)) 1 (n.1 1)) 2 (n.1 2)) 9 (n.1 9)) 10 (n.1 10)), m.2) k n cf ca, h2)) rfl ?_
  refine R_aload_n 36 dX2_become_35 rfl rfl ?_
  refine R_get 39 dX2_become_36 rfl fX2_25 rfl (v := .ref 3) rfl ?_
  refine R_aload_n 40 dX2_become_39 rfl rfl ?_
  refine R_get 43 dX2_become_40 rfl fX2_25 rfl (v := .ref 21) rfl ?_
  refine R_callVv 46 (eX4_become (a0 := m.1 11) (b0 := n.1 11) (a1 := m.1 12) (b1 := n.1 12) (a2 := m.1 13) (b2 := n.1 13) (by decide) rfl rfl) dX2_become_43 rfl kX4_become lX2_46 rfl rfl rfl rfl rfl rfl rfl ?_
  refine R_h (h1 := (hC G ((upd (upd (upd (upd (upd (upd (upd (upd m.1 0 (n.1 0)) 1 (n.1 1)) 2 (n.1 2)) 9 (n.1 9)) 10 (n.1 10)) 11 (n.1 11)) 12 (n.1 12)) 13 (n.1 13)), m.2) k n cf ca, h2)) rfl ?_
  refine R_aload_n 47 dX2_become_46 rfl rfl ?_
  refine R_aload_n 48 dX2_become_47 rfl rfl ?_
  refine R_get 51 dX2_become_48 rfl fX2_49 rfl (v := .int (n.1 6)) rfl ?_
  refine R_put 54 dX2_become_51 rfl wX2_49 rfl rfl rfl rfl (h2 := (hC G ((upd (upd (upd (upd (upd (upd (upd (upd (upd m.1 0 (n.1 0)) 1 (n.1 1)) 2 (n.1 2)) 9 (n.1 9)) 10 (n.1 10)) 11 (n.1 11)) 12 (n.1 12)) 13 (n.1 13)) 6 (n.1 6)), m.2) k n cf ca, h2)) rfl ?_
  refine R_iconst 55 dX2_become_54 rfl (v := 0) (by decide) ?_
  refine R_istore_n 56 dX2_become_55 rfl rfl (by decide) (loc' := [(0, .ref 1), (1, .ref 19), (2, .int 0)]) rfl ?_
  refine R_iload_n 57 dX2_become_56 rfl rfl ?_
  refine R_iconst 58 dX2_become_57 rfl (v := 5) (by decide) ?_
  refine R_icmp_ge 61 82 dX2_become_58 rfl (by decide) (fun c => absurd c (by decide)) (fun _ => ?_)
  refine R_aload_n 62 dX2_become_61 rfl rfl ?_
  refine R_get 65 dX2_become_62 rfl fX2_31 rfl (v := .ref 4) rfl ?_
  refine R_iload_n 66 dX2_become_65 rfl rfl ?_
  refine R_aald 67 dX2_become_66 rfl rfl rfl (vin_d (by decide)) (y := 5) rfl ?_
  refine R_aload_n 68 dX2_become_67 rfl rfl ?_
  refine R_get 71 dX2_become_68 rfl fX2_31 rfl (v := .ref 22) rfl ?_
  refine R_iload_n 72 dX2_become_71 rfl rfl ?_
  refine R_aald 73 dX2_become_72 rfl rfl rfl (vin_d (by decide)) (y := 23) rfl ?_
  refine R_callVv 76 (eX3_become (a0 := m.2 0 0) (b0 := n.2 0 0) (a1 := m.2 0 1) (b1 := n.2 0 1) (a2 := m.2 0 2) (b2 := n.2 0 2) (a3 := m.2 0 3) (b3 := n.2 0 3) (a4 := m.2 0 4) (b4 := n.2 0 4) (a5 := m.2 0 5) (b5 := n.2 0 5) (by decide) rfl rfl) dX2_become_73 rfl kX3_become lX2_52 rfl rfl rfl rfl rfl rfl rfl ?_
  refine R_h (h1 := (hC G ((upd (upd (upd (upd (upd (upd (upd (upd (upd m.1 0 (n.1 0)) 1 (n.1 1)) 2 (n.1 2)) 9 (n.1 9)) 10 (n.1 10)) 11 (n.1 11)) 12 (n.1 12)) 13 (n.1 13)) 6 (n.1 6)), (up2 m.2 0 (upd (upd (upd (upd (upd (upd (m.2 0) 0 (n.2 0 0)) 1 (n.2 0 1)) 2 (n.2 0 2)) 3 (n.2 0 3)) 4 (n.2 0 4)) 5 (n.2 0 5)))) k n cf ca, h2)) rfl ?_
  refine R_iinc 79 dX2_become_76 rfl rfl (v := 1) (by decide) rfl (by decide) (loc' := [(0, .ref 1), (1, .ref 19), (2, .int 1)]) rfl ?_
  refine R_goto 56 dX2_become_79 (by decide) ?_
  refine R_iload_n 57 dX2_become_56 rfl rfl ?_
  refine R_iconst 58 dX2_become_57 rfl (v := 5) (by decide) ?_
  refine R_icmp_ge 61 82 dX2_become_58 rfl (by decide) (fun c => absurd c (by decide)) (fun _ => ?_)
  refine R_aload_n 62 dX2_become_61 rfl rfl ?_
  refine R_get 65 dX2_become_62 rfl fX2_31 rfl (v := .ref 4) rfl ?_
  refine R_iload_n 66 dX2_become_65 rfl rfl ?_
  refine R_aald 67 dX2_become_66 rfl rfl rfl (vin_d (by decide)) (y := 6) rfl ?_
  refine R_aload_n 68 dX2_become_67 rfl rfl ?_
  refine R_get 71 dX2_become_68 rfl fX2_31 rfl (v := .ref 22) rfl ?_
  refine R_iload_n 72 dX2_become_71 rfl rfl ?_
  refine R_aald 73 dX2_become_72 rfl rfl rfl (vin_d (by decide)) (y := 24) rfl ?_
  refine R_callVv 76 (eX3_become (a0 := m.2 1 0) (b0 := n.2 1 0) (a1 := m.2 1 1) (b1 := n.2 1 1) (a2 := m.2 1 2) (b2 := n.2 1 2) (a3 := m.2 1 3) (b3 := n.2 1 3) (a4 := m.2 1 4) (b4 := n.2 1 4) (a5 := m.2 1 5) (b5 := n.2 1 5) (by decide) rfl rfl) dX2_become_73 rfl kX3_become lX2_52 rfl rfl rfl rfl rfl rfl rfl ?_
  refine R_h (h1 := (hC G ((upd (upd (upd (upd (upd (upd (upd (upd (upd m.1 0 (n.1 0)) 1 (n.1 1)) 2 (n.1 2)) 9 (n.1 9)) 10 (n.1 10)) 11 (n.1 11)) 12 (n.1 12)) 13 (n.1 13)) 6 (n.1 6)), (up2 (up2 m.2 0 (upd (upd (upd (upd (upd (upd (m.2 0) 0 (n.2 0 0)) 1 (n.2 0 1)) 2 (n.2 0 2)) 3 (n.2 0 3)) 4 (n.2 0 4)) 5 (n.2 0 5))) 1 (upd (upd (upd (upd (upd (upd (m.2 1) 0 (n.2 1 0)) 1 (n.2 1 1)) 2 (n.2 1 2)) 3 (n.2 1 3)) 4 (n.2 1 4)) 5 (n.2 1 5)))) k n cf ca, h2)) rfl ?_
  refine R_iinc 79 dX2_become_76 rfl rfl (v := 2) (by decide) rfl (by decide) (loc' := [(0, .ref 1), (1, .ref 19), (2, .int 2)]) rfl ?_
  refine R_goto 56 dX2_become_79 (by decide) ?_
  refine R_iload_n 57 dX2_become_56 rfl rfl ?_
  refine R_iconst 58 dX2_become_57 rfl (v := 5) (by decide) ?_
  refine R_icmp_ge 61 82 dX2_become_58 rfl (by decide) (fun c => absurd c (by decide)) (fun _ => ?_)
  refine R_aload_n 62 dX2_become_61 rfl rfl ?_
  refine R_get 65 dX2_become_62 rfl fX2_31 rfl (v := .ref 4) rfl ?_
  refine R_iload_n 66 dX2_become_65 rfl rfl ?_
  refine R_aald 67 dX2_become_66 rfl rfl rfl (vin_d (by decide)) (y := 7) rfl ?_
  refine R_aload_n 68 dX2_become_67 rfl rfl ?_
  refine R_get 71 dX2_become_68 rfl fX2_31 rfl (v := .ref 22) rfl ?_
  refine R_iload_n 72 dX2_become_71 rfl rfl ?_
  refine R_aald 73 dX2_become_72 rfl rfl rfl (vin_d (by decide)) (y := 25) rfl ?_
  refine R_callVv 76 (eX3_become (a0 := m.2 2 0) (b0 := n.2 2 0) (a1 := m.2 2 1) (b1 := n.2 2 1) (a2 := m.2 2 2) (b2 := n.2 2 2) (a3 := m.2 2 3) (b3 := n.2 2 3) (a4 := m.2 2 4) (b4 := n.2 2 4) (a5 := m.2 2 5) (b5 := n.2 2 5) (by decide) rfl rfl) dX2_become_73 rfl kX3_become lX2_52 rfl rfl rfl rfl rfl rfl rfl ?_
  refine R_h (h1 := (hC G ((upd (upd (upd (upd (upd (upd (upd (upd (upd m.1 0 (n.1 0)) 1 (n.1 1)) 2 (n.1 2)) 9 (n.1 9)) 10 (n.1 10)) 11 (n.1 11)) 12 (n.1 12)) 13 (n.1 13)) 6 (n.1 6)), (up2 (up2 (up2 m.2 0 (upd (upd (upd (upd (upd (upd (m.2 0) 0 (n.2 0 0)) 1 (n.2 0 1)) 2 (n.2 0 2)) 3 (n.2 0 3)) 4 (n.2 0 4)) 5 (n.2 0 5))) 1 (upd (upd (upd (upd (upd (upd (m.2 1) 0 (n.2 1 0)) 1 (n.2 1 1)) 2 (n.2 1 2)) 3 (n.2 1 3)) 4 (n.2 1 4)) 5 (n.2 1 5))) 2 (upd (upd (upd (upd (upd (upd (m.2 2) 0 (n.2 2 0)) 1 (n.2 2 1)) 2 (n.2 2 2)) 3 (n.2 2 3)) 4 (n.2 2 4)) 5 (n.2 2 5)))) k n cf ca, h2)) rfl ?_
  refine R_iinc 79 dX2_become_76 rfl rfl (v := 3) (by decide) rfl (by decide) (loc' := [(0, .ref 1), (1, .ref 19), (2, .int 3)]) rfl ?_
  refine R_goto 56 dX2_become_79 (by decide) ?_
  refine R_iload_n 57 dX2_become_56 rfl rfl ?_
  refine R_iconst 58 dX2_become_57 rfl (v := 5) (by decide) ?_
  refine R_icmp_ge 61 82 dX2_become_58 rfl (by decide) (fun c => absurd c (by decide)) (fun _ => ?_)
  refine R_aload_n 62 dX2_become_61 rfl rfl ?_
  refine R_get 65 dX2_become_62 rfl fX2_31 rfl (v := .ref 4) rfl ?_
  refine R_iload_n 66 dX2_become_65 rfl rfl ?_
  refine R_aald 67 dX2_become_66 rfl rfl rfl (vin_d (by decide)) (y := 8) rfl ?_
  refine R_aload_n 68 dX2_become_67 rfl rfl ?_
  refine R_get 71 dX2_become_68 rfl fX2_31 rfl (v := .ref 22) rfl ?_
  refine R_iload_n 72 dX2_become_71 rfl rfl ?_
  refine R_aald 73 dX2_become_72 rfl rfl rfl (vin_d (by decide)) (y := 26) rfl ?_
  refine R_callVv 76 (eX3_become (a0 := m.2 3 0) (b0 := n.2 3 0) (a1 := m.2 3 1) (b1 := n.2 3 1) (a2 := m.2 3 2) (b2 := n.2 3 2) (a3 := m.2 3 3) (b3 := n.2 3 3) (a4 := m.2 3 4) (b4 := n.2 3 4) (a5 := m.2 3 5) (b5 := n.2 3 5) (by decide) rfl rfl) dX2_become_73 rfl kX3_become lX2_52 rfl rfl rfl rfl rfl rfl rfl ?_
  refine R_h (h1 := (hC G ((upd (upd (upd (upd (upd (upd (upd (upd (upd m.1 0 (n.1 0)) 1 (n.1 1)) 2 (n.1 2)) 9 (n.1 9)) 10 (n.1 10)) 11 (n.1 11)) 12 (n.1 12)) 13 (n.1 13)) 6 (n.1 6)), (up2 (up2 (up2 (up2 m.2 0 (upd (upd (upd (upd (upd (upd (m.2 0) 0 (n.2 0 0)) 1 (n.2 0 1)) 2 (n.2 0 2)) 3 (n.2 0 3)) 4 (n.2 0 4)) 5 (n.2 0 5))) 1 (upd (upd (upd (upd (upd (upd (m.2 1) 0 (n.2 1 0)) 1 (n.2 1 1)) 2 (n.2 1 2)) 3 (n.2 1 3)) 4 (n.2 1 4)) 5 (n.2 1 5))) 2 (upd (upd (upd (upd (upd (upd (m.2 2) 0 (n.2 2 0)) 1 (n.2 2 1)) 2 (n.2 2 2)) 3 (n.2 2 3)) 4 (n.2 2 4)) 5 (n.2 2 5))) 3 (upd (upd (upd (upd (upd (upd (m.2 3) 0 (n.2 3 0)) 1 (n.2 3 1)) 2 (n.2 3 2)) 3 (n.2 3 3)) 4 (n.2 3 4)) 5 (n.2 3 5)))) k n cf ca, h2)) rfl ?_
  refine R_iinc 79 dX2_become_76 rfl rfl (v := 4) (by decide) rfl (by decide) (loc' := [(0, .ref 1), (1, .ref 19), (2, .int 4)]) rfl ?_
  refine R_goto 56 dX2_become_79 (by decide) ?_
  refine R_iload_n 57 dX2_become_56 rfl rfl ?_
  refine R_iconst 58 dX2_become_57 rfl (v := 5) (by decide) ?_
  refine R_icmp_ge 61 82 dX2_become_58 rfl (by decide) (fun c => absurd c (by decide)) (fun _ => ?_)
  refine R_aload_n 62 dX2_become_61 rfl rfl ?_
  refine R_get 65 dX2_become_62 rfl fX2_31 rfl (v := .ref 4) rfl ?_
  refine R_iload_n 66 dX2_become_65 rfl rfl ?_
  refine R_aald 67 dX2_become_66 rfl rfl rfl (vin_d (by decide)) (y := 9) rfl ?_
  refine R_aload_n 68 dX2_become_67 rfl rfl ?_
  refine R_get 71 dX2_become_68 rfl fX2_31 rfl (v := .ref 22) rfl ?_
  refine R_iload_n 72 dX2_become_71 rfl rfl ?_
  refine R_aald 73 dX2_become_72 rfl rfl rfl (vin_d (by decide)) (y := 27) rfl ?_
  refine R_callVv 76 (eX3_become (a0 := m.2 4 0) (b0 := n.2 4 0) (a1 := m.2 4 1) (b1 := n.2 4 1) (a2 := m.2 4 2) (b2 := n.2 4 2) (a3 := m.2 4 3) (b3 := n.2 4 3) (a4 := m.2 4 4) (b4 := n.2 4 4) (a5 := m.2 4 5) (b5 := n.2 4 5) (by decide) rfl rfl) dX2_become_73 rfl kX3_become lX2_52 rfl rfl rfl rfl rfl rfl rfl ?_
  refine R_h (h1 := (hC G ((upd (upd (upd (upd (upd (upd (upd (upd (upd m.1 0 (n.1 0)) 1 (n.1 1)) 2 (n.1 2)) 9 (n.1 9)) 10 (n.1 10)) 11 (n.1 11)) 12 (n.1 12)) 13 (n.1 13)) 6 (n.1 6)), (up2 (up2 (up2 (up2 (up2 m.2 0 (upd (upd (upd (upd (upd (upd (m.2 0) 0 (n.2 0 0)) 1 (n.2 0 1)) 2 (n.2 0 2)) 3 (n.2 0 3)) 4 (n.2 0 4)) 5 (n.2 0 5))) 1 (upd (upd (upd (upd (upd (upd (m.2 1) 0 (n.2 1 0)) 1 (n.2 1 1)) 2 (n.2 1 2)) 3 (n.2 1 3)) 4 (n.2 1 4)) 5 (n.2 1 5))) 2 (upd (upd (upd (upd (upd (upd (m.2 2) 0 (n.2 2 0)) 1 (n.2 2 1)) 2 (n.2 2 2)) 3 (n.2 2 3)) 4 (n.2 2 4)) 5 (n.2 2 5))) 3 (upd (upd (upd (upd (upd (upd (m.2 3) 0 (n.2 3 0)) 1 (n.2 3 1)) 2 (n.2 3 2)) 3 (n.2 3 3)) 4 (n.2 3 4)) 5 (n.2 3 5))) 4 (upd (upd (upd (upd (upd (upd (m.2 4) 0 (n.2 4 0)) 1 (n.2 4 1)) 2 (n.2 4 2)) 3 (n.2 4 3)) 4 (n.2 4 4)) 5 (n.2 4 5)))) k n cf ca, h2)) rfl ?_
  refine R_iinc 79 dX2_become_76 rfl rfl (v := 5) (by decide) rfl (by decide) (loc' := [(0, .ref 1), (1, .ref 19), (2, .int 5)]) rfl ?_
  refine R_goto 56 dX2_become_79 (by decide) ?_
  refine R_iload_n 57 dX2_become_56 rfl rfl ?_
  refine R_iconst 58 dX2_become_57 rfl (v := 5) (by decide) ?_
  refine R_icmp_ge 61 82 dX2_become_58 rfl (by decide) (fun _ => ?_) (fun c => absurd c (by decide))
  refine R_aload_n 83 dX2_become_82 rfl rfl ?_
  refine R_aload_n 84 dX2_become_83 rfl rfl ?_
  refine R_get 87 dX2_become_84 rfl fX2_55 rfl (v := .int (n.1 7)) rfl ?_
  refine R_put 90 dX2_become_87 rfl wX2_55 rfl rfl rfl rfl (h2 := (hC G ((upd (upd (upd (upd (upd (upd (upd (upd (upd (upd m.1 0 (n.1 0)) 1 (n.1 1)) 2 (n.1 2)) 9 (n.1 9)) 10 (n.1 10)) 11 (n.1 11)) 12 (n.1 12)) 13 (n.1 13)) 6 (n.1 6)) 7 (n.1 7)), (up2 (up2 (up2 (up2 (up2 m.2 0 (upd (upd (upd (upd (upd (upd (m.2 0) 0 (n.2 0 0)) 1 (n.2 0 1)) 2 (n.2 0 2)) 3 (n.2 0 3)) 4 (n.2 0 4)) 5 (n.2 0 5))) 1 (upd (upd (upd (upd (upd (upd (m.2 1) 0 (n.2 1 0)) 1 (n.2 1 1)) 2 (n.2 1 2)) 3 (n.2 1 3)) 4 (n.2 1 4)) 5 (n.2 1 5))) 2 (upd (upd (upd (upd (upd (upd (m.2 2) 0 (n.2 2 0)) 1 (n.2 2 1)) 2 (n.2 2 2)) 3 (n.2 2 3)) 4 (n.2 2 4)) 5 (n.2 2 5))) 3 (upd (upd (upd (upd (upd (upd (m.2 3) 0 (n.2 3 0)) 1 (n.2 3 1)) 2 (n.2 3 2)) 3 (n.2 3 3)) 4 (n.2 3 4)) 5 (n.2 3 5))) 4 (upd (upd (upd (upd (upd (upd (m.2 4) 0 (n.2 4 0)) 1 (n.2 4 1)) 2 (n.2 4 2)) 3 (n.2 4 3)) 4 (n.2 4 4)) 5 (n.2 4 5)))) k n cf ca, h2)) rfl ?_
  refine R_aload_n 91 dX2_become_90 rfl rfl ?_
  refine R_aload_n 92 dX2_become_91 rfl rfl ?_
  refine R_get 95 dX2_become_92 rfl fX2_58 rfl (v := .int (n.1 8)) rfl ?_
  refine R_put 98 dX2_become_95 rfl wX2_58 rfl rfl rfl rfl (h2 := (hC G ((upd (upd (upd (upd (upd (upd (upd (upd (upd (upd (upd m.1 0 (n.1 0)) 1 (n.1 1)) 2 (n.1 2)) 9 (n.1 9)) 10 (n.1 10)) 11 (n.1 11)) 12 (n.1 12)) 13 (n.1 13)) 6 (n.1 6)) 7 (n.1 7)) 8 (n.1 8)), (up2 (up2 (up2 (up2 (up2 m.2 0 (upd (upd (upd (upd (upd (upd (m.2 0) 0 (n.2 0 0)) 1 (n.2 0 1)) 2 (n.2 0 2)) 3 (n.2 0 3)) 4 (n.2 0 4)) 5 (n.2 0 5))) 1 (upd (upd (upd (upd (upd (upd (m.2 1) 0 (n.2 1 0)) 1 (n.2 1 1)) 2 (n.2 1 2)) 3 (n.2 1 3)) 4 (n.2 1 4)) 5 (n.2 1 5))) 2 (upd (upd (upd (upd (upd (upd (m.2 2) 0 (n.2 2 0)) 1 (n.2 2 1)) 2 (n.2 2 2)) 3 (n.2 2 3)) 4 (n.2 2 4)) 5 (n.2 2 5))) 3 (upd (upd (upd (upd (upd (upd (m.2 3) 0 (n.2 3 0)) 1 (n.2 3 1)) 2 (n.2 3 2)) 3 (n.2 3 3)) 4 (n.2 3 4)) 5 (n.2 3 5))) 4 (upd (upd (upd (upd (upd (upd (m.2 4) 0 (n.2 4 0)) 1 (n.2 4 1)) 2 (n.2 4 2)) 3 (n.2 4 3)) 4 (n.2 4 4)) 5 (n.2 4 5)))) k n cf ca, h2)) rfl ?_
  refine R_return dX2_become_98 rfl ?_
  exact ⟨rfl, rfl⟩
set_option maxRecDepth 20000 in
theorem eX2_become_1_10 {G : zG} {h2 : List va_E} {m n i : zP} {cf : Nat → Int32} {ca : Nat → Nat → Int32} : EvF G mX2_become [.ref 1, .ref 10] (hC G m n i cf ca, h2) none (hC G n n i cf ca, h2) := by
  refine EvF.of pnX2 rfl ?_
  refine R_aload_n 1 dX2_become_0 rfl rfl ?_
  refine R_aload_n 2 dX2_become_1 rfl rfl ?_
  refine R_get 5 dX2_become_2 rfl fX2_36 rfl (v := .int (n.1 0)) rfl ?_
  refine R_put 8 dX2_become_5 rfl wX2_36 rfl rfl rfl rfl (h2 := (hC G ((upd m.1 0 (n.1 0)), m.2) n i cf ca, h2)) rfl ?_
  refine R_aload_n 9 dX2_become_8 rfl rfl ?_
  refine R_aload_n 10 dX2_become_9 rfl rfl ?_
  refine R_get 13 dX2_become_10 rfl fX2_39 rfl (v := .int (n.1 1)) rfl ?_
  refine R_put 16 dX2_become_13 rfl wX2_39 rfl rfl rfl rfl (h2 := (hC G ((upd (upd m.1 0 (n.1 0)) 1 (n.1 1)), m.2) n i cf ca, h2)) rfl ?_
  refine R_aload_n 17 dX2_become_16 rfl rfl ?_
  refine R_aload_n 18 dX2_become_17 rfl rfl ?_
  refine R_get 21 dX2_become_18 rfl fX2_9 rfl (v := .int (n.1 2)) rfl ?_
  refine R_put 24 dX2_become_21 rfl wX2_9 rfl rfl rfl rfl (h2 := (hC G ((upd (upd (upd m.1 0 (n.1 0)) 1 (n.1 1)) 2 (n.1 2)), m.2) n i cf ca, h2)) rfl ?_
  refine R_aload_n 25 dX2_become_24 rfl rfl ?_
  refine R_get 28 dX2_become_25 rfl fX2_18 rfl (v := .ref 2) rfl ?_
  refine R_aload_n 29 dX2_become_28 rfl rfl ?_
  refine R_get 32 dX2_become_29 rfl fX2_18 rfl (v := .ref 11) rfl ?_
  refine R_callVv 35 (eX1_become (a0 := m.1 9) (b0 := n.1 9) (a1 := m.1 10) (b1 := n.1 10) (by decide) rfl rfl) dX2_become_32 rfl kX1_become lX2_42 rfl rfl rfl rfl rfl rfl rfl ?_
  refine R_h (h1 := (hC G ((upd (upd (upd (upd (upd m.1 0 (n.1 0)) 1 (n.1 1)) 2 (n.1 2)) 9 (n.1 9)) 10 (n.1 10)), m.2) n i cf ca, h2)) rfl ?_
  refine R_aload_n 36 dX2_become_35 rfl rfl ?_
  refine R_get 39 dX2_become_36 rfl fX2_25 rfl (v := .ref 3) rfl ?_
  refine R_aload_n 40 dX2_become_39 rfl rfl ?_
  refine R_get 43 dX2_become_40 rfl fX2_25 rfl (v := .ref 12) rfl ?_
  refine R_callVv 46 (eX4_become (a0 := m.1 11) (b0 := n.1 11) (a1 := m.1 12) (b1 := n.1 12) (a2 := m.1 13) (b2 := n.1 13) (by decide) rfl rfl) dX2_become_43 rfl kX4_become lX2_46 rfl rfl rfl rfl rfl rfl rfl ?_
  refine R_h (h1 := (hC G ((upd (upd (upd (upd (upd (upd (upd (upd m.1 0 (n.1 0)) 1 (n.1 1)) 2 (n.1 2)) 9 (n.1 9)) 10 (n.1 10)) 11 (n.1 11)) 12 (n.1 12)) 13 (n.1 13)), m.2) n i cf ca, h2)) rfl ?_
  refine R_aload_n 47 dX2_become_46 rfl rfl ?_
  refine R_aload_n 48 dX2_become_47 rfl rfl ?_
  refine R_get 51 dX2_become_48 rfl fX2_49 rfl (v := .int (n.1 6)) rfl ?_
  refine R_put 54 dX2_become_51 rfl wX2_49 rfl rfl rfl rfl (h2 := (hC G ((upd (upd (upd (upd (upd (upd (upd (upd (upd m.1 0 (n.1 0)) 1 (n.1 1)) 2 (n.1 2)) 9 (n.1 9)) 10 (n.1 10)) 11 (n.1 11)) 12 (n.1 12)) 13 (n.1 13)) 6 (n.1 6)), m.2) n i cf ca, h2)) rfl ?_
  refine R_iconst 55 dX2_become_54 rfl (v := 0) (by decide) ?_
  refine R_istore_n 56 dX2_become_55 rfl rfl (by decide) (loc' := [(0, .ref 1), (1, .ref 10), (2, .int 0)]) rfl ?_
  refine R_iload_n 57 dX2_become_56 rfl rfl ?_
  refine R_iconst 58 dX2_become_57 rfl (v := 5) (by decide) ?_
  refine R_icmp_ge 61 82 dX2_become_58 rfl (by decide) (fun c => absurd c (by decide)) (fun _ => ?_)
  refine R_aload_n 62 dX2_become_61 rfl rfl ?_
  refine R_get 65 dX2_become_62 rfl fX2_31 rfl (v := .ref 4) rfl ?_
  refine R_iload_n 66 dX2_become_65 rfl rfl ?_
  refine R_aald 67 dX2_become_66 rfl rfl rfl (vin_d (by decide)) (y := 5) rfl ?_
  refine R_aload_n 68 dX2_become_67 rfl rfl ?_
  refine R_get 71 dX2_become_68 rfl fX2_31 rfl (v := .ref 13) rfl ?_
  refine R_iload_n 72 dX2_become_71 rfl rfl ?_
  refine R_aald 73 dX2_become_72 rfl rfl rfl (vin_d (by decide)) (y := 14) rfl ?_
  refine R_callVv 76 (eX3_become (a0 := m.2 0 0) (b0 := n.2 0 0) (a1 := m.2 0 1) (b1 := n.2 0 1) (a2 := m.2 0 2) (b2 := n.2 0 2) (a3 := m.2 0 3) (b3 := n.2 0 3) (a4 := m.2 0 4) (b4 := n.2 0 4) (a5 := m.2 0 5) (b5 := n.2 0 5) (by decide) rfl rfl) dX2_become_73 rfl kX3_become lX2_52 rfl rfl rfl rfl rfl rfl rfl ?_
  refine R_h (h1 := (hC G ((upd (upd (upd (upd (upd (upd (upd (upd (upd m.1 0 (n.1 0)) 1 (n.1 1)) 2 (n.1 2)) 9 (n.1 9)) 10 (n.1 10)) 11 (n.1 11)) 12 (n.1 12)) 13 (n.1 13)) 6 (n.1 6)), (up2 m.2 0 (upd (upd (upd (upd (upd (upd (m.2 0) 0 (n.2 0 0)) 1 (n.2 0 1)) 2 (n.2 0 2)) 3 (n.2 0 3)) 4 (n.2 0 4)) 5 (n.2 0 5)))) n i cf ca, h2)) rfl ?_
  refine R_iinc 79 dX2_become_76 rfl rfl (v := 1) (by decide) rfl (by decide) (loc' := [(0, .ref 1), (1, .ref 10), (2, .int 1)]) rfl ?_
  refine R_goto 56 dX2_become_79 (by decide) ?_
  refine R_iload_n 57 dX2_become_56 rfl rfl ?_
  refine R_iconst 58 dX2_become_57 rfl (v := 5) (by decide) ?_
  refine R_icmp_ge 61 82 dX2_become_58 rfl (by decide) (fun c => absurd c (by decide)) (fun _ => ?_)
  refine R_aload_n 62 dX2_become_61 rfl rfl ?_
  refine R_get 65 dX2_become_62 rfl fX2_31 rfl (v := .ref 4) rfl ?_
  refine R_iload_n 66 dX2_become_65 rfl rfl ?_
  refine R_aald 67 dX2_become_66 rfl rfl rfl (vin_d (by decide)) (y := 6) rfl ?_
  refine R_aload_n 68 dX2_become_67 rfl rfl ?_
  refine R_get 71 dX2_become_68 rfl fX2_31 rfl (v := .ref 13) rfl ?_
  refine R_iload_n 72 dX2_become_71 rfl rfl ?_
  refine R_aald 73 dX2_become_72 rfl rfl rfl (vin_d (by decide)) (y := 15) rfl ?_
  refine R_callVv 76 (eX3_become (a0 := m.2 1 0) (b0 := n.2 1 0) (a1 := m.2 1 1) (b1 := n.2 1 1) (a2 := m.2 1 2) (b2 := n.2 1 2) (a3 := m.2 1 3) (b3 := n.2 1 3) (a4 := m.2 1 4) (b4 := n.2 1 4) (a5 := m.2 1 5) (b5 := n.2 1 5) (by decide) rfl rfl) dX2_become_73 rfl kX3_become lX2_52 rfl rfl rfl rfl rfl rfl rfl ?_
  refine R_h (h1 := (hC G ((upd (upd (upd (upd (upd (upd (upd (upd (upd m.1 0 (n.1 0)) 1 (n.1 1)) 2 (n.1 2)) 9 (n.1 9)) 10 (n.1 10)) 11 (n.1 11)) 12 (n.1 12)) 13 (n.1 13)) 6 (n.1 6)), (up2 (up2 m.2 0 (upd (upd (upd (upd (upd (upd (m.2 0) 0 (n.2 0 0)) 1 (n.2 0 1)) 2 (n.2 0 2)) 3 (n.2 0 3)) 4 (n.2 0 4)) 5 (n.2 0 5))) 1 (upd (upd (upd (upd (upd (upd (m.2 1) 0 (n.2 1 0)) 1 (n.2 1 1)) 2 (n.2 1 2)) 3 (n.2 1 3)) 4 (n.2 1 4)) 5 (n.2 1 5)))) n i cf ca, h2)) rfl ?_
  refine R_iinc 79 dX2_become_76 rfl rfl (v := 2) (by decide) rfl (by decide) (loc' := [(0, .ref 1), (1, .ref 10), (2, .int 2)]) rfl ?_
  refine R_goto 56 dX2_become_79 (by decide) ?_
  refine R_iload_n 57 dX2_become_56 rfl rfl ?_
  refine R_iconst 58 dX2_become_57 rfl (v := 5) (by decide) ?_
  refine R_icmp_ge 61 82 dX2_become_58 rfl (by decide) (fun c => absurd c (by decide)) (fun _ => ?_)
  refine R_aload_n 62 dX2_become_61 rfl rfl ?_
  refine R_get 65 dX2_become_62 rfl fX2_31 rfl (v := .ref 4) rfl ?_
  refine R_iload_n 66 dX2_become_65 rfl rfl ?_
  refine R_aald 67 dX2_become_66 rfl rfl rfl (vin_d (by decide)) (y := 7) rfl ?_
  refine R_aload_n 68 dX2_become_67 rfl rfl ?_
  refine R_get 71 dX2_become_68 rfl fX2_31 rfl (v := .ref 13) rfl ?_
  refine R_iload_n 72 dX2_become_71 rfl rfl ?_
  refine R_aald 73 dX2_become_72 rfl rfl rfl (vin_d (by decide)) (y := 16) rfl ?_
  refine R_callVv 76 (eX3_become (a0 := m.2 2 0) (b0 := n.2 2 0) (a1 := m.2 2 1) (b1 := n.2 2 1) (a2 := m.2 2 2) (b2 := n.2 2 2) (a3 := m.2 2 3) (b3 := n.2 2 3) (a4 := m.2 2 4) (b4 := n.2 2 4) (a5 := m.2 2 5) (b5 := n.2 2 5) (by decide) rfl rfl) dX2_become_73 rfl kX3_become lX2_52 rfl rfl rfl rfl rfl rfl rfl ?_
  refine R_h (h1 := (hC G ((upd (upd (upd (upd (upd (upd (upd (upd (upd m.1 0 (n.1 0)) 1 (n.1 1)) 2 (n.1 2)) 9 (n.1 9)) 10 (n.1 10)) 11 (n.1 11)) 12 (n.1 12)) 13 (n.1 13)) 6 (n.1 6)), (up2 (up2 (up2 m.2 0 (upd (upd (upd (upd (upd (upd (m.2 0) 0 (n.2 0 0)) 1 (n.2 0 1)) 2 (n.2 0 2)) 3 (n.2 0 3)) 4 (n.2 0 4)) 5 (n.2 0 5))) 1 (upd (upd (upd (upd (upd (upd (m.2 1) 0 (n.2 1 0)) 1 (n.2 1 1)) 2 (n.2 1 2)) 3 (n.2 1 3)) 4 (n.2 1 4)) 5 (n.2 1 5))) 2 (upd (upd (upd (upd (upd (upd (m.2 2) 0 (n.2 2 0)) 1 (n.2 2 1)) 2 (n.2 2 2)) 3 (n.2 2 3)) 4 (n.2 2 4)) 5 (n.2 2 5)))) n i cf ca, h2)) rfl ?_
  refine R_iinc 79 dX2_become_76 rfl rfl (v := 3) (by decide) rfl (by decide) (loc' := [(0, .ref 1), (1, .ref 10), (2, .int 3)]) rfl ?_
  refine R_goto 56 dX2_become_79 (by decide) ?_
  refine R_iload_n 57 dX2_become_56 rfl rfl ?_
  refine R_iconst 58 dX2_become_57 rfl (v := 5) (by decide) ?_
  refine R_icmp_ge 61 82 dX2_become_58 rfl (by decide) (fun c => absurd c (by decide)) (fun _ => ?_)
  refine R_aload_n 62 dX2_become_61 rfl rfl ?_
  refine R_get 65 dX2_become_62 rfl fX2_31 rfl (v := .ref 4) rfl ?_
  refine R_iload_n 66 dX2_become_65 rfl rfl ?_
  refine R_aald 67 dX2_become_66 rfl rfl rfl (vin_d (by decide)) (y := 8) rfl ?_
  refine R_aload_n 68 dX2_become_67 rfl rfl ?_
  refine R_get 71 dX2_become_68 rfl fX2_31 rfl (v := .ref 13) rfl ?_
  refine R_iload_n 72 dX2_become_71 rfl rfl ?_
  refine R_aald 73 dX2_become_72 rfl rfl rfl (vin_d (by decide)) (y := 17) rfl ?_
  refine R_callVv 76 (eX3_become (a0 := m.2 3 0) (b0 := n.2 3 0) (a1 := m.2 3 1) (b1 := n.2 3 1) (a2 := m.2 3 2) (b2 := n.2 3 2) (a3 := m.2 3 3) (b3 := n.2 3 3) (a4 := m.2 3 4) (b4 := n.2 3 4) (a5 := m.2 3 5) (b5 := n.2 3 5) (by decide) rfl rfl) dX2_become_73 rfl kX3_become lX2_52 rfl rfl rfl rfl rfl rfl rfl ?_
  refine R_h (h1 := (hC G ((upd (upd (upd (upd (upd (upd (upd (upd (upd m.1 0 (n.1 0)) 1 (n.1 1)) 2 (n.1 2)) 9 (n.1 9)) 10 (n.1 10)) 11 (n.1 11)) 12 (n.1 12)) 13 (n.1 13)) 6 (n.1 6)), (up2 (up2 (up2 (up2 m.2 0 (upd (upd (upd (upd (upd (upd (m.2 0) 0 (n.2 0 0)) 1 (n.2 0 1)) 2 (n.2 0 2)) 3 (n.2 0 3)) 4 (n.2 0 4)) 5 (n.2 0 5))) 1 (upd (upd (upd (upd (upd (upd (m.2 1) 0 (n.2 1 0)) 1 (n.2 1 1)) 2 (n.2 1 2)) 3 (n.2 1 3)) 4 (n.2 1 4)) 5 (n.2 1 5))) 2 (upd (upd (upd (upd (upd (upd (m.2 2) 0 (n.2 2 0)) 1 (n.2 2 1)) 2 (n.2 2 2)) 3 (n.2 2 3)) 4 (n.2 2 4)) 5 (n.2 2 5))) 3 (upd (upd (upd (upd (upd (upd (m.2 3) 0 (n.2 3 0)) 1 (n.2 3 1)) 2 (n.2 3 2)) 3 (n.2 3 3)) 4 (n.2 3 4)) 5 (n.2 3 5)))) n i cf ca, h2)) rfl ?_
  refine R_iinc 79 dX2_become_76 rfl rfl (v := 4) (by decide) rfl (by decide) (loc' := [(0, .ref 1), (1, .ref 10), (2, .int 4)]) rfl ?_
  refine R_goto 56 dX2_become_79 (by decide) ?_
  refine R_iload_n 57 dX2_become_56 rfl rfl ?_
  refine R_iconst 58 dX2_become_57 rfl (v := 5) (by decide) ?_
  refine R_icmp_ge 61 82 dX2_become_58 rfl (by decide) (fun c => absurd c (by decide)) (fun _ => ?_)
  refine R_aload_n 62 dX2_become_61 rfl rfl ?_
  refine R_get 65 dX2_become_62 rfl fX2_31 rfl (v := .ref 4) rfl ?_
  refine R_iload_n 66 dX2_become_65 rfl rfl ?_
  refine R_aald 67 dX2_become_66 rfl rfl rfl (vin_d (by decide)) (y := 9) rfl ?_
  refine R_aload_n 68 dX2_become_67 rfl rfl ?_
  refine R_get 71 dX2_become_68 rfl fX2_31 rfl (v := .ref 13) rfl ?_
  refine R_iload_n 72 dX2_become_71 rfl rfl ?_
  refine R_aald 73 dX2_become_72 rfl rfl rfl (vin_d (by decide)) (y := 18) rfl ?_
  refine R_callVv 76 (eX3_become (a0 := m.2 4 0) (b0 := n.2 4 0) (a1 := m.2 4 1) (b1 := n.2 4 1) (a2 := m.2 4 2) (b2 := n.2 4 2) (a3 := m.2 4 3) (b3 := n.2 4 3) (a4 := m.2 4 4) (b4 := n.2 4 4) (a5 := m.2 4 5) (b5 := n.2 4 5) (by decide) rfl rfl) dX2_become_73 rfl kX3_become lX2_52 rfl rfl rfl rfl rfl rfl rfl ?_
  refine R_h (h1 := (hC G ((upd (upd (upd (upd (upd (upd (upd (upd (upd m.1 0 (n.1 0)) 1 (n.1 1)) 2 (n.1 2)) 9 (n.1 9)) 10 (n.1 10)) 11 (n.1 11)) 12 (n.1 12)) 13 (n.1 13)) 6 (n.1 6)), (up2 (up2 (up2 (up2 (up2 m.2 0 (upd (upd (upd (upd (upd (upd (m.2 0) 0 (n.2 0 0)) 1 (n.2 0 1)) 2 (n.2 0 2)) 3 (n.2 0 3)) 4 (n.2 0 4)) 5 (n.2 0 5))) 1 (upd (upd (upd (upd (upd (upd (m.2 1) 0 (n.2 1 0)) 1 (n.2 1 1)) 2 (n.2 1 2)) 3 (n.2 1 3)) 4 (n.2 1 4)) 5 (n.2 1 5))) 2 (upd (upd (upd (upd (upd (upd (m.2 2) 0 (n.2 2 0)) 1 (n.2 2 1)) 2 (n.2 2 2)) 3 (n.2 2 3)) 4 (n.2 2 4)) 5 (n.2 2 5))) 3 (upd (upd (upd (upd (upd (upd (m.2 3) 0 (n.2 3 0)) 1 (n.2 3 1)) 2 (n.2 3 2)) 3 (n.2 3 3)) 4 (n.2 3 4)) 5 (n.2 3 5))) 4 (upd (upd (upd (upd (upd (upd (m.2 4) 0 (n.2 4 0)) 1 (n.2 4 1)) 2 (n.2 4 2)) 3 (n.2 4 3)) 4 (n.2 4 4)) 5 (n.2 4 5)))) n i cf ca, h2)) rfl ?_
  refine R_iinc 79 dX2_become_76 rfl rfl (v := 5) (by decide) rfl (by decide) (loc' := [(0, .ref 1), (1, .ref 10), (2, .int 5)]) rfl ?_
  refine R_goto 56 dX2_become_79 (by decide) ?_
  refine R_iload_n 57 dX2_become_56 rfl rfl ?_
  refine R_iconst 58 dX2_become_57 rfl (v := 5) (by decide) ?_
  refine R_icmp_ge 61 82 dX2_become_58 rfl (by decide) (fun _ => ?_) (fun c => absurd c (by decide))
  refine R_aload_n 83 dX2_become_82 rfl rfl ?_
  refine R_aload_n 84 dX2_become_83 rfl rfl ?_
  refine R_get 87 dX2_become_84 rfl fX2_55 rfl (v := .int (n.1 7)) rfl ?_
  refine R_put 90 dX2_become_87 rfl wX2_55 rfl rfl rfl rfl (h2 := (hC G ((upd (upd (upd (upd (upd (upd (upd (upd (upd (upd m.1 0 (n.1 0)) 1 (n.1 1)) 2 (n.1 2)) 9 (n.1 9)) 10 (n.1 10)) 11 (n.1 11)) 12 (n.1 12)) 13 (n.1 13)) 6 (n.1 6)) 7 (n.1 7)), (up2 (up2 (up2 (up2 (up2 m.2 0 (upd (upd (upd (upd (upd (upd (m.2 0) 0 (n.2 0 0)) 1 (n.2 0 1)) 2 (n.2 0 2)) 3 (n.2 0 3)) 4 (n.2 0 4)) 5 (n.2 0 5))) 1 (upd (upd (upd (upd (upd (upd (m.2 1) 0 (n.2 1 0)) 1 (n.2 1 1)) 2 (n.2 1 2)) 3 (n.2 1 3)) 4 (n.2 1 4)) 5 (n.2 1 5))) 2 (upd (upd (upd (upd (upd (upd (m.2 2) 0 (n.2 2 0)) 1 (n.2 2 1)) 2 (n.2 2 2)) 3 (n.2 2 3)) 4 (n.2 2 4)) 5 (n.2 2 5))) 3 (upd (upd (upd (upd (upd (upd (m.2 3) 0 (n.2 3 0)) 1 (n.2 3 1)) 2 (n.2 3 2)) 3 (n.2 3 3)) 4 (n.2 3 4)) 5 (n.2 3 5))) 4 (upd (upd (upd (upd (upd (upd (m.2 4) 0 (n.2 4 0)) 1 (n.2 4 1)) 2 (n.2 4 2)) 3 (n.2 4 3)) 4 (n.2 4 4)) 5 (n.2 4 5)))) n i cf ca, h2)) rfl ?_
  refine R_aload_n 91 dX2_become_90 rfl rfl ?_
  refine R_aload_n 92 dX2_become_91 rfl rfl ?_
  refine R_get 95 dX2_become_92 rfl fX2_58 rfl (v := .int (n.1 8)) rfl ?_
  refine R_put 98 dX2_become_95 rfl wX2_58 rfl rfl rfl rfl (h2 := (hC G ((upd (upd (upd (upd (upd (upd (upd (upd (upd (upd (upd m.1 0 (n.1 0)) 1 (n.1 1)) 2 (n.1 2)) 9 (n.1 9)) 10 (n.1 10)) 11 (n.1 11)) 12 (n.1 12)) 13 (n.1 13)) 6 (n.1 6)) 7 (n.1 7)) 8 (n.1 8)), (up2 (up2 (up2 (up2 (up2 m.2 0 (upd (upd (upd (upd (upd (upd (m.2 0) 0 (n.2 0 0)) 1 (n.2 0 1)) 2 (n.2 0 2)) 3 (n.2 0 3)) 4 (n.2 0 4)) 5 (n.2 0 5))) 1 (upd (upd (upd (upd (upd (upd (m.2 1) 0 (n.2 1 0)) 1 (n.2 1 1)) 2 (n.2 1 2)) 3 (n.2 1 3)) 4 (n.2 1 4)) 5 (n.2 1 5))) 2 (upd (upd (upd (upd (upd (upd (m.2 2) 0 (n.2 2 0)) 1 (n.2 2 1)) 2 (n.2 2 2)) 3 (n.2 2 3)) 4 (n.2 2 4)) 5 (n.2 2 5))) 3 (upd (upd (upd (upd (upd (upd (m.2 3) 0 (n.2 3 0)) 1 (n.2 3 1)) 2 (n.2 3 2)) 3 (n.2 3 3)) 4 (n.2 3 4)) 5 (n.2 3 5))) 4 (upd (upd (upd (upd (upd (upd (m.2 4) 0 (n.2 4 0)) 1 (n.2 4 1)) 2 (n.2 4 2)) 3 (n.2 4 3)) 4 (n.2 4 4)) 5 (n.2 4 5)))) n i cf ca, h2)) rfl ?_
  refine R_return dX2_become_98 rfl ?_
  exact ⟨rfl, rfl⟩
abbrev zS : Type := zP × (Nat → Int32) × (Nat → Nat → Int32)
def mstep0 (mg : Bool) (m : zP) (cf : Nat → Int32) (ca : Nat → Nat → Int32) : zS := if mg = true then (((upd (sX2_letOneGetUp ((sX2_driftOnce m).2) cf ca ((sX2_driftOnce m).1)).1.1 8 (((sX2_letOneGetUp ((sX2_driftOnce m).2) cf ca ((sX2_driftOnce m).1)).1.1 8) + 1)), (sX2_letOneGetUp ((sX2_driftOnce m).2) cf ca ((sX2_driftOnce m).1)).1.2), (sX2_botherAll ((sX2_letOneGetUp ((sX2_driftOnce m).2) cf ca ((sX2_driftOnce m).1)).1) ((sX2_letOneGetUp ((sX2_driftOnce m).2) cf ca ((sX2_driftOnce m).1)).2.1) ((sX2_letOneGetUp ((sX2_driftOnce m).2) cf ca ((sX2_driftOnce m).1)).2.2)).1, (sX2_botherAll ((sX2_letOneGetUp ((sX2_driftOnce m).2) cf ca ((sX2_driftOnce m).1)).1) ((sX2_letOneGetUp ((sX2_driftOnce m).2) cf ca ((sX2_driftOnce m).1)).2.1) ((sX2_letOneGetUp ((sX2_driftOnce m).2) cf ca ((sX2_driftOnce m).1)).2.2)).2) else (((upd (sX2_driftOnce m).2.1 8 (((sX2_driftOnce m).2.1 8) + 1)), (sX2_driftOnce m).2.2), (sX2_botherAll ((sX2_driftOnce m).2) cf ca).1, (sX2_botherAll ((sX2_driftOnce m).2) cf ca).2)
def mstep (mg : Bool) (s : zS) : zS := mstep0 mg s.1 s.2.1 s.2.2
def mpass (mg : Bool) : Nat → zS → zS
  | 0, s => s
  | k + 1, s => mpass mg k (mstep mg s)
set_option maxRecDepth 20000 in
theorem lpX2_passMinutes_1 {G : zG} {h2 : List va_E} {k i : zP} {mg : Bool} {x : Int32} : ∀ (j a : Nat) (m : zP) (cf : Nat → Int32) (ca : Nat → Nat → Int32), a + j = x.toNatClampNeg → R G mX2_passMinutes 3 [(0, .ref 1), (1, .int x), (2, .int (b2i mg)), (3, .ref 28), (4, .int (nI a))] [] (hC G m k i cf ca, h2) (fun r0 h0 => r0 = none ∧ h0 = (hC G ((mpass mg j (m, cf, ca)).1) k i ((mpass mg j (m, cf, ca)).2.1) ((mpass mg j (m, cf, ca)).2.2), h2)) := by
  have hx := cl_of x
  intro j
  induction j with
  | zero =>
    intro a m cf ca hj
    have hc : x ≤ nI a := cl_le (by omega) (by omega)
    refine R_iload 5 dX2_passMinutes_3 rfl rfl ?_
    refine R_iload_n 6 dX2_passMinutes_5 rfl rfl ?_
    refine R_icmp_ge 9 47 dX2_passMinutes_6 rfl (by decide) (fun _ => ?_) (fun c => absurd hc c)
    refine R_return dX2_passMinutes_47 rfl ?_
    exact ⟨rfl, rfl⟩
  | succ j ih =>
    intro a m cf ca hj
    have hc : ¬ x ≤ nI a := cl_gt (by omega)
    refine R_iload 5 dX2_passMinutes_3 rfl rfl ?_
    refine R_iload_n 6 dX2_passMinutes_5 rfl rfl ?_
    refine R_icmp_ge 9 47 dX2_passMinutes_6 rfl (by decide) (fun c => absurd c hc) (fun _ => ?_)
    refine R_aload_n 10 dX2_passMinutes_9 rfl rfl ?_
    refine R_callVi 13 eX2_driftOnce_1 dX2_passMinutes_10 rfl kX2_driftOnce lX2_84 rfl rfl rfl rfl rfl rfl rfl ?_
    refine R_istore 15 dX2_passMinutes_13 rfl rfl (by decide) (loc' := [(0, .ref 1), (1, .int x), (2, .int (b2i mg)), (3, .ref 28), (4, .int (nI a)), (5, .int ((sX2_driftOnce m).1))]) rfl ?_
    refine R_iload_n 16 dX2_passMinutes_15 rfl rfl ?_
    refine R_ifb_eq 19 26 dX2_passMinutes_16 rfl (by decide) (fun c1 => ?_) (fun c1 => ?_)
    ·
      refine R_aload_n 27 dX2_passMinutes_26 rfl rfl ?_
      refine R_aload_n 28 dX2_passMinutes_27 rfl rfl ?_
      refine R_callVv 31 eX2_botherAll_1 dX2_passMinutes_28 rfl kX2_botherAll lX2_92 rfl rfl rfl rfl rfl rfl rfl ?_
      refine R_aload_n 32 dX2_passMinutes_31 rfl rfl ?_
      refine R_dup 33 dX2_passMinutes_32 rfl rfl ?_
      refine R_get 36 dX2_passMinutes_33 rfl fX2_58 rfl (v := .int ((sX2_driftOnce m).2.1 8)) rfl ?_
      refine R_iconst 37 dX2_passMinutes_36 rfl (v := 1) (by decide) ?_
      refine R_iadd 38 dX2_passMinutes_37 rfl ?_
      refine R_nm (fun z1_ hz1_ => ?_)
      refine R_put 41 dX2_passMinutes_38 rfl wX2_58 rfl rfl rfl rfl (h2 := (hC G ((upd (sX2_driftOnce m).2.1 8 z1_), (sX2_driftOnce m).2.2) k i ((sX2_botherAll ((sX2_driftOnce m).2) cf ca).1) ((sX2_botherAll ((sX2_driftOnce m).2) cf ca).2), h2)) rfl ?_
      refine R_iinc 44 dX2_passMinutes_41 rfl rfl (v := (nI (a + 1))) (nI_1 a) rfl (by decide) (loc' := [(0, .ref 1), (1, .int x), (2, .int (b2i mg)), (3, .ref 28), (4, .int (nI (a + 1))), (5, .int ((sX2_driftOnce m).1))]) rfl ?_
      refine R_goto 3 dX2_passMinutes_44 (by decide) ?_
      subst hz1_
      refine R_pick [0, 1, 2, 3, 4] rfl ?_
      have e : mstep mg (m, cf, ca) = (((upd (sX2_driftOnce m).2.1 8 (((sX2_driftOnce m).2.1 8) + 1)), (sX2_driftOnce m).2.2), (sX2_botherAll ((sX2_driftOnce m).2) cf ca).1, (sX2_botherAll ((sX2_driftOnce m).2) cf ca).2) := by unfold mstep mstep0; rw [if_neg c1]
      have e2 : mpass mg (j + 1) (m, cf, ca) = mpass mg j (((upd (sX2_driftOnce m).2.1 8 (((sX2_driftOnce m).2.1 8) + 1)), (sX2_driftOnce m).2.2), (sX2_botherAll ((sX2_driftOnce m).2) cf ca).1, (sX2_botherAll ((sX2_driftOnce m).2) cf ca).2) := by rw [← e]; rfl
      rw [e2]; exact ih (a + 1) _ _ _ (by omega)
    ·
      refine R_aload_n 20 dX2_passMinutes_19 rfl rfl ?_
      refine R_iload 22 dX2_passMinutes_20 rfl rfl ?_
      refine R_aload_n 23 dX2_passMinutes_22 rfl rfl ?_
      refine R_callVv 26 eX2_letOneGetUp_1 dX2_passMinutes_23 rfl kX2_letOneGetUp lX2_88 rfl rfl rfl rfl rfl rfl rfl ?_
      refine R_aload_n 27 dX2_passMinutes_26 rfl rfl ?_
      refine R_aload_n 28 dX2_passMinutes_27 rfl rfl ?_
      refine R_callVv 31 eX2_botherAll_1 dX2_passMinutes_28 rfl kX2_botherAll lX2_92 rfl rfl rfl rfl rfl rfl rfl ?_
      refine R_aload_n 32 dX2_passMinutes_31 rfl rfl ?_
      refine R_dup 33 dX2_passMinutes_32 rfl rfl ?_
      refine R_get 36 dX2_passMinutes_33 rfl fX2_58 rfl (v := .int ((sX2_letOneGetUp ((sX2_driftOnce m).2) cf ca ((sX2_driftOnce m).1)).1.1 8)) rfl ?_
      refine R_iconst 37 dX2_passMinutes_36 rfl (v := 1) (by decide) ?_
      refine R_iadd 38 dX2_passMinutes_37 rfl ?_
      refine R_nm (fun z2_ hz2_ => ?_)
      refine R_put 41 dX2_passMinutes_38 rfl wX2_58 rfl rfl rfl rfl (h2 := (hC G ((upd (sX2_letOneGetUp ((sX2_driftOnce m).2) cf ca ((sX2_driftOnce m).1)).1.1 8 z2_), (sX2_letOneGetUp ((sX2_driftOnce m).2) cf ca ((sX2_driftOnce m).1)).1.2) k i ((sX2_botherAll ((sX2_letOneGetUp ((sX2_driftOnce m).2) cf ca ((sX2_driftOnce m).1)).1) ((sX2_letOneGetUp ((sX2_driftOnce m).2) cf ca ((sX2_driftOnce m).1)).2.1) ((sX2_letOneGetUp ((sX2_driftOnce m).2) cf ca ((sX2_driftOnce m).1)).2.2)).1) ((sX2_botherAll ((sX2_letOneGetUp ((sX2_driftOnce m).2) cf ca ((sX2_driftOnce m).1)).1) ((sX2_letOneGetUp ((sX2_driftOnce m).2) cf ca ((sX2_driftOnce m).1)).2.1) ((sX2_letOneGetUp ((sX2_driftOnce m).2) cf ca ((sX2_driftOnce m).1)).2.2)).2), h2)) rfl ?_
      refine R_iinc 44 dX2_passMinutes_41 rfl rfl (v := (nI (a + 1))) (nI_1 a) rfl (by decide) (loc' := [(0, .ref 1), (1, .int x), (2, .int (b2i mg)), (3, .ref 28), (4, .int (nI (a + 1))), (5, .int ((sX2_driftOnce m).1))]) rfl ?_
      refine R_goto 3 dX2_passMinutes_44 (by decide) ?_
      subst hz2_
      refine R_pick [0, 1, 2, 3, 4] rfl ?_
      have e : mstep mg (m, cf, ca) = (((upd (sX2_letOneGetUp ((sX2_driftOnce m).2) cf ca ((sX2_driftOnce m).1)).1.1 8 (((sX2_letOneGetUp ((sX2_driftOnce m).2) cf ca ((sX2_driftOnce m).1)).1.1 8) + 1)), (sX2_letOneGetUp ((sX2_driftOnce m).2) cf ca ((sX2_driftOnce m).1)).1.2), (sX2_botherAll ((sX2_letOneGetUp ((sX2_driftOnce m).2) cf ca ((sX2_driftOnce m).1)).1) ((sX2_letOneGetUp ((sX2_driftOnce m).2) cf ca ((sX2_driftOnce m).1)).2.1) ((sX2_letOneGetUp ((sX2_driftOnce m).2) cf ca ((sX2_driftOnce m).1)).2.2)).1, (sX2_botherAll ((sX2_letOneGetUp ((sX2_driftOnce m).2) cf ca ((sX2_driftOnce m).1)).1) ((sX2_letOneGetUp ((sX2_driftOnce m).2) cf ca ((sX2_driftOnce m).1)).2.1) ((sX2_letOneGetUp ((sX2_driftOnce m).2) cf ca ((sX2_driftOnce m).1)).2.2)).2) := by unfold mstep mstep0; rw [if_pos c1]
      have e2 : mpass mg (j + 1) (m, cf, ca) = mpass mg j (((upd (sX2_letOneGetUp ((sX2_driftOnce m).2) cf ca ((sX2_driftOnce m).1)).1.1 8 (((sX2_letOneGetUp ((sX2_driftOnce m).2) cf ca ((sX2_driftOnce m).1)).1.1 8) + 1)), (sX2_letOneGetUp ((sX2_driftOnce m).2) cf ca ((sX2_driftOnce m).1)).1.2), (sX2_botherAll ((sX2_letOneGetUp ((sX2_driftOnce m).2) cf ca ((sX2_driftOnce m).1)).1) ((sX2_letOneGetUp ((sX2_driftOnce m).2) cf ca ((sX2_driftOnce m).1)).2.1) ((sX2_letOneGetUp ((sX2_driftOnce m).2) cf ca ((sX2_driftOnce m).1)).2.2)).1, (sX2_botherAll ((sX2_letOneGetUp ((sX2_driftOnce m).2) cf ca ((sX2_driftOnce m).1)).1) ((sX2_letOneGetUp ((sX2_driftOnce m).2) cf ca ((sX2_driftOnce m).1)).2.1) ((sX2_letOneGetUp ((sX2_driftOnce m).2) cf ca ((sX2_driftOnce m).1)).2.2)).2) := by rw [← e]; rfl
      rw [e2]; exact ih (a + 1) _ _ _ (by omega)
theorem eX2_passMinutes_1 {G : zG} {h2 : List va_E} {m k i : zP} {cf : Nat → Int32} {ca : Nat → Nat → Int32} {mg : Bool} {x : Int32} : EvF G mX2_passMinutes [.ref 1, .int x, .int (b2i mg), .ref 28] (hC G m k i cf ca, h2) none (hC G ((mpass mg x.toNatClampNeg (m, cf, ca)).1) k i ((mpass mg x.toNatClampNeg (m, cf, ca)).2.1) ((mpass mg x.toNatClampNeg (m, cf, ca)).2.2), h2) := by
  refine EvF.of pnX2 rfl ?_
  refine R_iconst 1 dX2_passMinutes_0 rfl (v := 0) (by decide) ?_
  refine R_istore 3 dX2_passMinutes_1 rfl rfl (by decide) (loc' := [(0, .ref 1), (1, .int x), (2, .int (b2i mg)), (3, .ref 28), (4, .int 0)]) rfl ?_
  exact lpX2_passMinutes_1 x.toNatClampNeg 0 m cf ca (Nat.zero_add _)
set_option maxRecDepth 20000 in
theorem lpX2_passMinutes_10 {G : zG} {h2 : List va_E} {n i : zP} {mg : Bool} {x : Int32} : ∀ (j a : Nat) (m : zP) (cf : Nat → Int32) (ca : Nat → Nat → Int32), a + j = x.toNatClampNeg → R G mX2_passMinutes 3 [(0, .ref 10), (1, .int x), (2, .int (b2i mg)), (3, .ref 28), (4, .int (nI a))] [] (hC G n m i cf ca, h2) (fun r0 h0 => r0 = none ∧ h0 = (hC G n ((mpass mg j (m, cf, ca)).1) i ((mpass mg j (m, cf, ca)).2.1) ((mpass mg j (m, cf, ca)).2.2), h2)) := by
  have hx := cl_of x
  intro j
  induction j with
  | zero =>
    intro a m cf ca hj
    have hc : x ≤ nI a := cl_le (by omega) (by omega)
    refine R_iload 5 dX2_passMinutes_3 rfl rfl ?_
    refine R_iload_n 6 dX2_passMinutes_5 rfl rfl ?_
    refine R_icmp_ge 9 47 dX2_passMinutes_6 rfl (by decide) (fun _ => ?_) (fun c => absurd hc c)
    refine R_return dX2_passMinutes_47 rfl ?_
    exact ⟨rfl, rfl⟩
  | succ j ih =>
    intro a m cf ca hj
    have hc : ¬ x ≤ nI a := cl_gt (by omega)
    refine R_iload 5 dX2_passMinutes_3 rfl rfl ?_
    refine R_iload_n 6 dX2_passMinutes_5 rfl rfl ?_
    refine R_icmp_ge 9 47 dX2_passMinutes_6 rfl (by decide) (fun c => absurd c hc) (fun _ => ?_)
    refine R_aload_n 10 dX2_passMinutes_9 rfl rfl ?_
    refine R_callVi 13 eX2_driftOnce_10 dX2_passMinutes_10 rfl kX2_driftOnce lX2_84 rfl rfl rfl rfl rfl rfl rfl ?_
    refine R_istore 15 dX2_passMinutes_13 rfl rfl (by decide) (loc' := [(0, .ref 10), (1, .int x), (2, .int (b2i mg)), (3, .ref 28), (4, .int (nI a)), (5, .int ((sX2_driftOnce m).1))]) rfl ?_
    refine R_iload_n 16 dX2_passMinutes_15 rfl rfl ?_
    refine R_ifb_eq 19 26 dX2_passMinutes_16 rfl (by decide) (fun c1 => ?_) (fun c1 => ?_)
    ·
      refine R_aload_n 27 dX2_passMinutes_26 rfl rfl ?_
      refine R_aload_n 28 dX2_passMinutes_27 rfl rfl ?_
      refine R_callVv 31 eX2_botherAll_10 dX2_passMinutes_28 rfl kX2_botherAll lX2_92 rfl rfl rfl rfl rfl rfl rfl ?_
      refine R_aload_n 32 dX2_passMinutes_31 rfl rfl ?_
      refine R_dup 33 dX2_passMinutes_32 rfl rfl ?_
      refine R_get 36 dX2_passMinutes_33 rfl fX2_58 rfl (v := .int ((sX2_driftOnce m).2.1 8)) rfl ?_
      refine R_iconst 37 dX2_passMinutes_36 rfl (v := 1) (by decide) ?_
      refine R_iadd 38 dX2_passMinutes_37 rfl ?_
      refine R_nm (fun z1_ hz1_ => ?_)
      refine R_put 41 dX2_passMinutes_38 rfl wX2_58 rfl rfl rfl rfl (h2 := (hC G n ((upd (sX2_driftOnce m).2.1 8 z1_), (sX2_driftOnce m).2.2) i ((sX2_botherAll ((sX2_driftOnce m).2) cf ca).1) ((sX2_botherAll ((sX2_driftOnce m).2) cf ca).2), h2)) rfl ?_
      refine R_iinc 44 dX2_passMinutes_41 rfl rfl (v := (nI (a + 1))) (nI_1 a) rfl (by decide) (loc' := [(0, .ref 10), (1, .int x), (2, .int (b2i mg)), (3, .ref 28), (4, .int (nI (a + 1))), (5, .int ((sX2_driftOnce m).1))]) rfl ?_
      refine R_goto 3 dX2_passMinutes_44 (by decide) ?_
      subst hz1_
      refine R_pick [0, 1, 2, 3, 4] rfl ?_
      have e : mstep mg (m, cf, ca) = (((upd (sX2_driftOnce m).2.1 8 (((sX2_driftOnce m).2.1 8) + 1)), (sX2_driftOnce m).2.2), (sX2_botherAll ((sX2_driftOnce m).2) cf ca).1, (sX2_botherAll ((sX2_driftOnce m).2) cf ca).2) := by unfold mstep mstep0; rw [if_neg c1]
      have e2 : mpass mg (j + 1) (m, cf, ca) = mpass mg j (((upd (sX2_driftOnce m).2.1 8 (((sX2_driftOnce m).2.1 8) + 1)), (sX2_driftOnce m).2.2), (sX2_botherAll ((sX2_driftOnce m).2) cf ca).1, (sX2_botherAll ((sX2_driftOnce m).2) cf ca).2) := by rw [← e]; rfl
      rw [e2]; exact ih (a + 1) _ _ _ (by omega)
    ·
      refine R_aload_n 20 dX2_passMinutes_19 rfl rfl ?_
      refine R_iload 22 dX2_passMinutes_20 rfl rfl ?_
      refine R_aload_n 23 dX2_passMinutes_22 rfl rfl ?_
      refine R_callVv 26 eX2_letOneGetUp_10 dX2_passMinutes_23 rfl kX2_letOneGetUp lX2_88 rfl rfl rfl rfl rfl rfl rfl ?_
      refine R_aload_n 27 dX2_passMinutes_26 rfl rfl ?_
      refine R_aload_n 28 dX2_passMinutes_27 rfl rfl ?_
      refine R_callVv 31 eX2_botherAll_10 dX2_passMinutes_28 rfl kX2_botherAll lX2_92 rfl rfl rfl rfl rfl rfl rfl ?_
      refine R_aload_n 32 dX2_passMinutes_31 rfl rfl ?_
      refine R_dup 33 dX2_passMinutes_32 rfl rfl ?_
      refine R_get 36 dX2_passMinutes_33 rfl fX2_58 rfl (v := .int ((sX2_letOneGetUp ((sX2_driftOnce m).2) cf ca ((sX2_driftOnce m).1)).1.1 8)) rfl ?_
      refine R_iconst 37 dX2_passMinutes_36 rfl (v := 1) (by decide) ?_
      refine R_iadd 38 dX2_passMinutes_37 rfl ?_
      refine R_nm (fun z2_ hz2_ => ?_)
      refine R_put 41 dX2_passMinutes_38 rfl wX2_58 rfl rfl rfl rfl (h2 := (hC G n ((upd (sX2_letOneGetUp ((sX2_driftOnce m).2) cf ca ((sX2_driftOnce m).1)).1.1 8 z2_), (sX2_letOneGetUp ((sX2_driftOnce m).2) cf ca ((sX2_driftOnce m).1)).1.2) i ((sX2_botherAll ((sX2_letOneGetUp ((sX2_driftOnce m).2) cf ca ((sX2_driftOnce m).1)).1) ((sX2_letOneGetUp ((sX2_driftOnce m).2) cf ca ((sX2_driftOnce m).1)).2.1) ((sX2_letOneGetUp ((sX2_driftOnce m).2) cf ca ((sX2_driftOnce m).1)).2.2)).1) ((sX2_botherAll ((sX2_letOneGetUp ((sX2_driftOnce m).2) cf ca ((sX2_driftOnce m).1)).1) ((sX2_letOneGetUp ((sX2_driftOnce m).2) cf ca ((sX2_driftOnce m).1)).2.1) ((sX2_letOneGetUp ((sX2_driftOnce m).2) cf ca ((sX2_driftOnce m).1)).2.2)).2), h2)) rfl ?_
      refine R_iinc 44 dX2_passMinutes_41 rfl rfl (v := (nI (a + 1))) (nI_1 a) rfl (by decide) (loc' := [(0, .ref 10), (1, .int x), (2, .int (b2i mg)), (3, .ref 28), (4, .int (nI (a + 1))), (5, .int ((sX2_driftOnce m).1))]) rfl ?_
      refine R_goto 3 dX2_passMinutes_44 (by decide) ?_
      subst hz2_
      refine R_pick [0, 1, 2, 3, 4] rfl ?_
      have e : mstep mg (m, cf, ca) = (((upd (sX2_letOneGetUp ((sX2_driftOnce m).2) cf ca ((sX2_driftOnce m).1)).1.1 8 (((sX2_letOneGetUp ((sX2_driftOnce m).2) cf ca ((sX2_driftOnce m).1)).1.1 8) + 1)), (sX2_letOneGetUp ((sX2_driftOnce m).2) cf ca ((sX2_driftOnce m).1)).1.2), (sX2_botherAll ((sX2_letOneGetUp ((sX2_driftOnce m).2) cf ca ((sX2_driftOnce m).1)).1) ((sX2_letOneGetUp ((sX2_driftOnce m).2) cf ca ((sX2_driftOnce m).1)).2.1) ((sX2_letOneGetUp ((sX2_driftOnce m).2) cf ca ((sX2_driftOnce m).1)).2.2)).1, (sX2_botherAll ((sX2_letOneGetUp ((sX2_driftOnce m).2) cf ca ((sX2_driftOnce m).1)).1) ((sX2_letOneGetUp ((sX2_driftOnce m).2) cf ca ((sX2_driftOnce m).1)).2.1) ((sX2_letOneGetUp ((sX2_driftOnce m).2) cf ca ((sX2_driftOnce m).1)).2.2)).2) := by unfold mstep mstep0; rw [if_pos c1]
      have e2 : mpass mg (j + 1) (m, cf, ca) = mpass mg j (((upd (sX2_letOneGetUp ((sX2_driftOnce m).2) cf ca ((sX2_driftOnce m).1)).1.1 8 (((sX2_letOneGetUp ((sX2_driftOnce m).2) cf ca ((sX2_driftOnce m).1)).1.1 8) + 1)), (sX2_letOneGetUp ((sX2_driftOnce m).2) cf ca ((sX2_driftOnce m).1)).1.2), (sX2_botherAll ((sX2_letOneGetUp ((sX2_driftOnce m).2) cf ca ((sX2_driftOnce m).1)).1) ((sX2_letOneGetUp ((sX2_driftOnce m).2) cf ca ((sX2_driftOnce m).1)).2.1) ((sX2_letOneGetUp ((sX2_driftOnce m).2) cf ca ((sX2_driftOnce m).1)).2.2)).1, (sX2_botherAll ((sX2_letOneGetUp ((sX2_driftOnce m).2) cf ca ((sX2_driftOnce m).1)).1) ((sX2_letOneGetUp ((sX2_driftOnce m).2) cf ca ((sX2_driftOnce m).1)).2.1) ((sX2_letOneGetUp ((sX2_driftOnce m).2) cf ca ((sX2_driftOnce m).1)).2.2)).2) := by rw [← e]; rfl
      rw [e2]; exact ih (a + 1) _ _ _ (by omega)
theorem eX2_passMinutes_10 {G : zG} {h2 : List va_E} {n m i : zP} {cf : Nat → Int32} {ca : Nat → Nat → Int32} {mg : Bool} {x : Int32} : EvF G mX2_passMinutes [.ref 10, .int x, .int (b2i mg), .ref 28] (hC G n m i cf ca, h2) none (hC G n ((mpass mg x.toNatClampNeg (m, cf, ca)).1) i ((mpass mg x.toNatClampNeg (m, cf, ca)).2.1) ((mpass mg x.toNatClampNeg (m, cf, ca)).2.2), h2) := by
  refine EvF.of pnX2 rfl ?_
  refine R_iconst 1 dX2_passMinutes_0 rfl (v := 0) (by decide) ?_
  refine R_istore 3 dX2_passMinutes_1 rfl rfl (by decide) (loc' := [(0, .ref 10), (1, .int x), (2, .int (b2i mg)), (3, .ref 28), (4, .int 0)]) rfl ?_
  exact lpX2_passMinutes_10 x.toNatClampNeg 0 m cf ca (Nat.zero_add _)
def sX6_refuse (ca : Nat → Nat → Int32) (why : Int32) : Int32 × (Nat → Nat → Int32) := if (-why) < 0 then (why, ca) else if 7 ≤ (-why) then (why, ca) else (why, (up2 ca 35 (upd (ca 35) (-why).toNatClampNeg ((ca 35 (-why).toNatClampNeg) + 1))))
set_option maxRecDepth 20000 in
theorem eX6_refuse_0 {G : zG} {h2 : List va_E} {n m i : zP} {cf : Nat → Int32} {ca : Nat → Nat → Int32} {why : Int32} : EvF G mX6_refuse [.ref 0, .int why] (hC G n m i cf ca, h2) (some (.int ((sX6_refuse ca why).1))) (hC G n m i cf ((sX6_refuse ca why).2), h2) := by
  generalize hs : (sX6_refuse ca why) = zz
  refine EvF.of pnX6 rfl ?_
  refine R_iload_n 1 dX6_refuse_0 rfl rfl ?_
  refine R_ineg 2 dX6_refuse_1 rfl ?_
  refine R_istore_n 3 dX6_refuse_2 rfl rfl (by decide) (loc' := [(0, .ref 0), (1, .int why), (2, .int (-why))]) rfl ?_
  refine R_iload_n 4 dX6_refuse_3 rfl rfl ?_
  refine R_if_lt 7 26 dX6_refuse_4 rfl (by decide) (fun c1 => ?_) (fun c1 => ?_)
  ·
    refine R_iload_n 27 dX6_refuse_26 rfl rfl ?_
    refine R_ireturn dX6_refuse_27 rfl rfl ?_
    have e : zz = (why, ca) := by rw [← hs]; unfold sX6_refuse; rw [if_pos c1]
    rw [pr1 e, pr2 e]; exact ⟨rfl, rfl⟩
  ·
    refine R_iload_n 8 dX6_refuse_7 rfl rfl ?_
    refine R_aload_n 9 dX6_refuse_8 rfl rfl ?_
    refine R_get 12 dX6_refuse_9 rfl fX6_40 rfl (v := .ref 35) rfl ?_
    refine R_alen 13 dX6_refuse_12 rfl rfl rfl ?_
    refine R_top (y := 7) (by decide) ?_
    refine R_icmp_ge 16 26 dX6_refuse_13 rfl (by decide) (fun c2 => ?_) (fun c2 => ?_)
    ·
      refine R_iload_n 27 dX6_refuse_26 rfl rfl ?_
      refine R_ireturn dX6_refuse_27 rfl rfl ?_
      have e : zz = (why, ca) := by rw [← hs]; unfold sX6_refuse; rw [if_neg c1, if_pos c2]
      rw [pr1 e, pr2 e]; exact ⟨rfl, rfl⟩
    ·
      refine R_aload_n 17 dX6_refuse_16 rfl rfl ?_
      refine R_get 20 dX6_refuse_17 rfl fX6_40 rfl (v := .ref 35) rfl ?_
      refine R_iload_n 21 dX6_refuse_20 rfl rfl ?_
      refine R_dup2 22 dX6_refuse_21 rfl rfl rfl ?_
      refine R_iald 23 dX6_refuse_22 rfl rfl rfl (vin7 (vlo1 c1) c2) ?_
      refine R_iconst 24 dX6_refuse_23 rfl (v := 1) (by decide) ?_
      refine R_iadd 25 dX6_refuse_24 rfl ?_
      refine R_nm (fun z1_ hz1_ => ?_)
      refine R_iast 26 dX6_refuse_25 rfl rfl rfl (vin7 (vlo1 c1) c2) (h2 := (hC G n m i cf (up2 ca 35 (upd (ca 35) (-why).toNatClampNeg z1_)), h2)) rfl ?_
      refine R_iload_n 27 dX6_refuse_26 rfl rfl ?_
      refine R_ireturn dX6_refuse_27 rfl rfl ?_
      subst hz1_
      have e : zz = (why, (up2 ca 35 (upd (ca 35) (-why).toNatClampNeg ((ca 35 (-why).toNatClampNeg) + 1)))) := by rw [← hs]; unfold sX6_refuse; rw [if_neg c1, if_neg c2]
      rw [pr1 e, pr2 e]; exact ⟨rfl, rfl⟩
def sX6_refuseTold (ca : Nat → Nat → Int32) (why : Int32) : Int32 × (Nat → Nat → Int32) := (1000000000 - ((sX6_refuse ca why).1), (sX6_refuse ca why).2)
set_option maxRecDepth 20000 in
theorem eX6_refuseTold_0 {G : zG} {h2 : List va_E} {n m i : zP} {cf : Nat → Int32} {ca : Nat → Nat → Int32} {why : Int32} : EvF G mX6_refuseTold [.ref 0, .int why] (hC G n m i cf ca, h2) (some (.int ((sX6_refuseTold ca why).1))) (hC G n m i cf ((sX6_refuseTold ca why).2), h2) := by
  generalize hs : (sX6_refuseTold ca why) = zz
  refine EvF.of pnX6 rfl ?_
  refine R_ldc 2 dX6_refuseTold_0 rfl qX6_195 ?_
  refine R_aload_n 3 dX6_refuseTold_2 rfl rfl ?_
  refine R_iload_n 4 dX6_refuseTold_3 rfl rfl ?_
  refine R_callVi 7 eX6_refuse_0 dX6_refuseTold_4 rfl kX6_refuse lX6_51 rfl rfl rfl rfl rfl rfl rfl ?_
  refine R_isub 8 dX6_refuseTold_7 rfl ?_
  refine R_ireturn dX6_refuseTold_8 rfl rfl ?_
  have e : zz = (1000000000 - ((sX6_refuse ca why).1), (sX6_refuse ca why).2) := by rw [← hs]; unfold sX6_refuseTold; rfl
  rw [pr1 e, pr2 e]; exact ⟨rfl, rfl⟩
def sX6_think (n : zP) (cf : Nat → Int32) (ca : Nat → Nat → Int32) : zP × (Nat → Int32) × (Nat → Nat → Int32) := (n, (sX0_clear cf ca).1, (sX0_clear cf ca).2)
set_option maxRecDepth 20000 in
theorem eX6_think_0 {G : zG} {h2 : List va_E} {n m i : zP} {cf : Nat → Int32} {ca : Nat → Nat → Int32} : EvF G mX6_think [.ref 0] (hC G n m i cf ca, h2) (none) (hC G n ((sX6_think n cf ca).1) i ((sX6_think n cf ca).2.1) ((sX6_think n cf ca).2.2), h2) := by
  generalize hs : (sX6_think n cf ca) = zz
  refine EvF.of pnX6 rfl ?_
  refine R_aload_n 1 dX6_think_0 rfl rfl ?_
  refine R_get 4 dX6_think_1 rfl fX6_16 rfl (v := .ref 10) rfl ?_
  refine R_aload_n 5 dX6_think_4 rfl rfl ?_
  refine R_get 8 dX6_think_5 rfl fX6_10 rfl (v := .ref 1) rfl ?_
  refine R_callVv 11 eX2_become_10_1 dX6_think_8 rfl kX2_become lX6_165 rfl rfl rfl rfl rfl rfl rfl ?_
  refine R_aload_n 12 dX6_think_11 rfl rfl ?_
  refine R_get 15 dX6_think_12 rfl fX6_25 rfl (v := .ref 28) rfl ?_
  refine R_callVv 18 eX0_clear_28 dX6_think_15 rfl kX0_clear lX6_110 rfl rfl rfl rfl rfl rfl rfl ?_
  refine R_return dX6_think_18 rfl ?_
  have e : zz = (n, (sX0_clear cf ca).1, (sX0_clear cf ca).2) := by rw [← hs]; unfold sX6_think; rfl
  rw [pr1 e, pr1 (pr2 e), pr2 (pr2 e)]; exact ⟨rfl, rfl⟩
def sX6_playInMind (m : zP) (cf : Nat → Int32) (ca : Nat → Nat → Int32) (x : Int32) (mg : Bool) : Int32 × zP × (Nat → Int32) × (Nat → Nat → Int32) := ((sX0_allCost ((mpass mg x.toNatClampNeg (m, cf, ca)).2.2)), (mpass mg x.toNatClampNeg (m, cf, ca)).1, (mpass mg x.toNatClampNeg (m, cf, ca)).2.1, (mpass mg x.toNatClampNeg (m, cf, ca)).2.2)
set_option maxRecDepth 20000 in
theorem eX6_playInMind_0 {G : zG} {h2 : List va_E} {n m i : zP} {cf : Nat → Int32} {ca : Nat → Nat → Int32} {x : Int32} {mg : Bool} : EvF G mX6_playInMind [.ref 0, .int x, .int (b2i mg)] (hC G n m i cf ca, h2) (some (.int ((sX6_playInMind m cf ca x mg).1))) (hC G n ((sX6_playInMind m cf ca x mg).2.1) i ((sX6_playInMind m cf ca x mg).2.2.1) ((sX6_playInMind m cf ca x mg).2.2.2), h2) := by
  generalize hs : (sX6_playInMind m cf ca x mg) = zz
  refine EvF.of pnX6 rfl ?_
  refine R_aload_n 1 dX6_playInMind_0 rfl rfl ?_
  refine R_get 4 dX6_playInMind_1 rfl fX6_16 rfl (v := .ref 10) rfl ?_
  refine R_iload_n 5 dX6_playInMind_4 rfl rfl ?_
  refine R_iload_n 6 dX6_playInMind_5 rfl rfl ?_
  refine R_aload_n 7 dX6_playInMind_6 rfl rfl ?_
  refine R_get 10 dX6_playInMind_7 rfl fX6_25 rfl (v := .ref 28) rfl ?_
  refine R_callVv 13 (eX2_passMinutes_10 (mg := mg) (x := x)) dX6_playInMind_10 rfl kX2_passMinutes lX6_113 rfl rfl rfl rfl rfl rfl rfl ?_
  refine R_aload_n 14 dX6_playInMind_13 rfl rfl ?_
  refine R_get 17 dX6_playInMind_14 rfl fX6_25 rfl (v := .ref 28) rfl ?_
  refine R_callVi 20 eX0_allCost_28 dX6_playInMind_17 rfl kX0_allCost lX6_209 rfl rfl rfl rfl rfl rfl rfl ?_
  refine R_ireturn dX6_playInMind_20 rfl rfl ?_
  have e : zz = ((sX0_allCost ((mpass mg x.toNatClampNeg (m, cf, ca)).2.2)), (mpass mg x.toNatClampNeg (m, cf, ca)).1, (mpass mg x.toNatClampNeg (m, cf, ca)).2.1, (mpass mg x.toNatClampNeg (m, cf, ca)).2.2) := by rw [← hs]; unfold sX6_playInMind; rfl
  rw [pr1 e, pr1 (pr2 e), pr1 (pr2 (pr2 e)), pr2 (pr2 (pr2 e))]; exact ⟨rfl, rfl⟩
