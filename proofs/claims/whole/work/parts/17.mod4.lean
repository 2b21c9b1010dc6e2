theorem R_nm2 {G : zG} {M : zM} {pc : Nat} {loc : List (Nat × Value)} {st : List Value} {h : zH} {Q : Option Value → zH → Prop} {x : Int32} (k : ∀ z : Int32, x = z → R G M pc loc (.int z :: st) h Q) : R G M pc loc (.int x :: st) h Q := k x rfl
def itF {R S : Type} (ex : Nat → S → R) (st : Nat → S → S) : Nat → Nat → S → R
  | 0, a, s => ex a s
  | j + 1, a, s => itF ex st j (a + 1) (st a s)
theorem itF_n {R S : Type} {ex : Nat → S → R} {st : Nat → S → S} {j a : Nat} {s s1 : S} (e : st a s = s1) : itF ex st (j + 1) a s = itF ex st j (a + 1) s1 := by
  subst e
  rfl
def sX7_isOff (ar : Nat → Nat → Int32) (v : Int32) : Bool := if (ar 1 4) < (sX7_size (v - (ar 1 1))) then true else (!decide ((sX7_size (v - (ar 1 2))) ≤ (ar 1 4)))
set_option maxRecDepth 20000 in
theorem eX7_isOff {G : zG} {h1 : List va_E} {f : Nat → Int32} {ar : Nat → Nat → Int32} {v : Int32} : EvF G mX7_isOff [.ref 100, .int v] (h1, hM G f ar) (some (.int (b2i (sX7_isOff ar v)))) (h1, hM G f ar) := by
  generalize hs : (sX7_isOff ar v) = zz
  refine EvF.of pnX7 rfl ?_
  refine R_iload_n 1 dX7_isOff_0 rfl rfl ?_
  refine R_aload_n 2 dX7_isOff_1 rfl rfl ?_
  refine R_get 5 dX7_isOff_2 rfl fX7_13 rfl (v := .ref 102) rfl ?_
  refine R_iconst 6 dX7_isOff_5 rfl (v := 1) (by decide) ?_
  refine R_iald 7 dX7_isOff_6 rfl rfl rfl (vin_d (by decide)) ?_
  refine R_top (y := (ar 1 1)) rfl ?_
  refine R_isub 8 dX7_isOff_7 rfl ?_
  refine R_callSi 11 eX7_size dX7_isOff_8 rfl kX7_size lX7_176 rfl rfl rfl rfl rfl ?_
  refine R_aload_n 12 dX7_isOff_11 rfl rfl ?_
  refine R_get 15 dX7_isOff_12 rfl fX7_13 rfl (v := .ref 102) rfl ?_
  refine R_iconst 16 dX7_isOff_15 rfl (v := 4) (by decide) ?_
  refine R_iald 17 dX7_isOff_16 rfl rfl rfl (vin_d (by decide)) ?_
  refine R_top (y := (ar 1 4)) rfl ?_
  refine R_icmp_gt 20 40 dX7_isOff_17 rfl (by decide) (fun c1 => ?_) (fun c1 => ?_)
  ·
    refine R_iconst 41 dX7_isOff_40 rfl (v := 1) (by decide) ?_
    refine R_goto 45 dX7_isOff_41 (by decide) ?_
    refine R_ireturn dX7_isOff_45 rfl (by decide) ?_
    have e : zz = true := by rw [← hs]; unfold sX7_isOff; rw [if_pos c1]
    subst e; exact ⟨rfl, rfl⟩
  ·
    refine R_iload_n 21 dX7_isOff_20 rfl rfl ?_
    refine R_aload_n 22 dX7_isOff_21 rfl rfl ?_
    refine R_get 25 dX7_isOff_22 rfl fX7_13 rfl (v := .ref 102) rfl ?_
    refine R_iconst 26 dX7_isOff_25 rfl (v := 2) (by decide) ?_
    refine R_iald 27 dX7_isOff_26 rfl rfl rfl (vin_d (by decide)) ?_
    refine R_top (y := (ar 1 2)) rfl ?_
    refine R_isub 28 dX7_isOff_27 rfl ?_
    refine R_callSi 31 eX7_size dX7_isOff_28 rfl kX7_size lX7_176 rfl rfl rfl rfl rfl ?_
    refine R_aload_n 32 dX7_isOff_31 rfl rfl ?_
    refine R_get 35 dX7_isOff_32 rfl fX7_13 rfl (v := .ref 102) rfl ?_
    refine R_iconst 36 dX7_isOff_35 rfl (v := 4) (by decide) ?_
    refine R_iald 37 dX7_isOff_36 rfl rfl rfl (vin_d (by decide)) ?_
    refine R_top (y := (ar 1 4)) rfl ?_
    refine R_cut 45 [(0, .ref 100), (1, .int v)] (.int (b2i (!decide ((sX7_size (v - (ar 1 2))) ≤ (ar 1 4)))) :: []) (h1, hM G f ar) ?_ (fun kj => ?_)
    ·
      refine R_ireturn dX7_isOff_45 rfl (nar_b _) ?_
      have e : zz = (!decide ((sX7_size (v - (ar 1 2))) ≤ (ar 1 4))) := by rw [← hs]; unfold sX7_isOff; rw [if_neg c1]
      subst e; exact ⟨rfl, rfl⟩
    refine R_icmp_le 40 44 dX7_isOff_37 rfl (by decide) (fun c2 => ?_) (fun c2 => ?_)
    · refine R_iconst 45 dX7_isOff_44 rfl (v := 0) (by decide) ?_
      rw [b2i_np c2] at kj; exact kj
    · refine R_iconst 41 dX7_isOff_40 rfl (v := 1) (by decide) ?_
      refine R_goto 45 dX7_isOff_41 (by decide) ?_
      rw [b2i_nn c2] at kj; exact kj
def exX7_holdsFrom (f : Nat → Int32) (ar : Nat → Nat → Int32) (a : Nat)  : Int32 := (-9)
def stX7_holdsFrom (f : Nat → Int32) (ar : Nat → Nat → Int32) (a : Nat)  : (Int32) ⊕ (Unit) := if (sX7_isOff ar (ar 26 (nI a).toNatClampNeg)) = true then .inl (nI a) else .inr ()
def itX7_holdsFrom (f : Nat → Int32) (ar : Nat → Nat → Int32) (j a : Nat)  : Int32 := itG (fun a (s : Unit) => exX7_holdsFrom f ar a ) (fun a (s : Unit) => stX7_holdsFrom f ar a ) j a ()
theorem itX7_holdsFrom_r {f : Nat → Int32} {ar : Nat → Nat → Int32} {j a : Nat}  {r : Int32} (e : stX7_holdsFrom f ar a  = .inl r) : (itX7_holdsFrom f ar (j + 1) a ) = r := itG_r (st := fun a (s : Unit) => stX7_holdsFrom f ar a ) (s := ()) e
theorem itX7_holdsFrom_n {f : Nat → Int32} {ar : Nat → Nat → Int32} {j a : Nat}   (e : stX7_holdsFrom f ar a  = .inr ()) : (itX7_holdsFrom f ar (j + 1) a ) = (itX7_holdsFrom f ar j (a + 1) ) := itG_n (st := fun a (s : Unit) => stX7_holdsFrom f ar a ) (s := ()) (s1 := ()) e
set_option maxRecDepth 20000 in
theorem lpX7_holdsFrom {G : zG} {h1 : List va_E} {f : Nat → Int32} {ar : Nat → Nat → Int32} : ∀ (j a : Nat) , a + j = 240 → R G mX7_holdsFrom 27 [(0, .ref 100), (3, .int (nI a))] [] (h1, hM G f ar) (fun r0 h0 => r0 = some (.int (itX7_holdsFrom f ar j a )) ∧ h0 = (h1, hM G f ar)) := by
  intro j
  induction j with
  | zero =>
    intro a  hj
    have hc : (240 : Int32) ≤ nI a := by show nI 240 ≤ nI a; exact nI_le (by omega) (by omega)
    refine R_iload_n 28 dX7_holdsFrom_27 rfl rfl ?_
    refine R_sipush 31 dX7_holdsFrom_28 rfl (v := 240) (by decide) ?_
    refine R_icmp_ge 34 55 dX7_holdsFrom_31 rfl (by decide) (fun _ => ?_) (fun c => absurd hc c)
    refine R_bipush 57 dX7_holdsFrom_55 rfl (v := (-9)) (by decide) ?_
    refine R_ireturn dX7_holdsFrom_57 rfl rfl ?_
    have e : (itX7_holdsFrom f ar 0 a ) = (-9) := rfl
    rw [e]; exact ⟨rfl, rfl⟩
  | succ j ih =>
    intro a  hj
    have hc : ¬ (240 : Int32) ≤ nI a := by show ¬ nI 240 ≤ nI a; exact nI_ge (by omega) (by omega)
    refine R_iload_n 28 dX7_holdsFrom_27 rfl rfl ?_
    refine R_sipush 31 dX7_holdsFrom_28 rfl (v := 240) (by decide) ?_
    refine R_icmp_ge 34 55 dX7_holdsFrom_31 rfl (by decide) (fun c => absurd c hc) (fun _ => ?_)
    refine R_aload_n 35 dX7_holdsFrom_34 rfl rfl ?_
    refine R_aload_n 36 dX7_holdsFrom_35 rfl rfl ?_
    refine R_get 39 dX7_holdsFrom_36 rfl fX7_55 rfl (v := .ref 116) rfl ?_
    refine R_iload_n 40 dX7_holdsFrom_39 rfl rfl ?_
    refine R_iald 41 dX7_holdsFrom_40 rfl rfl rfl (vp_in_nI (by omega) (by omega)) ?_
    refine R_callVi 44 eX7_isOff dX7_holdsFrom_41 rfl kX7_isOff lX7_265 rfl rfl rfl rfl rfl rfl rfl ?_
    refine R_ifb_eq 47 49 dX7_holdsFrom_44 rfl (by decide) (fun c1 => ?_) (fun c1 => ?_)
    ·
      refine R_iinc 52 dX7_holdsFrom_49 rfl rfl (v := (nI (a + 1))) (nI_1 a) rfl (by decide) (loc' := [(0, .ref 100), (3, .int (nI (a + 1)))]) rfl ?_
      refine R_goto 27 dX7_holdsFrom_52 (by decide) ?_
      refine R_pick [0, 1] rfl ?_
      have e : stX7_holdsFrom f ar a  = .inr () := by unfold stX7_holdsFrom; rw [if_neg c1]
      have e2 : (itX7_holdsFrom f ar (j + 1) a ) = (itX7_holdsFrom f ar j (a + 1) ) := itX7_holdsFrom_n e
      rw [e2]; exact ih (a + 1)  (by omega)
    ·
      refine R_iload_n 48 dX7_holdsFrom_47 rfl rfl ?_
      refine R_ireturn dX7_holdsFrom_48 rfl rfl ?_
      have e : stX7_holdsFrom f ar a  = .inl (nI a) := by unfold stX7_holdsFrom; rw [if_pos c1]
      have e2 : (itX7_holdsFrom f ar (j + 1) a ) = nI a := itX7_holdsFrom_r e
      rw [e2]; exact ⟨rfl, rfl⟩
theorem hf_tw {f : Nat → Int32} {ar : Nat → Nat → Int32} {v : Int32} (hk : mOk f ar) : mOk (upd f 10 5) (up2 ar 1 (upd (ar 1) (0 : Int32).toNatClampNeg v)) := tw0_ok (f := upd f 10 5) (ar := ar) hk
theorem r240 {x : Int32} (h : x.toNatClampNeg ≤ 12) : x.toInt ≤ 240 := by
  unfold Int32.toNatClampNeg at h
  omega
def sX7_holdsFrom (f : Nat → Int32) (ar : Nat → Nat → Int32) (v : Int32) : Int32 × (Nat → Int32) × (Nat → Nat → Int32) := ((itX7_holdsFrom (upd ((sX7_thinksWith (upd f 10 5) ar 0 v 240).2.1) 10 (f 10)) ((sX7_thinksWith (upd f 10 5) ar 0 v 240).2.2) 240 0 ), (upd ((sX7_thinksWith (upd f 10 5) ar 0 v 240).2.1) 10 (f 10)), ((sX7_thinksWith (upd f 10 5) ar 0 v 240).2.2))
set_option maxRecDepth 20000 in
theorem eX7_holdsFrom {G : zG} {h1 : List va_E} {f : Nat → Int32} {ar : Nat → Nat → Int32} {v : Int32} (hk : mOk f ar) : EvF G mX7_holdsFrom [.ref 100, .int v] (h1, hM G f ar) (some (.int ((sX7_holdsFrom f ar v).1))) (h1, hM G ((sX7_holdsFrom f ar v).2.1) ((sX7_holdsFrom f ar v).2.2)) := by
  generalize hs : (sX7_holdsFrom f ar v) = zz
  refine EvF.of pnX7 rfl ?_
  refine R_aload_n 1 dX7_holdsFrom_0 rfl rfl ?_
  refine R_get 4 dX7_holdsFrom_1 rfl fX7_135 rfl (v := .int (f 10)) rfl ?_
  refine R_istore_n 5 dX7_holdsFrom_4 rfl rfl (by decide) (loc' := [(0, .ref 100), (1, .int v), (2, .int (f 10))]) rfl ?_
  refine R_aload_n 6 dX7_holdsFrom_5 rfl rfl ?_
  refine R_iconst 7 dX7_holdsFrom_6 rfl (v := 5) (by decide) ?_
  refine R_put 10 dX7_holdsFrom_7 rfl wX7_135 rfl rfl rfl rfl (h2 := (h1, hM G (upd f 10 5) ar)) mp_10 ?_
  refine R_aload_n 11 dX7_holdsFrom_10 rfl rfl ?_
  refine R_iconst 12 dX7_holdsFrom_11 rfl (v := 0) (by decide) ?_
  refine R_iload_n 13 dX7_holdsFrom_12 rfl rfl ?_
  refine R_sipush 16 dX7_holdsFrom_13 rfl (v := 240) (by decide) ?_
  refine R_callVi 19 (eX7_thinksWith (vin_d (by decide)) (hf_tw hk) (by decide)) dX7_holdsFrom_16 rfl kX7_thinksWith lX7_247 rfl rfl rfl rfl rfl rfl rfl ?_
  generalize hz1_ : (sX7_thinksWith (upd f 10 5) ar 0 v 240).2.1 = z1_
  generalize hz2_ : (sX7_thinksWith (upd f 10 5) ar 0 v 240).2.2 = z2_
  refine R_pop 20 dX7_holdsFrom_19 rfl rfl ?_
  refine R_aload_n 21 dX7_holdsFrom_20 rfl rfl ?_
  refine R_iload_n 22 dX7_holdsFrom_21 rfl rfl ?_
  refine R_put 25 dX7_holdsFrom_22 rfl wX7_135 rfl rfl rfl rfl (h2 := (h1, hM G (upd z1_ 10 (f 10)) z2_)) mp_10 ?_
  refine R_iconst 26 dX7_holdsFrom_25 rfl (v := 0) (by decide) ?_
  refine R_istore_n 27 dX7_holdsFrom_26 rfl rfl (by decide) (loc' := [(0, .ref 100), (1, .int v), (2, .int (f 10)), (3, .int 0)]) rfl ?_
  subst hz1_ hz2_
  refine R_pick [0, 3] rfl ?_
  have e : zz = ((itX7_holdsFrom (upd ((sX7_thinksWith (upd f 10 5) ar 0 v 240).2.1) 10 (f 10)) ((sX7_thinksWith (upd f 10 5) ar 0 v 240).2.2) 240 0 ), (upd ((sX7_thinksWith (upd f 10 5) ar 0 v 240).2.1) 10 (f 10)), ((sX7_thinksWith (upd f 10 5) ar 0 v 240).2.2)) := by rw [← hs]; unfold sX7_holdsFrom; rfl
  rw [pr1 e, pr1 (pr2 e), pr2 (pr2 e)]; exact lpX7_holdsFrom 240 0  rfl
theorem hf_kt {f : Nat → Int32} {ar : Nat → Nat → Int32} {v : Int32} (hk : mOk f ar) : kt f ar (sX7_holdsFrom f ar v).2.1 (sX7_holdsFrom f ar v).2.2 := by
  obtain ⟨k1, k2⟩ := tw_kt (f := upd f 10 5) (ar := ar) (w := 0) (v := v) (x := 240) (hf_tw hk) (by decide)
  refine ⟨fun j h => ?_, k2⟩
  show upd (sX7_thinksWith (upd f 10 5) ar 0 v 240).2.1 10 (f 10) j = f j
  by_cases h1 : j = 10
  · subst h1; rfl
  · rw [upd_ne h1, k1 j h, upd_ne h1]
def sX7_holds (f : Nat → Int32) (ar : Nat → Nat → Int32) (v : Int32) : Int32 × (Nat → Int32) × (Nat → Nat → Int32) := if (sX7_bound v (-99) 99) = 0 then ((sX7_holdsFrom f ar v).1, ((sX7_holdsFrom f ar v).2.1), ((sX7_holdsFrom f ar v).2.2)) else ((sX7_no ar (sX7_bound v (-99) 99)).1, f, ((sX7_no ar (sX7_bound v (-99) 99)).2))
set_option maxRecDepth 20000 in
theorem eX7_holds {G : zG} {h1 : List va_E} {f : Nat → Int32} {ar : Nat → Nat → Int32} {v : Int32} (hk : mOk f ar) : EvF G mX7_holds [.ref 100, .int v] (h1, hM G f ar) (some (.int ((sX7_holds f ar v).1))) (h1, hM G ((sX7_holds f ar v).2.1) ((sX7_holds f ar v).2.2)) := by
  generalize hs : (sX7_holds f ar v) = zz
  refine EvF.of pnX7 rfl ?_
  refine R_iload_n 1 dX7_holds_0 rfl rfl ?_
  refine R_bipush 3 dX7_holds_1 rfl (v := (-99)) (by decide) ?_
  refine R_bipush 5 dX7_holds_3 rfl (v := 99) (by decide) ?_
  refine R_callSi 8 eX7_bound dX7_holds_5 rfl kX7_bound lX7_69 rfl rfl rfl rfl rfl ?_
  refine R_istore_n 9 dX7_holds_8 rfl rfl (by decide) (loc' := [(0, .ref 100), (1, .int v), (2, .int (sX7_bound v (-99) 99))]) rfl ?_
  refine R_iload_n 10 dX7_holds_9 rfl rfl ?_
  refine R_if_eq 13 21 dX7_holds_10 rfl (by decide) (fun c1 => ?_) (fun c1 => ?_)
  ·
    refine R_aload_n 22 dX7_holds_21 rfl rfl ?_
    refine R_iload_n 23 dX7_holds_22 rfl rfl ?_
    refine R_callVi 26 (eX7_holdsFrom hk) dX7_holds_23 rfl kX7_holdsFrom lX7_268 rfl rfl rfl rfl rfl rfl rfl ?_
    generalize hz1_ : (sX7_holdsFrom f ar v).2.1 = z1_
    generalize hz2_ : (sX7_holdsFrom f ar v).2.2 = z2_
    refine R_ireturn dX7_holds_26 rfl rfl ?_
    subst hz1_ hz2_
    have e : zz = ((sX7_holdsFrom f ar v).1, ((sX7_holdsFrom f ar v).2.1), ((sX7_holdsFrom f ar v).2.2)) := by rw [← hs]; unfold sX7_holds; rw [if_pos c1]
    rw [pr1 e, pr1 (pr2 e), pr2 (pr2 e)]; exact ⟨rfl, rfl⟩
  ·
    refine R_aload_n 14 dX7_holds_13 rfl rfl ?_
    refine R_iload_n 15 dX7_holds_14 rfl rfl ?_
    refine R_callVi 18 (eX7_no (bd_in c1)) dX7_holds_15 rfl kX7_no lX7_76 rfl rfl rfl rfl rfl rfl rfl ?_
    generalize hz3_ : (sX7_no ar (sX7_bound v (-99) 99)).2 = z3_
    refine R_goto 26 dX7_holds_18 (by decide) ?_
    refine R_ireturn dX7_holds_26 rfl rfl ?_
    subst hz3_
    have e : zz = ((sX7_no ar (sX7_bound v (-99) 99)).1, f, ((sX7_no ar (sX7_bound v (-99) 99)).2)) := by rw [← hs]; unfold sX7_holds; rw [if_neg c1]
    rw [pr1 e, pr1 (pr2 e), pr2 (pr2 e)]; exact ⟨rfl, rfl⟩
def exX7_setAt  (a : Nat) (f : Nat → Int32) (ar : Nat → Nat → Int32) (be : Int32) (lo : Int32) (v : Int32) : Int32 × (Nat → Int32) × (Nat → Nat → Int32) := (be + 20, f, ar)
def stX7_setAt  (a : Nat) (f : Nat → Int32) (ar : Nat → Nat → Int32) (be : Int32) (lo : Int32) (v : Int32) : (Nat → Int32) × (Nat → Nat → Int32) × Int32 × Int32 × Int32 := if lo < (if 0 ≤ ((sX7_holdsFrom f ar v).1) then ((sX7_holdsFrom f ar v).1) else 240) then (((sX7_holdsFrom f ar v).2.1), ((sX7_holdsFrom f ar v).2.2), v, if 0 ≤ ((sX7_holdsFrom f ar v).1) then ((sX7_holdsFrom f ar v).1) else 240, v + 1) else (((sX7_holdsFrom f ar v).2.1), ((sX7_holdsFrom f ar v).2.2), be, lo, v + 1)
def itX7_setAt  (j a : Nat) (f : Nat → Int32) (ar : Nat → Nat → Int32) (be : Int32) (lo : Int32) (v : Int32) : Int32 × (Nat → Int32) × (Nat → Nat → Int32) := itF (fun a (s : (Nat → Int32) × (Nat → Nat → Int32) × Int32 × Int32 × Int32) => exX7_setAt  a s.1 s.2.1 s.2.2.1 s.2.2.2.1 s.2.2.2.2) (fun a (s : (Nat → Int32) × (Nat → Nat → Int32) × Int32 × Int32 × Int32) => stX7_setAt  a s.1 s.2.1 s.2.2.1 s.2.2.2.1 s.2.2.2.2) j a (f, ar, be, lo, v)
theorem itX7_setAt_n  {j a : Nat} {f : Nat → Int32} {ar : Nat → Nat → Int32} {be : Int32} {lo : Int32} {v : Int32} {s0_ : Nat → Int32} {s1_ : Nat → Nat → Int32} {s2_ : Int32} {s3_ : Int32} {s4_ : Int32} (e : stX7_setAt  a f ar be lo v = (s0_, s1_, s2_, s3_, s4_)) : (itX7_setAt  (j + 1) a f ar be lo v) = (itX7_setAt  j (a + 1) s0_ s1_ s2_ s3_ s4_) := itF_n (st := fun a (s : (Nat → Int32) × (Nat → Nat → Int32) × Int32 × Int32 × Int32) => stX7_setAt  a s.1 s.2.1 s.2.2.1 s.2.2.2.1 s.2.2.2.2) (s := (f, ar, be, lo, v)) (s1 := (s0_, s1_, s2_, s3_, s4_)) e
set_option maxRecDepth 20000 in
theorem lpX7_setAt {G : zG} {h1 : List va_E}  : ∀ (j a : Nat) (f : Nat → Int32) (ar : Nat → Nat → Int32) (be : Int32) (lo : Int32) (v : Int32), (a + j = 41 ∧ v.toInt = a - 20 ∧ mOk f ar) → R G mX7_setAt 7 [(0, .ref 100), (1, .int be), (2, .int lo), (3, .int v)] [] (h1, hM G f ar) (fun r0 h0 => r0 = some (.int ((itX7_setAt  j a f ar be lo v).1)) ∧ h0 = (h1, hM G ((itX7_setAt  j a f ar be lo v).2.1) ((itX7_setAt  j a f ar be lo v).2.2))) := by
  intro j
  induction j with
  | zero =>
    intro a f ar be lo v hj
    have hc : (20 : Int32) < v := by rw [Int32.lt_iff_toInt_lt, hj.2.1, show (20 : Int32).toInt = 20 by decide]; omega
    refine R_iload_n 8 dX7_setAt_7 rfl rfl ?_
    refine R_bipush 10 dX7_setAt_8 rfl (v := 20) (by decide) ?_
    refine R_icmp_gt 13 55 dX7_setAt_10 rfl (by decide) (fun _ => ?_) (fun c => absurd hc c)
    refine R_iload_n 56 dX7_setAt_55 rfl rfl ?_
    refine R_bipush 58 dX7_setAt_56 rfl (v := 20) (by decide) ?_
    refine R_iadd 59 dX7_setAt_58 rfl ?_
    refine R_ireturn dX7_setAt_59 rfl rfl ?_
    have e : (itX7_setAt  0 a f ar be lo v) = (be + 20, f, ar) := rfl
    rw [e]; exact ⟨rfl, rfl⟩
  | succ j ih =>
    intro a f ar be lo v hj
    have hc : ¬ (20 : Int32) < v := by rw [Int32.lt_iff_toInt_lt, hj.2.1, show (20 : Int32).toInt = 20 by decide]; omega
    refine R_iload_n 8 dX7_setAt_7 rfl rfl ?_
    refine R_bipush 10 dX7_setAt_8 rfl (v := 20) (by decide) ?_
    refine R_icmp_gt 13 55 dX7_setAt_10 rfl (by decide) (fun c => absurd c hc) (fun _ => ?_)
    refine R_aload_n 14 dX7_setAt_13 rfl rfl ?_
    refine R_iload_n 15 dX7_setAt_14 rfl rfl ?_
    refine R_callVi 18 (eX7_holdsFrom hj.2.2) dX7_setAt_15 rfl kX7_holdsFrom lX7_268 rfl rfl rfl rfl rfl rfl rfl ?_
    generalize hz1_ : (sX7_holdsFrom f ar v).2.1 = z1_
    generalize hz2_ : (sX7_holdsFrom f ar v).2.2 = z2_
    refine R_nm2 (fun z3_ hz3_ => ?_)
    refine R_istore 20 dX7_setAt_18 rfl rfl (by decide) (loc' := [(0, .ref 100), (1, .int be), (2, .int lo), (3, .int v), (4, .int z3_)]) rfl ?_
    refine R_iload 22 dX7_setAt_20 rfl rfl ?_
    refine R_cut 33 [(0, .ref 100), (1, .int be), (2, .int lo), (3, .int v), (4, .int z3_)] (.int (if 0 ≤ z3_ then z3_ else 240) :: []) (h1, hM G z1_ z2_) ?_ (fun kj => ?_)
    ·
      refine R_istore 35 dX7_setAt_33 rfl rfl (by decide) (loc' := [(0, .ref 100), (1, .int be), (2, .int lo), (3, .int v), (4, .int (if 0 ≤ z3_ then z3_ else 240))]) rfl ?_
      refine R_iload 37 dX7_setAt_35 rfl rfl ?_
      refine R_iload_n 38 dX7_setAt_37 rfl rfl ?_
      refine R_icmp_gt 41 44 dX7_setAt_38 rfl (by decide) (fun c2 => ?_) (fun c2 => ?_)
      ·
        refine R_iload_n 45 dX7_setAt_44 rfl rfl ?_
        refine R_istore_n 46 dX7_setAt_45 rfl rfl (by decide) (loc' := [(0, .ref 100), (1, .int v), (2, .int lo), (3, .int v), (4, .int (if 0 ≤ z3_ then z3_ else 240))]) rfl ?_
        refine R_iload 48 dX7_setAt_46 rfl rfl ?_
        refine R_istore_n 49 dX7_setAt_48 rfl rfl (by decide) (loc' := [(0, .ref 100), (1, .int v), (2, .int (if 0 ≤ z3_ then z3_ else 240)), (3, .int v), (4, .int (if 0 ≤ z3_ then z3_ else 240))]) rfl ?_
        refine R_iinc 52 dX7_setAt_49 rfl rfl (v := (v + 1)) rfl rfl (by decide) (loc' := [(0, .ref 100), (1, .int v), (2, .int (if 0 ≤ z3_ then z3_ else 240)), (3, .int (v + 1)), (4, .int (if 0 ≤ z3_ then z3_ else 240))]) rfl ?_
        refine R_goto 7 dX7_setAt_52 (by decide) ?_
        subst hz1_ hz2_ hz3_
        refine R_pick [0, 1, 2, 3] rfl ?_
        have e : stX7_setAt  a f ar be lo v = (((sX7_holdsFrom f ar v).2.1), ((sX7_holdsFrom f ar v).2.2), v, if 0 ≤ ((sX7_holdsFrom f ar v).1) then ((sX7_holdsFrom f ar v).1) else 240, v + 1) := by unfold stX7_setAt; rw [if_pos c2]
        have e2 : (itX7_setAt  (j + 1) a f ar be lo v) = (itX7_setAt  j (a + 1) ((sX7_holdsFrom f ar v).2.1) ((sX7_holdsFrom f ar v).2.2) v (if 0 ≤ ((sX7_holdsFrom f ar v).1) then ((sX7_holdsFrom f ar v).1) else 240) (v + 1)) := itX7_setAt_n e
        rw [e2]; exact ih (a + 1) ((sX7_holdsFrom f ar v).2.1) ((sX7_holdsFrom f ar v).2.2) v (if 0 ≤ ((sX7_holdsFrom f ar v).1) then ((sX7_holdsFrom f ar v).1) else 240) (v + 1) ⟨by omega, by rw [i_s1 (by omega)]; omega, (hf_kt hj.2.2).ok hj.2.2⟩
      ·
        refine R_goto 49 dX7_setAt_41 (by decide) ?_
        refine R_iinc 52 dX7_setAt_49 rfl rfl (v := (v + 1)) rfl rfl (by decide) (loc' := [(0, .ref 100), (1, .int be), (2, .int lo), (3, .int (v + 1)), (4, .int (if 0 ≤ z3_ then z3_ else 240))]) rfl ?_
        refine R_goto 7 dX7_setAt_52 (by decide) ?_
        subst hz1_ hz2_ hz3_
        refine R_pick [0, 1, 2, 3] rfl ?_
        have e : stX7_setAt  a f ar be lo v = (((sX7_holdsFrom f ar v).2.1), ((sX7_holdsFrom f ar v).2.2), be, lo, v + 1) := by unfold stX7_setAt; rw [if_neg c2]
        have e2 : (itX7_setAt  (j + 1) a f ar be lo v) = (itX7_setAt  j (a + 1) ((sX7_holdsFrom f ar v).2.1) ((sX7_holdsFrom f ar v).2.2) be lo (v + 1)) := itX7_setAt_n e
        rw [e2]; exact ih (a + 1) ((sX7_holdsFrom f ar v).2.1) ((sX7_holdsFrom f ar v).2.2) be lo (v + 1) ⟨by omega, by rw [i_s1 (by omega)]; omega, (hf_kt hj.2.2).ok hj.2.2⟩
    refine R_if_ge 25 31 dX7_setAt_22 rfl (by decide) (fun c1 => ?_) (fun c1 => ?_)
    · refine R_iload 33 dX7_setAt_31 rfl rfl ?_
      rw [if_pos c1] at kj; exact kj
    · refine R_sipush 28 dX7_setAt_25 rfl (v := 240) (by decide) ?_
      refine R_goto 33 dX7_setAt_28 (by decide) ?_
      rw [if_neg c1] at kj; exact kj
def sX7_setAt (f : Nat → Int32) (ar : Nat → Nat → Int32) : Int32 × (Nat → Int32) × (Nat → Nat → Int32) := ((itX7_setAt  41 0 f ar 0 (-1) (-20)).1, (itX7_setAt  41 0 f ar 0 (-1) (-20)).2.1, (itX7_setAt  41 0 f ar 0 (-1) (-20)).2.2)
set_option maxRecDepth 20000 in
theorem eX7_setAt {G : zG} {h1 : List va_E} {f : Nat → Int32} {ar : Nat → Nat → Int32} (hk : mOk f ar) : EvF G mX7_setAt [.ref 100] (h1, hM G f ar) (some (.int ((sX7_setAt f ar).1))) (h1, hM G ((sX7_setAt f ar).2.1) ((sX7_setAt f ar).2.2)) := by
  generalize hs : (sX7_setAt f ar) = zz
  refine EvF.of pnX7 rfl ?_
  refine R_iconst 1 dX7_setAt_0 rfl (v := 0) (by decide) ?_
  refine R_istore_n 2 dX7_setAt_1 rfl rfl (by decide) (loc' := [(0, .ref 100), (1, .int 0)]) rfl ?_
  refine R_iconst 3 dX7_setAt_2 rfl (v := (-1)) (by decide) ?_
  refine R_istore_n 4 dX7_setAt_3 rfl rfl (by decide) (loc' := [(0, .ref 100), (1, .int 0), (2, .int (-1))]) rfl ?_
  refine R_bipush 6 dX7_setAt_4 rfl (v := (-20)) (by decide) ?_
  refine R_istore_n 7 dX7_setAt_6 rfl rfl (by decide) (loc' := [(0, .ref 100), (1, .int 0), (2, .int (-1)), (3, .int (-20))]) rfl ?_
  refine R_pick [0, 1, 2, 3] rfl ?_
  have e : zz = ((itX7_setAt  41 0 f ar 0 (-1) (-20)).1, (itX7_setAt  41 0 f ar 0 (-1) (-20)).2.1, (itX7_setAt  41 0 f ar 0 (-1) (-20)).2.2) := by rw [← hs]; unfold sX7_setAt; rfl
  rw [pr1 e, pr1 (pr2 e), pr2 (pr2 e)]; exact lpX7_setAt 41 0 f ar 0 (-1) (-20) ⟨rfl, by decide, hk⟩
def exX7_isStill (f : Nat → Int32) (ar : Nat → Nat → Int32) (t : Int32) (a : Nat)  : Bool := true
def stX7_isStill (f : Nat → Int32) (ar : Nat → Nat → Int32) (t : Int32) (a : Nat)  : (Bool) ⊕ (Unit) := if (sX7_driftIn f ar (t + (nI a))) = 0 then .inr () else .inl false
def itX7_isStill (f : Nat → Int32) (ar : Nat → Nat → Int32) (t : Int32) (j a : Nat)  : Bool := itG (fun a (s : Unit) => exX7_isStill f ar t a ) (fun a (s : Unit) => stX7_isStill f ar t a ) j a ()
theorem itX7_isStill_r {f : Nat → Int32} {ar : Nat → Nat → Int32} {t : Int32} {j a : Nat}  {r : Bool} (e : stX7_isStill f ar t a  = .inl r) : (itX7_isStill f ar t (j + 1) a ) = r := itG_r (st := fun a (s : Unit) => stX7_isStill f ar t a ) (s := ()) e
theorem itX7_isStill_n {f : Nat → Int32} {ar : Nat → Nat → Int32} {t : Int32} {j a : Nat}   (e : stX7_isStill f ar t a  = .inr ()) : (itX7_isStill f ar t (j + 1) a ) = (itX7_isStill f ar t j (a + 1) ) := itG_n (st := fun a (s : Unit) => stX7_isStill f ar t a ) (s := ()) (s1 := ()) e
set_option maxRecDepth 20000 in
theorem lpX7_isStill {G : zG} {h1 : List va_E} {f : Nat → Int32} {ar : Nat → Nat → Int32} {t : Int32} : ∀ (j a : Nat) , a + j = 10 → R G mX7_isStill 2 [(0, .ref 100), (1, .int t), (2, .int (nI a))] [] (h1, hM G f ar) (fun r0 h0 => r0 = some (.int (b2i (itX7_isStill f ar t j a ))) ∧ h0 = (h1, hM G f ar)) := by
  intro j
  induction j with
  | zero =>
    intro a  hj
    have hc : (10 : Int32) ≤ nI a := by show nI 10 ≤ nI a; exact nI_le (by omega) (by omega)
    refine R_iload_n 3 dX7_isStill_2 rfl rfl ?_
    refine R_bipush 5 dX7_isStill_3 rfl (v := 10) (by decide) ?_
    refine R_icmp_ge 8 26 dX7_isStill_5 rfl (by decide) (fun _ => ?_) (fun c => absurd hc c)
    refine R_iconst 27 dX7_isStill_26 rfl (v := 1) (by decide) ?_
    refine R_ireturn dX7_isStill_27 rfl (by decide) ?_
    have e : (itX7_isStill f ar t 0 a ) = true := rfl
    rw [e]; exact ⟨rfl, rfl⟩
  | succ j ih =>
    intro a  hj
    have hc : ¬ (10 : Int32) ≤ nI a := by show ¬ nI 10 ≤ nI a; exact nI_ge (by omega) (by omega)
    refine R_iload_n 3 dX7_isStill_2 rfl rfl ?_
    refine R_bipush 5 dX7_isStill_3 rfl (v := 10) (by decide) ?_
    refine R_icmp_ge 8 26 dX7_isStill_5 rfl (by decide) (fun c => absurd c hc) (fun _ => ?_)
    refine R_aload_n 9 dX7_isStill_8 rfl rfl ?_
    refine R_iload_n 10 dX7_isStill_9 rfl rfl ?_
    refine R_iload_n 11 dX7_isStill_10 rfl rfl ?_
    refine R_iadd 12 dX7_isStill_11 rfl ?_
    refine R_callVi 15 eX7_driftIn dX7_isStill_12 rfl kX7_driftIn lX7_188 rfl rfl rfl rfl rfl rfl rfl ?_
    refine R_if_eq 18 20 dX7_isStill_15 rfl (by decide) (fun c1 => ?_) (fun c1 => ?_)
    ·
      refine R_iinc 23 dX7_isStill_20 rfl rfl (v := (nI (a + 1))) (nI_1 a) rfl (by decide) (loc' := [(0, .ref 100), (1, .int t), (2, .int (nI (a + 1)))]) rfl ?_
      refine R_goto 2 dX7_isStill_23 (by decide) ?_
      refine R_pick [0, 1, 2] rfl ?_
      have e : stX7_isStill f ar t a  = .inr () := by unfold stX7_isStill; rw [if_pos c1]
      have e2 : (itX7_isStill f ar t (j + 1) a ) = (itX7_isStill f ar t j (a + 1) ) := itX7_isStill_n e
      rw [e2]; exact ih (a + 1)  (by omega)
    ·
      refine R_iconst 19 dX7_isStill_18 rfl (v := 0) (by decide) ?_
      refine R_ireturn dX7_isStill_19 rfl (by decide) ?_
      have e : stX7_isStill f ar t a  = .inl false := by unfold stX7_isStill; rw [if_neg c1]
      have e2 : (itX7_isStill f ar t (j + 1) a ) = false := itX7_isStill_r e
      rw [e2]; exact ⟨rfl, rfl⟩
def sX7_isStill (f : Nat → Int32) (ar : Nat → Nat → Int32) (t : Int32) : Bool := (itX7_isStill f ar t 10 0 )
set_option maxRecDepth 20000 in
theorem eX7_isStill {G : zG} {h1 : List va_E} {f : Nat → Int32} {ar : Nat → Nat → Int32} {t : Int32} : EvF G mX7_isStill [.ref 100, .int t] (h1, hM G f ar) (some (.int (b2i (sX7_isStill f ar t)))) (h1, hM G f ar) := by
  generalize hs : (sX7_isStill f ar t) = zz
  refine EvF.of pnX7 rfl ?_
  refine R_iconst 1 dX7_isStill_0 rfl (v := 0) (by decide) ?_
  refine R_istore_n 2 dX7_isStill_1 rfl rfl (by decide) (loc' := [(0, .ref 100), (1, .int t), (2, .int 0)]) rfl ?_
  refine R_pick [0, 1, 2] rfl ?_
  have e : zz = (itX7_isStill f ar t 10 0 ) := by rw [← hs]; unfold sX7_isStill; rfl
  subst e; exact lpX7_isStill 10 0  rfl
def exX7_steadyFrom (f : Nat → Int32) (ar : Nat → Nat → Int32) (a : Nat)  : Int32 := (-9)
def stX7_steadyFrom (f : Nat → Int32) (ar : Nat → Nat → Int32) (a : Nat)  : (Int32) ⊕ (Unit) := if (sX7_isStill f ar ((f 12) + (nI a))) = true then .inl (nI a) else .inr ()
def itX7_steadyFrom (f : Nat → Int32) (ar : Nat → Nat → Int32) (j a : Nat)  : Int32 := itG (fun a (s : Unit) => exX7_steadyFrom f ar a ) (fun a (s : Unit) => stX7_steadyFrom f ar a ) j a ()
theorem itX7_steadyFrom_r {f : Nat → Int32} {ar : Nat → Nat → Int32} {j a : Nat}  {r : Int32} (e : stX7_steadyFrom f ar a  = .inl r) : (itX7_steadyFrom f ar (j + 1) a ) = r := itG_r (st := fun a (s : Unit) => stX7_steadyFrom f ar a ) (s := ()) e
theorem itX7_steadyFrom_n {f : Nat → Int32} {ar : Nat → Nat → Int32} {j a : Nat}   (e : stX7_steadyFrom f ar a  = .inr ()) : (itX7_steadyFrom f ar (j + 1) a ) = (itX7_steadyFrom f ar j (a + 1) ) := itG_n (st := fun a (s : Unit) => stX7_steadyFrom f ar a ) (s := ()) (s1 := ()) e
set_option maxRecDepth 20000 in
theorem lpX7_steadyFrom {G : zG} {h1 : List va_E} {f : Nat → Int32} {ar : Nat → Nat → Int32} : ∀ (j a : Nat) , a + j = 241 → R G mX7_steadyFrom 2 [(0, .ref 100), (1, .int (nI a))] [] (h1, hM G f ar) (fun r0 h0 => r0 = some (.int (itX7_steadyFrom f ar j a )) ∧ h0 = (h1, hM G f ar)) := by
  intro j
  induction j with
  | zero =>
    intro a  hj
    have hc : (240 : Int32) < nI a := by show nI 240 < nI a; exact nI_lt (by omega) (by omega)
    refine R_iload_n 3 dX7_steadyFrom_2 rfl rfl ?_
    refine R_sipush 6 dX7_steadyFrom_3 rfl (v := 240) (by decide) ?_
    refine R_icmp_gt 9 30 dX7_steadyFrom_6 rfl (by decide) (fun _ => ?_) (fun c => absurd hc c)
    refine R_bipush 32 dX7_steadyFrom_30 rfl (v := (-9)) (by decide) ?_
    refine R_ireturn dX7_steadyFrom_32 rfl rfl ?_
    have e : (itX7_steadyFrom f ar 0 a ) = (-9) := rfl
    rw [e]; exact ⟨rfl, rfl⟩
  | succ j ih =>
    intro a  hj
    have hc : ¬ (240 : Int32) < nI a := by show ¬ nI 240 < nI a; exact nI_nlt (by omega) (by omega)
    refine R_iload_n 3 dX7_steadyFrom_2 rfl rfl ?_
    refine R_sipush 6 dX7_steadyFrom_3 rfl (v := 240) (by decide) ?_
    refine R_icmp_gt 9 30 dX7_steadyFrom_6 rfl (by decide) (fun c => absurd c hc) (fun _ => ?_)
    refine R_aload_n 10 dX7_steadyFrom_9 rfl rfl ?_
    refine R_aload_n 11 dX7_steadyFrom_10 rfl rfl ?_
    refine R_get 14 dX7_steadyFrom_11 rfl fX7_138 rfl (v := .int (f 12)) rfl ?_
    refine R_iload_n 15 dX7_steadyFrom_14 rfl rfl ?_
    refine R_iadd 16 dX7_steadyFrom_15 rfl ?_
    refine R_callVi 19 eX7_isStill dX7_steadyFrom_16 rfl kX7_isStill lX7_271 rfl rfl rfl rfl rfl rfl rfl ?_
    refine R_ifb_eq 22 24 dX7_steadyFrom_19 rfl (by decide) (fun c1 => ?_) (fun c1 => ?_)
    ·
      refine R_iinc 27 dX7_steadyFrom_24 rfl rfl (v := (nI (a + 1))) (nI_1 a) rfl (by decide) (loc' := [(0, .ref 100), (1, .int (nI (a + 1)))]) rfl ?_
      refine R_goto 2 dX7_steadyFrom_27 (by decide) ?_
      refine R_pick [0, 1] rfl ?_
      have e : stX7_steadyFrom f ar a  = .inr () := by unfold stX7_steadyFrom; rw [if_neg c1]
      have e2 : (itX7_steadyFrom f ar (j + 1) a ) = (itX7_steadyFrom f ar j (a + 1) ) := itX7_steadyFrom_n e
      rw [e2]; exact ih (a + 1)  (by omega)
    ·
      refine R_iload_n 23 dX7_steadyFrom_22 rfl rfl ?_
      refine R_ireturn dX7_steadyFrom_23 rfl rfl ?_
      have e : stX7_steadyFrom f ar a  = .inl (nI a) := by unfold stX7_steadyFrom; rw [if_pos c1]
      have e2 : (itX7_steadyFrom f ar (j + 1) a ) = nI a := itX7_steadyFrom_r e
      rw [e2]; exact ⟨rfl, rfl⟩
def sX7_steadyFrom (f : Nat → Int32) (ar : Nat → Nat → Int32) : Int32 := (itX7_steadyFrom f ar 241 0 )
set_option maxRecDepth 20000 in
theorem eX7_steadyFrom {G : zG} {h1 : List va_E} {f : Nat → Int32} {ar : Nat → Nat → Int32} : EvF G mX7_steadyFrom [.ref 100] (h1, hM G f ar) (some (.int (sX7_steadyFrom f ar))) (h1, hM G f ar) := by
  generalize hs : (sX7_steadyFrom f ar) = zz
  refine EvF.of pnX7 rfl ?_
  refine R_iconst 1 dX7_steadyFrom_0 rfl (v := 0) (by decide) ?_
  refine R_istore_n 2 dX7_steadyFrom_1 rfl rfl (by decide) (loc' := [(0, .ref 100), (1, .int 0)]) rfl ?_
  refine R_pick [0, 1] rfl ?_
  have e : zz = (itX7_steadyFrom f ar 241 0 ) := by rw [← hs]; unfold sX7_steadyFrom; rfl
  subst e; exact lpX7_steadyFrom 241 0  rfl
theorem sz_in {x y : Int32} {n : Nat} (hy : y.toInt = n) (h0 : 0 ≤ x.toInt ∧ x.toInt ≤ n) (h1 : ¬ x = y) : vp_in x n := by
  have h2 : x.toInt ≠ y.toInt := fun e => h1 (Int32.toInt_inj.mp e)
  rw [vp_in_iff]
  omega
def sX7_row (f : Nat → Int32) (ar : Nat → Nat → Int32) (v : Int32) : Int32 × (Nat → Int32) × (Nat → Nat → Int32) := if (sX7_bound v 0 99) = 0 then (if (f 35) = 12 then ((sX7_no ar (-6)).1, f, ((sX7_no ar (-6)).2)) else (((f 35) + 1), (upd f 35 ((f 35) + 1)), (up2 ar 34 (upd (ar 34) (f 35).toNatClampNeg v)))) else ((sX7_no ar (sX7_bound v 0 99)).1, f, ((sX7_no ar (sX7_bound v 0 99)).2))
set_option maxRecDepth 20000 in
theorem eX7_row {G : zG} {h1 : List va_E} {f : Nat → Int32} {ar : Nat → Nat → Int32} {v : Int32} (h0 : 0 ≤ (f 35).toInt ∧ (f 35).toInt ≤ 12) : EvF G mX7_row [.ref 100, .int v] (h1, hM G f ar) (some (.int ((sX7_row f ar v).1))) (h1, hM G ((sX7_row f ar v).2.1) ((sX7_row f ar v).2.2)) := by
  generalize hs : (sX7_row f ar v) = zz
  refine EvF.of pnX7 rfl ?_
  refine R_iload_n 1 dX7_row_0 rfl rfl ?_
  refine R_iconst 2 dX7_row_1 rfl (v := 0) (by decide) ?_
  refine R_bipush 4 dX7_row_2 rfl (v := 99) (by decide) ?_
  refine R_callSi 7 eX7_bound dX7_row_4 rfl kX7_bound lX7_69 rfl rfl rfl rfl rfl ?_
  refine R_istore_n 8 dX7_row_7 rfl rfl (by decide) (loc' := [(0, .ref 100), (1, .int v), (2, .int (sX7_bound v 0 99))]) rfl ?_
  refine R_iload_n 9 dX7_row_8 rfl rfl ?_
  refine R_if_ne 12 24 dX7_row_9 rfl (by decide) (fun c1 => ?_) (fun c1 => ?_)
  ·
    refine R_iload_n 25 dX7_row_24 rfl rfl ?_
    refine R_if_eq 28 34 dX7_row_25 rfl (by decide) (fun c => absurd c c1) (fun _ => ?_)
    refine R_aload_n 29 dX7_row_28 rfl rfl ?_
    refine R_iload_n 30 dX7_row_29 rfl rfl ?_
    refine R_callVi 33 (eX7_no (bd_in c1)) dX7_row_30 rfl kX7_no lX7_76 rfl rfl rfl rfl rfl rfl rfl ?_
    generalize hz1_ : (sX7_no ar (sX7_bound v 0 99)).2 = z1_
    refine R_ireturn dX7_row_33 rfl rfl ?_
    subst hz1_
    have e : zz = ((sX7_no ar (sX7_bound v 0 99)).1, f, ((sX7_no ar (sX7_bound v 0 99)).2)) := by rw [← hs]; unfold sX7_row; rw [if_neg c1]
    rw [pr1 e, pr1 (pr2 e), pr2 (pr2 e)]; exact ⟨rfl, rfl⟩
  ·
    refine R_aload_n 13 dX7_row_12 rfl rfl ?_
    refine R_get 16 dX7_row_13 rfl fX7_274 rfl (v := .int (f 35)) rfl ?_
    refine R_bipush 18 dX7_row_16 rfl (v := 12) (by decide) ?_
    refine R_icmp_ne 21 24 dX7_row_18 rfl (by decide) (fun c2 => ?_) (fun c2 => ?_)
    ·
      refine R_iload_n 25 dX7_row_24 rfl rfl ?_
      refine R_if_eq 28 34 dX7_row_25 rfl (by decide) (fun _ => ?_) (fun c => absurd c1 c)
      refine R_aload_n 35 dX7_row_34 rfl rfl ?_
      refine R_get 38 dX7_row_35 rfl fX7_61 rfl (v := .ref 118) rfl ?_
      refine R_aload_n 39 dX7_row_38 rfl rfl ?_
      refine R_get 42 dX7_row_39 rfl fX7_274 rfl (v := .int (f 35)) rfl ?_
      refine R_iload_n 43 dX7_row_42 rfl rfl ?_
      refine R_iast 44 dX7_row_43 rfl rfl rfl (sz_in (y := 12) (by decide) h0 c2) (h2 := (h1, hM G f (up2 ar 34 (upd (ar 34) (f 35).toNatClampNeg v)))) ms_34 ?_
      refine R_aload_n 45 dX7_row_44 rfl rfl ?_
      refine R_dup 46 dX7_row_45 rfl rfl ?_
      refine R_get 49 dX7_row_46 rfl fX7_274 rfl (v := .int (f 35)) rfl ?_
      refine R_iconst 50 dX7_row_49 rfl (v := 1) (by decide) ?_
      refine R_iadd 51 dX7_row_50 rfl ?_
      refine R_nm2 (fun z2_ hz2_ => ?_)
      refine R_put 54 dX7_row_51 rfl wX7_274 rfl rfl rfl rfl (h2 := (h1, hM G (upd f 35 z2_) (up2 ar 34 (upd (ar 34) (f 35).toNatClampNeg v)))) mp_35 ?_
      refine R_aload_n 55 dX7_row_54 rfl rfl ?_
      refine R_get 58 dX7_row_55 rfl fX7_274 rfl (v := .int z2_) rfl ?_
      refine R_ireturn dX7_row_58 rfl rfl ?_
      subst hz2_
      have e : zz = (((f 35) + 1), (upd f 35 ((f 35) + 1)), (up2 ar 34 (upd (ar 34) (f 35).toNatClampNeg v))) := by rw [← hs]; unfold sX7_row; rw [if_pos c1, if_neg c2]
      rw [pr1 e, pr1 (pr2 e), pr2 (pr2 e)]; exact ⟨rfl, rfl⟩
    ·
      refine R_bipush 23 dX7_row_21 rfl (v := (-6)) (by decide) ?_
      refine R_istore_n 24 dX7_row_23 rfl rfl (by decide) (loc' := [(0, .ref 100), (1, .int v), (2, .int (-6))]) rfl ?_
      refine R_iload_n 25 dX7_row_24 rfl rfl ?_
      refine R_if_eq 28 34 dX7_row_25 rfl (by decide) (fun c => absurd c (by decide)) (fun _ => ?_)
      refine R_aload_n 29 dX7_row_28 rfl rfl ?_
      refine R_iload_n 30 dX7_row_29 rfl rfl ?_
      refine R_callVi 33 (eX7_no (vin_d (by decide))) dX7_row_30 rfl kX7_no lX7_76 rfl rfl rfl rfl rfl rfl rfl ?_
      generalize hz3_ : (sX7_no ar (-6)).2 = z3_
      refine R_ireturn dX7_row_33 rfl rfl ?_
      subst hz3_
      have e : zz = ((sX7_no ar (-6)).1, f, ((sX7_no ar (-6)).2)) := by rw [← hs]; unfold sX7_row; rw [if_pos c1, if_pos c2]
      rw [pr1 e, pr1 (pr2 e), pr2 (pr2 e)]; exact ⟨rfl, rfl⟩
def sX7_letter (f : Nat → Int32) (ar : Nat → Nat → Int32) (c : Int32) : Int32 × (Nat → Int32) × (Nat → Nat → Int32) := if (sX7_bound c 0 255) = 0 then (if (f 17) = 96 then ((sX7_no ar (-6)).1, f, ((sX7_no ar (-6)).2)) else (((f 17) + 1), (upd f 17 ((f 17) + 1)), (up2 ar 13 (upd (ar 13) (f 17).toNatClampNeg c)))) else ((sX7_no ar (sX7_bound c 0 255)).1, f, ((sX7_no ar (sX7_bound c 0 255)).2))
set_option maxRecDepth 20000 in
theorem eX7_letter {G : zG} {h1 : List va_E} {f : Nat → Int32} {ar : Nat → Nat → Int32} {c : Int32} (h0 : 0 ≤ (f 17).toInt ∧ (f 17).toInt ≤ 96) : EvF G mX7_letter [.ref 100, .int c] (h1, hM G f ar) (some (.int ((sX7_letter f ar c).1))) (h1, hM G ((sX7_letter f ar c).2.1) ((sX7_letter f ar c).2.2)) := by
  generalize hs : (sX7_letter f ar c) = zz
  refine EvF.of pnX7 rfl ?_
  refine R_iload_n 1 dX7_letter_0 rfl rfl ?_
  refine R_iconst 2 dX7_letter_1 rfl (v := 0) (by decide) ?_
  refine R_sipush 5 dX7_letter_2 rfl (v := 255) (by decide) ?_
  refine R_callSi 8 eX7_bound dX7_letter_5 rfl kX7_bound lX7_69 rfl rfl rfl rfl rfl ?_
  refine R_istore_n 9 dX7_letter_8 rfl rfl (by decide) (loc' := [(0, .ref 100), (1, .int c), (2, .int (sX7_bound c 0 255))]) rfl ?_
  refine R_iload_n 10 dX7_letter_9 rfl rfl ?_
  refine R_if_ne 13 25 dX7_letter_10 rfl (by decide) (fun c1 => ?_) (fun c1 => ?_)
  ·
    refine R_iload_n 26 dX7_letter_25 rfl rfl ?_
    refine R_if_eq 29 35 dX7_letter_26 rfl (by decide) (fun c => absurd c c1) (fun _ => ?_)
    refine R_aload_n 30 dX7_letter_29 rfl rfl ?_
    refine R_iload_n 31 dX7_letter_30 rfl rfl ?_
    refine R_callVi 34 (eX7_no (bd_in c1)) dX7_letter_31 rfl kX7_no lX7_76 rfl rfl rfl rfl rfl rfl rfl ?_
    generalize hz1_ : (sX7_no ar (sX7_bound c 0 255)).2 = z1_
    refine R_ireturn dX7_letter_34 rfl rfl ?_
    subst hz1_
    have e : zz = ((sX7_no ar (sX7_bound c 0 255)).1, f, ((sX7_no ar (sX7_bound c 0 255)).2)) := by rw [← hs]; unfold sX7_letter; rw [if_neg c1]
    rw [pr1 e, pr1 (pr2 e), pr2 (pr2 e)]; exact ⟨rfl, rfl⟩
  ·
    refine R_aload_n 14 dX7_letter_13 rfl rfl ?_
    refine R_get 17 dX7_letter_14 rfl fX7_73 rfl (v := .int (f 17)) rfl ?_
    refine R_bipush 19 dX7_letter_17 rfl (v := 96) (by decide) ?_
    refine R_icmp_ne 22 25 dX7_letter_19 rfl (by decide) (fun c2 => ?_) (fun c2 => ?_)
    ·
      refine R_iload_n 26 dX7_letter_25 rfl rfl ?_
      refine R_if_eq 29 35 dX7_letter_26 rfl (by decide) (fun _ => ?_) (fun c => absurd c1 c)
      refine R_aload_n 36 dX7_letter_35 rfl rfl ?_
      refine R_get 39 dX7_letter_36 rfl fX7_34 rfl (v := .ref 109) rfl ?_
      refine R_aload_n 40 dX7_letter_39 rfl rfl ?_
      refine R_get 43 dX7_letter_40 rfl fX7_73 rfl (v := .int (f 17)) rfl ?_
      refine R_iload_n 44 dX7_letter_43 rfl rfl ?_
      refine R_iast 45 dX7_letter_44 rfl rfl rfl (sz_in (y := 96) (by decide) h0 c2) (h2 := (h1, hM G f (up2 ar 13 (upd (ar 13) (f 17).toNatClampNeg c)))) ms_13 ?_
      refine R_aload_n 46 dX7_letter_45 rfl rfl ?_
      refine R_dup 47 dX7_letter_46 rfl rfl ?_
      refine R_get 50 dX7_letter_47 rfl fX7_73 rfl (v := .int (f 17)) rfl ?_
      refine R_iconst 51 dX7_letter_50 rfl (v := 1) (by decide) ?_
      refine R_iadd 52 dX7_letter_51 rfl ?_
      refine R_nm2 (fun z2_ hz2_ => ?_)
      refine R_put 55 dX7_letter_52 rfl wX7_73 rfl rfl rfl rfl (h2 := (h1, hM G (upd f 17 z2_) (up2 ar 13 (upd (ar 13) (f 17).toNatClampNeg c)))) mp_17 ?_
      refine R_aload_n 56 dX7_letter_55 rfl rfl ?_
      refine R_get 59 dX7_letter_56 rfl fX7_73 rfl (v := .int z2_) rfl ?_
      refine R_ireturn dX7_letter_59 rfl rfl ?_
      subst hz2_
      have e : zz = (((f 17) + 1), (upd f 17 ((f 17) + 1)), (up2 ar 13 (upd (ar 13) (f 17).toNatClampNeg c))) := by rw [← hs]; unfold sX7_letter; rw [if_pos c1, if_neg c2]
      rw [pr1 e, pr1 (pr2 e), pr2 (pr2 e)]; exact ⟨rfl, rfl⟩
    ·
      refine R_bipush 24 dX7_letter_22 rfl (v := (-6)) (by decide) ?_
      refine R_istore_n 25 dX7_letter_24 rfl rfl (by decide) (loc' := [(0, .ref 100), (1, .int c), (2, .int (-6))]) rfl ?_
      refine R_iload_n 26 dX7_letter_25 rfl rfl ?_
      refine R_if_eq 29 35 dX7_letter_26 rfl (by decide) (fun c => absurd c (by decide)) (fun _ => ?_)
      refine R_aload_n 30 dX7_letter_29 rfl rfl ?_
      refine R_iload_n 31 dX7_letter_30 rfl rfl ?_
      refine R_callVi 34 (eX7_no (vin_d (by decide))) dX7_letter_31 rfl kX7_no lX7_76 rfl rfl rfl rfl rfl rfl rfl ?_
      generalize hz3_ : (sX7_no ar (-6)).2 = z3_
      refine R_ireturn dX7_letter_34 rfl rfl ?_
      subst hz3_
      have e : zz = ((sX7_no ar (-6)).1, f, ((sX7_no ar (-6)).2)) := by rw [← hs]; unfold sX7_letter; rw [if_pos c1, if_pos c2]
      rw [pr1 e, pr1 (pr2 e), pr2 (pr2 e)]; exact ⟨rfl, rfl⟩
def exX7_firstOther (f : Nat → Int32) (ar : Nat → Nat → Int32) (a : Nat)  : Int32 := (-9)
def stX7_firstOther (f : Nat → Int32) (ar : Nat → Nat → Int32) (a : Nat)  : (Int32) ⊕ (Unit) := if 0 ≤ ((ar 26 (nI a).toNatClampNeg) + 50) then (if (if ((ar 26 (nI a).toNatClampNeg) + 50) ≤ 99 then (ar 26 (nI a).toNatClampNeg) + 50 else 99) = (ar 34 (nI a).toNatClampNeg) then .inr () else .inl (nI a)) else if 0 = (ar 34 (nI a).toNatClampNeg) then .inr () else .inl (nI a)
def itX7_firstOther (f : Nat → Int32) (ar : Nat → Nat → Int32) (j a : Nat)  : Int32 := itG (fun a (s : Unit) => exX7_firstOther f ar a ) (fun a (s : Unit) => stX7_firstOther f ar a ) j a ()
theorem itX7_firstOther_r {f : Nat → Int32} {ar : Nat → Nat → Int32} {j a : Nat}  {r : Int32} (e : stX7_firstOther f ar a  = .inl r) : (itX7_firstOther f ar (j + 1) a ) = r := itG_r (st := fun a (s : Unit) => stX7_firstOther f ar a ) (s := ()) e
theorem itX7_firstOther_n {f : Nat → Int32} {ar : Nat → Nat → Int32} {j a : Nat}   (e : stX7_firstOther f ar a  = .inr ()) : (itX7_firstOther f ar (j + 1) a ) = (itX7_firstOther f ar j (a + 1) ) := itG_n (st := fun a (s : Unit) => stX7_firstOther f ar a ) (s := ()) (s1 := ()) e
set_option maxRecDepth 20000 in
theorem lpX7_firstOther {G : zG} {h1 : List va_E} {f : Nat → Int32} {ar : Nat → Nat → Int32} : ∀ (j a : Nat) , (a + j = (f 35).toNatClampNeg ∧ (f 35).toNatClampNeg ≤ 12) → R G mX7_firstOther 2 [(0, .ref 100), (1, .int (nI a))] [] (h1, hM G f ar) (fun r0 h0 => r0 = some (.int (itX7_firstOther f ar j a )) ∧ h0 = (h1, hM G f ar)) := by
  intro j
  induction j with
  | zero =>
    intro a  hj
    have hx := cl_of (f 35)
    have hc : (f 35) ≤ nI a := cl_le (by omega) (by omega)
    refine R_iload_n 3 dX7_firstOther_2 rfl rfl ?_
    refine R_aload_n 4 dX7_firstOther_3 rfl rfl ?_
    refine R_get 7 dX7_firstOther_4 rfl fX7_274 rfl (v := .int (f 35)) rfl ?_
    refine R_icmp_ge 10 59 dX7_firstOther_7 rfl (by decide) (fun _ => ?_) (fun c => absurd hc c)
    refine R_bipush 61 dX7_firstOther_59 rfl (v := (-9)) (by decide) ?_
    refine R_ireturn dX7_firstOther_61 rfl rfl ?_
    have e : (itX7_firstOther f ar 0 a ) = (-9) := rfl
    rw [e]; exact ⟨rfl, rfl⟩
  | succ j ih =>
    intro a  hj
    have hc : ¬ (f 35) ≤ nI a := cl_gt (by omega)
    refine R_iload_n 3 dX7_firstOther_2 rfl rfl ?_
    refine R_aload_n 4 dX7_firstOther_3 rfl rfl ?_
    refine R_get 7 dX7_firstOther_4 rfl fX7_274 rfl (v := .int (f 35)) rfl ?_
    refine R_icmp_ge 10 59 dX7_firstOther_7 rfl (by decide) (fun c => absurd c hc) (fun _ => ?_)
    refine R_aload_n 11 dX7_firstOther_10 rfl rfl ?_
    refine R_get 14 dX7_firstOther_11 rfl fX7_55 rfl (v := .ref 116) rfl ?_
    refine R_iload_n 15 dX7_firstOther_14 rfl rfl ?_
    refine R_iald 16 dX7_firstOther_15 rfl rfl rfl (vp_in_nI (by omega) (by omega)) ?_
    refine R_bipush 18 dX7_firstOther_16 rfl (v := 50) (by decide) ?_
    refine R_iadd 19 dX7_firstOther_18 rfl ?_
    refine R_istore_n 20 dX7_firstOther_19 rfl rfl (by decide) (loc' := [(0, .ref 100), (1, .int (nI a)), (2, .int ((ar 26 (nI a).toNatClampNeg) + 50))]) rfl ?_
    refine R_iload_n 21 dX7_firstOther_20 rfl rfl ?_
    refine R_if_ge 24 28 dX7_firstOther_21 rfl (by decide) (fun c1 => ?_) (fun c1 => ?_)
    ·
      refine R_iload_n 29 dX7_firstOther_28 rfl rfl ?_
      refine R_bipush 31 dX7_firstOther_29 rfl (v := 99) (by decide) ?_
      refine R_cut 40 [(0, .ref 100), (1, .int (nI a)), (2, .int ((ar 26 (nI a).toNatClampNeg) + 50))] (.int (if ((ar 26 (nI a).toNatClampNeg) + 50) ≤ 99 then (ar 26 (nI a).toNatClampNeg) + 50 else 99) :: []) (h1, hM G f ar) ?_ (fun kj => ?_)
      ·
        refine R_nm2 (fun z1_ hz1_ => ?_)
        refine R_istore_n 41 dX7_firstOther_40 rfl rfl (by decide) (loc' := [(0, .ref 100), (1, .int (nI a)), (2, .int z1_)]) rfl ?_
        refine R_iload_n 42 dX7_firstOther_41 rfl rfl ?_
        refine R_aload_n 43 dX7_firstOther_42 rfl rfl ?_
        refine R_get 46 dX7_firstOther_43 rfl fX7_61 rfl (v := .ref 118) rfl ?_
        refine R_iload_n 47 dX7_firstOther_46 rfl rfl ?_
        refine R_iald 48 dX7_firstOther_47 rfl rfl rfl (vp_in_nI (by omega) (by omega)) ?_
        refine R_icmp_eq 51 53 dX7_firstOther_48 rfl (by decide) (fun c3 => ?_) (fun c3 => ?_)
        ·
          refine R_iinc 56 dX7_firstOther_53 rfl rfl (v := (nI (a + 1))) (nI_1 a) rfl (by decide) (loc' := [(0, .ref 100), (1, .int (nI (a + 1))), (2, .int z1_)]) rfl ?_
          refine R_goto 2 dX7_firstOther_56 (by decide) ?_
          subst hz1_
          refine R_pick [0, 1] rfl ?_
          have e : stX7_firstOther f ar a  = .inr () := by unfold stX7_firstOther; rw [if_pos c1, if_pos c3]
          have e2 : (itX7_firstOther f ar (j + 1) a ) = (itX7_firstOther f ar j (a + 1) ) := itX7_firstOther_n e
          rw [e2]; exact ih (a + 1)  ⟨by omega, hj.2⟩
        ·
          refine R_iload_n 52 dX7_firstOther_51 rfl rfl ?_
          refine R_ireturn dX7_firstOther_52 rfl rfl ?_
          subst hz1_
          have e : stX7_firstOther f ar a  = .inl (nI a) := by unfold stX7_firstOther; rw [if_pos c1, if_neg c3]
          have e2 : (itX7_firstOther f ar (j + 1) a ) = nI a := itX7_firstOther_r e
          rw [e2]; exact ⟨rfl, rfl⟩
      refine R_icmp_le 34 39 dX7_firstOther_31 rfl (by decide) (fun c2 => ?_) (fun c2 => ?_)
      · refine R_iload_n 40 dX7_firstOther_39 rfl rfl ?_
        rw [if_pos c2] at kj; exact kj
      · refine R_bipush 36 dX7_firstOther_34 rfl (v := 99) (by decide) ?_
        refine R_goto 40 dX7_firstOther_36 (by decide) ?_
        rw [if_neg c2] at kj; exact kj
    ·
      refine R_iconst 25 dX7_firstOther_24 rfl (v := 0) (by decide) ?_
      refine R_goto 40 dX7_firstOther_25 (by decide) ?_
      refine R_istore_n 41 dX7_firstOther_40 rfl rfl (by decide) (loc' := [(0, .ref 100), (1, .int (nI a)), (2, .int 0)]) rfl ?_
      refine R_iload_n 42 dX7_firstOther_41 rfl rfl ?_
      refine R_aload_n 43 dX7_firstOther_42 rfl rfl ?_
      refine R_get 46 dX7_firstOther_43 rfl fX7_61 rfl (v := .ref 118) rfl ?_
      refine R_iload_n 47 dX7_firstOther_46 rfl rfl ?_
      refine R_iald 48 dX7_firstOther_47 rfl rfl rfl (vp_in_nI (by omega) (by omega)) ?_
      refine R_icmp_eq 51 53 dX7_firstOther_48 rfl (by decide) (fun c4 => ?_) (fun c4 => ?_)
      ·
        refine R_iinc 56 dX7_firstOther_53 rfl rfl (v := (nI (a + 1))) (nI_1 a) rfl (by decide) (loc' := [(0, .ref 100), (1, .int (nI (a + 1))), (2, .int 0)]) rfl ?_
        refine R_goto 2 dX7_firstOther_56 (by decide) ?_
        refine R_pick [0, 1] rfl ?_
        have e : stX7_firstOther f ar a  = .inr () := by unfold stX7_firstOther; rw [if_neg c1, if_pos c4]
        have e2 : (itX7_firstOther f ar (j + 1) a ) = (itX7_firstOther f ar j (a + 1) ) := itX7_firstOther_n e
        rw [e2]; exact ih (a + 1)  ⟨by omega, hj.2⟩
      ·
        refine R_iload_n 52 dX7_firstOther_51 rfl rfl ?_
        refine R_ireturn dX7_firstOther_52 rfl rfl ?_
        have e : stX7_firstOther f ar a  = .inl (nI a) := by unfold stX7_firstOther; rw [if_neg c1, if_neg c4]
        have e2 : (itX7_firstOther f ar (j + 1) a ) = nI a := itX7_firstOther_r e
        rw [e2]; exact ⟨rfl, rfl⟩
def sX7_firstOther (f : Nat → Int32) (ar : Nat → Nat → Int32) : Int32 := (itX7_firstOther f ar (f 35).toNatClampNeg 0 )
set_option maxRecDepth 20000 in
theorem eX7_firstOther {G : zG} {h1 : List va_E} {f : Nat → Int32} {ar : Nat → Nat → Int32} (h12 : (f 35).toNatClampNeg ≤ 12) : EvF G mX7_firstOther [.ref 100] (h1, hM G f ar) (some (.int (sX7_firstOther f ar))) (h1, hM G f ar) := by
  generalize hs : (sX7_firstOther f ar) = zz
  refine EvF.of pnX7 rfl ?_
  refine R_iconst 1 dX7_firstOther_0 rfl (v := 0) (by decide) ?_
  refine R_istore_n 2 dX7_firstOther_1 rfl rfl (by decide) (loc' := [(0, .ref 100), (1, .int 0)]) rfl ?_
  refine R_pick [0, 1] rfl ?_
  have e : zz = (itX7_firstOther f ar (f 35).toNatClampNeg 0 ) := by rw [← hs]; unfold sX7_firstOther; rfl
  subst e; exact lpX7_firstOther ((f 35).toNatClampNeg) 0  ⟨Nat.zero_add _, h12⟩
theorem kt.r35 {f f1 : Nat → Int32} {ar a1 : Nat → Nat → Int32} (h : kt f ar f1 a1) (h12 : (f 35).toNatClampNeg ≤ 12) : (f1 35).toNatClampNeg ≤ 12 := by rw [h.1 35 (by omega)]; exact h12
def exX7_kept2 (w : Int32) (ru : Int32) (a : Nat) (f : Nat → Int32) (ar : Nat → Nat → Int32) (lm : Int32) : Int32 × (Nat → Int32) × (Nat → Nat → Int32) := (if w = 0 then ru else lm, f, ar)
def stX7_kept2 (w : Int32) (ru : Int32) (a : Nat) (f : Nat → Int32) (ar : Nat → Nat → Int32) (lm : Int32) : (Nat → Int32) × (Nat → Nat → Int32) × Int32 := (((sX7_thinksWith f ar 4 (nI a) (f 35)).2.1), ((sX7_thinksWith f ar 4 (nI a) (f 35)).2.2), (lm + (b2i (!decide (0 ≤ (sX7_firstOther ((sX7_thinksWith f ar 4 (nI a) (f 35)).2.1) ((sX7_thinksWith f ar 4 (nI a) (f 35)).2.2)))))))
def itX7_kept2 (w : Int32) (ru : Int32) : Nat → Nat → (Nat → Int32) → (Nat → Nat → Int32) → Int32 → Int32 × (Nat → Int32) × (Nat → Nat → Int32)
  | 0, a, f, ar, lm => exX7_kept2 w ru a f ar lm
  | j + 1, a, f, ar, lm => itX7_kept2 w ru j (a + 1) ((stX7_kept2 w ru a f ar lm).1) ((stX7_kept2 w ru a f ar lm).2.1) ((stX7_kept2 w ru a f ar lm).2.2)
theorem itX7_kept2_n {w : Int32} {ru : Int32} {j a : Nat} {f : Nat → Int32} {ar : Nat → Nat → Int32} {lm : Int32} {s0_ : Nat → Int32} {s1_ : Nat → Nat → Int32} {s2_ : Int32} (e : stX7_kept2 w ru a f ar lm = (s0_, s1_, s2_)) : (itX7_kept2 w ru (j + 1) a f ar lm) = (itX7_kept2 w ru j (a + 1) s0_ s1_ s2_) := by simp only [itX7_kept2.eq_2, e]
set_option maxRecDepth 20000 in
theorem lpX7_kept2 {G : zG} {h1 : List va_E} {w ru : Int32} : ∀ (j a : Nat) (f : Nat → Int32) (ar : Nat → Nat → Int32) (lm : Int32), (a + j = 21 ∧ 1 ≤ a ∧ mOk f ar ∧ (f 35).toNatClampNeg ≤ 12) → R G mX7_kept 67 [(0, .ref 100), (1, .int w), (2, .int ru), (3, .int lm), (4, .int (nI a))] [] (h1, hM G f ar) (fun r0 h0 => r0 = some (.int ((itX7_kept2 w ru j a f ar lm).1)) ∧ h0 = (h1, hM G ((itX7_kept2 w ru j a f ar lm).2.1) ((itX7_kept2 w ru j a f ar lm).2.2))) := by
  intro j
  induction j with
  | zero =>
    intro a f ar lm hj
    have hc : (21 : Int32) ≤ nI a := by show nI 21 ≤ nI a; exact nI_le (by omega) (by omega)
    refine R_iload 69 dX7_kept_67 rfl rfl ?_
    refine R_bipush 71 dX7_kept_69 rfl (v := 21) (by decide) ?_
    refine R_icmp_ge 74 107 dX7_kept_71 rfl (by decide) (fun _ => ?_) (fun c => absurd hc c)
    refine R_iload_n 108 dX7_kept_107 rfl rfl ?_
    refine R_cut 116 [(0, .ref 100), (1, .int w), (2, .int ru), (3, .int lm), (4, .int (nI a))] (.int (if w = 0 then ru else lm) :: []) (h1, hM G f ar) ?_ (fun kj => ?_)
    ·
      refine R_ireturn dX7_kept_116 rfl rfl ?_
      have e : (itX7_kept2 w ru 0 a f ar lm) = (if w = 0 then ru else lm, f, ar) := rfl
      rw [e]; exact ⟨rfl, rfl⟩
    refine R_if_ne 111 115 dX7_kept_108 rfl (by decide) (fun c1 => ?_) (fun c1 => ?_)
    · refine R_iload_n 116 dX7_kept_115 rfl rfl ?_
      rw [if_neg c1] at kj; exact kj
    · refine R_iload_n 112 dX7_kept_111 rfl rfl ?_
      refine R_goto 116 dX7_kept_112 (by decide) ?_
      rw [if_pos c1] at kj; exact kj
  | succ j ih =>
    intro a f ar lm hj
    have hc : ¬ (21 : Int32) ≤ nI a := by show ¬ nI 21 ≤ nI a; exact nI_ge (by omega) (by omega)
    have hv : ¬ nI a = 0 := by intro e; have := congrArg Int32.toInt e; rw [nI_toInt (by omega), show (0 : Int32).toInt = 0 by decide] at this; omega
    refine R_iload 69 dX7_kept_67 rfl rfl ?_
    refine R_bipush 71 dX7_kept_69 rfl (v := 21) (by decide) ?_
    refine R_icmp_ge 74 107 dX7_kept_71 rfl (by decide) (fun c => absurd c hc) (fun _ => ?_)
    refine R_aload_n 75 dX7_kept_74 rfl rfl ?_
    refine R_iconst 76 dX7_kept_75 rfl (v := 4) (by decide) ?_
    refine R_iload 78 dX7_kept_76 rfl rfl ?_
    refine R_aload_n 79 dX7_kept_78 rfl rfl ?_
    refine R_get 82 dX7_kept_79 rfl fX7_274 rfl (v := .int (f 35)) rfl ?_
    refine R_callVi 85 (eX7_thinksWith (vin_d (by decide)) (tw_ok hj.2.2.1 (Or.inr (Or.inl rfl)) (fun _ => hv)) (r240 hj.2.2.2)) dX7_kept_82 rfl kX7_thinksWith lX7_247 rfl rfl rfl rfl rfl rfl rfl ?_
    generalize hz1_ : (sX7_thinksWith f ar 4 (nI a) (f 35)).2.1 = z1_
    generalize hz2_ : (sX7_thinksWith f ar 4 (nI a) (f 35)).2.2 = z2_
    refine R_pop 86 dX7_kept_85 rfl rfl ?_
    refine R_iload_n 87 dX7_kept_86 rfl rfl ?_
    refine R_aload_n 88 dX7_kept_87 rfl rfl ?_
    refine R_callVi 91 (eX7_firstOther (by have e := (tw_kt (tw_ok hj.2.2.1 (Or.inr (Or.inl rfl)) (fun _ => hv)) (r240 hj.2.2.2)).r35 hj.2.2.2; rw [hz1_] at e; exact e)) dX7_kept_88 rfl kX7_firstOther lX7_277 rfl rfl rfl rfl rfl rfl rfl ?_
    refine R_cut 99 [(0, .ref 100), (1, .int w), (2, .int ru), (3, .int lm), (4, .int (nI a))] (.int (b2i (!decide (0 ≤ (sX7_firstOther z1_ z2_)))) :: [.int lm]) (h1, hM G z1_ z2_) ?_ (fun kj => ?_)
    ·
      refine R_iadd 100 dX7_kept_99 rfl ?_
      refine R_nm2 (fun z3_ hz3_ => ?_)
      refine R_istore_n 101 dX7_kept_100 rfl rfl (by decide) (loc' := [(0, .ref 100), (1, .int w), (2, .int ru), (3, .int z3_), (4, .int (nI a))]) rfl ?_
      refine R_iinc 104 dX7_kept_101 rfl rfl (v := (nI (a + 1))) (nI_1 a) rfl (by decide) (loc' := [(0, .ref 100), (1, .int w), (2, .int ru), (3, .int z3_), (4, .int (nI (a + 1)))]) rfl ?_
      refine R_goto 67 dX7_kept_104 (by decide) ?_
      subst hz1_ hz2_ hz3_
      refine R_pick [0, 1, 2, 3, 4] rfl ?_
      have e : stX7_kept2 w ru a f ar lm = (((sX7_thinksWith f ar 4 (nI a) (f 35)).2.1), ((sX7_thinksWith f ar 4 (nI a) (f 35)).2.2), (lm + (b2i (!decide (0 ≤ (sX7_firstOther ((sX7_thinksWith f ar 4 (nI a) (f 35)).2.1) ((sX7_thinksWith f ar 4 (nI a) (f 35)).2.2))))))) := by rfl
      have e2 : (itX7_kept2 w ru (j + 1) a f ar lm) = (itX7_kept2 w ru j (a + 1) ((sX7_thinksWith f ar 4 (nI a) (f 35)).2.1) ((sX7_thinksWith f ar 4 (nI a) (f 35)).2.2) (lm + (b2i (!decide (0 ≤ (sX7_firstOther ((sX7_thinksWith f ar 4 (nI a) (f 35)).2.1) ((sX7_thinksWith f ar 4 (nI a) (f 35)).2.2))))))) := itX7_kept2_n e
      rw [e2]; exact ih (a + 1) ((sX7_thinksWith f ar 4 (nI a) (f 35)).2.1) ((sX7_thinksWith f ar 4 (nI a) (f 35)).2.2) (lm + (b2i (!decide (0 ≤ (sX7_firstOther ((sX7_thinksWith f ar 4 (nI a) (f 35)).2.1) ((sX7_thinksWith f ar 4 (nI a) (f 35)).2.2)))))) ⟨by omega, by omega, (tw_kt (tw_ok hj.2.2.1 (Or.inr (Or.inl rfl)) (fun _ => hv)) (r240 hj.2.2.2)).ok hj.2.2.1, (tw_kt (tw_ok hj.2.2.1 (Or.inr (Or.inl rfl)) (fun _ => hv)) (r240 hj.2.2.2)).r35 hj.2.2.2⟩
    refine R_if_ge 94 98 dX7_kept_91 rfl (by decide) (fun c1 => ?_) (fun c1 => ?_)
    · refine R_iconst 99 dX7_kept_98 rfl (v := 0) (by decide) ?_
      rw [b2i_np c1] at kj; exact kj
    · refine R_iconst 95 dX7_kept_94 rfl (v := 1) (by decide) ?_
      refine R_goto 99 dX7_kept_95 (by decide) ?_
      rw [b2i_nn c1] at kj; exact kj
def exX7_kept (w : Int32) (a : Nat) (f : Nat → Int32) (ar : Nat → Nat → Int32) (ru : Int32) : Int32 × (Nat → Int32) × (Nat → Nat → Int32) := ((itX7_kept2 w ru 20 1 f ar 0).1, (itX7_kept2 w ru 20 1 f ar 0).2.1, (itX7_kept2 w ru 20 1 f ar 0).2.2)
def stX7_kept (w : Int32) (a : Nat) (f : Nat → Int32) (ar : Nat → Nat → Int32) (ru : Int32) : (Nat → Int32) × (Nat → Nat → Int32) × Int32 := if 0 ≤ (sX7_firstOther ((sX7_thinksByRule f ar (nI a) (f 35)).2.1) ((sX7_thinksByRule f ar (nI a) (f 35)).2.2)) then (((sX7_thinksByRule f ar (nI a) (f 35)).2.1), ((sX7_thinksByRule f ar (nI a) (f 35)).2.2), ru ||| 0) else (((sX7_thinksByRule f ar (nI a) (f 35)).2.1), ((sX7_thinksByRule f ar (nI a) (f 35)).2.2), ru ||| (1 <<< ((nI a) &&& 31)))
def itX7_kept (w : Int32) : Nat → Nat → (Nat → Int32) → (Nat → Nat → Int32) → Int32 → Int32 × (Nat → Int32) × (Nat → Nat → Int32)
  | 0, a, f, ar, ru => exX7_kept w a f ar ru
  | j + 1, a, f, ar, ru => itX7_kept w j (a + 1) ((stX7_kept w a f ar ru).1) ((stX7_kept w a f ar ru).2.1) ((stX7_kept w a f ar ru).2.2)
theorem itX7_kept_n {w : Int32} {j a : Nat} {f : Nat → Int32} {ar : Nat → Nat → Int32} {ru : Int32} {s0_ : Nat → Int32} {s1_ : Nat → Nat → Int32} {s2_ : Int32} (e : stX7_kept w a f ar ru = (s0_, s1_, s2_)) : (itX7_kept w (j + 1) a f ar ru) = (itX7_kept w j (a + 1) s0_ s1_ s2_) := by simp only [itX7_kept.eq_2, e]
set_option maxRecDepth 20000 in
theorem lpX7_kept {G : zG} {h1 : List va_E} {w : Int32} : ∀ (j a : Nat) (f : Nat → Int32) (ar : Nat → Nat → Int32) (ru : Int32), (a + j = 5 ∧ mOk f ar ∧ (f 35).toNatClampNeg ≤ 12) → R G mX7_kept 23 [(0, .ref 100), (1, .int w), (2, .int ru), (3, .int 0), (4, .int (nI a))] [] (h1, hM G f ar) (fun r0 h0 => r0 = some (.int ((itX7_kept w j a f ar ru).1)) ∧ h0 = (h1, hM G ((itX7_kept w j a f ar ru).2.1) ((itX7_kept w j a f ar ru).2.2))) := by
  intro j
  induction j with
  | zero =>
    intro a f ar ru hj
    have hc : (5 : Int32) ≤ nI a := by show nI 5 ≤ nI a; exact nI_le (by omega) (by omega)
    refine R_iload 25 dX7_kept_23 rfl rfl ?_
    refine R_iconst 26 dX7_kept_25 rfl (v := 5) (by decide) ?_
    refine R_icmp_ge 29 64 dX7_kept_26 rfl (by decide) (fun _ => ?_) (fun c => absurd hc c)
    refine R_iconst 65 dX7_kept_64 rfl (v := 1) (by decide) ?_
    refine R_istore 67 dX7_kept_65 rfl rfl (by decide) (loc' := [(0, .ref 100), (1, .int w), (2, .int ru), (3, .int 0), (4, .int 1)]) rfl ?_
    have e : (itX7_kept w 0 a f ar ru) = ((itX7_kept2 w ru 20 1 f ar 0).1, (itX7_kept2 w ru 20 1 f ar 0).2.1, (itX7_kept2 w ru 20 1 f ar 0).2.2) := rfl
    rw [pr1 e, pr1 (pr2 e), pr2 (pr2 e)]
    refine R_pick [0, 1, 2, 3, 4] rfl ?_
    exact lpX7_kept2 20 1 f ar 0 ⟨rfl, by decide, hj.2⟩
  | succ j ih =>
    intro a f ar ru hj
    have hc : ¬ (5 : Int32) ≤ nI a := by show ¬ nI 5 ≤ nI a; exact nI_ge (by omega) (by omega)
    refine R_iload 25 dX7_kept_23 rfl rfl ?_
    refine R_iconst 26 dX7_kept_25 rfl (v := 5) (by decide) ?_
    refine R_icmp_ge 29 64 dX7_kept_26 rfl (by decide) (fun c => absurd c hc) (fun _ => ?_)
    refine R_aload_n 30 dX7_kept_29 rfl rfl ?_
    refine R_iload 32 dX7_kept_30 rfl rfl ?_
    refine R_aload_n 33 dX7_kept_32 rfl rfl ?_
    refine R_get 36 dX7_kept_33 rfl fX7_274 rfl (v := .int (f 35)) rfl ?_
    refine R_callVi 39 (eX7_thinksByRule hj.2.1 (r240 hj.2.2)) dX7_kept_36 rfl kX7_thinksByRule lX7_250 rfl rfl rfl rfl rfl rfl rfl ?_
    generalize hz1_ : (sX7_thinksByRule f ar (nI a) (f 35)).2.1 = z1_
    generalize hz2_ : (sX7_thinksByRule f ar (nI a) (f 35)).2.2 = z2_
    refine R_pop 40 dX7_kept_39 rfl rfl ?_
    refine R_iload_n 41 dX7_kept_40 rfl rfl ?_
    refine R_aload_n 42 dX7_kept_41 rfl rfl ?_
    refine R_callVi 45 (eX7_firstOther (by have e := (tr_kt (k := nI a) hj.2.1 (r240 hj.2.2)).r35 hj.2.2; rw [hz1_] at e; exact e)) dX7_kept_42 rfl kX7_firstOther lX7_277 rfl rfl rfl rfl rfl rfl rfl ?_
    refine R_if_ge 48 55 dX7_kept_45 rfl (by decide) (fun c1 => ?_) (fun c1 => ?_)
    ·
      refine R_iconst 56 dX7_kept_55 rfl (v := 0) (by decide) ?_
      refine R_ior 57 dX7_kept_56 rfl ?_
      refine R_istore_n 58 dX7_kept_57 rfl rfl (by decide) (loc' := [(0, .ref 100), (1, .int w), (2, .int (ru ||| 0)), (3, .int 0), (4, .int (nI a))]) rfl ?_
      refine R_iinc 61 dX7_kept_58 rfl rfl (v := (nI (a + 1))) (nI_1 a) rfl (by decide) (loc' := [(0, .ref 100), (1, .int w), (2, .int (ru ||| 0)), (3, .int 0), (4, .int (nI (a + 1)))]) rfl ?_
      refine R_goto 23 dX7_kept_61 (by decide) ?_
      subst hz1_ hz2_
      refine R_pick [0, 1, 2, 3, 4] rfl ?_
      have e : stX7_kept w a f ar ru = (((sX7_thinksByRule f ar (nI a) (f 35)).2.1), ((sX7_thinksByRule f ar (nI a) (f 35)).2.2), ru ||| 0) := by unfold stX7_kept; rw [if_pos c1]
      have e2 : (itX7_kept w (j + 1) a f ar ru) = (itX7_kept w j (a + 1) ((sX7_thinksByRule f ar (nI a) (f 35)).2.1) ((sX7_thinksByRule f ar (nI a) (f 35)).2.2) (ru ||| 0)) := itX7_kept_n e
      rw [e2]; exact ih (a + 1) ((sX7_thinksByRule f ar (nI a) (f 35)).2.1) ((sX7_thinksByRule f ar (nI a) (f 35)).2.2) (ru ||| 0) ⟨by omega, (tr_kt hj.2.1 (r240 hj.2.2)).ok hj.2.1, (tr_kt hj.2.1 (r240 hj.2.2)).r35 hj.2.2⟩
    ·
      refine R_iconst 49 dX7_kept_48 rfl (v := 1) (by decide) ?_
      refine R_iload 51 dX7_kept_49 rfl rfl ?_
      refine R_ishl 52 dX7_kept_51 rfl ?_
      refine R_goto 56 dX7_kept_52 (by decide) ?_
      refine R_ior 57 dX7_kept_56 rfl ?_
      refine R_istore_n 58 dX7_kept_57 rfl rfl (by decide) (loc' := [(0, .ref 100), (1, .int w), (2, .int (ru ||| (1 <<< ((nI a) &&& 31)))), (3, .int 0), (4, .int (nI a))]) rfl ?_
      refine R_iinc 61 dX7_kept_58 rfl rfl (v := (nI (a + 1))) (nI_1 a) rfl (by decide) (loc' := [(0, .ref 100), (1, .int w), (2, .int (ru ||| (1 <<< ((nI a) &&& 31)))), (3, .int 0), (4, .int (nI (a + 1)))]) rfl ?_
      refine R_goto 23 dX7_kept_61 (by decide) ?_
      subst hz1_ hz2_
      refine R_pick [0, 1, 2, 3, 4] rfl ?_
      have e : stX7_kept w a f ar ru = (((sX7_thinksByRule f ar (nI a) (f 35)).2.1), ((sX7_thinksByRule f ar (nI a) (f 35)).2.2), ru ||| (1 <<< ((nI a) &&& 31))) := by unfold stX7_kept; rw [if_neg c1]
      have e2 : (itX7_kept w (j + 1) a f ar ru) = (itX7_kept w j (a + 1) ((sX7_thinksByRule f ar (nI a) (f 35)).2.1) ((sX7_thinksByRule f ar (nI a) (f 35)).2.2) (ru ||| (1 <<< ((nI a) &&& 31)))) := itX7_kept_n e
      rw [e2]; exact ih (a + 1) ((sX7_thinksByRule f ar (nI a) (f 35)).2.1) ((sX7_thinksByRule f ar (nI a) (f 35)).2.2) (ru ||| (1 <<< ((nI a) &&& 31))) ⟨by omega, (tr_kt hj.2.1 (r240 hj.2.2)).ok hj.2.1, (tr_kt hj.2.1 (r240 hj.2.2)).r35 hj.2.2⟩
def sX7_kept (f : Nat → Int32) (ar : Nat → Nat → Int32) (w : Int32) : Int32 × (Nat → Int32) × (Nat → Nat → Int32) := if (sX7_isIn w 0 1) = true then ((itX7_kept w 5 0 f ar 0).1, (itX7_kept w 5 0 f ar 0).2.1, (itX7_kept w 5 0 f ar 0).2.2) else ((sX7_no ar (-2)).1, f, ((sX7_no ar (-2)).2))
set_option maxRecDepth 20000 in
theorem eX7_kept {G : zG} {h1 : List va_E} {f : Nat → Int32} {ar : Nat → Nat → Int32} {w : Int32} (hk : mOk f ar) (h12 : (f 35).toNatClampNeg ≤ 12) : EvF G mX7_kept [.ref 100, .int w] (h1, hM G f ar) (some (.int ((sX7_kept f ar w).1))) (h1, hM G ((sX7_kept f ar w).2.1) ((sX7_kept f ar w).2.2)) := by
  generalize hs : (sX7_kept f ar w) = zz
  refine EvF.of pnX7 rfl ?_
  refine R_iload_n 1 dX7_kept_0 rfl rfl ?_
  refine R_iconst 2 dX7_kept_1 rfl (v := 0) (by decide) ?_
  refine R_iconst 3 dX7_kept_2 rfl (v := 1) (by decide) ?_
  refine R_callSi 6 eX7_isIn dX7_kept_3 rfl kX7_isIn lX7_87 rfl rfl rfl rfl rfl ?_
  refine R_ifb_ne 9 16 dX7_kept_6 rfl (by decide) (fun c1 => ?_) (fun c1 => ?_)
  ·
    refine R_iconst 17 dX7_kept_16 rfl (v := 0) (by decide) ?_
    refine R_istore_n 18 dX7_kept_17 rfl rfl (by decide) (loc' := [(0, .ref 100), (1, .int w), (2, .int 0)]) rfl ?_
    refine R_iconst 19 dX7_kept_18 rfl (v := 0) (by decide) ?_
    refine R_istore_n 20 dX7_kept_19 rfl rfl (by decide) (loc' := [(0, .ref 100), (1, .int w), (2, .int 0), (3, .int 0)]) rfl ?_
    refine R_iconst 21 dX7_kept_20 rfl (v := 0) (by decide) ?_
    refine R_istore 23 dX7_kept_21 rfl rfl (by decide) (loc' := [(0, .ref 100), (1, .int w), (2, .int 0), (3, .int 0), (4, .int 0)]) rfl ?_
    refine R_pick [0, 1, 2, 3, 4] rfl ?_
    have e : zz = ((itX7_kept w 5 0 f ar 0).1, (itX7_kept w 5 0 f ar 0).2.1, (itX7_kept w 5 0 f ar 0).2.2) := by rw [← hs]; unfold sX7_kept; rw [if_pos c1]
    rw [pr1 e, pr1 (pr2 e), pr2 (pr2 e)]; exact lpX7_kept 5 0 f ar 0 ⟨rfl, hk, h12⟩
  ·
    refine R_aload_n 10 dX7_kept_9 rfl rfl ?_
    refine R_bipush 12 dX7_kept_10 rfl (v := (-2)) (by decide) ?_
    refine R_callVi 15 (eX7_no (vin_d (by decide))) dX7_kept_12 rfl kX7_no lX7_76 rfl rfl rfl rfl rfl rfl rfl ?_
    generalize hz1_ : (sX7_no ar (-2)).2 = z1_
    refine R_ireturn dX7_kept_15 rfl rfl ?_
    subst hz1_
    have e : zz = ((sX7_no ar (-2)).1, f, ((sX7_no ar (-2)).2)) := by rw [← hs]; unfold sX7_kept; rw [if_neg c1]
    rw [pr1 e, pr1 (pr2 e), pr2 (pr2 e)]; exact ⟨rfl, rfl⟩
def sX7_judge (f : Nat → Int32) (ar : Nat → Nat → Int32) : Int32 × (Nat → Int32) × (Nat → Nat → Int32) := ((sX7_firstOther ((sX7_thinks f ar (f 35)).2.1) ((sX7_thinks f ar (f 35)).2.2)), (upd ((sX7_thinks f ar (f 35)).2.1) 35 0), ((sX7_thinks f ar (f 35)).2.2))
set_option maxRecDepth 20000 in
theorem eX7_judge {G : zG} {h1 : List va_E} {f : Nat → Int32} {ar : Nat → Nat → Int32} (hk : mOk f ar) (h12 : (f 35).toNatClampNeg ≤ 12) : EvF G mX7_judge [.ref 100] (h1, hM G f ar) (some (.int ((sX7_judge f ar).1))) (h1, hM G ((sX7_judge f ar).2.1) ((sX7_judge f ar).2.2)) := by
  generalize hs : (sX7_judge f ar) = zz
  refine EvF.of pnX7 rfl ?_
  refine R_aload_n 1 dX7_judge_0 rfl rfl ?_
  refine R_aload_n 2 dX7_judge_1 rfl rfl ?_
  refine R_get 5 dX7_judge_2 rfl fX7_274 rfl (v := .int (f 35)) rfl ?_
  refine R_callVi 8 (eX7_thinks hk (r240 h12)) dX7_judge_5 rfl kX7_thinks lX7_235 rfl rfl rfl rfl rfl rfl rfl ?_
  generalize hz1_ : (sX7_thinks f ar (f 35)).2.1 = z1_
  generalize hz2_ : (sX7_thinks f ar (f 35)).2.2 = z2_
  refine R_pop 9 dX7_judge_8 rfl rfl ?_
  refine R_aload_n 10 dX7_judge_9 rfl rfl ?_
  refine R_callVi 13 (eX7_firstOther (by have e := (th_kt hk (r240 h12)).r35 h12; rw [hz1_] at e; exact e)) dX7_judge_10 rfl kX7_firstOther lX7_277 rfl rfl rfl rfl rfl rfl rfl ?_
  refine R_istore_n 14 dX7_judge_13 rfl rfl (by decide) (loc' := [(0, .ref 100), (1, .int (sX7_firstOther z1_ z2_))]) rfl ?_
  refine R_aload_n 15 dX7_judge_14 rfl rfl ?_
  refine R_iconst 16 dX7_judge_15 rfl (v := 0) (by decide) ?_
  refine R_put 19 dX7_judge_16 rfl wX7_274 rfl rfl rfl rfl (h2 := (h1, hM G (upd z1_ 35 0) z2_)) mp_35 ?_
  refine R_iload_n 20 dX7_judge_19 rfl rfl ?_
  refine R_ireturn dX7_judge_20 rfl rfl ?_
  subst hz1_ hz2_
  have e : zz = ((sX7_firstOther ((sX7_thinks f ar (f 35)).2.1) ((sX7_thinks f ar (f 35)).2.2)), (upd ((sX7_thinks f ar (f 35)).2.1) 35 0), ((sX7_thinks f ar (f 35)).2.2)) := by rw [← hs]; unfold sX7_judge; rfl
  rw [pr1 e, pr1 (pr2 e), pr2 (pr2 e)]; exact ⟨rfl, rfl⟩
def exX7_lots (x : Int32) (a : Nat) (f : Nat → Int32) (ar : Nat → Nat → Int32) (sd : Int32) (al : Int32) : Int32 × (Nat → Int32) × (Nat → Nat → Int32) := (al, f, ar)
def stX7_lots (x : Int32) (a : Nat) (f : Nat → Int32) (ar : Nat → Nat → Int32) (sd : Int32) (al : Int32) : (Nat → Int32) × (Nat → Nat → Int32) × Int32 × Int32 := (((sX7_thinksWith f ar 0 ((((((sd * 1664525) + 1013904223) &&& 2147483647) / 256) - ((((sd * 1664525) + 1013904223) &&& 2147483647) / 256) / 41 * 41) - 20) 60).2.1), ((sX7_thinksWith f ar 0 ((((((sd * 1664525) + 1013904223) &&& 2147483647) / 256) - ((((sd * 1664525) + 1013904223) &&& 2147483647) / 256) / 41 * 41) - 20) 60).2.2), (sd * 1664525) + 1013904223, (al + ((sX7_thinksWith f ar 0 ((((((sd * 1664525) + 1013904223) &&& 2147483647) / 256) - ((((sd * 1664525) + 1013904223) &&& 2147483647) / 256) / 41 * 41) - 20) 60).1)))
def itX7_lots (x : Int32) (j a : Nat) (f : Nat → Int32) (ar : Nat → Nat → Int32) (sd : Int32) (al : Int32) : Int32 × (Nat → Int32) × (Nat → Nat → Int32) := itF (fun a (s : (Nat → Int32) × (Nat → Nat → Int32) × Int32 × Int32) => exX7_lots x a s.1 s.2.1 s.2.2.1 s.2.2.2) (fun a (s : (Nat → Int32) × (Nat → Nat → Int32) × Int32 × Int32) => stX7_lots x a s.1 s.2.1 s.2.2.1 s.2.2.2) j a (f, ar, sd, al)
theorem itX7_lots_n {x : Int32} {j a : Nat} {f : Nat → Int32} {ar : Nat → Nat → Int32} {sd : Int32} {al : Int32} {s0_ : Nat → Int32} {s1_ : Nat → Nat → Int32} {s2_ : Int32} {s3_ : Int32} (e : stX7_lots x a f ar sd al = (s0_, s1_, s2_, s3_)) : (itX7_lots x (j + 1) a f ar sd al) = (itX7_lots x j (a + 1) s0_ s1_ s2_ s3_) := itF_n (st := fun a (s : (Nat → Int32) × (Nat → Nat → Int32) × Int32 × Int32) => stX7_lots x a s.1 s.2.1 s.2.2.1 s.2.2.2) (s := (f, ar, sd, al)) (s1 := (s0_, s1_, s2_, s3_)) e
set_option maxRecDepth 20000 in
theorem lpX7_lots {G : zG} {h1 : List va_E} {x : Int32} : ∀ (j a : Nat) (f : Nat → Int32) (ar : Nat → Nat → Int32) (sd : Int32) (al : Int32), (a + j = x.toNatClampNeg ∧ mOk f ar) → R G mX7_lots 27 [(0, .ref 100), (1, .int x), (4, .int sd), (5, .int al), (6, .int (nI a))] [] (h1, hM G f ar) (fun r0 h0 => r0 = some (.int ((itX7_lots x j a f ar sd al).1)) ∧ h0 = (h1, hM G ((itX7_lots x j a f ar sd al).2.1) ((itX7_lots x j a f ar sd al).2.2))) := by
  intro j
  induction j with
  | zero =>
    intro a f ar sd al hj
    have hx := cl_of x
    have hc : x ≤ nI a := cl_le (by omega) (by omega)
    refine R_iload 29 dX7_lots_27 rfl rfl ?_
    refine R_iload_n 30 dX7_lots_29 rfl rfl ?_
    refine R_icmp_ge 33 79 dX7_lots_30 rfl (by decide) (fun _ => ?_) (fun c => absurd hc c)
    refine R_iload 81 dX7_lots_79 rfl rfl ?_
    refine R_ireturn dX7_lots_81 rfl rfl ?_
    have e : (itX7_lots x 0 a f ar sd al) = (al, f, ar) := rfl
    rw [e]; exact ⟨rfl, rfl⟩
  | succ j ih =>
    intro a f ar sd al hj
    have hc : ¬ x ≤ nI a := cl_gt (by omega)
    refine R_iload 29 dX7_lots_27 rfl rfl ?_
    refine R_iload_n 30 dX7_lots_29 rfl rfl ?_
    refine R_icmp_ge 33 79 dX7_lots_30 rfl (by decide) (fun c => absurd c hc) (fun _ => ?_)
    refine R_iload 35 dX7_lots_33 rfl rfl ?_
    refine R_ldc_w 38 dX7_lots_35 rfl qX7_280 ?_
    refine R_imul 39 dX7_lots_38 rfl ?_
    refine R_ldc_w 42 dX7_lots_39 rfl qX7_281 ?_
    refine R_iadd 43 dX7_lots_42 rfl ?_
    refine R_istore 45 dX7_lots_43 rfl rfl (by decide) (loc' := [(0, .ref 100), (1, .int x), (4, .int ((sd * 1664525) + 1013904223)), (5, .int al), (6, .int (nI a))]) rfl ?_
    refine R_iload 47 dX7_lots_45 rfl rfl ?_
    refine R_aload_n 48 dX7_lots_47 rfl rfl ?_
    refine R_iconst 49 dX7_lots_48 rfl (v := 0) (by decide) ?_
    refine R_iload 51 dX7_lots_49 rfl rfl ?_
    refine R_ldc_w 54 dX7_lots_51 rfl qX7_282 ?_
    refine R_iand 55 dX7_lots_54 rfl ?_
    refine R_sipush 58 dX7_lots_55 rfl (v := 256) (by decide) ?_
    refine R_idiv 59 dX7_lots_58 rfl (by decide) ?_
    refine R_bipush 61 dX7_lots_59 rfl (v := 41) (by decide) ?_
    refine R_irem 62 dX7_lots_61 rfl (by decide) ?_
    refine R_bipush 64 dX7_lots_62 rfl (v := 20) (by decide) ?_
    refine R_isub 65 dX7_lots_64 rfl ?_
    refine R_bipush 67 dX7_lots_65 rfl (v := 60) (by decide) ?_
    refine R_callVi 70 (eX7_thinksWith (vin_d (by decide)) (tw0_ok hj.2) (by decide)) dX7_lots_67 rfl kX7_thinksWith lX7_247 rfl rfl rfl rfl rfl rfl rfl ?_
    generalize hz1_ : (sX7_thinksWith f ar 0 ((((((sd * 1664525) + 1013904223) &&& 2147483647) / 256) - ((((sd * 1664525) + 1013904223) &&& 2147483647) / 256) / 41 * 41) - 20) 60).2.1 = z1_
    generalize hz2_ : (sX7_thinksWith f ar 0 ((((((sd * 1664525) + 1013904223) &&& 2147483647) / 256) - ((((sd * 1664525) + 1013904223) &&& 2147483647) / 256) / 41 * 41) - 20) 60).2.2 = z2_
    refine R_iadd 71 dX7_lots_70 rfl ?_
    refine R_nm2 (fun z3_ hz3_ => ?_)
    refine R_istore 73 dX7_lots_71 rfl rfl (by decide) (loc' := [(0, .ref 100), (1, .int x), (4, .int ((sd * 1664525) + 1013904223)), (5, .int z3_), (6, .int (nI a))]) rfl ?_
    refine R_iinc 76 dX7_lots_73 rfl rfl (v := (nI (a + 1))) (nI_1 a) rfl (by decide) (loc' := [(0, .ref 100), (1, .int x), (4, .int ((sd * 1664525) + 1013904223)), (5, .int z3_), (6, .int (nI (a + 1)))]) rfl ?_
    refine R_goto 27 dX7_lots_76 (by decide) ?_
    subst hz1_ hz2_ hz3_
    refine R_pick [0, 1, 2, 3, 4] rfl ?_
    have e : stX7_lots x a f ar sd al = (((sX7_thinksWith f ar 0 ((((((sd * 1664525) + 1013904223) &&& 2147483647) / 256) - ((((sd * 1664525) + 1013904223) &&& 2147483647) / 256) / 41 * 41) - 20) 60).2.1), ((sX7_thinksWith f ar 0 ((((((sd * 1664525) + 1013904223) &&& 2147483647) / 256) - ((((sd * 1664525) + 1013904223) &&& 2147483647) / 256) / 41 * 41) - 20) 60).2.2), (sd * 1664525) + 1013904223, (al + ((sX7_thinksWith f ar 0 ((((((sd * 1664525) + 1013904223) &&& 2147483647) / 256) - ((((sd * 1664525) + 1013904223) &&& 2147483647) / 256) / 41 * 41) - 20) 60).1))) := by rfl
    have e2 : (itX7_lots x (j + 1) a f ar sd al) = (itX7_lots x j (a + 1) ((sX7_thinksWith f ar 0 ((((((sd * 1664525) + 1013904223) &&& 2147483647) / 256) - ((((sd * 1664525) + 1013904223) &&& 2147483647) / 256) / 41 * 41) - 20) 60).2.1) ((sX7_thinksWith f ar 0 ((((((sd * 1664525) + 1013904223) &&& 2147483647) / 256) - ((((sd * 1664525) + 1013904223) &&& 2147483647) / 256) / 41 * 41) - 20) 60).2.2) ((sd * 1664525) + 1013904223) (al + ((sX7_thinksWith f ar 0 ((((((sd * 1664525) + 1013904223) &&& 2147483647) / 256) - ((((sd * 1664525) + 1013904223) &&& 2147483647) / 256) / 41 * 41) - 20) 60).1))) := itX7_lots_n e
    rw [e2]; exact ih (a + 1) ((sX7_thinksWith f ar 0 ((((((sd * 1664525) + 1013904223) &&& 2147483647) / 256) - ((((sd * 1664525) + 1013904223) &&& 2147483647) / 256) / 41 * 41) - 20) 60).2.1) ((sX7_thinksWith f ar 0 ((((((sd * 1664525) + 1013904223) &&& 2147483647) / 256) - ((((sd * 1664525) + 1013904223) &&& 2147483647) / 256) / 41 * 41) - 20) 60).2.2) ((sd * 1664525) + 1013904223) (al + ((sX7_thinksWith f ar 0 ((((((sd * 1664525) + 1013904223) &&& 2147483647) / 256) - ((((sd * 1664525) + 1013904223) &&& 2147483647) / 256) / 41 * 41) - 20) 60).1)) ⟨by omega, (tw_kt (tw0_ok hj.2) (by decide)).ok hj.2⟩
def sX7_lots (f : Nat → Int32) (ar : Nat → Nat → Int32) (x : Int32) (z : Int32) : Int32 × (Nat → Int32) × (Nat → Nat → Int32) := if (sX7_bound x 1 20) = 0 then ((itX7_lots x x.toNatClampNeg 0 f ar z 0).1, (itX7_lots x x.toNatClampNeg 0 f ar z 0).2.1, (itX7_lots x x.toNatClampNeg 0 f ar z 0).2.2) else ((sX7_no ar (sX7_bound x 1 20)).1, f, ((sX7_no ar (sX7_bound x 1 20)).2))
set_option maxRecDepth 20000 in
theorem eX7_lots {G : zG} {h1 : List va_E} {f : Nat → Int32} {ar : Nat → Nat → Int32} {x z : Int32} (hk : mOk f ar) : EvF G mX7_lots [.ref 100, .int x, .int z] (h1, hM G f ar) (some (.int ((sX7_lots f ar x z).1))) (h1, hM G ((sX7_lots f ar x z).2.1) ((sX7_lots f ar x z).2.2)) := by
  generalize hs : (sX7_lots f ar x z) = zz
  refine EvF.of pnX7 rfl ?_
  refine R_iload_n 1 dX7_lots_0 rfl rfl ?_
  refine R_iconst 2 dX7_lots_1 rfl (v := 1) (by decide) ?_
  refine R_bipush 4 dX7_lots_2 rfl (v := 20) (by decide) ?_
  refine R_callSi 7 eX7_bound dX7_lots_4 rfl kX7_bound lX7_69 rfl rfl rfl rfl rfl ?_
  refine R_istore_n 8 dX7_lots_7 rfl rfl (by decide) (loc' := [(0, .ref 100), (1, .int x), (2, .int z), (3, .int (sX7_bound x 1 20))]) rfl ?_
  refine R_iload_n 9 dX7_lots_8 rfl rfl ?_
  refine R_if_eq 12 18 dX7_lots_9 rfl (by decide) (fun c1 => ?_) (fun c1 => ?_)
  ·
    refine R_iload_n 19 dX7_lots_18 rfl rfl ?_
    refine R_istore 21 dX7_lots_19 rfl rfl (by decide) (loc' := [(0, .ref 100), (1, .int x), (2, .int z), (3, .int (sX7_bound x 1 20)), (4, .int z)]) rfl ?_
    refine R_iconst 22 dX7_lots_21 rfl (v := 0) (by decide) ?_
    refine R_istore 24 dX7_lots_22 rfl rfl (by decide) (loc' := [(0, .ref 100), (1, .int x), (2, .int z), (3, .int (sX7_bound x 1 20)), (4, .int z), (5, .int 0)]) rfl ?_
    refine R_iconst 25 dX7_lots_24 rfl (v := 0) (by decide) ?_
    refine R_istore 27 dX7_lots_25 rfl rfl (by decide) (loc' := [(0, .ref 100), (1, .int x), (2, .int z), (3, .int (sX7_bound x 1 20)), (4, .int z), (5, .int 0), (6, .int 0)]) rfl ?_
    refine R_pick [0, 1, 4, 5, 6] rfl ?_
    have e : zz = ((itX7_lots x x.toNatClampNeg 0 f ar z 0).1, (itX7_lots x x.toNatClampNeg 0 f ar z 0).2.1, (itX7_lots x x.toNatClampNeg 0 f ar z 0).2.2) := by rw [← hs]; unfold sX7_lots; rw [if_pos c1]
    rw [pr1 e, pr1 (pr2 e), pr2 (pr2 e)]; exact lpX7_lots x.toNatClampNeg 0 f ar z 0 ⟨Nat.zero_add _, hk⟩
  ·
    refine R_aload_n 13 dX7_lots_12 rfl rfl ?_
    refine R_iload_n 14 dX7_lots_13 rfl rfl ?_
    refine R_callVi 17 (eX7_no (bd_in c1)) dX7_lots_14 rfl kX7_no lX7_76 rfl rfl rfl rfl rfl rfl rfl ?_
    generalize hz1_ : (sX7_no ar (sX7_bound x 1 20)).2 = z1_
    refine R_ireturn dX7_lots_17 rfl rfl ?_
    subst hz1_
    have e : zz = ((sX7_no ar (sX7_bound x 1 20)).1, f, ((sX7_no ar (sX7_bound x 1 20)).2)) := by rw [← hs]; unfold sX7_lots; rw [if_neg c1]
    rw [pr1 e, pr1 (pr2 e), pr2 (pr2 e)]; exact ⟨rfl, rfl⟩
def exX7_count (f : Nat → Int32) (ar : Nat → Nat → Int32) (a : Nat) (v : Int32) : Int32 := v
def stX7_count (f : Nat → Int32) (ar : Nat → Nat → Int32) (a : Nat) (v : Int32) : Int32 := v + (ar 3 (nI a).toNatClampNeg)
def itX7_count (f : Nat → Int32) (ar : Nat → Nat → Int32) : Nat → Nat → Int32 → Int32
  | 0, a, v => exX7_count f ar a v
  | j + 1, a, v => itX7_count f ar j (a + 1) (stX7_count f ar a v)
theorem itX7_count_n {f : Nat → Int32} {ar : Nat → Nat → Int32} {j a : Nat} {v : Int32} {s0_ : Int32} (e : stX7_count f ar a v = s0_) : (itX7_count f ar (j + 1) a v) = (itX7_count f ar j (a + 1) s0_) := by simp only [itX7_count.eq_2, e]
set_option maxRecDepth 20000 in
theorem lpX7_count {G : zG} {h1 : List va_E} {f : Nat → Int32} {ar : Nat → Nat → Int32} : ∀ (j a : Nat) (v : Int32), (a + j = (f 8).toNatClampNeg ∧ (f 8).toNatClampNeg ≤ 5) → R G mX7_count 121 [(0, .ref 100), (2, .int v), (3, .int (nI a))] [] (h1, hM G f ar) (fun r0 h0 => r0 = some (.int (itX7_count f ar j a v)) ∧ h0 = (h1, hM G f ar)) := by
  intro j
  induction j with
  | zero =>
    intro a v hj
    have hx := cl_of (f 8)
    have hc : (f 8) ≤ nI a := cl_le (by omega) (by omega)
    refine R_iload_n 122 dX7_count_121 rfl rfl ?_
    refine R_aload_n 123 dX7_count_122 rfl rfl ?_
    refine R_get 126 dX7_count_123 rfl fX7_65 rfl (v := .int (f 8)) rfl ?_
    refine R_icmp_ge 129 144 dX7_count_126 rfl (by decide) (fun _ => ?_) (fun c => absurd hc c)
    refine R_iload_n 145 dX7_count_144 rfl rfl ?_
    refine R_ireturn dX7_count_145 rfl rfl ?_
    have e : (itX7_count f ar 0 a v) = v := rfl
    rw [e]; exact ⟨rfl, rfl⟩
  | succ j ih =>
    intro a v hj
    have hc : ¬ (f 8) ≤ nI a := cl_gt (by omega)
    refine R_iload_n 122 dX7_count_121 rfl rfl ?_
    refine R_aload_n 123 dX7_count_122 rfl rfl ?_
    refine R_get 126 dX7_count_123 rfl fX7_65 rfl (v := .int (f 8)) rfl ?_
    refine R_icmp_ge 129 144 dX7_count_126 rfl (by decide) (fun c => absurd c hc) (fun _ => ?_)
    refine R_iload_n 130 dX7_count_129 rfl rfl ?_
    refine R_aload_n 131 dX7_count_130 rfl rfl ?_
    refine R_get 134 dX7_count_131 rfl fX7_19 rfl (v := .ref 104) rfl ?_
    refine R_iload_n 135 dX7_count_134 rfl rfl ?_
    refine R_iald 136 dX7_count_135 rfl rfl rfl (vp_in_nI (by omega) (by omega)) ?_
    refine R_iadd 137 dX7_count_136 rfl ?_
    refine R_istore_n 138 dX7_count_137 rfl rfl (by decide) (loc' := [(0, .ref 100), (2, .int (v + (ar 3 (nI a).toNatClampNeg))), (3, .int (nI a))]) rfl ?_
    refine R_iinc 141 dX7_count_138 rfl rfl (v := (nI (a + 1))) (nI_1 a) rfl (by decide) (loc' := [(0, .ref 100), (2, .int (v + (ar 3 (nI a).toNatClampNeg))), (3, .int (nI (a + 1)))]) rfl ?_
    refine R_goto 121 dX7_count_141 (by decide) ?_
    refine R_pick [0, 1, 2] rfl ?_
    have e : stX7_count f ar a v = (v + (ar 3 (nI a).toNatClampNeg)) := by rfl
    have e2 : (itX7_count f ar (j + 1) a v) = (itX7_count f ar j (a + 1) (v + (ar 3 (nI a).toNatClampNeg))) := itX7_count_n e
    rw [e2]; exact ih (a + 1) (v + (ar 3 (nI a).toNatClampNeg)) ⟨by omega, hj.2⟩
def sX7_count (f : Nat → Int32) (ar : Nat → Nat → Int32) (w : Int32) : Int32 := if (sX7_isIn w 11 16) = true then ar 0 (w - 10).toNatClampNeg else if w = 0 then f 8 else if w = 1 then f 12 else if w = 2 then f 9 else if w = 3 then f 10 else if w = 4 then ar 1 4 else if w = 5 then ar 1 5 else if w = 6 then f 11 else if w = 7 then (itX7_count f ar (f 8).toNatClampNeg 0 0) else if w = 8 then f 35 else if w = 9 then f 17 else (-9)
set_option maxRecDepth 20000 in
theorem eX7_count {G : zG} {h1 : List va_E} {f : Nat → Int32} {ar : Nat → Nat → Int32} {w : Int32} (hk : mOk f ar) : EvF G mX7_count [.ref 100, .int w] (h1, hM G f ar) (some (.int (sX7_count f ar w))) (h1, hM G f ar) := by
  generalize hs : (sX7_count f ar w) = zz
  refine EvF.of pnX7 rfl ?_
  refine R_iload_n 1 dX7_count_0 rfl rfl ?_
  refine R_bipush 3 dX7_count_1 rfl (v := 11) (by decide) ?_
  refine R_bipush 5 dX7_count_3 rfl (v := 16) (by decide) ?_
  refine R_callSi 8 eX7_isIn dX7_count_5 rfl kX7_isIn lX7_87 rfl rfl rfl rfl rfl ?_
  refine R_ifb_eq 11 21 dX7_count_8 rfl (by decide) (fun c1 => ?_) (fun c1 => ?_)
  ·
    refine R_iconst 22 dX7_count_21 rfl (v := 0) (by decide) ?_
    refine R_istore_n 23 dX7_count_22 rfl rfl (by decide) (loc' := [(0, .ref 100), (1, .int w), (2, .int 0)]) rfl ?_
    refine R_iload_n 24 dX7_count_23 rfl rfl ?_
    by_cases c2 : w = 0
    ·
      refine R_tableAt 80 (off := 56) 0 c2 dX7_count_24 (by decide) (by decide) ?_
      refine R_aload_n 81 dX7_count_80 rfl rfl ?_
      refine R_get 84 dX7_count_81 rfl fX7_65 rfl (v := .int (f 8)) rfl ?_
      refine R_ireturn dX7_count_84 rfl rfl ?_
      have e : zz = f 8 := by rw [← hs]; unfold sX7_count; rw [if_neg c1, if_pos c2]
      subst e; exact ⟨rfl, rfl⟩
    by_cases c3 : w = 1
    ·
      refine R_tableAt 85 (off := 61) 1 c3 dX7_count_24 (by decide) (by decide) ?_
      refine R_aload_n 86 dX7_count_85 rfl rfl ?_
      refine R_get 89 dX7_count_86 rfl fX7_138 rfl (v := .int (f 12)) rfl ?_
      refine R_ireturn dX7_count_89 rfl rfl ?_
      have e : zz = f 12 := by rw [← hs]; unfold sX7_count; rw [if_neg c1, if_neg c2, if_pos c3]
      subst e; exact ⟨rfl, rfl⟩
    by_cases c4 : w = 2
    ·
      refine R_tableAt 90 (off := 66) 2 c4 dX7_count_24 (by decide) (by decide) ?_
      refine R_aload_n 91 dX7_count_90 rfl rfl ?_
      refine R_get 94 dX7_count_91 rfl fX7_132 rfl (v := .int (f 9)) rfl ?_
      refine R_ireturn dX7_count_94 rfl rfl ?_
      have e : zz = f 9 := by rw [← hs]; unfold sX7_count; rw [if_neg c1, if_neg c2, if_neg c3, if_pos c4]
      subst e; exact ⟨rfl, rfl⟩
    by_cases c5 : w = 3
    ·
      refine R_tableAt 95 (off := 71) 3 c5 dX7_count_24 (by decide) (by decide) ?_
      refine R_aload_n 96 dX7_count_95 rfl rfl ?_
      refine R_get 99 dX7_count_96 rfl fX7_135 rfl (v := .int (f 10)) rfl ?_
      refine R_ireturn dX7_count_99 rfl rfl ?_
      have e : zz = f 10 := by rw [← hs]; unfold sX7_count; rw [if_neg c1, if_neg c2, if_neg c3, if_neg c4, if_pos c5]
      subst e; exact ⟨rfl, rfl⟩
    by_cases c6 : w = 4
    ·
      refine R_tableAt 100 (off := 76) 4 c6 dX7_count_24 (by decide) (by decide) ?_
      refine R_aload_n 101 dX7_count_100 rfl rfl ?_
      refine R_get 104 dX7_count_101 rfl fX7_13 rfl (v := .ref 102) rfl ?_
      refine R_iconst 105 dX7_count_104 rfl (v := 4) (by decide) ?_
      refine R_iald 106 dX7_count_105 rfl rfl rfl (vin_d (by decide)) ?_
      refine R_top (y := (ar 1 4)) rfl ?_
      refine R_ireturn dX7_count_106 rfl rfl ?_
      have e : zz = ar 1 4 := by rw [← hs]; unfold sX7_count; rw [if_neg c1, if_neg c2, if_neg c3, if_neg c4, if_neg c5, if_pos c6]
      subst e; exact ⟨rfl, rfl⟩
    by_cases c7 : w = 5
    ·
      refine R_tableAt 107 (off := 83) 5 c7 dX7_count_24 (by decide) (by decide) ?_
      refine R_aload_n 108 dX7_count_107 rfl rfl ?_
      refine R_get 111 dX7_count_108 rfl fX7_13 rfl (v := .ref 102) rfl ?_
      refine R_iconst 112 dX7_count_111 rfl (v := 5) (by decide) ?_
      refine R_iald 113 dX7_count_112 rfl rfl rfl (vin_d (by decide)) ?_
      refine R_top (y := (ar 1 5)) rfl ?_
      refine R_ireturn dX7_count_113 rfl rfl ?_
      have e : zz = ar 1 5 := by rw [← hs]; unfold sX7_count; rw [if_neg c1, if_neg c2, if_neg c3, if_neg c4, if_neg c5, if_neg c6, if_pos c7]
      subst e; exact ⟨rfl, rfl⟩
    by_cases c8 : w = 6
    ·
      refine R_tableAt 114 (off := 90) 6 c8 dX7_count_24 (by decide) (by decide) ?_
      refine R_aload_n 115 dX7_count_114 rfl rfl ?_
      refine R_get 118 dX7_count_115 rfl fX7_170 rfl (v := .int (f 11)) rfl ?_
      refine R_ireturn dX7_count_118 rfl rfl ?_
      have e : zz = f 11 := by rw [← hs]; unfold sX7_count; rw [if_neg c1, if_neg c2, if_neg c3, if_neg c4, if_neg c5, if_neg c6, if_neg c7, if_pos c8]
      subst e; exact ⟨rfl, rfl⟩
    by_cases c9 : w = 7
    ·
      refine R_tableAt 119 (off := 95) 7 c9 dX7_count_24 (by decide) (by decide) ?_
      refine R_iconst 120 dX7_count_119 rfl (v := 0) (by decide) ?_
      refine R_istore_n 121 dX7_count_120 rfl rfl (by decide) (loc' := [(0, .ref 100), (1, .int w), (2, .int 0), (3, .int 0)]) rfl ?_
      refine R_pick [0, 2, 3] rfl ?_
      have e : zz = (itX7_count f ar (f 8).toNatClampNeg 0 0) := by rw [← hs]; unfold sX7_count; rw [if_neg c1, if_neg c2, if_neg c3, if_neg c4, if_neg c5, if_neg c6, if_neg c7, if_neg c8, if_pos c9]
      subst e; exact lpX7_count ((f 8).toNatClampNeg) 0 0 ⟨Nat.zero_add _, mo_n hk⟩
    by_cases c10 : w = 8
    ·
      refine R_tableAt 146 (off := 122) 8 c10 dX7_count_24 (by decide) (by decide) ?_
      refine R_aload_n 147 dX7_count_146 rfl rfl ?_
      refine R_get 150 dX7_count_147 rfl fX7_274 rfl (v := .int (f 35)) rfl ?_
      refine R_ireturn dX7_count_150 rfl rfl ?_
      have e : zz = f 35 := by rw [← hs]; unfold sX7_count; rw [if_neg c1, if_neg c2, if_neg c3, if_neg c4, if_neg c5, if_neg c6, if_neg c7, if_neg c8, if_neg c9, if_pos c10]
      subst e; exact ⟨rfl, rfl⟩
    by_cases c11 : w = 9
    ·
      refine R_tableAt 151 (off := 127) 9 c11 dX7_count_24 (by decide) (by decide) ?_
      refine R_aload_n 152 dX7_count_151 rfl rfl ?_
      refine R_get 155 dX7_count_152 rfl fX7_73 rfl (v := .int (f 17)) rfl ?_
      refine R_ireturn dX7_count_155 rfl rfl ?_
      have e : zz = f 17 := by rw [← hs]; unfold sX7_count; rw [if_neg c1, if_neg c2, if_neg c3, if_neg c4, if_neg c5, if_neg c6, if_neg c7, if_neg c8, if_neg c9, if_neg c10, if_pos c11]
      subst e; exact ⟨rfl, rfl⟩
    refine R_tableD 156 [0, 1, 2, 3, 4, 5, 6, 7, 8, 9] dX7_count_24 (List.forall_mem_cons.mpr ⟨lv_neT c2 (show (0 : Int32).toInt = 0 by decide), List.forall_mem_cons.mpr ⟨lv_neT c3 (show (1 : Int32).toInt = 1 by decide), List.forall_mem_cons.mpr ⟨lv_neT c4 (show (2 : Int32).toInt = 2 by decide), List.forall_mem_cons.mpr ⟨lv_neT c5 (show (3 : Int32).toInt = 3 by decide), List.forall_mem_cons.mpr ⟨lv_neT c6 (show (4 : Int32).toInt = 4 by decide), List.forall_mem_cons.mpr ⟨lv_neT c7 (show (5 : Int32).toInt = 5 by decide), List.forall_mem_cons.mpr ⟨lv_neT c8 (show (6 : Int32).toInt = 6 by decide), List.forall_mem_cons.mpr ⟨lv_neT c9 (show (7 : Int32).toInt = 7 by decide), List.forall_mem_cons.mpr ⟨lv_neT c10 (show (8 : Int32).toInt = 8 by decide), List.forall_mem_cons.mpr ⟨lv_neT c11 (show (9 : Int32).toInt = 9 by decide), fun _ h => absurd h List.not_mem_nil⟩⟩⟩⟩⟩⟩⟩⟩⟩⟩) (by decide) (by decide) ?_
    refine R_bipush 158 dX7_count_156 rfl (v := (-9)) (by decide) ?_
    refine R_ireturn dX7_count_158 rfl rfl ?_
    have e : zz = (-9) := by rw [← hs]; unfold sX7_count; rw [if_neg c1, if_neg c2, if_neg c3, if_neg c4, if_neg c5, if_neg c6, if_neg c7, if_neg c8, if_neg c9, if_neg c10, if_neg c11]
    subst e; exact ⟨rfl, rfl⟩
  ·
    refine R_aload_n 12 dX7_count_11 rfl rfl ?_
    refine R_get 15 dX7_count_12 rfl fX7_7 rfl (v := .ref 101) rfl ?_
    refine R_iload_n 16 dX7_count_15 rfl rfl ?_
    refine R_bipush 18 dX7_count_16 rfl (v := 10) (by decide) ?_
    refine R_isub 19 dX7_count_18 rfl ?_
    refine R_iald 20 dX7_count_19 rfl rfl rfl (c7_in c1) ?_
    refine R_ireturn dX7_count_20 rfl rfl ?_
    have e : zz = ar 0 (w - 10).toNatClampNeg := by rw [← hs]; unfold sX7_count; rw [if_pos c1]
    subst e; exact ⟨rfl, rfl⟩
