def savK (s x : Nat → Int32) (b L : Nat) : Nat → Int32 := fun i => if b ≤ i ∧ i < b + L then x (i - b) else s i
def getK (s x : Nat → Int32) (b L : Nat) : Nat → Int32 := fun i => if i < L then s (b + i) else x i
theorem upd_2 {f : Nat → Int32} {k : Nat} {u v : Int32} : upd (upd f k u) k v = upd f k v := by
  funext j
  by_cases hj : j = k
  · subst hj; show (if _ then _ else _) = (if _ then _ else _); rw [if_pos rfl, if_pos rfl]
  · rw [upd_ne hj, upd_ne hj, upd_ne hj]
theorem up2_2 {α : Type} {f : Nat → α} {k : Nat} {u v : α} : up2 (up2 f k u) k v = up2 f k v := by
  funext j
  by_cases hj : j = k
  · subst hj; show (if _ then _ else _) = (if _ then _ else _); rw [if_pos rfl, if_pos rfl]
  · rw [up2_ne hj, up2_ne hj, up2_ne hj]
theorem up2_id {α : Type} {f : Nat → α} {k : Nat} {u : α} (h : f k = u) : up2 f k u = f := by
  funext j
  by_cases hj : j = k
  · subst hj; show (if _ then _ else _) = _; rw [if_pos rfl, h]
  · rw [up2_ne hj]
theorem upd_id {f : Nat → Int32} {k : Nat} {u : Int32} (h : f k = u) : upd f k u = f := by
  funext j
  by_cases hj : j = k
  · subst hj; show (if _ then _ else _) = _; rw [if_pos rfl, h]
  · rw [upd_ne hj]
theorem sk_0 (s x : Nat → Int32) (b a : Nat) : (fun i => if b + a ≤ i ∧ i < b + a + 0 then x (i - b) else s i) = s := by
  funext i
  rw [if_neg (by omega)]
theorem sk_n (s x : Nat → Int32) (b a j : Nat) : (fun i => if b + (a + 1) ≤ i ∧ i < b + (a + 1) + j then x (i - b) else upd s (b + a) (x a) i) = fun i => if b + a ≤ i ∧ i < b + a + (j + 1) then x (i - b) else s i := by
  funext i
  by_cases h : i = b + a
  · rw [if_neg (by omega), if_pos (by omega), h, show b + a - b = a by omega]
    exact if_pos rfl
  · rw [upd_ne h]
    by_cases h2 : b + a ≤ i ∧ i < b + a + (j + 1)
    · rw [if_pos (by omega), if_pos h2]
    · rw [if_neg (by omega), if_neg h2]
theorem gk_0 (s x : Nat → Int32) (b a : Nat) : (fun i => if a ≤ i ∧ i < a + 0 then s (b + i) else x i) = x := by
  funext i
  rw [if_neg (by omega)]
theorem gk_n (s x : Nat → Int32) (b a j : Nat) : (fun i => if a + 1 ≤ i ∧ i < a + 1 + j then s (b + i) else upd x a (s (b + a)) i) = fun i => if a ≤ i ∧ i < a + (j + 1) then s (b + i) else x i := by
  funext i
  by_cases h : i = a
  · rw [if_neg (by omega), if_pos (by omega), h]
    exact if_pos rfl
  · rw [upd_ne h]
    by_cases h2 : a ≤ i ∧ i < a + (j + 1)
    · rw [if_pos (by omega), if_pos h2]
    · rw [if_neg (by omega), if_neg h2]
theorem c23 {f : Nat → Int32} {b n : Nat} (h : f 23 = nI n) (hb : n < 150) : vp_in (f 23) 150 := by
  rw [h]; exact vp_in_nI hb (by omega)
def exX7_passes_1k  (a : Nat) (f : Nat → Int32) (ar : Nat → Nat → Int32) : (Nat → Int32) × (Nat → Nat → Int32) := (f, ar)
def stX7_passes_1k  (a : Nat) (f : Nat → Int32) (ar : Nat → Nat → Int32) : (Nat → Int32) × (Nat → Nat → Int32) := ((upd f 23 ((f 23) + 1)), (up2 ar 20 (upd (ar 20) (f 23).toNatClampNeg (ar 1 (nI a).toNatClampNeg))))
def itX7_passes_1k  : Nat → Nat → (Nat → Int32) → (Nat → Nat → Int32) → (Nat → Int32) × (Nat → Nat → Int32)
  | 0, a, f, ar => exX7_passes_1k  a f ar
  | j + 1, a, f, ar => itX7_passes_1k  j (a + 1) ((stX7_passes_1k  a f ar).1) ((stX7_passes_1k  a f ar).2)
theorem itX7_passes_1k_n  {j a : Nat} {f : Nat → Int32} {ar : Nat → Nat → Int32} {s0_ : Nat → Int32} {s1_ : Nat → Nat → Int32} (e : stX7_passes_1k  a f ar = (s0_, s1_)) : (itX7_passes_1k  (j + 1) a f ar) = (itX7_passes_1k  j (a + 1) s0_ s1_) := by simp only [itX7_passes_1k.eq_2, e]
set_option maxRecDepth 20000 in
theorem lpX7_passes_1k {G : zG} {h1 : List va_E} {b : Nat} : ∀ (j a : Nat) (f : Nat → Int32) (ar : Nat → Nat → Int32), (a + j = 6 ∧ b + 6 ≤ 150 ∧ f 23 = nI (b + a) ∧ ¬ f 22 = 0) → R G mX7_passes 2 [(0, .ref 100), (1, .ref 102), (2, .int (nI a))] [] (h1, hM G f ar) (fun r0 h0 => r0 = none ∧ h0 = (h1, hM G ((itX7_passes_1k  j a f ar).1) ((itX7_passes_1k  j a f ar).2))) := by
  intro j
  induction j with
  | zero =>
    intro a f ar hj
    have hc : (6 : Int32) ≤ nI a := by show nI 6 ≤ nI a; exact nI_le (by omega) (by omega)
    refine R_iload_n 3 dX7_passes_2 rfl rfl ?_
    refine R_aload_n 4 dX7_passes_3 rfl rfl ?_
    refine R_alen 5 dX7_passes_4 rfl rfl rfl ?_
    refine R_top (y := 6) (by decide) ?_
    refine R_icmp_ge 8 58 dX7_passes_5 rfl (by decide) (fun _ => ?_) (fun c => absurd hc c)
    refine R_return dX7_passes_58 rfl ?_
    have e : (itX7_passes_1k  0 a f ar) = (f, ar) := rfl
    rw [e]; exact ⟨rfl, rfl⟩
  | succ j ih =>
    intro a f ar hj
    have hc : ¬ (6 : Int32) ≤ nI a := by show ¬ nI 6 ≤ nI a; exact nI_ge (by omega) (by omega)
    refine R_iload_n 3 dX7_passes_2 rfl rfl ?_
    refine R_aload_n 4 dX7_passes_3 rfl rfl ?_
    refine R_alen 5 dX7_passes_4 rfl rfl rfl ?_
    refine R_top (y := 6) (by decide) ?_
    refine R_icmp_ge 8 58 dX7_passes_5 rfl (by decide) (fun c => absurd c hc) (fun _ => ?_)
    refine R_aload_n 9 dX7_passes_8 rfl rfl ?_
    refine R_get 12 dX7_passes_9 rfl fX7_156 rfl (v := .int (f 22)) rfl ?_
    refine R_if_eq 15 30 dX7_passes_12 rfl (by decide) (fun c => absurd c hj.2.2.2) (fun _ => ?_)
    refine R_aload_n 16 dX7_passes_15 rfl rfl ?_
    refine R_get 19 dX7_passes_16 rfl fX7_46 rfl (v := .ref 113) rfl ?_
    refine R_aload_n 20 dX7_passes_19 rfl rfl ?_
    refine R_get 23 dX7_passes_20 rfl fX7_160 rfl (v := .int (f 23)) rfl ?_
    refine R_aload_n 24 dX7_passes_23 rfl rfl ?_
    refine R_iload_n 25 dX7_passes_24 rfl rfl ?_
    refine R_iald 26 dX7_passes_25 rfl rfl rfl (vp_in_nI (by omega) (by omega)) ?_
    refine R_nm2 (fun z1_ hz1_ => ?_)
    refine R_iast 27 dX7_passes_26 rfl rfl rfl (c23 (b := b) hj.2.2.1 (by omega)) (h2 := (h1, hM G f (up2 ar 20 (upd (ar 20) (f 23).toNatClampNeg z1_)))) ms_20 ?_
    refine R_goto 42 dX7_passes_27 (by decide) ?_
    refine R_aload_n 43 dX7_passes_42 rfl rfl ?_
    refine R_dup 44 dX7_passes_43 rfl rfl ?_
    refine R_get 47 dX7_passes_44 rfl fX7_160 rfl (v := .int (f 23)) rfl ?_
    refine R_iconst 48 dX7_passes_47 rfl (v := 1) (by decide) ?_
    refine R_iadd 49 dX7_passes_48 rfl ?_
    refine R_nm2 (fun z2_ hz2_ => ?_)
    refine R_put 52 dX7_passes_49 rfl wX7_160 rfl rfl rfl rfl (h2 := (h1, hM G (upd f 23 z2_) (up2 ar 20 (upd (ar 20) (f 23).toNatClampNeg z1_)))) mp_23 ?_
    refine R_iinc 55 dX7_passes_52 rfl rfl (v := (nI (a + 1))) (nI_1 a) rfl (by decide) (loc' := [(0, .ref 100), (1, .ref 102), (2, .int (nI (a + 1)))]) rfl ?_
    refine R_goto 2 dX7_passes_55 (by decide) ?_
    subst hz1_ hz2_
    refine R_pick [0, 1, 2] rfl ?_
    have e : stX7_passes_1k  a f ar = ((upd f 23 ((f 23) + 1)), (up2 ar 20 (upd (ar 20) (f 23).toNatClampNeg (ar 1 (nI a).toNatClampNeg)))) := by rfl
    have e2 : (itX7_passes_1k  (j + 1) a f ar) = (itX7_passes_1k  j (a + 1) (upd f 23 ((f 23) + 1)) (up2 ar 20 (upd (ar 20) (f 23).toNatClampNeg (ar 1 (nI a).toNatClampNeg)))) := itX7_passes_1k_n e
    rw [e2]; exact ih (a + 1) (upd f 23 ((f 23) + 1)) (up2 ar 20 (upd (ar 20) (f 23).toNatClampNeg (ar 1 (nI a).toNatClampNeg))) ⟨by omega, hj.2.1, (by show f 23 + 1 = nI (b + (a + 1)); rw [hj.2.2.1, nI_1]; rfl), hj.2.2.2⟩
def sX7_passes_1k (f : Nat → Int32) (ar : Nat → Nat → Int32) : (Nat → Int32) × (Nat → Nat → Int32) := ((itX7_passes_1k  6 0 f ar).1, (itX7_passes_1k  6 0 f ar).2)
set_option maxRecDepth 20000 in
theorem eX7_passes_1k {G : zG} {h1 : List va_E} {f : Nat → Int32} {ar : Nat → Nat → Int32} {b : Nat} (hb : b + 6 ≤ 150) (h23 : f 23 = nI b) (hm : ¬ f 22 = 0) : EvF G mX7_passes [.ref 100, .ref 102] (h1, hM G f ar) (none) (h1, hM G ((sX7_passes_1k f ar).1) ((sX7_passes_1k f ar).2)) := by
  generalize hs : (sX7_passes_1k f ar) = zz
  refine EvF.of pnX7 rfl ?_
  refine R_iconst 1 dX7_passes_0 rfl (v := 0) (by decide) ?_
  refine R_istore_n 2 dX7_passes_1 rfl rfl (by decide) (loc' := [(0, .ref 100), (1, .ref 102), (2, .int 0)]) rfl ?_
  refine R_pick [0, 1, 2] rfl ?_
  have e : zz = ((itX7_passes_1k  6 0 f ar).1, (itX7_passes_1k  6 0 f ar).2) := by rw [← hs]; unfold sX7_passes_1k; rfl
  rw [pr1 e, pr2 e]; exact lpX7_passes_1k 6 0 f ar ⟨rfl, hb, h23, hm⟩
theorem pl_1k {b : Nat} : ∀ (j a : Nat) (f : Nat → Int32) (ar : Nat → Nat → Int32), b + a + j ≤ 150 → f 23 = nI (b + a) → itX7_passes_1k j a f ar = (upd f 23 (nI (b + a + j)), up2 ar 20 (fun i => if b + a ≤ i ∧ i < b + a + j then ar 1 (i - b) else ar 20 i))
  | 0, a, f, ar, hb, h => by
    rw [sk_0, up2_id rfl, upd_id (u := nI (b + a + 0)) h]
    rfl
  | j + 1, a, f, ar, hb, h => by
    have hc : (f 23).toNatClampNeg = b + a := by rw [h, nI_clamp (by omega)]
    have ha : (nI a).toNatClampNeg = a := nI_clamp (by omega)
    have es : stX7_passes_1k a f ar = (upd f 23 (nI (b + (a + 1))), up2 ar 20 (upd (ar 20) (b + a) (ar 1 a))) := by
      show (upd f 23 (f 23 + 1), up2 ar 20 (upd (ar 20) (f 23).toNatClampNeg (ar 1 (nI a).toNatClampNeg))) = _
      rw [hc, ha, h, nI_1]
      rfl
    have e3 : (fun i => if b + (a + 1) ≤ i ∧ i < b + (a + 1) + j then (up2 ar 20 (upd (ar 20) (b + a) (ar 1 a))) 1 (i - b) else (up2 ar 20 (upd (ar 20) (b + a) (ar 1 a))) 20 i) = _ := sk_n (ar 20) (ar 1) b a j
    rw [show itX7_passes_1k (j + 1) a f ar = itX7_passes_1k j (a + 1) (stX7_passes_1k a f ar).1 (stX7_passes_1k a f ar).2 from rfl, es]
    rw [pl_1k (b := b) j (a + 1) (upd f 23 (nI (b + (a + 1)))) (up2 ar 20 (upd (ar 20) (b + a) (ar 1 a))) (by omega) rfl, e3, up2_2, upd_2, show b + (a + 1) + j = b + a + (j + 1) by omega]
theorem passK_1 {G : zG} {h1 : List va_E} {f : Nat → Int32} {ar : Nat → Nat → Int32} {b : Nat} {c0 c1 : Int32} (hb : b + 6 ≤ 150) (h23 : f 23 = c0) (h0 : c0 = nI b) (hc : c1 = nI (b + 6)) (hm : ¬ f 22 = 0) : EvF G mX7_passes [.ref 100, .ref 102] (h1, hM G f ar) none (h1, hM G (upd f 23 c1) (up2 ar 20 (savK (ar 20) (ar 1) b 6))) := by
  have e := eX7_passes_1k (G := G) (h1 := h1) (f := f) (ar := ar) hb (h23.trans h0) hm
  have e2 : sX7_passes_1k f ar = (upd f 23 (nI (b + 0 + 6)), up2 ar 20 (fun i => if b + 0 ≤ i ∧ i < b + 0 + 6 then ar 1 (i - b) else ar 20 i)) := pl_1k 6 0 f ar (by omega) (h23.trans h0)
  rw [e2] at e
  subst hc
  exact e
def exX7_passes_1p  (a : Nat) (f : Nat → Int32) (ar : Nat → Nat → Int32) : (Nat → Int32) × (Nat → Nat → Int32) := (f, ar)
def stX7_passes_1p  (a : Nat) (f : Nat → Int32) (ar : Nat → Nat → Int32) : (Nat → Int32) × (Nat → Nat → Int32) := ((upd f 23 ((f 23) + 1)), (up2 ar 1 (upd (ar 1) (nI a).toNatClampNeg (ar 20 (f 23).toNatClampNeg))))
def itX7_passes_1p  : Nat → Nat → (Nat → Int32) → (Nat → Nat → Int32) → (Nat → Int32) × (Nat → Nat → Int32)
  | 0, a, f, ar => exX7_passes_1p  a f ar
  | j + 1, a, f, ar => itX7_passes_1p  j (a + 1) ((stX7_passes_1p  a f ar).1) ((stX7_passes_1p  a f ar).2)
theorem itX7_passes_1p_n  {j a : Nat} {f : Nat → Int32} {ar : Nat → Nat → Int32} {s0_ : Nat → Int32} {s1_ : Nat → Nat → Int32} (e : stX7_passes_1p  a f ar = (s0_, s1_)) : (itX7_passes_1p  (j + 1) a f ar) = (itX7_passes_1p  j (a + 1) s0_ s1_) := by simp only [itX7_passes_1p.eq_2, e]
set_option maxRecDepth 20000 in
theorem lpX7_passes_1p {G : zG} {h1 : List va_E} {b : Nat} : ∀ (j a : Nat) (f : Nat → Int32) (ar : Nat → Nat → Int32), (a + j = 6 ∧ b + 6 ≤ 150 ∧ f 23 = nI (b + a) ∧ f 22 = 0) → R G mX7_passes 2 [(0, .ref 100), (1, .ref 102), (2, .int (nI a))] [] (h1, hM G f ar) (fun r0 h0 => r0 = none ∧ h0 = (h1, hM G ((itX7_passes_1p  j a f ar).1) ((itX7_passes_1p  j a f ar).2))) := by
  intro j
  induction j with
  | zero =>
    intro a f ar hj
    have hc : (6 : Int32) ≤ nI a := by show nI 6 ≤ nI a; exact nI_le (by omega) (by omega)
    refine R_iload_n 3 dX7_passes_2 rfl rfl ?_
    refine R_aload_n 4 dX7_passes_3 rfl rfl ?_
    refine R_alen 5 dX7_passes_4 rfl rfl rfl ?_
    refine R_top (y := 6) (by decide) ?_
    refine R_icmp_ge 8 58 dX7_passes_5 rfl (by decide) (fun _ => ?_) (fun c => absurd hc c)
    refine R_return dX7_passes_58 rfl ?_
    have e : (itX7_passes_1p  0 a f ar) = (f, ar) := rfl
    rw [e]; exact ⟨rfl, rfl⟩
  | succ j ih =>
    intro a f ar hj
    have hc : ¬ (6 : Int32) ≤ nI a := by show ¬ nI 6 ≤ nI a; exact nI_ge (by omega) (by omega)
    refine R_iload_n 3 dX7_passes_2 rfl rfl ?_
    refine R_aload_n 4 dX7_passes_3 rfl rfl ?_
    refine R_alen 5 dX7_passes_4 rfl rfl rfl ?_
    refine R_top (y := 6) (by decide) ?_
    refine R_icmp_ge 8 58 dX7_passes_5 rfl (by decide) (fun c => absurd c hc) (fun _ => ?_)
    refine R_aload_n 9 dX7_passes_8 rfl rfl ?_
    refine R_get 12 dX7_passes_9 rfl fX7_156 rfl (v := .int (f 22)) rfl ?_
    refine R_if_eq 15 30 dX7_passes_12 rfl (by decide) (fun _ => ?_) (fun c => absurd hj.2.2.2 c)
    refine R_aload_n 31 dX7_passes_30 rfl rfl ?_
    refine R_iload_n 32 dX7_passes_31 rfl rfl ?_
    refine R_aload_n 33 dX7_passes_32 rfl rfl ?_
    refine R_get 36 dX7_passes_33 rfl fX7_46 rfl (v := .ref 113) rfl ?_
    refine R_aload_n 37 dX7_passes_36 rfl rfl ?_
    refine R_get 40 dX7_passes_37 rfl fX7_160 rfl (v := .int (f 23)) rfl ?_
    refine R_iald 41 dX7_passes_40 rfl rfl rfl (c23 (b := b) hj.2.2.1 (by omega)) ?_
    refine R_nm2 (fun z1_ hz1_ => ?_)
    refine R_iast 42 dX7_passes_41 rfl rfl rfl (vp_in_nI (by omega) (by omega)) (h2 := (h1, hM G f (up2 ar 1 (upd (ar 1) (nI a).toNatClampNeg z1_)))) ms_1 ?_
    refine R_aload_n 43 dX7_passes_42 rfl rfl ?_
    refine R_dup 44 dX7_passes_43 rfl rfl ?_
    refine R_get 47 dX7_passes_44 rfl fX7_160 rfl (v := .int (f 23)) rfl ?_
    refine R_iconst 48 dX7_passes_47 rfl (v := 1) (by decide) ?_
    refine R_iadd 49 dX7_passes_48 rfl ?_
    refine R_nm2 (fun z2_ hz2_ => ?_)
    refine R_put 52 dX7_passes_49 rfl wX7_160 rfl rfl rfl rfl (h2 := (h1, hM G (upd f 23 z2_) (up2 ar 1 (upd (ar 1) (nI a).toNatClampNeg z1_)))) mp_23 ?_
    refine R_iinc 55 dX7_passes_52 rfl rfl (v := (nI (a + 1))) (nI_1 a) rfl (by decide) (loc' := [(0, .ref 100), (1, .ref 102), (2, .int (nI (a + 1)))]) rfl ?_
    refine R_goto 2 dX7_passes_55 (by decide) ?_
    subst hz1_ hz2_
    refine R_pick [0, 1, 2] rfl ?_
    have e : stX7_passes_1p  a f ar = ((upd f 23 ((f 23) + 1)), (up2 ar 1 (upd (ar 1) (nI a).toNatClampNeg (ar 20 (f 23).toNatClampNeg)))) := by rfl
    have e2 : (itX7_passes_1p  (j + 1) a f ar) = (itX7_passes_1p  j (a + 1) (upd f 23 ((f 23) + 1)) (up2 ar 1 (upd (ar 1) (nI a).toNatClampNeg (ar 20 (f 23).toNatClampNeg)))) := itX7_passes_1p_n e
    rw [e2]; exact ih (a + 1) (upd f 23 ((f 23) + 1)) (up2 ar 1 (upd (ar 1) (nI a).toNatClampNeg (ar 20 (f 23).toNatClampNeg))) ⟨by omega, hj.2.1, (by show f 23 + 1 = nI (b + (a + 1)); rw [hj.2.2.1, nI_1]; rfl), hj.2.2.2⟩
def sX7_passes_1p (f : Nat → Int32) (ar : Nat → Nat → Int32) : (Nat → Int32) × (Nat → Nat → Int32) := ((itX7_passes_1p  6 0 f ar).1, (itX7_passes_1p  6 0 f ar).2)
set_option maxRecDepth 20000 in
theorem eX7_passes_1p {G : zG} {h1 : List va_E} {f : Nat → Int32} {ar : Nat → Nat → Int32} {b : Nat} (hb : b + 6 ≤ 150) (h23 : f 23 = nI b) (hm : f 22 = 0) : EvF G mX7_passes [.ref 100, .ref 102] (h1, hM G f ar) (none) (h1, hM G ((sX7_passes_1p f ar).1) ((sX7_passes_1p f ar).2)) := by
  generalize hs : (sX7_passes_1p f ar) = zz
  refine EvF.of pnX7 rfl ?_
  refine R_iconst 1 dX7_passes_0 rfl (v := 0) (by decide) ?_
  refine R_istore_n 2 dX7_passes_1 rfl rfl (by decide) (loc' := [(0, .ref 100), (1, .ref 102), (2, .int 0)]) rfl ?_
  refine R_pick [0, 1, 2] rfl ?_
  have e : zz = ((itX7_passes_1p  6 0 f ar).1, (itX7_passes_1p  6 0 f ar).2) := by rw [← hs]; unfold sX7_passes_1p; rfl
  rw [pr1 e, pr2 e]; exact lpX7_passes_1p 6 0 f ar ⟨rfl, hb, h23, hm⟩
theorem pl_1p {b : Nat} : ∀ (j a : Nat) (f : Nat → Int32) (ar : Nat → Nat → Int32), b + a + j ≤ 150 → f 23 = nI (b + a) → itX7_passes_1p j a f ar = (upd f 23 (nI (b + a + j)), up2 ar 1 (fun i => if a ≤ i ∧ i < a + j then ar 20 (b + i) else ar 1 i))
  | 0, a, f, ar, hb, h => by
    rw [gk_0, up2_id rfl, upd_id (u := nI (b + a + 0)) h]
    rfl
  | j + 1, a, f, ar, hb, h => by
    have hc : (f 23).toNatClampNeg = b + a := by rw [h, nI_clamp (by omega)]
    have ha : (nI a).toNatClampNeg = a := nI_clamp (by omega)
    have es : stX7_passes_1p a f ar = (upd f 23 (nI (b + (a + 1))), up2 ar 1 (upd (ar 1) a (ar 20 (b + a)))) := by
      show (upd f 23 (f 23 + 1), up2 ar 1 (upd (ar 1) (nI a).toNatClampNeg (ar 20 (f 23).toNatClampNeg))) = _
      rw [hc, ha, h, nI_1]
      rfl
    have e3 : (fun i => if a + 1 ≤ i ∧ i < a + 1 + j then (up2 ar 1 (upd (ar 1) a (ar 20 (b + a)))) 20 (b + i) else (up2 ar 1 (upd (ar 1) a (ar 20 (b + a)))) 1 i) = _ := gk_n (ar 20) (ar 1) b a j
    rw [show itX7_passes_1p (j + 1) a f ar = itX7_passes_1p j (a + 1) (stX7_passes_1p a f ar).1 (stX7_passes_1p a f ar).2 from rfl, es]
    rw [pl_1p (b := b) j (a + 1) (upd f 23 (nI (b + (a + 1)))) (up2 ar 1 (upd (ar 1) a (ar 20 (b + a)))) (by omega) rfl, e3, up2_2, upd_2, show b + (a + 1) + j = b + a + (j + 1) by omega]
theorem passP_1 {G : zG} {h1 : List va_E} {f : Nat → Int32} {ar : Nat → Nat → Int32} {b : Nat} {c0 c1 : Int32} (hb : b + 6 ≤ 150) (h23 : f 23 = c0) (h0 : c0 = nI b) (hc : c1 = nI (b + 6)) (hm : f 22 = 0) : EvF G mX7_passes [.ref 100, .ref 102] (h1, hM G f ar) none (h1, hM G (upd f 23 c1) (up2 ar 1 (getK (ar 20) (ar 1) b 6))) := by
  have e := eX7_passes_1p (G := G) (h1 := h1) (f := f) (ar := ar) hb (h23.trans h0) hm
  have e2 : sX7_passes_1p f ar = (upd f 23 (nI (b + 0 + 6)), up2 ar 1 (fun i => if 0 ≤ i ∧ i < 0 + 6 then ar 20 (b + i) else ar 1 i)) := pl_1p 6 0 f ar (by omega) (h23.trans h0)
  have e3 : (fun i => if 0 ≤ i ∧ i < 0 + 6 then ar 20 (b + i) else ar 1 i) = getK (ar 20) (ar 1) b 6 := by
    funext i
    unfold getK
    by_cases h : i < 6
    · rw [if_pos (by omega), if_pos h]
    · rw [if_neg (by omega), if_neg h]
  rw [e2, e3] at e
  subst hc
  exact e
def exX7_passes_2k  (a : Nat) (f : Nat → Int32) (ar : Nat → Nat → Int32) : (Nat → Int32) × (Nat → Nat → Int32) := (f, ar)
def stX7_passes_2k  (a : Nat) (f : Nat → Int32) (ar : Nat → Nat → Int32) : (Nat → Int32) × (Nat → Nat → Int32) := ((upd f 23 ((f 23) + 1)), (up2 ar 20 (upd (ar 20) (f 23).toNatClampNeg (ar 2 (nI a).toNatClampNeg))))
def itX7_passes_2k  : Nat → Nat → (Nat → Int32) → (Nat → Nat → Int32) → (Nat → Int32) × (Nat → Nat → Int32)
  | 0, a, f, ar => exX7_passes_2k  a f ar
  | j + 1, a, f, ar => itX7_passes_2k  j (a + 1) ((stX7_passes_2k  a f ar).1) ((stX7_passes_2k  a f ar).2)
theorem itX7_passes_2k_n  {j a : Nat} {f : Nat → Int32} {ar : Nat → Nat → Int32} {s0_ : Nat → Int32} {s1_ : Nat → Nat → Int32} (e : stX7_passes_2k  a f ar = (s0_, s1_)) : (itX7_passes_2k  (j + 1) a f ar) = (itX7_passes_2k  j (a + 1) s0_ s1_) := by simp only [itX7_passes_2k.eq_2, e]
set_option maxRecDepth 20000 in
theorem lpX7_passes_2k {G : zG} {h1 : List va_E} {b : Nat} : ∀ (j a : Nat) (f : Nat → Int32) (ar : Nat → Nat → Int32), (a + j = 5 ∧ b + 5 ≤ 150 ∧ f 23 = nI (b + a) ∧ ¬ f 22 = 0) → R G mX7_passes 2 [(0, .ref 100), (1, .ref 103), (2, .int (nI a))] [] (h1, hM G f ar) (fun r0 h0 => r0 = none ∧ h0 = (h1, hM G ((itX7_passes_2k  j a f ar).1) ((itX7_passes_2k  j a f ar).2))) := by
  intro j
  induction j with
  | zero =>
    intro a f ar hj
    have hc : (5 : Int32) ≤ nI a := by show nI 5 ≤ nI a; exact nI_le (by omega) (by omega)
    refine R_iload_n 3 dX7_passes_2 rfl rfl ?_
    refine R_aload_n 4 dX7_passes_3 rfl rfl ?_
    refine R_alen 5 dX7_passes_4 rfl rfl rfl ?_
    refine R_top (y := 5) (by decide) ?_
    refine R_icmp_ge 8 58 dX7_passes_5 rfl (by decide) (fun _ => ?_) (fun c => absurd hc c)
    refine R_return dX7_passes_58 rfl ?_
    have e : (itX7_passes_2k  0 a f ar) = (f, ar) := rfl
    rw [e]; exact ⟨rfl, rfl⟩
  | succ j ih =>
    intro a f ar hj
    have hc : ¬ (5 : Int32) ≤ nI a := by show ¬ nI 5 ≤ nI a; exact nI_ge (by omega) (by omega)
    refine R_iload_n 3 dX7_passes_2 rfl rfl ?_
    refine R_aload_n 4 dX7_passes_3 rfl rfl ?_
    refine R_alen 5 dX7_passes_4 rfl rfl rfl ?_
    refine R_top (y := 5) (by decide) ?_
    refine R_icmp_ge 8 58 dX7_passes_5 rfl (by decide) (fun c => absurd c hc) (fun _ => ?_)
    refine R_aload_n 9 dX7_passes_8 rfl rfl ?_
    refine R_get 12 dX7_passes_9 rfl fX7_156 rfl (v := .int (f 22)) rfl ?_
    refine R_if_eq 15 30 dX7_passes_12 rfl (by decide) (fun c => absurd c hj.2.2.2) (fun _ => ?_)
    refine R_aload_n 16 dX7_passes_15 rfl rfl ?_
    refine R_get 19 dX7_passes_16 rfl fX7_46 rfl (v := .ref 113) rfl ?_
    refine R_aload_n 20 dX7_passes_19 rfl rfl ?_
    refine R_get 23 dX7_passes_20 rfl fX7_160 rfl (v := .int (f 23)) rfl ?_
    refine R_aload_n 24 dX7_passes_23 rfl rfl ?_
    refine R_iload_n 25 dX7_passes_24 rfl rfl ?_
    refine R_iald 26 dX7_passes_25 rfl rfl rfl (vp_in_nI (by omega) (by omega)) ?_
    refine R_nm2 (fun z1_ hz1_ => ?_)
    refine R_iast 27 dX7_passes_26 rfl rfl rfl (c23 (b := b) hj.2.2.1 (by omega)) (h2 := (h1, hM G f (up2 ar 20 (upd (ar 20) (f 23).toNatClampNeg z1_)))) ms_20 ?_
    refine R_goto 42 dX7_passes_27 (by decide) ?_
    refine R_aload_n 43 dX7_passes_42 rfl rfl ?_
    refine R_dup 44 dX7_passes_43 rfl rfl ?_
    refine R_get 47 dX7_passes_44 rfl fX7_160 rfl (v := .int (f 23)) rfl ?_
    refine R_iconst 48 dX7_passes_47 rfl (v := 1) (by decide) ?_
    refine R_iadd 49 dX7_passes_48 rfl ?_
    refine R_nm2 (fun z2_ hz2_ => ?_)
    refine R_put 52 dX7_passes_49 rfl wX7_160 rfl rfl rfl rfl (h2 := (h1, hM G (upd f 23 z2_) (up2 ar 20 (upd (ar 20) (f 23).toNatClampNeg z1_)))) mp_23 ?_
    refine R_iinc 55 dX7_passes_52 rfl rfl (v := (nI (a + 1))) (nI_1 a) rfl (by decide) (loc' := [(0, .ref 100), (1, .ref 103), (2, .int (nI (a + 1)))]) rfl ?_
    refine R_goto 2 dX7_passes_55 (by decide) ?_
    subst hz1_ hz2_
    refine R_pick [0, 1, 2] rfl ?_
    have e : stX7_passes_2k  a f ar = ((upd f 23 ((f 23) + 1)), (up2 ar 20 (upd (ar 20) (f 23).toNatClampNeg (ar 2 (nI a).toNatClampNeg)))) := by rfl
    have e2 : (itX7_passes_2k  (j + 1) a f ar) = (itX7_passes_2k  j (a + 1) (upd f 23 ((f 23) + 1)) (up2 ar 20 (upd (ar 20) (f 23).toNatClampNeg (ar 2 (nI a).toNatClampNeg)))) := itX7_passes_2k_n e
    rw [e2]; exact ih (a + 1) (upd f 23 ((f 23) + 1)) (up2 ar 20 (upd (ar 20) (f 23).toNatClampNeg (ar 2 (nI a).toNatClampNeg))) ⟨by omega, hj.2.1, (by show f 23 + 1 = nI (b + (a + 1)); rw [hj.2.2.1, nI_1]; rfl), hj.2.2.2⟩
def sX7_passes_2k (f : Nat → Int32) (ar : Nat → Nat → Int32) : (Nat → Int32) × (Nat → Nat → Int32) := ((itX7_passes_2k  5 0 f ar).1, (itX7_passes_2k  5 0 f ar).2)
set_option maxRecDepth 20000 in
theorem eX7_passes_2k {G : zG} {h1 : List va_E} {f : Nat → Int32} {ar : Nat → Nat → Int32} {b : Nat} (hb : b + 5 ≤ 150) (h23 : f 23 = nI b) (hm : ¬ f 22 = 0) : EvF G mX7_passes [.ref 100, .ref 103] (h1, hM G f ar) (none) (h1, hM G ((sX7_passes_2k f ar).1) ((sX7_passes_2k f ar).2)) := by
  generalize hs : (sX7_passes_2k f ar) = zz
  refine EvF.of pnX7 rfl ?_
  refine R_iconst 1 dX7_passes_0 rfl (v := 0) (by decide) ?_
  refine R_istore_n 2 dX7_passes_1 rfl rfl (by decide) (loc' := [(0, .ref 100), (1, .ref 103), (2, .int 0)]) rfl ?_
  refine R_pick [0, 1, 2] rfl ?_
  have e : zz = ((itX7_passes_2k  5 0 f ar).1, (itX7_passes_2k  5 0 f ar).2) := by rw [← hs]; unfold sX7_passes_2k; rfl
  rw [pr1 e, pr2 e]; exact lpX7_passes_2k 5 0 f ar ⟨rfl, hb, h23, hm⟩
theorem pl_2k {b : Nat} : ∀ (j a : Nat) (f : Nat → Int32) (ar : Nat → Nat → Int32), b + a + j ≤ 150 → f 23 = nI (b + a) → itX7_passes_2k j a f ar = (upd f 23 (nI (b + a + j)), up2 ar 20 (fun i => if b + a ≤ i ∧ i < b + a + j then ar 2 (i - b) else ar 20 i))
  | 0, a, f, ar, hb, h => by
    rw [sk_0, up2_id rfl, upd_id (u := nI (b + a + 0)) h]
    rfl
  | j + 1, a, f, ar, hb, h => by
    have hc : (f 23).toNatClampNeg = b + a := by rw [h, nI_clamp (by omega)]
    have ha : (nI a).toNatClampNeg = a := nI_clamp (by omega)
    have es : stX7_passes_2k a f ar = (upd f 23 (nI (b + (a + 1))), up2 ar 20 (upd (ar 20) (b + a) (ar 2 a))) := by
      show (upd f 23 (f 23 + 1), up2 ar 20 (upd (ar 20) (f 23).toNatClampNeg (ar 2 (nI a).toNatClampNeg))) = _
      rw [hc, ha, h, nI_1]
      rfl
    have e3 : (fun i => if b + (a + 1) ≤ i ∧ i < b + (a + 1) + j then (up2 ar 20 (upd (ar 20) (b + a) (ar 2 a))) 2 (i - b) else (up2 ar 20 (upd (ar 20) (b + a) (ar 2 a))) 20 i) = _ := sk_n (ar 20) (ar 2) b a j
    rw [show itX7_passes_2k (j + 1) a f ar = itX7_passes_2k j (a + 1) (stX7_passes_2k a f ar).1 (stX7_passes_2k a f ar).2 from rfl, es]
    rw [pl_2k (b := b) j (a + 1) (upd f 23 (nI (b + (a + 1)))) (up2 ar 20 (upd (ar 20) (b + a) (ar 2 a))) (by omega) rfl, e3, up2_2, upd_2, show b + (a + 1) + j = b + a + (j + 1) by omega]
theorem passK_2 {G : zG} {h1 : List va_E} {f : Nat → Int32} {ar : Nat → Nat → Int32} {b : Nat} {c0 c1 : Int32} (hb : b + 5 ≤ 150) (h23 : f 23 = c0) (h0 : c0 = nI b) (hc : c1 = nI (b + 5)) (hm : ¬ f 22 = 0) : EvF G mX7_passes [.ref 100, .ref 103] (h1, hM G f ar) none (h1, hM G (upd f 23 c1) (up2 ar 20 (savK (ar 20) (ar 2) b 5))) := by
  have e := eX7_passes_2k (G := G) (h1 := h1) (f := f) (ar := ar) hb (h23.trans h0) hm
  have e2 : sX7_passes_2k f ar = (upd f 23 (nI (b + 0 + 5)), up2 ar 20 (fun i => if b + 0 ≤ i ∧ i < b + 0 + 5 then ar 2 (i - b) else ar 20 i)) := pl_2k 5 0 f ar (by omega) (h23.trans h0)
  rw [e2] at e
  subst hc
  exact e
def exX7_passes_2p  (a : Nat) (f : Nat → Int32) (ar : Nat → Nat → Int32) : (Nat → Int32) × (Nat → Nat → Int32) := (f, ar)
def stX7_passes_2p  (a : Nat) (f : Nat → Int32) (ar : Nat → Nat → Int32) : (Nat → Int32) × (Nat → Nat → Int32) := ((upd f 23 ((f 23) + 1)), (up2 ar 2 (upd (ar 2) (nI a).toNatClampNeg (ar 20 (f 23).toNatClampNeg))))
def itX7_passes_2p  : Nat → Nat → (Nat → Int32) → (Nat → Nat → Int32) → (Nat → Int32) × (Nat → Nat → Int32)
  | 0, a, f, ar => exX7_passes_2p  a f ar
  | j + 1, a, f, ar => itX7_passes_2p  j (a + 1) ((stX7_passes_2p  a f ar).1) ((stX7_passes_2p  a f ar).2)
theorem itX7_passes_2p_n  {j a : Nat} {f : Nat → Int32} {ar : Nat → Nat → Int32} {s0_ : Nat → Int32} {s1_ : Nat → Nat → Int32} (e : stX7_passes_2p  a f ar = (s0_, s1_)) : (itX7_passes_2p  (j + 1) a f ar) = (itX7_passes_2p  j (a + 1) s0_ s1_) := by simp only [itX7_passes_2p.eq_2, e]
set_option maxRecDepth 20000 in
theorem lpX7_passes_2p {G : zG} {h1 : List va_E} {b : Nat} : ∀ (j a : Nat) (f : Nat → Int32) (ar : Nat → Nat → Int32), (a + j = 5 ∧ b + 5 ≤ 150 ∧ f 23 = nI (b + a) ∧ f 22 = 0) → R G mX7_passes 2 [(0, .ref 100), (1, .ref 103), (2, .int (nI a))] [] (h1, hM G f ar) (fun r0 h0 => r0 = none ∧ h0 = (h1, hM G ((itX7_passes_2p  j a f ar).1) ((itX7_passes_2p  j a f ar).2))) := by
  intro j
  induction j with
  | zero =>
    intro a f ar hj
    have hc : (5 : Int32) ≤ nI a := by show nI 5 ≤ nI a; exact nI_le (by omega) (by omega)
    refine R_iload_n 3 dX7_passes_2 rfl rfl ?_
    refine R_aload_n 4 dX7_passes_3 rfl rfl ?_
    refine R_alen 5 dX7_passes_4 rfl rfl rfl ?_
    refine R_top (y := 5) (by decide) ?_
    refine R_icmp_ge 8 58 dX7_passes_5 rfl (by decide) (fun _ => ?_) (fun c => absurd hc c)
    refine R_return dX7_passes_58 rfl ?_
    have e : (itX7_passes_2p  0 a f ar) = (f, ar) := rfl
    rw [e]; exact ⟨rfl, rfl⟩
  | succ j ih =>
    intro a f ar hj
    have hc : ¬ (5 : Int32) ≤ nI a := by show ¬ nI 5 ≤ nI a; exact nI_ge (by omega) (by omega)
    refine R_iload_n 3 dX7_passes_2 rfl rfl ?_
    refine R_aload_n 4 dX7_passes_3 rfl rfl ?_
    refine R_alen 5 dX7_passes_4 rfl rfl rfl ?_
    refine R_top (y := 5) (by decide) ?_
    refine R_icmp_ge 8 58 dX7_passes_5 rfl (by decide) (fun c => absurd c hc) (fun _ => ?_)
    refine R_aload_n 9 dX7_passes_8 rfl rfl ?_
    refine R_get 12 dX7_passes_9 rfl fX7_156 rfl (v := .int (f 22)) rfl ?_
    refine R_if_eq 15 30 dX7_passes_12 rfl (by decide) (fun _ => ?_) (fun c => absurd hj.2.2.2 c)
    refine R_aload_n 31 dX7_passes_30 rfl rfl ?_
    refine R_iload_n 32 dX7_passes_31 rfl rfl ?_
    refine R_aload_n 33 dX7_passes_32 rfl rfl ?_
    refine R_get 36 dX7_passes_33 rfl fX7_46 rfl (v := .ref 113) rfl ?_
    refine R_aload_n 37 dX7_passes_36 rfl rfl ?_
    refine R_get 40 dX7_passes_37 rfl fX7_160 rfl (v := .int (f 23)) rfl ?_
    refine R_iald 41 dX7_passes_40 rfl rfl rfl (c23 (b := b) hj.2.2.1 (by omega)) ?_
    refine R_nm2 (fun z1_ hz1_ => ?_)
    refine R_iast 42 dX7_passes_41 rfl rfl rfl (vp_in_nI (by omega) (by omega)) (h2 := (h1, hM G f (up2 ar 2 (upd (ar 2) (nI a).toNatClampNeg z1_)))) ms_2 ?_
    refine R_aload_n 43 dX7_passes_42 rfl rfl ?_
    refine R_dup 44 dX7_passes_43 rfl rfl ?_
    refine R_get 47 dX7_passes_44 rfl fX7_160 rfl (v := .int (f 23)) rfl ?_
    refine R_iconst 48 dX7_passes_47 rfl (v := 1) (by decide) ?_
    refine R_iadd 49 dX7_passes_48 rfl ?_
    refine R_nm2 (fun z2_ hz2_ => ?_)
    refine R_put 52 dX7_passes_49 rfl wX7_160 rfl rfl rfl rfl (h2 := (h1, hM G (upd f 23 z2_) (up2 ar 2 (upd (ar 2) (nI a).toNatClampNeg z1_)))) mp_23 ?_
    refine R_iinc 55 dX7_passes_52 rfl rfl (v := (nI (a + 1))) (nI_1 a) rfl (by decide) (loc' := [(0, .ref 100), (1, .ref 103), (2, .int (nI (a + 1)))]) rfl ?_
    refine R_goto 2 dX7_passes_55 (by decide) ?_
    subst hz1_ hz2_
    refine R_pick [0, 1, 2] rfl ?_
    have e : stX7_passes_2p  a f ar = ((upd f 23 ((f 23) + 1)), (up2 ar 2 (upd (ar 2) (nI a).toNatClampNeg (ar 20 (f 23).toNatClampNeg)))) := by rfl
    have e2 : (itX7_passes_2p  (j + 1) a f ar) = (itX7_passes_2p  j (a + 1) (upd f 23 ((f 23) + 1)) (up2 ar 2 (upd (ar 2) (nI a).toNatClampNeg (ar 20 (f 23).toNatClampNeg)))) := itX7_passes_2p_n e
    rw [e2]; exact ih (a + 1) (upd f 23 ((f 23) + 1)) (up2 ar 2 (upd (ar 2) (nI a).toNatClampNeg (ar 20 (f 23).toNatClampNeg))) ⟨by omega, hj.2.1, (by show f 23 + 1 = nI (b + (a + 1)); rw [hj.2.2.1, nI_1]; rfl), hj.2.2.2⟩
def sX7_passes_2p (f : Nat → Int32) (ar : Nat → Nat → Int32) : (Nat → Int32) × (Nat → Nat → Int32) := ((itX7_passes_2p  5 0 f ar).1, (itX7_passes_2p  5 0 f ar).2)
set_option maxRecDepth 20000 in
theorem eX7_passes_2p {G : zG} {h1 : List va_E} {f : Nat → Int32} {ar : Nat → Nat → Int32} {b : Nat} (hb : b + 5 ≤ 150) (h23 : f 23 = nI b) (hm : f 22 = 0) : EvF G mX7_passes [.ref 100, .ref 103] (h1, hM G f ar) (none) (h1, hM G ((sX7_passes_2p f ar).1) ((sX7_passes_2p f ar).2)) := by
  generalize hs : (sX7_passes_2p f ar) = zz
  refine EvF.of pnX7 rfl ?_
  refine R_iconst 1 dX7_passes_0 rfl (v := 0) (by decide) ?_
  refine R_istore_n 2 dX7_passes_1 rfl rfl (by decide) (loc' := [(0, .ref 100), (1, .ref 103), (2, .int 0)]) rfl ?_
  refine R_pick [0, 1, 2] rfl ?_
  have e : zz = ((itX7_passes_2p  5 0 f ar).1, (itX7_passes_2p  5 0 f ar).2) := by rw [← hs]; unfold sX7_passes_2p; rfl
  rw [pr1 e, pr2 e]; exact lpX7_passes_2p 5 0 f ar ⟨rfl, hb, h23, hm⟩
theorem pl_2p {b : Nat} : ∀ (j a : Nat) (f : Nat → Int32) (ar : Nat → Nat → Int32), b + a + j ≤ 150 → f 23 = nI (b + a) → itX7_passes_2p j a f ar = (upd f 23 (nI (b + a + j)), up2 ar 2 (fun i => if a ≤ i ∧ i < a + j then ar 20 (b + i) else ar 2 i))
  | 0, a, f, ar, hb, h => by
    rw [gk_0, up2_id rfl, upd_id (u := nI (b + a + 0)) h]
    rfl
  | j + 1, a, f, ar, hb, h => by
    have hc : (f 23).toNatClampNeg = b + a := by rw [h, nI_clamp (by omega)]
    have ha : (nI a).toNatClampNeg = a := nI_clamp (by omega)
    have es : stX7_passes_2p a f ar = (upd f 23 (nI (b + (a + 1))), up2 ar 2 (upd (ar 2) a (ar 20 (b + a)))) := by
      show (upd f 23 (f 23 + 1), up2 ar 2 (upd (ar 2) (nI a).toNatClampNeg (ar 20 (f 23).toNatClampNeg))) = _
      rw [hc, ha, h, nI_1]
      rfl
    have e3 : (fun i => if a + 1 ≤ i ∧ i < a + 1 + j then (up2 ar 2 (upd (ar 2) a (ar 20 (b + a)))) 20 (b + i) else (up2 ar 2 (upd (ar 2) a (ar 20 (b + a)))) 2 i) = _ := gk_n (ar 20) (ar 2) b a j
    rw [show itX7_passes_2p (j + 1) a f ar = itX7_passes_2p j (a + 1) (stX7_passes_2p a f ar).1 (stX7_passes_2p a f ar).2 from rfl, es]
    rw [pl_2p (b := b) j (a + 1) (upd f 23 (nI (b + (a + 1)))) (up2 ar 2 (upd (ar 2) a (ar 20 (b + a)))) (by omega) rfl, e3, up2_2, upd_2, show b + (a + 1) + j = b + a + (j + 1) by omega]
theorem passP_2 {G : zG} {h1 : List va_E} {f : Nat → Int32} {ar : Nat → Nat → Int32} {b : Nat} {c0 c1 : Int32} (hb : b + 5 ≤ 150) (h23 : f 23 = c0) (h0 : c0 = nI b) (hc : c1 = nI (b + 5)) (hm : f 22 = 0) : EvF G mX7_passes [.ref 100, .ref 103] (h1, hM G f ar) none (h1, hM G (upd f 23 c1) (up2 ar 2 (getK (ar 20) (ar 2) b 5))) := by
  have e := eX7_passes_2p (G := G) (h1 := h1) (f := f) (ar := ar) hb (h23.trans h0) hm
  have e2 : sX7_passes_2p f ar = (upd f 23 (nI (b + 0 + 5)), up2 ar 2 (fun i => if 0 ≤ i ∧ i < 0 + 5 then ar 20 (b + i) else ar 2 i)) := pl_2p 5 0 f ar (by omega) (h23.trans h0)
  have e3 : (fun i => if 0 ≤ i ∧ i < 0 + 5 then ar 20 (b + i) else ar 2 i) = getK (ar 20) (ar 2) b 5 := by
    funext i
    unfold getK
    by_cases h : i < 5
    · rw [if_pos (by omega), if_pos h]
    · rw [if_neg (by omega), if_neg h]
  rw [e2, e3] at e
  subst hc
  exact e
def exX7_passes_3k  (a : Nat) (f : Nat → Int32) (ar : Nat → Nat → Int32) : (Nat → Int32) × (Nat → Nat → Int32) := (f, ar)
def stX7_passes_3k  (a : Nat) (f : Nat → Int32) (ar : Nat → Nat → Int32) : (Nat → Int32) × (Nat → Nat → Int32) := ((upd f 23 ((f 23) + 1)), (up2 ar 20 (upd (ar 20) (f 23).toNatClampNeg (ar 3 (nI a).toNatClampNeg))))
def itX7_passes_3k  : Nat → Nat → (Nat → Int32) → (Nat → Nat → Int32) → (Nat → Int32) × (Nat → Nat → Int32)
  | 0, a, f, ar => exX7_passes_3k  a f ar
  | j + 1, a, f, ar => itX7_passes_3k  j (a + 1) ((stX7_passes_3k  a f ar).1) ((stX7_passes_3k  a f ar).2)
theorem itX7_passes_3k_n  {j a : Nat} {f : Nat → Int32} {ar : Nat → Nat → Int32} {s0_ : Nat → Int32} {s1_ : Nat → Nat → Int32} (e : stX7_passes_3k  a f ar = (s0_, s1_)) : (itX7_passes_3k  (j + 1) a f ar) = (itX7_passes_3k  j (a + 1) s0_ s1_) := by simp only [itX7_passes_3k.eq_2, e]
set_option maxRecDepth 20000 in
theorem lpX7_passes_3k {G : zG} {h1 : List va_E} {b : Nat} : ∀ (j a : Nat) (f : Nat → Int32) (ar : Nat → Nat → Int32), (a + j = 5 ∧ b + 5 ≤ 150 ∧ f 23 = nI (b + a) ∧ ¬ f 22 = 0) → R G mX7_passes 2 [(0, .ref 100), (1, .ref 104), (2, .int (nI a))] [] (h1, hM G f ar) (fun r0 h0 => r0 = none ∧ h0 = (h1, hM G ((itX7_passes_3k  j a f ar).1) ((itX7_passes_3k  j a f ar).2))) := by
  intro j
  induction j with
  | zero =>
    intro a f ar hj
    have hc : (5 : Int32) ≤ nI a := by show nI 5 ≤ nI a; exact nI_le (by omega) (by omega)
    refine R_iload_n 3 dX7_passes_2 rfl rfl ?_
    refine R_aload_n 4 dX7_passes_3 rfl rfl ?_
    refine R_alen 5 dX7_passes_4 rfl rfl rfl ?_
    refine R_top (y := 5) (by decide) ?_
    refine R_icmp_ge 8 58 dX7_passes_5 rfl (by decide) (fun _ => ?_) (fun c => absurd hc c)
    refine R_return dX7_passes_58 rfl ?_
    have e : (itX7_passes_3k  0 a f ar) = (f, ar) := rfl
    rw [e]; exact ⟨rfl, rfl⟩
  | succ j ih =>
    intro a f ar hj
    have hc : ¬ (5 : Int32) ≤ nI a := by show ¬ nI 5 ≤ nI a; exact nI_ge (by omega) (by omega)
    refine R_iload_n 3 dX7_passes_2 rfl rfl ?_
    refine R_aload_n 4 dX7_passes_3 rfl rfl ?_
    refine R_alen 5 dX7_passes_4 rfl rfl rfl ?_
    refine R_top (y := 5) (by decide) ?_
    refine R_icmp_ge 8 58 dX7_passes_5 rfl (by decide) (fun c => absurd c hc) (fun _ => ?_)
    refine R_aload_n 9 dX7_passes_8 rfl rfl ?_
    refine R_get 12 dX7_passes_9 rfl fX7_156 rfl (v := .int (f 22)) rfl ?_
    refine R_if_eq 15 30 dX7_passes_12 rfl (by decide) (fun c => absurd c hj.2.2.2) (fun _ => ?_)
    refine R_aload_n 16 dX7_passes_15 rfl rfl ?_
    refine R_get 19 dX7_passes_16 rfl fX7_46 rfl (v := .ref 113) rfl ?_
    refine R_aload_n 20 dX7_passes_19 rfl rfl ?_
    refine R_get 23 dX7_passes_20 rfl fX7_160 rfl (v := .int (f 23)) rfl ?_
    refine R_aload_n 24 dX7_passes_23 rfl rfl ?_
    refine R_iload_n 25 dX7_passes_24 rfl rfl ?_
    refine R_iald 26 dX7_passes_25 rfl rfl rfl (vp_in_nI (by omega) (by omega)) ?_
    refine R_nm2 (fun z1_ hz1_ => ?_)
    refine R_iast 27 dX7_passes_26 rfl rfl rfl (c23 (b := b) hj.2.2.1 (by omega)) (h2 := (h1, hM G f (up2 ar 20 (upd (ar 20) (f 23).toNatClampNeg z1_)))) ms_20 ?_
    refine R_goto 42 dX7_passes_27 (by decide) ?_
    refine R_aload_n 43 dX7_passes_42 rfl rfl ?_
    refine R_dup 44 dX7_passes_43 rfl rfl ?_
    refine R_get 47 dX7_passes_44 rfl fX7_160 rfl (v := .int (f 23)) rfl ?_
    refine R_iconst 48 dX7_passes_47 rfl (v := 1) (by decide) ?_
    refine R_iadd 49 dX7_passes_48 rfl ?_
    refine R_nm2 (fun z2_ hz2_ => ?_)
    refine R_put 52 dX7_passes_49 rfl wX7_160 rfl rfl rfl rfl (h2 := (h1, hM G (upd f 23 z2_) (up2 ar 20 (upd (ar 20) (f 23).toNatClampNeg z1_)))) mp_23 ?_
    refine R_iinc 55 dX7_passes_52 rfl rfl (v := (nI (a + 1))) (nI_1 a) rfl (by decide) (loc' := [(0, .ref 100), (1, .ref 104), (2, .int (nI (a + 1)))]) rfl ?_
    refine R_goto 2 dX7_passes_55 (by decide) ?_
    subst hz1_ hz2_
    refine R_pick [0, 1, 2] rfl ?_
    have e : stX7_passes_3k  a f ar = ((upd f 23 ((f 23) + 1)), (up2 ar 20 (upd (ar 20) (f 23).toNatClampNeg (ar 3 (nI a).toNatClampNeg)))) := by rfl
    have e2 : (itX7_passes_3k  (j + 1) a f ar) = (itX7_passes_3k  j (a + 1) (upd f 23 ((f 23) + 1)) (up2 ar 20 (upd (ar 20) (f 23).toNatClampNeg (ar 3 (nI a).toNatClampNeg)))) := itX7_passes_3k_n e
    rw [e2]; exact ih (a + 1) (upd f 23 ((f 23) + 1)) (up2 ar 20 (upd (ar 20) (f 23).toNatClampNeg (ar 3 (nI a).toNatClampNeg))) ⟨by omega, hj.2.1, (by show f 23 + 1 = nI (b + (a + 1)); rw [hj.2.2.1, nI_1]; rfl), hj.2.2.2⟩
def sX7_passes_3k (f : Nat → Int32) (ar : Nat → Nat → Int32) : (Nat → Int32) × (Nat → Nat → Int32) := ((itX7_passes_3k  5 0 f ar).1, (itX7_passes_3k  5 0 f ar).2)
set_option maxRecDepth 20000 in
theorem eX7_passes_3k {G : zG} {h1 : List va_E} {f : Nat → Int32} {ar : Nat → Nat → Int32} {b : Nat} (hb : b + 5 ≤ 150) (h23 : f 23 = nI b) (hm : ¬ f 22 = 0) : EvF G mX7_passes [.ref 100, .ref 104] (h1, hM G f ar) (none) (h1, hM G ((sX7_passes_3k f ar).1) ((sX7_passes_3k f ar).2)) := by
  generalize hs : (sX7_passes_3k f ar) = zz
  refine EvF.of pnX7 rfl ?_
  refine R_iconst 1 dX7_passes_0 rfl (v := 0) (by decide) ?_
  refine R_istore_n 2 dX7_passes_1 rfl rfl (by decide) (loc' := [(0, .ref 100), (1, .ref 104), (2, .int 0)]) rfl ?_
  refine R_pick [0, 1, 2] rfl ?_
  have e : zz = ((itX7_passes_3k  5 0 f ar).1, (itX7_passes_3k  5 0 f ar).2) := by rw [← hs]; unfold sX7_passes_3k; rfl
  rw [pr1 e, pr2 e]; exact lpX7_passes_3k 5 0 f ar ⟨rfl, hb, h23, hm⟩
theorem pl_3k {b : Nat} : ∀ (j a : Nat) (f : Nat → Int32) (ar : Nat → Nat → Int32), b + a + j ≤ 150 → f 23 = nI (b + a) → itX7_passes_3k j a f ar = (upd f 23 (nI (b + a + j)), up2 ar 20 (fun i => if b + a ≤ i ∧ i < b + a + j then ar 3 (i - b) else ar 20 i))
  | 0, a, f, ar, hb, h => by
    rw [sk_0, up2_id rfl, upd_id (u := nI (b + a + 0)) h]
    rfl
  | j + 1, a, f, ar, hb, h => by
    have hc : (f 23).toNatClampNeg = b + a := by rw [h, nI_clamp (by omega)]
    have ha : (nI a).toNatClampNeg = a := nI_clamp (by omega)
    have es : stX7_passes_3k a f ar = (upd f 23 (nI (b + (a + 1))), up2 ar 20 (upd (ar 20) (b + a) (ar 3 a))) := by
      show (upd f 23 (f 23 + 1), up2 ar 20 (upd (ar 20) (f 23).toNatClampNeg (ar 3 (nI a).toNatClampNeg))) = _
      rw [hc, ha, h, nI_1]
      rfl
    have e3 : (fun i => if b + (a + 1) ≤ i ∧ i < b + (a + 1) + j then (up2 ar 20 (upd (ar 20) (b + a) (ar 3 a))) 3 (i - b) else (up2 ar 20 (upd (ar 20) (b + a) (ar 3 a))) 20 i) = _ := sk_n (ar 20) (ar 3) b a j
    rw [show itX7_passes_3k (j + 1) a f ar = itX7_passes_3k j (a + 1) (stX7_passes_3k a f ar).1 (stX7_passes_3k a f ar).2 from rfl, es]
    rw [pl_3k (b := b) j (a + 1) (upd f 23 (nI (b + (a + 1)))) (up2 ar 20 (upd (ar 20) (b + a) (ar 3 a))) (by omega) rfl, e3, up2_2, upd_2, show b + (a + 1) + j = b + a + (j + 1) by omega]
theorem passK_3 {G : zG} {h1 : List va_E} {f : Nat → Int32} {ar : Nat → Nat → Int32} {b : Nat} {c0 c1 : Int32} (hb : b + 5 ≤ 150) (h23 : f 23 = c0) (h0 : c0 = nI b) (hc : c1 = nI (b + 5)) (hm : ¬ f 22 = 0) : EvF G mX7_passes [.ref 100, .ref 104] (h1, hM G f ar) none (h1, hM G (upd f 23 c1) (up2 ar 20 (savK (ar 20) (ar 3) b 5))) := by
  have e := eX7_passes_3k (G := G) (h1 := h1) (f := f) (ar := ar) hb (h23.trans h0) hm
  have e2 : sX7_passes_3k f ar = (upd f 23 (nI (b + 0 + 5)), up2 ar 20 (fun i => if b + 0 ≤ i ∧ i < b + 0 + 5 then ar 3 (i - b) else ar 20 i)) := pl_3k 5 0 f ar (by omega) (h23.trans h0)
  rw [e2] at e
  subst hc
  exact e
def exX7_passes_3p  (a : Nat) (f : Nat → Int32) (ar : Nat → Nat → Int32) : (Nat → Int32) × (Nat → Nat → Int32) := (f, ar)
def stX7_passes_3p  (a : Nat) (f : Nat → Int32) (ar : Nat → Nat → Int32) : (Nat → Int32) × (Nat → Nat → Int32) := ((upd f 23 ((f 23) + 1)), (up2 ar 3 (upd (ar 3) (nI a).toNatClampNeg (ar 20 (f 23).toNatClampNeg))))
def itX7_passes_3p  : Nat → Nat → (Nat → Int32) → (Nat → Nat → Int32) → (Nat → Int32) × (Nat → Nat → Int32)
  | 0, a, f, ar => exX7_passes_3p  a f ar
  | j + 1, a, f, ar => itX7_passes_3p  j (a + 1) ((stX7_passes_3p  a f ar).1) ((stX7_passes_3p  a f ar).2)
theorem itX7_passes_3p_n  {j a : Nat} {f : Nat → Int32} {ar : Nat → Nat → Int32} {s0_ : Nat → Int32} {s1_ : Nat → Nat → Int32} (e : stX7_passes_3p  a f ar = (s0_, s1_)) : (itX7_passes_3p  (j + 1) a f ar) = (itX7_passes_3p  j (a + 1) s0_ s1_) := by simp only [itX7_passes_3p.eq_2, e]
set_option maxRecDepth 20000 in
theorem lpX7_passes_3p {G : zG} {h1 : List va_E} {b : Nat} : ∀ (j a : Nat) (f : Nat → Int32) (ar : Nat → Nat → Int32), (a + j = 5 ∧ b + 5 ≤ 150 ∧ f 23 = nI (b + a) ∧ f 22 = 0) → R G mX7_passes 2 [(0, .ref 100), (1, .ref 104), (2, .int (nI a))] [] (h1, hM G f ar) (fun r0 h0 => r0 = none ∧ h0 = (h1, hM G ((itX7_passes_3p  j a f ar).1) ((itX7_passes_3p  j a f ar).2))) := by
  intro j
  induction j with
  | zero =>
    intro a f ar hj
    have hc : (5 : Int32) ≤ nI a := by show nI 5 ≤ nI a; exact nI_le (by omega) (by omega)
    refine R_iload_n 3 dX7_passes_2 rfl rfl ?_
    refine R_aload_n 4 dX7_passes_3 rfl rfl ?_
    refine R_alen 5 dX7_passes_4 rfl rfl rfl ?_
    refine R_top (y := 5) (by decide) ?_
    refine R_icmp_ge 8 58 dX7_passes_5 rfl (by decide) (fun _ => ?_) (fun c => absurd hc c)
    refine R_return dX7_passes_58 rfl ?_
    have e : (itX7_passes_3p  0 a f ar) = (f, ar) := rfl
    rw [e]; exact ⟨rfl, rfl⟩
  | succ j ih =>
    intro a f ar hj
    have hc : ¬ (5 : Int32) ≤ nI a := by show ¬ nI 5 ≤ nI a; exact nI_ge (by omega) (by omega)
    refine R_iload_n 3 dX7_passes_2 rfl rfl ?_
    refine R_aload_n 4 dX7_passes_3 rfl rfl ?_
    refine R_alen 5 dX7_passes_4 rfl rfl rfl ?_
    refine R_top (y := 5) (by decide) ?_
    refine R_icmp_ge 8 58 dX7_passes_5 rfl (by decide) (fun c => absurd c hc) (fun _ => ?_)
    refine R_aload_n 9 dX7_passes_8 rfl rfl ?_
    refine R_get 12 dX7_passes_9 rfl fX7_156 rfl (v := .int (f 22)) rfl ?_
    refine R_if_eq 15 30 dX7_passes_12 rfl (by decide) (fun _ => ?_) (fun c => absurd hj.2.2.2 c)
    refine R_aload_n 31 dX7_passes_30 rfl rfl ?_
    refine R_iload_n 32 dX7_passes_31 rfl rfl ?_
    refine R_aload_n 33 dX7_passes_32 rfl rfl ?_
    refine R_get 36 dX7_passes_33 rfl fX7_46 rfl (v := .ref 113) rfl ?_
    refine R_aload_n 37 dX7_passes_36 rfl rfl ?_
    refine R_get 40 dX7_passes_37 rfl fX7_160 rfl (v := .int (f 23)) rfl ?_
    refine R_iald 41 dX7_passes_40 rfl rfl rfl (c23 (b := b) hj.2.2.1 (by omega)) ?_
    refine R_nm2 (fun z1_ hz1_ => ?_)
    refine R_iast 42 dX7_passes_41 rfl rfl rfl (vp_in_nI (by omega) (by omega)) (h2 := (h1, hM G f (up2 ar 3 (upd (ar 3) (nI a).toNatClampNeg z1_)))) ms_3 ?_
    refine R_aload_n 43 dX7_passes_42 rfl rfl ?_
    refine R_dup 44 dX7_passes_43 rfl rfl ?_
    refine R_get 47 dX7_passes_44 rfl fX7_160 rfl (v := .int (f 23)) rfl ?_
    refine R_iconst 48 dX7_passes_47 rfl (v := 1) (by decide) ?_
    refine R_iadd 49 dX7_passes_48 rfl ?_
    refine R_nm2 (fun z2_ hz2_ => ?_)
    refine R_put 52 dX7_passes_49 rfl wX7_160 rfl rfl rfl rfl (h2 := (h1, hM G (upd f 23 z2_) (up2 ar 3 (upd (ar 3) (nI a).toNatClampNeg z1_)))) mp_23 ?_
    refine R_iinc 55 dX7_passes_52 rfl rfl (v := (nI (a + 1))) (nI_1 a) rfl (by decide) (loc' := [(0, .ref 100), (1, .ref 104), (2, .int (nI (a + 1)))]) rfl ?_
    refine R_goto 2 dX7_passes_55 (by decide) ?_
    subst hz1_ hz2_
    refine R_pick [0, 1, 2] rfl ?_
    have e : stX7_passes_3p  a f ar = ((upd f 23 ((f 23) + 1)), (up2 ar 3 (upd (ar 3) (nI a).toNatClampNeg (ar 20 (f 23).toNatClampNeg)))) := by rfl
    have e2 : (itX7_passes_3p  (j + 1) a f ar) = (itX7_passes_3p  j (a + 1) (upd f 23 ((f 23) + 1)) (up2 ar 3 (upd (ar 3) (nI a).toNatClampNeg (ar 20 (f 23).toNatClampNeg)))) := itX7_passes_3p_n e
    rw [e2]; exact ih (a + 1) (upd f 23 ((f 23) + 1)) (up2 ar 3 (upd (ar 3) (nI a).toNatClampNeg (ar 20 (f 23).toNatClampNeg))) ⟨by omega, hj.2.1, (by show f 23 + 1 = nI (b + (a + 1)); rw [hj.2.2.1, nI_1]; rfl), hj.2.2.2⟩
def sX7_passes_3p (f : Nat → Int32) (ar : Nat → Nat → Int32) : (Nat → Int32) × (Nat → Nat → Int32) := ((itX7_passes_3p  5 0 f ar).1, (itX7_passes_3p  5 0 f ar).2)
set_option maxRecDepth 20000 in
theorem eX7_passes_3p {G : zG} {h1 : List va_E} {f : Nat → Int32} {ar : Nat → Nat → Int32} {b : Nat} (hb : b + 5 ≤ 150) (h23 : f 23 = nI b) (hm : f 22 = 0) : EvF G mX7_passes [.ref 100, .ref 104] (h1, hM G f ar) (none) (h1, hM G ((sX7_passes_3p f ar).1) ((sX7_passes_3p f ar).2)) := by
  generalize hs : (sX7_passes_3p f ar) = zz
  refine EvF.of pnX7 rfl ?_
  refine R_iconst 1 dX7_passes_0 rfl (v := 0) (by decide) ?_
  refine R_istore_n 2 dX7_passes_1 rfl rfl (by decide) (loc' := [(0, .ref 100), (1, .ref 104), (2, .int 0)]) rfl ?_
  refine R_pick [0, 1, 2] rfl ?_
  have e : zz = ((itX7_passes_3p  5 0 f ar).1, (itX7_passes_3p  5 0 f ar).2) := by rw [← hs]; unfold sX7_passes_3p; rfl
  rw [pr1 e, pr2 e]; exact lpX7_passes_3p 5 0 f ar ⟨rfl, hb, h23, hm⟩
theorem pl_3p {b : Nat} : ∀ (j a : Nat) (f : Nat → Int32) (ar : Nat → Nat → Int32), b + a + j ≤ 150 → f 23 = nI (b + a) → itX7_passes_3p j a f ar = (upd f 23 (nI (b + a + j)), up2 ar 3 (fun i => if a ≤ i ∧ i < a + j then ar 20 (b + i) else ar 3 i))
  | 0, a, f, ar, hb, h => by
    rw [gk_0, up2_id rfl, upd_id (u := nI (b + a + 0)) h]
    rfl
  | j + 1, a, f, ar, hb, h => by
    have hc : (f 23).toNatClampNeg = b + a := by rw [h, nI_clamp (by omega)]
    have ha : (nI a).toNatClampNeg = a := nI_clamp (by omega)
    have es : stX7_passes_3p a f ar = (upd f 23 (nI (b + (a + 1))), up2 ar 3 (upd (ar 3) a (ar 20 (b + a)))) := by
      show (upd f 23 (f 23 + 1), up2 ar 3 (upd (ar 3) (nI a).toNatClampNeg (ar 20 (f 23).toNatClampNeg))) = _
      rw [hc, ha, h, nI_1]
      rfl
    have e3 : (fun i => if a + 1 ≤ i ∧ i < a + 1 + j then (up2 ar 3 (upd (ar 3) a (ar 20 (b + a)))) 20 (b + i) else (up2 ar 3 (upd (ar 3) a (ar 20 (b + a)))) 3 i) = _ := gk_n (ar 20) (ar 3) b a j
    rw [show itX7_passes_3p (j + 1) a f ar = itX7_passes_3p j (a + 1) (stX7_passes_3p a f ar).1 (stX7_passes_3p a f ar).2 from rfl, es]
    rw [pl_3p (b := b) j (a + 1) (upd f 23 (nI (b + (a + 1)))) (up2 ar 3 (upd (ar 3) a (ar 20 (b + a)))) (by omega) rfl, e3, up2_2, upd_2, show b + (a + 1) + j = b + a + (j + 1) by omega]
theorem passP_3 {G : zG} {h1 : List va_E} {f : Nat → Int32} {ar : Nat → Nat → Int32} {b : Nat} {c0 c1 : Int32} (hb : b + 5 ≤ 150) (h23 : f 23 = c0) (h0 : c0 = nI b) (hc : c1 = nI (b + 5)) (hm : f 22 = 0) : EvF G mX7_passes [.ref 100, .ref 104] (h1, hM G f ar) none (h1, hM G (upd f 23 c1) (up2 ar 3 (getK (ar 20) (ar 3) b 5))) := by
  have e := eX7_passes_3p (G := G) (h1 := h1) (f := f) (ar := ar) hb (h23.trans h0) hm
  have e2 : sX7_passes_3p f ar = (upd f 23 (nI (b + 0 + 5)), up2 ar 3 (fun i => if 0 ≤ i ∧ i < 0 + 5 then ar 20 (b + i) else ar 3 i)) := pl_3p 5 0 f ar (by omega) (h23.trans h0)
  have e3 : (fun i => if 0 ≤ i ∧ i < 0 + 5 then ar 20 (b + i) else ar 3 i) = getK (ar 20) (ar 3) b 5 := by
    funext i
    unfold getK
    by_cases h : i < 5
    · rw [if_pos (by omega), if_pos h]
    · rw [if_neg (by omega), if_neg h]
  rw [e2, e3] at e
  subst hc
  exact e
def exX7_passes_4k  (a : Nat) (f : Nat → Int32) (ar : Nat → Nat → Int32) : (Nat → Int32) × (Nat → Nat → Int32) := (f, ar)
def stX7_passes_4k  (a : Nat) (f : Nat → Int32) (ar : Nat → Nat → Int32) : (Nat → Int32) × (Nat → Nat → Int32) := ((upd f 23 ((f 23) + 1)), (up2 ar 20 (upd (ar 20) (f 23).toNatClampNeg (ar 4 (nI a).toNatClampNeg))))
def itX7_passes_4k  : Nat → Nat → (Nat → Int32) → (Nat → Nat → Int32) → (Nat → Int32) × (Nat → Nat → Int32)
  | 0, a, f, ar => exX7_passes_4k  a f ar
  | j + 1, a, f, ar => itX7_passes_4k  j (a + 1) ((stX7_passes_4k  a f ar).1) ((stX7_passes_4k  a f ar).2)
theorem itX7_passes_4k_n  {j a : Nat} {f : Nat → Int32} {ar : Nat → Nat → Int32} {s0_ : Nat → Int32} {s1_ : Nat → Nat → Int32} (e : stX7_passes_4k  a f ar = (s0_, s1_)) : (itX7_passes_4k  (j + 1) a f ar) = (itX7_passes_4k  j (a + 1) s0_ s1_) := by simp only [itX7_passes_4k.eq_2, e]
set_option maxRecDepth 20000 in
theorem lpX7_passes_4k {G : zG} {h1 : List va_E} {b : Nat} : ∀ (j a : Nat) (f : Nat → Int32) (ar : Nat → Nat → Int32), (a + j = 5 ∧ b + 5 ≤ 150 ∧ f 23 = nI (b + a) ∧ ¬ f 22 = 0) → R G mX7_passes 2 [(0, .ref 100), (1, .ref 105), (2, .int (nI a))] [] (h1, hM G f ar) (fun r0 h0 => r0 = none ∧ h0 = (h1, hM G ((itX7_passes_4k  j a f ar).1) ((itX7_passes_4k  j a f ar).2))) := by
  intro j
  induction j with
  | zero =>
    intro a f ar hj
    have hc : (5 : Int32) ≤ nI a := by show nI 5 ≤ nI a; exact nI_le (by omega) (by omega)
    refine R_iload_n 3 dX7_passes_2 rfl rfl ?_
    refine R_aload_n 4 dX7_passes_3 rfl rfl ?_
    refine R_alen 5 dX7_passes_4 rfl rfl rfl ?_
    refine R_top (y := 5) (by decide) ?_
    refine R_icmp_ge 8 58 dX7_passes_5 rfl (by decide) (fun _ => ?_) (fun c => absurd hc c)
    refine R_return dX7_passes_58 rfl ?_
    have e : (itX7_passes_4k  0 a f ar) = (f, ar) := rfl
    rw [e]; exact ⟨rfl, rfl⟩
  | succ j ih =>
    intro a f ar hj
    have hc : ¬ (5 : Int32) ≤ nI a := by show ¬ nI 5 ≤ nI a; exact nI_ge (by omega) (by omega)
    refine R_iload_n 3 dX7_passes_2 rfl rfl ?_
    refine R_aload_n 4 dX7_passes_3 rfl rfl ?_
    refine R_alen 5 dX7_passes_4 rfl rfl rfl ?_
    refine R_top (y := 5) (by decide) ?_
    refine R_icmp_ge 8 58 dX7_passes_5 rfl (by decide) (fun c => absurd c hc) (fun _ => ?_)
    refine R_aload_n 9 dX7_passes_8 rfl rfl ?_
    refine R_get 12 dX7_passes_9 rfl fX7_156 rfl (v := .int (f 22)) rfl ?_
    refine R_if_eq 15 30 dX7_passes_12 rfl (by decide) (fun c => absurd c hj.2.2.2) (fun _ => ?_)
    refine R_aload_n 16 dX7_passes_15 rfl rfl ?_
    refine R_get 19 dX7_passes_16 rfl fX7_46 rfl (v := .ref 113) rfl ?_
    refine R_aload_n 20 dX7_passes_19 rfl rfl ?_
    refine R_get 23 dX7_passes_20 rfl fX7_160 rfl (v := .int (f 23)) rfl ?_
    refine R_aload_n 24 dX7_passes_23 rfl rfl ?_
    refine R_iload_n 25 dX7_passes_24 rfl rfl ?_
    refine R_iald 26 dX7_passes_25 rfl rfl rfl (vp_in_nI (by omega) (by omega)) ?_
    refine R_nm2 (fun z1_ hz1_ => ?_)
    refine R_iast 27 dX7_passes_26 rfl rfl rfl (c23 (b := b) hj.2.2.1 (by omega)) (h2 := (h1, hM G f (up2 ar 20 (upd (ar 20) (f 23).toNatClampNeg z1_)))) ms_20 ?_
    refine R_goto 42 dX7_passes_27 (by decide) ?_
    refine R_aload_n 43 dX7_passes_42 rfl rfl ?_
    refine R_dup 44 dX7_passes_43 rfl rfl ?_
    refine R_get 47 dX7_passes_44 rfl fX7_160 rfl (v := .int (f 23)) rfl ?_
    refine R_iconst 48 dX7_passes_47 rfl (v := 1) (by decide) ?_
    refine R_iadd 49 dX7_passes_48 rfl ?_
    refine R_nm2 (fun z2_ hz2_ => ?_)
    refine R_put 52 dX7_passes_49 rfl wX7_160 rfl rfl rfl rfl (h2 := (h1, hM G (upd f 23 z2_) (up2 ar 20 (upd (ar 20) (f 23).toNatClampNeg z1_)))) mp_23 ?_
    refine R_iinc 55 dX7_passes_52 rfl rfl (v := (nI (a + 1))) (nI_1 a) rfl (by decide) (loc' := [(0, .ref 100), (1, .ref 105), (2, .int (nI (a + 1)))]) rfl ?_
    refine R_goto 2 dX7_passes_55 (by decide) ?_
    subst hz1_ hz2_
    refine R_pick [0, 1, 2] rfl ?_
    have e : stX7_passes_4k  a f ar = ((upd f 23 ((f 23) + 1)), (up2 ar 20 (upd (ar 20) (f 23).toNatClampNeg (ar 4 (nI a).toNatClampNeg)))) := by rfl
    have e2 : (itX7_passes_4k  (j + 1) a f ar) = (itX7_passes_4k  j (a + 1) (upd f 23 ((f 23) + 1)) (up2 ar 20 (upd (ar 20) (f 23).toNatClampNeg (ar 4 (nI a).toNatClampNeg)))) := itX7_passes_4k_n e
    rw [e2]; exact ih (a + 1) (upd f 23 ((f 23) + 1)) (up2 ar 20 (upd (ar 20) (f 23).toNatClampNeg (ar 4 (nI a).toNatClampNeg))) ⟨by omega, hj.2.1, (by show f 23 + 1 = nI (b + (a + 1)); rw [hj.2.2.1, nI_1]; rfl), hj.2.2.2⟩
def sX7_passes_4k (f : Nat → Int32) (ar : Nat → Nat → Int32) : (Nat → Int32) × (Nat → Nat → Int32) := ((itX7_passes_4k  5 0 f ar).1, (itX7_passes_4k  5 0 f ar).2)
set_option maxRecDepth 20000 in
theorem eX7_passes_4k {G : zG} {h1 : List va_E} {f : Nat → Int32} {ar : Nat → Nat → Int32} {b : Nat} (hb : b + 5 ≤ 150) (h23 : f 23 = nI b) (hm : ¬ f 22 = 0) : EvF G mX7_passes [.ref 100, .ref 105] (h1, hM G f ar) (none) (h1, hM G ((sX7_passes_4k f ar).1) ((sX7_passes_4k f ar).2)) := by
  generalize hs : (sX7_passes_4k f ar) = zz
  refine EvF.of pnX7 rfl ?_
  refine R_iconst 1 dX7_passes_0 rfl (v := 0) (by decide) ?_
  refine R_istore_n 2 dX7_passes_1 rfl rfl (by decide) (loc' := [(0, .ref 100), (1, .ref 105), (2, .int 0)]) rfl ?_
  refine R_pick [0, 1, 2] rfl ?_
  have e : zz = ((itX7_passes_4k  5 0 f ar).1, (itX7_passes_4k  5 0 f ar).2) := by rw [← hs]; unfold sX7_passes_4k; rfl
  rw [pr1 e, pr2 e]; exact lpX7_passes_4k 5 0 f ar ⟨rfl, hb, h23, hm⟩
theorem pl_4k {b : Nat} : ∀ (j a : Nat) (f : Nat → Int32) (ar : Nat → Nat → Int32), b + a + j ≤ 150 → f 23 = nI (b + a) → itX7_passes_4k j a f ar = (upd f 23 (nI (b + a + j)), up2 ar 20 (fun i => if b + a ≤ i ∧ i < b + a + j then ar 4 (i - b) else ar 20 i))
  | 0, a, f, ar, hb, h => by
    rw [sk_0, up2_id rfl, upd_id (u := nI (b + a + 0)) h]
    rfl
  | j + 1, a, f, ar, hb, h => by
    have hc : (f 23).toNatClampNeg = b + a := by rw [h, nI_clamp (by omega)]
    have ha : (nI a).toNatClampNeg = a := nI_clamp (by omega)
    have es : stX7_passes_4k a f ar = (upd f 23 (nI (b + (a + 1))), up2 ar 20 (upd (ar 20) (b + a) (ar 4 a))) := by
      show (upd f 23 (f 23 + 1), up2 ar 20 (upd (ar 20) (f 23).toNatClampNeg (ar 4 (nI a).toNatClampNeg))) = _
      rw [hc, ha, h, nI_1]
      rfl
    have e3 : (fun i => if b + (a + 1) ≤ i ∧ i < b + (a + 1) + j then (up2 ar 20 (upd (ar 20) (b + a) (ar 4 a))) 4 (i - b) else (up2 ar 20 (upd (ar 20) (b + a) (ar 4 a))) 20 i) = _ := sk_n (ar 20) (ar 4) b a j
    rw [show itX7_passes_4k (j + 1) a f ar = itX7_passes_4k j (a + 1) (stX7_passes_4k a f ar).1 (stX7_passes_4k a f ar).2 from rfl, es]
    rw [pl_4k (b := b) j (a + 1) (upd f 23 (nI (b + (a + 1)))) (up2 ar 20 (upd (ar 20) (b + a) (ar 4 a))) (by omega) rfl, e3, up2_2, upd_2, show b + (a + 1) + j = b + a + (j + 1) by omega]
theorem passK_4 {G : zG} {h1 : List va_E} {f : Nat → Int32} {ar : Nat → Nat → Int32} {b : Nat} {c0 c1 : Int32} (hb : b + 5 ≤ 150) (h23 : f 23 = c0) (h0 : c0 = nI b) (hc : c1 = nI (b + 5)) (hm : ¬ f 22 = 0) : EvF G mX7_passes [.ref 100, .ref 105] (h1, hM G f ar) none (h1, hM G (upd f 23 c1) (up2 ar 20 (savK (ar 20) (ar 4) b 5))) := by
  have e := eX7_passes_4k (G := G) (h1 := h1) (f := f) (ar := ar) hb (h23.trans h0) hm
  have e2 : sX7_passes_4k f ar = (upd f 23 (nI (b + 0 + 5)), up2 ar 20 (fun i => if b + 0 ≤ i ∧ i < b + 0 + 5 then ar 4 (i - b) else ar 20 i)) := pl_4k 5 0 f ar (by omega) (h23.trans h0)
  rw [e2] at e
  subst hc
  exact e
def exX7_passes_4p  (a : Nat) (f : Nat → Int32) (ar : Nat → Nat → Int32) : (Nat → Int32) × (Nat → Nat → Int32) := (f, ar)
def stX7_passes_4p  (a : Nat) (f : Nat → Int32) (ar : Nat → Nat → Int32) : (Nat → Int32) × (Nat → Nat → Int32) := ((upd f 23 ((f 23) + 1)), (up2 ar 4 (upd (ar 4) (nI a).toNatClampNeg (ar 20 (f 23).toNatClampNeg))))
def itX7_passes_4p  : Nat → Nat → (Nat → Int32) → (Nat → Nat → Int32) → (Nat → Int32) × (Nat → Nat → Int32)
  | 0, a, f, ar => exX7_passes_4p  a f ar
  | j + 1, a, f, ar => itX7_passes_4p  j (a + 1) ((stX7_passes_4p  a f ar).1) ((stX7_passes_4p  a f ar).2)
theorem itX7_passes_4p_n  {j a : Nat} {f : Nat → Int32} {ar : Nat → Nat → Int32} {s0_ : Nat → Int32} {s1_ : Nat → Nat → Int32} (e : stX7_passes_4p  a f ar = (s0_, s1_)) : (itX7_passes_4p  (j + 1) a f ar) = (itX7_passes_4p  j (a + 1) s0_ s1_) := by simp only [itX7_passes_4p.eq_2, e]
set_option maxRecDepth 20000 in
theorem lpX7_passes_4p {G : zG} {h1 : List va_E} {b : Nat} : ∀ (j a : Nat) (f : Nat → Int32) (ar : Nat → Nat → Int32), (a + j = 5 ∧ b + 5 ≤ 150 ∧ f 23 = nI (b + a) ∧ f 22 = 0) → R G mX7_passes 2 [(0, .ref 100), (1, .ref 105), (2, .int (nI a))] [] (h1, hM G f ar) (fun r0 h0 => r0 = none ∧ h0 = (h1, hM G ((itX7_passes_4p  j a f ar).1) ((itX7_passes_4p  j a f ar).2))) := by
  intro j
  induction j with
  | zero =>
    intro a f ar hj
    have hc : (5 : Int32) ≤ nI a := by show nI 5 ≤ nI a; exact nI_le (by omega) (by omega)
    refine R_iload_n 3 dX7_passes_2 rfl rfl ?_
    refine R_aload_n 4 dX7_passes_3 rfl rfl ?_
    refine R_alen 5 dX7_passes_4 rfl rfl rfl ?_
    refine R_top (y := 5) (by decide) ?_
    refine R_icmp_ge 8 58 dX7_passes_5 rfl (by decide) (fun _ => ?_) (fun c => absurd hc c)
    refine R_return dX7_passes_58 rfl ?_
    have e : (itX7_passes_4p  0 a f ar) = (f, ar) := rfl
    rw [e]; exact ⟨rfl, rfl⟩
  | succ j ih =>
    intro a f ar hj
    have hc : ¬ (5 : Int32) ≤ nI a := by show ¬ nI 5 ≤ nI a; exact nI_ge (by omega) (by omega)
    refine R_iload_n 3 dX7_passes_2 rfl rfl ?_
    refine R_aload_n 4 dX7_passes_3 rfl rfl ?_
    refine R_alen 5 dX7_passes_4 rfl rfl rfl ?_
    refine R_top (y := 5) (by decide) ?_
    refine R_icmp_ge 8 58 dX7_passes_5 rfl (by decide) (fun c => absurd c hc) (fun _ => ?_)
    refine R_aload_n 9 dX7_passes_8 rfl rfl ?_
    refine R_get 12 dX7_passes_9 rfl fX7_156 rfl (v := .int (f 22)) rfl ?_
    refine R_if_eq 15 30 dX7_passes_12 rfl (by decide) (fun _ => ?_) (fun c => absurd hj.2.2.2 c)
    refine R_aload_n 31 dX7_passes_30 rfl rfl ?_
    refine R_iload_n 32 dX7_passes_31 rfl rfl ?_
    refine R_aload_n 33 dX7_passes_32 rfl rfl ?_
    refine R_get 36 dX7_passes_33 rfl fX7_46 rfl (v := .ref 113) rfl ?_
    refine R_aload_n 37 dX7_passes_36 rfl rfl ?_
    refine R_get 40 dX7_passes_37 rfl fX7_160 rfl (v := .int (f 23)) rfl ?_
    refine R_iald 41 dX7_passes_40 rfl rfl rfl (c23 (b := b) hj.2.2.1 (by omega)) ?_
    refine R_nm2 (fun z1_ hz1_ => ?_)
    refine R_iast 42 dX7_passes_41 rfl rfl rfl (vp_in_nI (by omega) (by omega)) (h2 := (h1, hM G f (up2 ar 4 (upd (ar 4) (nI a).toNatClampNeg z1_)))) ms_4 ?_
    refine R_aload_n 43 dX7_passes_42 rfl rfl ?_
    refine R_dup 44 dX7_passes_43 rfl rfl ?_
    refine R_get 47 dX7_passes_44 rfl fX7_160 rfl (v := .int (f 23)) rfl ?_
    refine R_iconst 48 dX7_passes_47 rfl (v := 1) (by decide) ?_
    refine R_iadd 49 dX7_passes_48 rfl ?_
    refine R_nm2 (fun z2_ hz2_ => ?_)
    refine R_put 52 dX7_passes_49 rfl wX7_160 rfl rfl rfl rfl (h2 := (h1, hM G (upd f 23 z2_) (up2 ar 4 (upd (ar 4) (nI a).toNatClampNeg z1_)))) mp_23 ?_
    refine R_iinc 55 dX7_passes_52 rfl rfl (v := (nI (a + 1))) (nI_1 a) rfl (by decide) (loc' := [(0, .ref 100), (1, .ref 105), (2, .int (nI (a + 1)))]) rfl ?_
    refine R_goto 2 dX7_passes_55 (by decide) ?_
    subst hz1_ hz2_
    refine R_pick [0, 1, 2] rfl ?_
    have e : stX7_passes_4p  a f ar = ((upd f 23 ((f 23) + 1)), (up2 ar 4 (upd (ar 4) (nI a).toNatClampNeg (ar 20 (f 23).toNatClampNeg)))) := by rfl
    have e2 : (itX7_passes_4p  (j + 1) a f ar) = (itX7_passes_4p  j (a + 1) (upd f 23 ((f 23) + 1)) (up2 ar 4 (upd (ar 4) (nI a).toNatClampNeg (ar 20 (f 23).toNatClampNeg)))) := itX7_passes_4p_n e
    rw [e2]; exact ih (a + 1) (upd f 23 ((f 23) + 1)) (up2 ar 4 (upd (ar 4) (nI a).toNatClampNeg (ar 20 (f 23).toNatClampNeg))) ⟨by omega, hj.2.1, (by show f 23 + 1 = nI (b + (a + 1)); rw [hj.2.2.1, nI_1]; rfl), hj.2.2.2⟩
def sX7_passes_4p (f : Nat → Int32) (ar : Nat → Nat → Int32) : (Nat → Int32) × (Nat → Nat → Int32) := ((itX7_passes_4p  5 0 f ar).1, (itX7_passes_4p  5 0 f ar).2)
set_option maxRecDepth 20000 in
theorem eX7_passes_4p {G : zG} {h1 : List va_E} {f : Nat → Int32} {ar : Nat → Nat → Int32} {b : Nat} (hb : b + 5 ≤ 150) (h23 : f 23 = nI b) (hm : f 22 = 0) : EvF G mX7_passes [.ref 100, .ref 105] (h1, hM G f ar) (none) (h1, hM G ((sX7_passes_4p f ar).1) ((sX7_passes_4p f ar).2)) := by
  generalize hs : (sX7_passes_4p f ar) = zz
  refine EvF.of pnX7 rfl ?_
  refine R_iconst 1 dX7_passes_0 rfl (v := 0) (by decide) ?_
  refine R_istore_n 2 dX7_passes_1 rfl rfl (by decide) (loc' := [(0, .ref 100), (1, .ref 105), (2, .int 0)]) rfl ?_
  refine R_pick [0, 1, 2] rfl ?_
  have e : zz = ((itX7_passes_4p  5 0 f ar).1, (itX7_passes_4p  5 0 f ar).2) := by rw [← hs]; unfold sX7_passes_4p; rfl
  rw [pr1 e, pr2 e]; exact lpX7_passes_4p 5 0 f ar ⟨rfl, hb, h23, hm⟩
theorem pl_4p {b : Nat} : ∀ (j a : Nat) (f : Nat → Int32) (ar : Nat → Nat → Int32), b + a + j ≤ 150 → f 23 = nI (b + a) → itX7_passes_4p j a f ar = (upd f 23 (nI (b + a + j)), up2 ar 4 (fun i => if a ≤ i ∧ i < a + j then ar 20 (b + i) else ar 4 i))
  | 0, a, f, ar, hb, h => by
    rw [gk_0, up2_id rfl, upd_id (u := nI (b + a + 0)) h]
    rfl
  | j + 1, a, f, ar, hb, h => by
    have hc : (f 23).toNatClampNeg = b + a := by rw [h, nI_clamp (by omega)]
    have ha : (nI a).toNatClampNeg = a := nI_clamp (by omega)
    have es : stX7_passes_4p a f ar = (upd f 23 (nI (b + (a + 1))), up2 ar 4 (upd (ar 4) a (ar 20 (b + a)))) := by
      show (upd f 23 (f 23 + 1), up2 ar 4 (upd (ar 4) (nI a).toNatClampNeg (ar 20 (f 23).toNatClampNeg))) = _
      rw [hc, ha, h, nI_1]
      rfl
    have e3 : (fun i => if a + 1 ≤ i ∧ i < a + 1 + j then (up2 ar 4 (upd (ar 4) a (ar 20 (b + a)))) 20 (b + i) else (up2 ar 4 (upd (ar 4) a (ar 20 (b + a)))) 4 i) = _ := gk_n (ar 20) (ar 4) b a j
    rw [show itX7_passes_4p (j + 1) a f ar = itX7_passes_4p j (a + 1) (stX7_passes_4p a f ar).1 (stX7_passes_4p a f ar).2 from rfl, es]
    rw [pl_4p (b := b) j (a + 1) (upd f 23 (nI (b + (a + 1)))) (up2 ar 4 (upd (ar 4) a (ar 20 (b + a)))) (by omega) rfl, e3, up2_2, upd_2, show b + (a + 1) + j = b + a + (j + 1) by omega]
theorem passP_4 {G : zG} {h1 : List va_E} {f : Nat → Int32} {ar : Nat → Nat → Int32} {b : Nat} {c0 c1 : Int32} (hb : b + 5 ≤ 150) (h23 : f 23 = c0) (h0 : c0 = nI b) (hc : c1 = nI (b + 5)) (hm : f 22 = 0) : EvF G mX7_passes [.ref 100, .ref 105] (h1, hM G f ar) none (h1, hM G (upd f 23 c1) (up2 ar 4 (getK (ar 20) (ar 4) b 5))) := by
  have e := eX7_passes_4p (G := G) (h1 := h1) (f := f) (ar := ar) hb (h23.trans h0) hm
  have e2 : sX7_passes_4p f ar = (upd f 23 (nI (b + 0 + 5)), up2 ar 4 (fun i => if 0 ≤ i ∧ i < 0 + 5 then ar 20 (b + i) else ar 4 i)) := pl_4p 5 0 f ar (by omega) (h23.trans h0)
  have e3 : (fun i => if 0 ≤ i ∧ i < 0 + 5 then ar 20 (b + i) else ar 4 i) = getK (ar 20) (ar 4) b 5 := by
    funext i
    unfold getK
    by_cases h : i < 5
    · rw [if_pos (by omega), if_pos h]
    · rw [if_neg (by omega), if_neg h]
  rw [e2, e3] at e
  subst hc
  exact e
def exX7_passes_5k  (a : Nat) (f : Nat → Int32) (ar : Nat → Nat → Int32) : (Nat → Int32) × (Nat → Nat → Int32) := (f, ar)
def stX7_passes_5k  (a : Nat) (f : Nat → Int32) (ar : Nat → Nat → Int32) : (Nat → Int32) × (Nat → Nat → Int32) := ((upd f 23 ((f 23) + 1)), (up2 ar 20 (upd (ar 20) (f 23).toNatClampNeg (ar 5 (nI a).toNatClampNeg))))
def itX7_passes_5k  : Nat → Nat → (Nat → Int32) → (Nat → Nat → Int32) → (Nat → Int32) × (Nat → Nat → Int32)
  | 0, a, f, ar => exX7_passes_5k  a f ar
  | j + 1, a, f, ar => itX7_passes_5k  j (a + 1) ((stX7_passes_5k  a f ar).1) ((stX7_passes_5k  a f ar).2)
theorem itX7_passes_5k_n  {j a : Nat} {f : Nat → Int32} {ar : Nat → Nat → Int32} {s0_ : Nat → Int32} {s1_ : Nat → Nat → Int32} (e : stX7_passes_5k  a f ar = (s0_, s1_)) : (itX7_passes_5k  (j + 1) a f ar) = (itX7_passes_5k  j (a + 1) s0_ s1_) := by simp only [itX7_passes_5k.eq_2, e]
set_option maxRecDepth 20000 in
theorem lpX7_passes_5k {G : zG} {h1 : List va_E} {b : Nat} : ∀ (j a : Nat) (f : Nat → Int32) (ar : Nat → Nat → Int32), (a + j = 5 ∧ b + 5 ≤ 150 ∧ f 23 = nI (b + a) ∧ ¬ f 22 = 0) → R G mX7_passes 2 [(0, .ref 100), (1, .ref 106), (2, .int (nI a))] [] (h1, hM G f ar) (fun r0 h0 => r0 = none ∧ h0 = (h1, hM G ((itX7_passes_5k  j a f ar).1) ((itX7_passes_5k  j a f ar).2))) := by
  intro j
  induction j with
  | zero =>
    intro a f ar hj
    have hc : (5 : Int32) ≤ nI a := by show nI 5 ≤ nI a; exact nI_le (by omega) (by omega)
    refine R_iload_n 3 dX7_passes_2 rfl rfl ?_
    refine R_aload_n 4 dX7_passes_3 rfl rfl ?_
    refine R_alen 5 dX7_passes_4 rfl rfl rfl ?_
    refine R_top (y := 5) (by decide) ?_
    refine R_icmp_ge 8 58 dX7_passes_5 rfl (by decide) (fun _ => ?_) (fun c => absurd hc c)
    refine R_return dX7_passes_58 rfl ?_
    have e : (itX7_passes_5k  0 a f ar) = (f, ar) := rfl
    rw [e]; exact ⟨rfl, rfl⟩
  | succ j ih =>
    intro a f ar hj
    have hc : ¬ (5 : Int32) ≤ nI a := by show ¬ nI 5 ≤ nI a; exact nI_ge (by omega) (by omega)
    refine R_iload_n 3 dX7_passes_2 rfl rfl ?_
    refine R_aload_n 4 dX7_passes_3 rfl rfl ?_
    refine R_alen 5 dX7_passes_4 rfl rfl rfl ?_
    refine R_top (y := 5) (by decide) ?_
    refine R_icmp_ge 8 58 dX7_passes_5 rfl (by decide) (fun c => absurd c hc) (fun _ => ?_)
    refine R_aload_n 9 dX7_passes_8 rfl rfl ?_
    refine R_get 12 dX7_passes_9 rfl fX7_156 rfl (v := .int (f 22)) rfl ?_
    refine R_if_eq 15 30 dX7_passes_12 rfl (by decide) (fun c => absurd c hj.2.2.2) (fun _ => ?_)
    refine R_aload_n 16 dX7_passes_15 rfl rfl ?_
    refine R_get 19 dX7_passes_16 rfl fX7_46 rfl (v := .ref 113) rfl ?_
    refine R_aload_n 20 dX7_passes_19 rfl rfl ?_
    refine R_get 23 dX7_passes_20 rfl fX7_160 rfl (v := .int (f 23)) rfl ?_
    refine R_aload_n 24 dX7_passes_23 rfl rfl ?_
    refine R_iload_n 25 dX7_passes_24 rfl rfl ?_
    refine R_iald 26 dX7_passes_25 rfl rfl rfl (vp_in_nI (by omega) (by omega)) ?_
    refine R_nm2 (fun z1_ hz1_ => ?_)
    refine R_iast 27 dX7_passes_26 rfl rfl rfl (c23 (b := b) hj.2.2.1 (by omega)) (h2 := (h1, hM G f (up2 ar 20 (upd (ar 20) (f 23).toNatClampNeg z1_)))) ms_20 ?_
    refine R_goto 42 dX7_passes_27 (by decide) ?_
    refine R_aload_n 43 dX7_passes_42 rfl rfl ?_
    refine R_dup 44 dX7_passes_43 rfl rfl ?_
    refine R_get 47 dX7_passes_44 rfl fX7_160 rfl (v := .int (f 23)) rfl ?_
    refine R_iconst 48 dX7_passes_47 rfl (v := 1) (by decide) ?_
    refine R_iadd 49 dX7_passes_48 rfl ?_
    refine R_nm2 (fun z2_ hz2_ => ?_)
    refine R_put 52 dX7_passes_49 rfl wX7_160 rfl rfl rfl rfl (h2 := (h1, hM G (upd f 23 z2_) (up2 ar 20 (upd (ar 20) (f 23).toNatClampNeg z1_)))) mp_23 ?_
    refine R_iinc 55 dX7_passes_52 rfl rfl (v := (nI (a + 1))) (nI_1 a) rfl (by decide) (loc' := [(0, .ref 100), (1, .ref 106), (2, .int (nI (a + 1)))]) rfl ?_
    refine R_goto 2 dX7_passes_55 (by decide) ?_
    subst hz1_ hz2_
    refine R_pick [0, 1, 2] rfl ?_
    have e : stX7_passes_5k  a f ar = ((upd f 23 ((f 23) + 1)), (up2 ar 20 (upd (ar 20) (f 23).toNatClampNeg (ar 5 (nI a).toNatClampNeg)))) := by rfl
    have e2 : (itX7_passes_5k  (j + 1) a f ar) = (itX7_passes_5k  j (a + 1) (upd f 23 ((f 23) + 1)) (up2 ar 20 (upd (ar 20) (f 23).toNatClampNeg (ar 5 (nI a).toNatClampNeg)))) := itX7_passes_5k_n e
    rw [e2]; exact ih (a + 1) (upd f 23 ((f 23) + 1)) (up2 ar 20 (upd (ar 20) (f 23).toNatClampNeg (ar 5 (nI a).toNatClampNeg))) ⟨by omega, hj.2.1, (by show f 23 + 1 = nI (b + (a + 1)); rw [hj.2.2.1, nI_1]; rfl), hj.2.2.2⟩
def sX7_passes_5k (f : Nat → Int32) (ar : Nat → Nat → Int32) : (Nat → Int32) × (Nat → Nat → Int32) := ((itX7_passes_5k  5 0 f ar).1, (itX7_passes_5k  5 0 f ar).2)
set_option maxRecDepth 20000 in
theorem eX7_passes_5k {G : zG} {h1 : List va_E} {f : Nat → Int32} {ar : Nat → Nat → Int32} {b : Nat} (hb : b + 5 ≤ 150) (h23 : f 23 = nI b) (hm : ¬ f 22 = 0) : EvF G mX7_passes [.ref 100, .ref 106] (h1, hM G f ar) (none) (h1, hM G ((sX7_passes_5k f ar).1) ((sX7_passes_5k f ar).2)) := by
  generalize hs : (sX7_passes_5k f ar) = zz
  refine EvF.of pnX7 rfl ?_
  refine R_iconst 1 dX7_passes_0 rfl (v := 0) (by decide) ?_
  refine R_istore_n 2 dX7_passes_1 rfl rfl (by decide) (loc' := [(0, .ref 100), (1, .ref 106), (2, .int 0)]) rfl ?_
  refine R_pick [0, 1, 2] rfl ?_
  have e : zz = ((itX7_passes_5k  5 0 f ar).1, (itX7_passes_5k  5 0 f ar).2) := by rw [← hs]; unfold sX7_passes_5k; rfl
  rw [pr1 e, pr2 e]; exact lpX7_passes_5k 5 0 f ar ⟨rfl, hb, h23, hm⟩
theorem pl_5k {b : Nat} : ∀ (j a : Nat) (f : Nat → Int32) (ar : Nat → Nat → Int32), b + a + j ≤ 150 → f 23 = nI (b + a) → itX7_passes_5k j a f ar = (upd f 23 (nI (b + a + j)), up2 ar 20 (fun i => if b + a ≤ i ∧ i < b + a + j then ar 5 (i - b) else ar 20 i))
  | 0, a, f, ar, hb, h => by
    rw [sk_0, up2_id rfl, upd_id (u := nI (b + a + 0)) h]
    rfl
  | j + 1, a, f, ar, hb, h => by
    have hc : (f 23).toNatClampNeg = b + a := by rw [h, nI_clamp (by omega)]
    have ha : (nI a).toNatClampNeg = a := nI_clamp (by omega)
    have es : stX7_passes_5k a f ar = (upd f 23 (nI (b + (a + 1))), up2 ar 20 (upd (ar 20) (b + a) (ar 5 a))) := by
      show (upd f 23 (f 23 + 1), up2 ar 20 (upd (ar 20) (f 23).toNatClampNeg (ar 5 (nI a).toNatClampNeg))) = _
      rw [hc, ha, h, nI_1]
      rfl
    have e3 : (fun i => if b + (a + 1) ≤ i ∧ i < b + (a + 1) + j then (up2 ar 20 (upd (ar 20) (b + a) (ar 5 a))) 5 (i - b) else (up2 ar 20 (upd (ar 20) (b + a) (ar 5 a))) 20 i) = _ := sk_n (ar 20) (ar 5) b a j
    rw [show itX7_passes_5k (j + 1) a f ar = itX7_passes_5k j (a + 1) (stX7_passes_5k a f ar).1 (stX7_passes_5k a f ar).2 from rfl, es]
    rw [pl_5k (b := b) j (a + 1) (upd f 23 (nI (b + (a + 1)))) (up2 ar 20 (upd (ar 20) (b + a) (ar 5 a))) (by omega) rfl, e3, up2_2, upd_2, show b + (a + 1) + j = b + a + (j + 1) by omega]
theorem passK_5 {G : zG} {h1 : List va_E} {f : Nat → Int32} {ar : Nat → Nat → Int32} {b : Nat} {c0 c1 : Int32} (hb : b + 5 ≤ 150) (h23 : f 23 = c0) (h0 : c0 = nI b) (hc : c1 = nI (b + 5)) (hm : ¬ f 22 = 0) : EvF G mX7_passes [.ref 100, .ref 106] (h1, hM G f ar) none (h1, hM G (upd f 23 c1) (up2 ar 20 (savK (ar 20) (ar 5) b 5))) := by
  have e := eX7_passes_5k (G := G) (h1 := h1) (f := f) (ar := ar) hb (h23.trans h0) hm
  have e2 : sX7_passes_5k f ar = (upd f 23 (nI (b + 0 + 5)), up2 ar 20 (fun i => if b + 0 ≤ i ∧ i < b + 0 + 5 then ar 5 (i - b) else ar 20 i)) := pl_5k 5 0 f ar (by omega) (h23.trans h0)
  rw [e2] at e
  subst hc
  exact e
def exX7_passes_5p  (a : Nat) (f : Nat → Int32) (ar : Nat → Nat → Int32) : (Nat → Int32) × (Nat → Nat → Int32) := (f, ar)
def stX7_passes_5p  (a : Nat) (f : Nat → Int32) (ar : Nat → Nat → Int32) : (Nat → Int32) × (Nat → Nat → Int32) := ((upd f 23 ((f 23) + 1)), (up2 ar 5 (upd (ar 5) (nI a).toNatClampNeg (ar 20 (f 23).toNatClampNeg))))
def itX7_passes_5p  : Nat → Nat → (Nat → Int32) → (Nat → Nat → Int32) → (Nat → Int32) × (Nat → Nat → Int32)
  | 0, a, f, ar => exX7_passes_5p  a f ar
  | j + 1, a, f, ar => itX7_passes_5p  j (a + 1) ((stX7_passes_5p  a f ar).1) ((stX7_passes_5p  a f ar).2)
theorem itX7_passes_5p_n  {j a : Nat} {f : Nat → Int32} {ar : Nat → Nat → Int32} {s0_ : Nat → Int32} {s1_ : Nat → Nat → Int32} (e : stX7_passes_5p  a f ar = (s0_, s1_)) : (itX7_passes_5p  (j + 1) a f ar) = (itX7_passes_5p  j (a + 1) s0_ s1_) := by simp only [itX7_passes_5p.eq_2, e]
set_option maxRecDepth 20000 in
theorem lpX7_passes_5p {G : zG} {h1 : List va_E} {b : Nat} : ∀ (j a : Nat) (f : Nat → Int32) (ar : Nat → Nat → Int32), (a + j = 5 ∧ b + 5 ≤ 150 ∧ f 23 = nI (b + a) ∧ f 22 = 0) → R G mX7_passes 2 [(0, .ref 100), (1, .ref 106), (2, .int (nI a))] [] (h1, hM G f ar) (fun r0 h0 => r0 = none ∧ h0 = (h1, hM G ((itX7_passes_5p  j a f ar).1) ((itX7_passes_5p  j a f ar).2))) := by
  intro j
  induction j with
  | zero =>
    intro a f ar hj
    have hc : (5 : Int32) ≤ nI a := by show nI 5 ≤ nI a; exact nI_le (by omega) (by omega)
    refine R_iload_n 3 dX7_passes_2 rfl rfl ?_
    refine R_aload_n 4 dX7_passes_3 rfl rfl ?_
    refine R_alen 5 dX7_passes_4 rfl rfl rfl ?_
    refine R_top (y := 5) (by decide) ?_
    refine R_icmp_ge 8 58 dX7_passes_5 rfl (by decide) (fun _ => ?_) (fun c => absurd hc c)
    refine R_return dX7_passes_58 rfl ?_
    have e : (itX7_passes_5p  0 a f ar) = (f, ar) := rfl
    rw [e]; exact ⟨rfl, rfl⟩
  | succ j ih =>
    intro a f ar hj
    have hc : ¬ (5 : Int32) ≤ nI a := by show ¬ nI 5 ≤ nI a; exact nI_ge (by omega) (by omega)
    refine R_iload_n 3 dX7_passes_2 rfl rfl ?_
    refine R_aload_n 4 dX7_passes_3 rfl rfl ?_
    refine R_alen 5 dX7_passes_4 rfl rfl rfl ?_
    refine R_top (y := 5) (by decide) ?_
    refine R_icmp_ge 8 58 dX7_passes_5 rfl (by decide) (fun c => absurd c hc) (fun _ => ?_)
    refine R_aload_n 9 dX7_passes_8 rfl rfl ?_
    refine R_get 12 dX7_passes_9 rfl fX7_156 rfl (v := .int (f 22)) rfl ?_
    refine R_if_eq 15 30 dX7_passes_12 rfl (by decide) (fun _ => ?_) (fun c => absurd hj.2.2.2 c)
    refine R_aload_n 31 dX7_passes_30 rfl rfl ?_
    refine R_iload_n 32 dX7_passes_31 rfl rfl ?_
    refine R_aload_n 33 dX7_passes_32 rfl rfl ?_
    refine R_get 36 dX7_passes_33 rfl fX7_46 rfl (v := .ref 113) rfl ?_
    refine R_aload_n 37 dX7_passes_36 rfl rfl ?_
    refine R_get 40 dX7_passes_37 rfl fX7_160 rfl (v := .int (f 23)) rfl ?_
    refine R_iald 41 dX7_passes_40 rfl rfl rfl (c23 (b := b) hj.2.2.1 (by omega)) ?_
    refine R_nm2 (fun z1_ hz1_ => ?_)
    refine R_iast 42 dX7_passes_41 rfl rfl rfl (vp_in_nI (by omega) (by omega)) (h2 := (h1, hM G f (up2 ar 5 (upd (ar 5) (nI a).toNatClampNeg z1_)))) ms_5 ?_
    refine R_aload_n 43 dX7_passes_42 rfl rfl ?_
    refine R_dup 44 dX7_passes_43 rfl rfl ?_
    refine R_get 47 dX7_passes_44 rfl fX7_160 rfl (v := .int (f 23)) rfl ?_
    refine R_iconst 48 dX7_passes_47 rfl (v := 1) (by decide) ?_
    refine R_iadd 49 dX7_passes_48 rfl ?_
    refine R_nm2 (fun z2_ hz2_ => ?_)
    refine R_put 52 dX7_passes_49 rfl wX7_160 rfl rfl rfl rfl (h2 := (h1, hM G (upd f 23 z2_) (up2 ar 5 (upd (ar 5) (nI a).toNatClampNeg z1_)))) mp_23 ?_
    refine R_iinc 55 dX7_passes_52 rfl rfl (v := (nI (a + 1))) (nI_1 a) rfl (by decide) (loc' := [(0, .ref 100), (1, .ref 106), (2, .int (nI (a + 1)))]) rfl ?_
    refine R_goto 2 dX7_passes_55 (by decide) ?_
    subst hz1_ hz2_
    refine R_pick [0, 1, 2] rfl ?_
    have e : stX7_passes_5p  a f ar = ((upd f 23 ((f 23) + 1)), (up2 ar 5 (upd (ar 5) (nI a).toNatClampNeg (ar 20 (f 23).toNatClampNeg)))) := by rfl
    have e2 : (itX7_passes_5p  (j + 1) a f ar) = (itX7_passes_5p  j (a + 1) (upd f 23 ((f 23) + 1)) (up2 ar 5 (upd (ar 5) (nI a).toNatClampNeg (ar 20 (f 23).toNatClampNeg)))) := itX7_passes_5p_n e
    rw [e2]; exact ih (a + 1) (upd f 23 ((f 23) + 1)) (up2 ar 5 (upd (ar 5) (nI a).toNatClampNeg (ar 20 (f 23).toNatClampNeg))) ⟨by omega, hj.2.1, (by show f 23 + 1 = nI (b + (a + 1)); rw [hj.2.2.1, nI_1]; rfl), hj.2.2.2⟩
def sX7_passes_5p (f : Nat → Int32) (ar : Nat → Nat → Int32) : (Nat → Int32) × (Nat → Nat → Int32) := ((itX7_passes_5p  5 0 f ar).1, (itX7_passes_5p  5 0 f ar).2)
set_option maxRecDepth 20000 in
theorem eX7_passes_5p {G : zG} {h1 : List va_E} {f : Nat → Int32} {ar : Nat → Nat → Int32} {b : Nat} (hb : b + 5 ≤ 150) (h23 : f 23 = nI b) (hm : f 22 = 0) : EvF G mX7_passes [.ref 100, .ref 106] (h1, hM G f ar) (none) (h1, hM G ((sX7_passes_5p f ar).1) ((sX7_passes_5p f ar).2)) := by
  generalize hs : (sX7_passes_5p f ar) = zz
  refine EvF.of pnX7 rfl ?_
  refine R_iconst 1 dX7_passes_0 rfl (v := 0) (by decide) ?_
  refine R_istore_n 2 dX7_passes_1 rfl rfl (by decide) (loc' := [(0, .ref 100), (1, .ref 106), (2, .int 0)]) rfl ?_
  refine R_pick [0, 1, 2] rfl ?_
  have e : zz = ((itX7_passes_5p  5 0 f ar).1, (itX7_passes_5p  5 0 f ar).2) := by rw [← hs]; unfold sX7_passes_5p; rfl
  rw [pr1 e, pr2 e]; exact lpX7_passes_5p 5 0 f ar ⟨rfl, hb, h23, hm⟩
theorem pl_5p {b : Nat} : ∀ (j a : Nat) (f : Nat → Int32) (ar : Nat → Nat → Int32), b + a + j ≤ 150 → f 23 = nI (b + a) → itX7_passes_5p j a f ar = (upd f 23 (nI (b + a + j)), up2 ar 5 (fun i => if a ≤ i ∧ i < a + j then ar 20 (b + i) else ar 5 i))
  | 0, a, f, ar, hb, h => by
    rw [gk_0, up2_id rfl, upd_id (u := nI (b + a + 0)) h]
    rfl
  | j + 1, a, f, ar, hb, h => by
    have hc : (f 23).toNatClampNeg = b + a := by rw [h, nI_clamp (by omega)]
    have ha : (nI a).toNatClampNeg = a := nI_clamp (by omega)
    have es : stX7_passes_5p a f ar = (upd f 23 (nI (b + (a + 1))), up2 ar 5 (upd (ar 5) a (ar 20 (b + a)))) := by
      show (upd f 23 (f 23 + 1), up2 ar 5 (upd (ar 5) (nI a).toNatClampNeg (ar 20 (f 23).toNatClampNeg))) = _
      rw [hc, ha, h, nI_1]
      rfl
    have e3 : (fun i => if a + 1 ≤ i ∧ i < a + 1 + j then (up2 ar 5 (upd (ar 5) a (ar 20 (b + a)))) 20 (b + i) else (up2 ar 5 (upd (ar 5) a (ar 20 (b + a)))) 5 i) = _ := gk_n (ar 20) (ar 5) b a j
    rw [show itX7_passes_5p (j + 1) a f ar = itX7_passes_5p j (a + 1) (stX7_passes_5p a f ar).1 (stX7_passes_5p a f ar).2 from rfl, es]
    rw [pl_5p (b := b) j (a + 1) (upd f 23 (nI (b + (a + 1)))) (up2 ar 5 (upd (ar 5) a (ar 20 (b + a)))) (by omega) rfl, e3, up2_2, upd_2, show b + (a + 1) + j = b + a + (j + 1) by omega]
theorem passP_5 {G : zG} {h1 : List va_E} {f : Nat → Int32} {ar : Nat → Nat → Int32} {b : Nat} {c0 c1 : Int32} (hb : b + 5 ≤ 150) (h23 : f 23 = c0) (h0 : c0 = nI b) (hc : c1 = nI (b + 5)) (hm : f 22 = 0) : EvF G mX7_passes [.ref 100, .ref 106] (h1, hM G f ar) none (h1, hM G (upd f 23 c1) (up2 ar 5 (getK (ar 20) (ar 5) b 5))) := by
  have e := eX7_passes_5p (G := G) (h1 := h1) (f := f) (ar := ar) hb (h23.trans h0) hm
  have e2 : sX7_passes_5p f ar = (upd f 23 (nI (b + 0 + 5)), up2 ar 5 (fun i => if 0 ≤ i ∧ i < 0 + 5 then ar 20 (b + i) else ar 5 i)) := pl_5p 5 0 f ar (by omega) (h23.trans h0)
  have e3 : (fun i => if 0 ≤ i ∧ i < 0 + 5 then ar 20 (b + i) else ar 5 i) = getK (ar 20) (ar 5) b 5 := by
    funext i
    unfold getK
    by_cases h : i < 5
    · rw [if_pos (by omega), if_pos h]
    · rw [if_neg (by omega), if_neg h]
  rw [e2, e3] at e
  subst hc
  exact e
def exX7_passes_6k  (a : Nat) (f : Nat → Int32) (ar : Nat → Nat → Int32) : (Nat → Int32) × (Nat → Nat → Int32) := (f, ar)
def stX7_passes_6k  (a : Nat) (f : Nat → Int32) (ar : Nat → Nat → Int32) : (Nat → Int32) × (Nat → Nat → Int32) := ((upd f 23 ((f 23) + 1)), (up2 ar 20 (upd (ar 20) (f 23).toNatClampNeg (ar 6 (nI a).toNatClampNeg))))
def itX7_passes_6k  : Nat → Nat → (Nat → Int32) → (Nat → Nat → Int32) → (Nat → Int32) × (Nat → Nat → Int32)
  | 0, a, f, ar => exX7_passes_6k  a f ar
  | j + 1, a, f, ar => itX7_passes_6k  j (a + 1) ((stX7_passes_6k  a f ar).1) ((stX7_passes_6k  a f ar).2)
theorem itX7_passes_6k_n  {j a : Nat} {f : Nat → Int32} {ar : Nat → Nat → Int32} {s0_ : Nat → Int32} {s1_ : Nat → Nat → Int32} (e : stX7_passes_6k  a f ar = (s0_, s1_)) : (itX7_passes_6k  (j + 1) a f ar) = (itX7_passes_6k  j (a + 1) s0_ s1_) := by simp only [itX7_passes_6k.eq_2, e]
set_option maxRecDepth 20000 in
theorem lpX7_passes_6k {G : zG} {h1 : List va_E} {b : Nat} : ∀ (j a : Nat) (f : Nat → Int32) (ar : Nat → Nat → Int32), (a + j = 5 ∧ b + 5 ≤ 150 ∧ f 23 = nI (b + a) ∧ ¬ f 22 = 0) → R G mX7_passes 2 [(0, .ref 100), (1, .ref 107), (2, .int (nI a))] [] (h1, hM G f ar) (fun r0 h0 => r0 = none ∧ h0 = (h1, hM G ((itX7_passes_6k  j a f ar).1) ((itX7_passes_6k  j a f ar).2))) := by
  intro j
  induction j with
  | zero =>
    intro a f ar hj
    have hc : (5 : Int32) ≤ nI a := by show nI 5 ≤ nI a; exact nI_le (by omega) (by omega)
    refine R_iload_n 3 dX7_passes_2 rfl rfl ?_
    refine R_aload_n 4 dX7_passes_3 rfl rfl ?_
    refine R_alen 5 dX7_passes_4 rfl rfl rfl ?_
    refine R_top (y := 5) (by decide) ?_
    refine R_icmp_ge 8 58 dX7_passes_5 rfl (by decide) (fun _ => ?_) (fun c => absurd hc c)
    refine R_return dX7_passes_58 rfl ?_
    have e : (itX7_passes_6k  0 a f ar) = (f, ar) := rfl
    rw [e]; exact ⟨rfl, rfl⟩
  | succ j ih =>
    intro a f ar hj
    have hc : ¬ (5 : Int32) ≤ nI a := by show ¬ nI 5 ≤ nI a; exact nI_ge (by omega) (by omega)
    refine R_iload_n 3 dX7_passes_2 rfl rfl ?_
    refine R_aload_n 4 dX7_passes_3 rfl rfl ?_
    refine R_alen 5 dX7_passes_4 rfl rfl rfl ?_
    refine R_top (y := 5) (by decide) ?_
    refine R_icmp_ge 8 58 dX7_passes_5 rfl (by decide) (fun c => absurd c hc) (fun _ => ?_)
    refine R_aload_n 9 dX7_passes_8 rfl rfl ?_
    refine R_get 12 dX7_passes_9 rfl fX7_156 rfl (v := .int (f 22)) rfl ?_
    refine R_if_eq 15 30 dX7_passes_12 rfl (by decide) (fun c => absurd c hj.2.2.2) (fun _ => ?_)
    refine R_aload_n 16 dX7_passes_15 rfl rfl ?_
    refine R_get 19 dX7_passes_16 rfl fX7_46 rfl (v := .ref 113) rfl ?_
    refine R_aload_n 20 dX7_passes_19 rfl rfl ?_
    refine R_get 23 dX7_passes_20 rfl fX7_160 rfl (v := .int (f 23)) rfl ?_
    refine R_aload_n 24 dX7_passes_23 rfl rfl ?_
    refine R_iload_n 25 dX7_passes_24 rfl rfl ?_
    refine R_iald 26 dX7_passes_25 rfl rfl rfl (vp_in_nI (by omega) (by omega)) ?_
    refine R_nm2 (fun z1_ hz1_ => ?_)
    refine R_iast 27 dX7_passes_26 rfl rfl rfl (c23 (b := b) hj.2.2.1 (by omega)) (h2 := (h1, hM G f (up2 ar 20 (upd (ar 20) (f 23).toNatClampNeg z1_)))) ms_20 ?_
    refine R_goto 42 dX7_passes_27 (by decide) ?_
    refine R_aload_n 43 dX7_passes_42 rfl rfl ?_
    refine R_dup 44 dX7_passes_43 rfl rfl ?_
    refine R_get 47 dX7_passes_44 rfl fX7_160 rfl (v := .int (f 23)) rfl ?_
    refine R_iconst 48 dX7_passes_47 rfl (v := 1) (by decide) ?_
    refine R_iadd 49 dX7_passes_48 rfl ?_
    refine R_nm2 (fun z2_ hz2_ => ?_)
    refine R_put 52 dX7_passes_49 rfl wX7_160 rfl rfl rfl rfl (h2 := (h1, hM G (upd f 23 z2_) (up2 ar 20 (upd (ar 20) (f 23).toNatClampNeg z1_)))) mp_23 ?_
    refine R_iinc 55 dX7_passes_52 rfl rfl (v := (nI (a + 1))) (nI_1 a) rfl (by decide) (loc' := [(0, .ref 100), (1, .ref 107), (2, .int (nI (a + 1)))]) rfl ?_
    refine R_goto 2 dX7_passes_55 (by decide) ?_
    subst hz1_ hz2_
    refine R_pick [0, 1, 2] rfl ?_
    have e : stX7_passes_6k  a f ar = ((upd f 23 ((f 23) + 1)), (up2 ar 20 (upd (ar 20) (f 23).toNatClampNeg (ar 6 (nI a).toNatClampNeg)))) := by rfl
    have e2 : (itX7_passes_6k  (j + 1) a f ar) = (itX7_passes_6k  j (a + 1) (upd f 23 ((f 23) + 1)) (up2 ar 20 (upd (ar 20) (f 23).toNatClampNeg (ar 6 (nI a).toNatClampNeg)))) := itX7_passes_6k_n e
    rw [e2]; exact ih (a + 1) (upd f 23 ((f 23) + 1)) (up2 ar 20 (upd (ar 20) (f 23).toNatClampNeg (ar 6 (nI a).toNatClampNeg))) ⟨by omega, hj.2.1, (by show f 23 + 1 = nI (b + (a + 1)); rw [hj.2.2.1, nI_1]; rfl), hj.2.2.2⟩
def sX7_passes_6k (f : Nat → Int32) (ar : Nat → Nat → Int32) : (Nat → Int32) × (Nat → Nat → Int32) := ((itX7_passes_6k  5 0 f ar).1, (itX7_passes_6k  5 0 f ar).2)
set_option maxRecDepth 20000 in
theorem eX7_passes_6k {G : zG} {h1 : List va_E} {f : Nat → Int32} {ar : Nat → Nat → Int32} {b : Nat} (hb : b + 5 ≤ 150) (h23 : f 23 = nI b) (hm : ¬ f 22 = 0) : EvF G mX7_passes [.ref 100, .ref 107] (h1, hM G f ar) (none) (h1, hM G ((sX7_passes_6k f ar).1) ((sX7_passes_6k f ar).2)) := by
  generalize hs : (sX7_passes_6k f ar) = zz
  refine EvF.of pnX7 rfl ?_
  refine R_iconst 1 dX7_passes_0 rfl (v := 0) (by decide) ?_
  refine R_istore_n 2 dX7_passes_1 rfl rfl (by decide) (loc' := [(0, .ref 100), (1, .ref 107), (2, .int 0)]) rfl ?_
  refine R_pick [0, 1, 2] rfl ?_
  have e : zz = ((itX7_passes_6k  5 0 f ar).1, (itX7_passes_6k  5 0 f ar).2) := by rw [← hs]; unfold sX7_passes_6k; rfl
  rw [pr1 e, pr2 e]; exact lpX7_passes_6k 5 0 f ar ⟨rfl, hb, h23, hm⟩
theorem pl_6k {b : Nat} : ∀ (j a : Nat) (f : Nat → Int32) (ar : Nat → Nat → Int32), b + a + j ≤ 150 → f 23 = nI (b + a) → itX7_passes_6k j a f ar = (upd f 23 (nI (b + a + j)), up2 ar 20 (fun i => if b + a ≤ i ∧ i < b + a + j then ar 6 (i - b) else ar 20 i))
  | 0, a, f, ar, hb, h => by
    rw [sk_0, up2_id rfl, upd_id (u := nI (b + a + 0)) h]
    rfl
  | j + 1, a, f, ar, hb, h => by
    have hc : (f 23).toNatClampNeg = b + a := by rw [h, nI_clamp (by omega)]
    have ha : (nI a).toNatClampNeg = a := nI_clamp (by omega)
    have es : stX7_passes_6k a f ar = (upd f 23 (nI (b + (a + 1))), up2 ar 20 (upd (ar 20) (b + a) (ar 6 a))) := by
      show (upd f 23 (f 23 + 1), up2 ar 20 (upd (ar 20) (f 23).toNatClampNeg (ar 6 (nI a).toNatClampNeg))) = _
      rw [hc, ha, h, nI_1]
      rfl
    have e3 : (fun i => if b + (a + 1) ≤ i ∧ i < b + (a + 1) + j then (up2 ar 20 (upd (ar 20) (b + a) (ar 6 a))) 6 (i - b) else (up2 ar 20 (upd (ar 20) (b + a) (ar 6 a))) 20 i) = _ := sk_n (ar 20) (ar 6) b a j
    rw [show itX7_passes_6k (j + 1) a f ar = itX7_passes_6k j (a + 1) (stX7_passes_6k a f ar).1 (stX7_passes_6k a f ar).2 from rfl, es]
    rw [pl_6k (b := b) j (a + 1) (upd f 23 (nI (b + (a + 1)))) (up2 ar 20 (upd (ar 20) (b + a) (ar 6 a))) (by omega) rfl, e3, up2_2, upd_2, show b + (a + 1) + j = b + a + (j + 1) by omega]
theorem passK_6 {G : zG} {h1 : List va_E} {f : Nat → Int32} {ar : Nat → Nat → Int32} {b : Nat} {c0 c1 : Int32} (hb : b + 5 ≤ 150) (h23 : f 23 = c0) (h0 : c0 = nI b) (hc : c1 = nI (b + 5)) (hm : ¬ f 22 = 0) : EvF G mX7_passes [.ref 100, .ref 107] (h1, hM G f ar) none (h1, hM G (upd f 23 c1) (up2 ar 20 (savK (ar 20) (ar 6) b 5))) := by
  have e := eX7_passes_6k (G := G) (h1 := h1) (f := f) (ar := ar) hb (h23.trans h0) hm
  have e2 : sX7_passes_6k f ar = (upd f 23 (nI (b + 0 + 5)), up2 ar 20 (fun i => if b + 0 ≤ i ∧ i < b + 0 + 5 then ar 6 (i - b) else ar 20 i)) := pl_6k 5 0 f ar (by omega) (h23.trans h0)
  rw [e2] at e
  subst hc
  exact e
def exX7_passes_6p  (a : Nat) (f : Nat → Int32) (ar : Nat → Nat → Int32) : (Nat → Int32) × (Nat → Nat → Int32) := (f, ar)
def stX7_passes_6p  (a : Nat) (f : Nat → Int32) (ar : Nat → Nat → Int32) : (Nat → Int32) × (Nat → Nat → Int32) := ((upd f 23 ((f 23) + 1)), (up2 ar 6 (upd (ar 6) (nI a).toNatClampNeg (ar 20 (f 23).toNatClampNeg))))
def itX7_passes_6p  : Nat → Nat → (Nat → Int32) → (Nat → Nat → Int32) → (Nat → Int32) × (Nat → Nat → Int32)
  | 0, a, f, ar => exX7_passes_6p  a f ar
  | j + 1, a, f, ar => itX7_passes_6p  j (a + 1) ((stX7_passes_6p  a f ar).1) ((stX7_passes_6p  a f ar).2)
theorem itX7_passes_6p_n  {j a : Nat} {f : Nat → Int32} {ar : Nat → Nat → Int32} {s0_ : Nat → Int32} {s1_ : Nat → Nat → Int32} (e : stX7_passes_6p  a f ar = (s0_, s1_)) : (itX7_passes_6p  (j + 1) a f ar) = (itX7_passes_6p  j (a + 1) s0_ s1_) := by simp only [itX7_passes_6p.eq_2, e]
set_option maxRecDepth 20000 in
theorem lpX7_passes_6p {G : zG} {h1 : List va_E} {b : Nat} : ∀ (j a : Nat) (f : Nat → Int32) (ar : Nat → Nat → Int32), (a + j = 5 ∧ b + 5 ≤ 150 ∧ f 23 = nI (b + a) ∧ f 22 = 0) → R G mX7_passes 2 [(0, .ref 100), (1, .ref 107), (2, .int (nI a))] [] (h1, hM G f ar) (fun r0 h0 => r0 = none ∧ h0 = (h1, hM G ((itX7_passes_6p  j a f ar).1) ((itX7_passes_6p  j a f ar).2))) := by
  intro j
  induction j with
  | zero =>
    intro a f ar hj
    have hc : (5 : Int32) ≤ nI a := by show nI 5 ≤ nI a; exact nI_le (by omega) (by omega)
    refine R_iload_n 3 dX7_passes_2 rfl rfl ?_
    refine R_aload_n 4 dX7_passes_3 rfl rfl ?_
    refine R_alen 5 dX7_passes_4 rfl rfl rfl ?_
    refine R_top (y := 5) (by decide) ?_
    refine R_icmp_ge 8 58 dX7_passes_5 rfl (by decide) (fun _ => ?_) (fun c => absurd hc c)
    refine R_return dX7_passes_58 rfl ?_
    have e : (itX7_passes_6p  0 a f ar) = (f, ar) := rfl
    rw [e]; exact ⟨rfl, rfl⟩
  | succ j ih =>
    intro a f ar hj
    have hc : ¬ (5 : Int32) ≤ nI a := by show ¬ nI 5 ≤ nI a; exact nI_ge (by omega) (by omega)
    refine R_iload_n 3 dX7_passes_2 rfl rfl ?_
    refine R_aload_n 4 dX7_passes_3 rfl rfl ?_
    refine R_alen 5 dX7_passes_4 rfl rfl rfl ?_
    refine R_top (y := 5) (by decide) ?_
    refine R_icmp_ge 8 58 dX7_passes_5 rfl (by decide) (fun c => absurd c hc) (fun _ => ?_)
    refine R_aload_n 9 dX7_passes_8 rfl rfl ?_
    refine R_get 12 dX7_passes_9 rfl fX7_156 rfl (v := .int (f 22)) rfl ?_
    refine R_if_eq 15 30 dX7_passes_12 rfl (by decide) (fun _ => ?_) (fun c => absurd hj.2.2.2 c)
    refine R_aload_n 31 dX7_passes_30 rfl rfl ?_
    refine R_iload_n 32 dX7_passes_31 rfl rfl ?_
    refine R_aload_n 33 dX7_passes_32 rfl rfl ?_
    refine R_get 36 dX7_passes_33 rfl fX7_46 rfl (v := .ref 113) rfl ?_
    refine R_aload_n 37 dX7_passes_36 rfl rfl ?_
    refine R_get 40 dX7_passes_37 rfl fX7_160 rfl (v := .int (f 23)) rfl ?_
    refine R_iald 41 dX7_passes_40 rfl rfl rfl (c23 (b := b) hj.2.2.1 (by omega)) ?_
    refine R_nm2 (fun z1_ hz1_ => ?_)
    refine R_iast 42 dX7_passes_41 rfl rfl rfl (vp_in_nI (by omega) (by omega)) (h2 := (h1, hM G f (up2 ar 6 (upd (ar 6) (nI a).toNatClampNeg z1_)))) ms_6 ?_
    refine R_aload_n 43 dX7_passes_42 rfl rfl ?_
    refine R_dup 44 dX7_passes_43 rfl rfl ?_
    refine R_get 47 dX7_passes_44 rfl fX7_160 rfl (v := .int (f 23)) rfl ?_
    refine R_iconst 48 dX7_passes_47 rfl (v := 1) (by decide) ?_
    refine R_iadd 49 dX7_passes_48 rfl ?_
    refine R_nm2 (fun z2_ hz2_ => ?_)
    refine R_put 52 dX7_passes_49 rfl wX7_160 rfl rfl rfl rfl (h2 := (h1, hM G (upd f 23 z2_) (up2 ar 6 (upd (ar 6) (nI a).toNatClampNeg z1_)))) mp_23 ?_
    refine R_iinc 55 dX7_passes_52 rfl rfl (v := (nI (a + 1))) (nI_1 a) rfl (by decide) (loc' := [(0, .ref 100), (1, .ref 107), (2, .int (nI (a + 1)))]) rfl ?_
    refine R_goto 2 dX7_passes_55 (by decide) ?_
    subst hz1_ hz2_
    refine R_pick [0, 1, 2] rfl ?_
    have e : stX7_passes_6p  a f ar = ((upd f 23 ((f 23) + 1)), (up2 ar 6 (upd (ar 6) (nI a).toNatClampNeg (ar 20 (f 23).toNatClampNeg)))) := by rfl
    have e2 : (itX7_passes_6p  (j + 1) a f ar) = (itX7_passes_6p  j (a + 1) (upd f 23 ((f 23) + 1)) (up2 ar 6 (upd (ar 6) (nI a).toNatClampNeg (ar 20 (f 23).toNatClampNeg)))) := itX7_passes_6p_n e
    rw [e2]; exact ih (a + 1) (upd f 23 ((f 23) + 1)) (up2 ar 6 (upd (ar 6) (nI a).toNatClampNeg (ar 20 (f 23).toNatClampNeg))) ⟨by omega, hj.2.1, (by show f 23 + 1 = nI (b + (a + 1)); rw [hj.2.2.1, nI_1]; rfl), hj.2.2.2⟩
def sX7_passes_6p (f : Nat → Int32) (ar : Nat → Nat → Int32) : (Nat → Int32) × (Nat → Nat → Int32) := ((itX7_passes_6p  5 0 f ar).1, (itX7_passes_6p  5 0 f ar).2)
set_option maxRecDepth 20000 in
theorem eX7_passes_6p {G : zG} {h1 : List va_E} {f : Nat → Int32} {ar : Nat → Nat → Int32} {b : Nat} (hb : b + 5 ≤ 150) (h23 : f 23 = nI b) (hm : f 22 = 0) : EvF G mX7_passes [.ref 100, .ref 107] (h1, hM G f ar) (none) (h1, hM G ((sX7_passes_6p f ar).1) ((sX7_passes_6p f ar).2)) := by
  generalize hs : (sX7_passes_6p f ar) = zz
  refine EvF.of pnX7 rfl ?_
  refine R_iconst 1 dX7_passes_0 rfl (v := 0) (by decide) ?_
  refine R_istore_n 2 dX7_passes_1 rfl rfl (by decide) (loc' := [(0, .ref 100), (1, .ref 107), (2, .int 0)]) rfl ?_
  refine R_pick [0, 1, 2] rfl ?_
  have e : zz = ((itX7_passes_6p  5 0 f ar).1, (itX7_passes_6p  5 0 f ar).2) := by rw [← hs]; unfold sX7_passes_6p; rfl
  rw [pr1 e, pr2 e]; exact lpX7_passes_6p 5 0 f ar ⟨rfl, hb, h23, hm⟩
theorem pl_6p {b : Nat} : ∀ (j a : Nat) (f : Nat → Int32) (ar : Nat → Nat → Int32), b + a + j ≤ 150 → f 23 = nI (b + a) → itX7_passes_6p j a f ar = (upd f 23 (nI (b + a + j)), up2 ar 6 (fun i => if a ≤ i ∧ i < a + j then ar 20 (b + i) else ar 6 i))
  | 0, a, f, ar, hb, h => by
    rw [gk_0, up2_id rfl, upd_id (u := nI (b + a + 0)) h]
    rfl
  | j + 1, a, f, ar, hb, h => by
    have hc : (f 23).toNatClampNeg = b + a := by rw [h, nI_clamp (by omega)]
    have ha : (nI a).toNatClampNeg = a := nI_clamp (by omega)
    have es : stX7_passes_6p a f ar = (upd f 23 (nI (b + (a + 1))), up2 ar 6 (upd (ar 6) a (ar 20 (b + a)))) := by
      show (upd f 23 (f 23 + 1), up2 ar 6 (upd (ar 6) (nI a).toNatClampNeg (ar 20 (f 23).toNatClampNeg))) = _
      rw [hc, ha, h, nI_1]
      rfl
    have e3 : (fun i => if a + 1 ≤ i ∧ i < a + 1 + j then (up2 ar 6 (upd (ar 6) a (ar 20 (b + a)))) 20 (b + i) else (up2 ar 6 (upd (ar 6) a (ar 20 (b + a)))) 6 i) = _ := gk_n (ar 20) (ar 6) b a j
    rw [show itX7_passes_6p (j + 1) a f ar = itX7_passes_6p j (a + 1) (stX7_passes_6p a f ar).1 (stX7_passes_6p a f ar).2 from rfl, es]
    rw [pl_6p (b := b) j (a + 1) (upd f 23 (nI (b + (a + 1)))) (up2 ar 6 (upd (ar 6) a (ar 20 (b + a)))) (by omega) rfl, e3, up2_2, upd_2, show b + (a + 1) + j = b + a + (j + 1) by omega]
theorem passP_6 {G : zG} {h1 : List va_E} {f : Nat → Int32} {ar : Nat → Nat → Int32} {b : Nat} {c0 c1 : Int32} (hb : b + 5 ≤ 150) (h23 : f 23 = c0) (h0 : c0 = nI b) (hc : c1 = nI (b + 5)) (hm : f 22 = 0) : EvF G mX7_passes [.ref 100, .ref 107] (h1, hM G f ar) none (h1, hM G (upd f 23 c1) (up2 ar 6 (getK (ar 20) (ar 6) b 5))) := by
  have e := eX7_passes_6p (G := G) (h1 := h1) (f := f) (ar := ar) hb (h23.trans h0) hm
  have e2 : sX7_passes_6p f ar = (upd f 23 (nI (b + 0 + 5)), up2 ar 6 (fun i => if 0 ≤ i ∧ i < 0 + 5 then ar 20 (b + i) else ar 6 i)) := pl_6p 5 0 f ar (by omega) (h23.trans h0)
  have e3 : (fun i => if 0 ≤ i ∧ i < 0 + 5 then ar 20 (b + i) else ar 6 i) = getK (ar 20) (ar 6) b 5 := by
    funext i
    unfold getK
    by_cases h : i < 5
    · rw [if_pos (by omega), if_pos h]
    · rw [if_neg (by omega), if_neg h]
  rw [e2, e3] at e
  subst hc
  exact e
def exX7_passes_7k  (a : Nat) (f : Nat → Int32) (ar : Nat → Nat → Int32) : (Nat → Int32) × (Nat → Nat → Int32) := (f, ar)
def stX7_passes_7k  (a : Nat) (f : Nat → Int32) (ar : Nat → Nat → Int32) : (Nat → Int32) × (Nat → Nat → Int32) := ((upd f 23 ((f 23) + 1)), (up2 ar 20 (upd (ar 20) (f 23).toNatClampNeg (ar 7 (nI a).toNatClampNeg))))
def itX7_passes_7k  : Nat → Nat → (Nat → Int32) → (Nat → Nat → Int32) → (Nat → Int32) × (Nat → Nat → Int32)
  | 0, a, f, ar => exX7_passes_7k  a f ar
  | j + 1, a, f, ar => itX7_passes_7k  j (a + 1) ((stX7_passes_7k  a f ar).1) ((stX7_passes_7k  a f ar).2)
theorem itX7_passes_7k_n  {j a : Nat} {f : Nat → Int32} {ar : Nat → Nat → Int32} {s0_ : Nat → Int32} {s1_ : Nat → Nat → Int32} (e : stX7_passes_7k  a f ar = (s0_, s1_)) : (itX7_passes_7k  (j + 1) a f ar) = (itX7_passes_7k  j (a + 1) s0_ s1_) := by simp only [itX7_passes_7k.eq_2, e]
set_option maxRecDepth 20000 in
theorem lpX7_passes_7k {G : zG} {h1 : List va_E} {b : Nat} : ∀ (j a : Nat) (f : Nat → Int32) (ar : Nat → Nat → Int32), (a + j = 5 ∧ b + 5 ≤ 150 ∧ f 23 = nI (b + a) ∧ ¬ f 22 = 0) → R G mX7_passes 2 [(0, .ref 100), (1, .ref 108), (2, .int (nI a))] [] (h1, hM G f ar) (fun r0 h0 => r0 = none ∧ h0 = (h1, hM G ((itX7_passes_7k  j a f ar).1) ((itX7_passes_7k  j a f ar).2))) := by
  intro j
  induction j with
  | zero =>
    intro a f ar hj
    have hc : (5 : Int32) ≤ nI a := by show nI 5 ≤ nI a; exact nI_le (by omega) (by omega)
    refine R_iload_n 3 dX7_passes_2 rfl rfl ?_
    refine R_aload_n 4 dX7_passes_3 rfl rfl ?_
    refine R_alen 5 dX7_passes_4 rfl rfl rfl ?_
    refine R_top (y := 5) (by decide) ?_
    refine R_icmp_ge 8 58 dX7_passes_5 rfl (by decide) (fun _ => ?_) (fun c => absurd hc c)
    refine R_return dX7_passes_58 rfl ?_
    have e : (itX7_passes_7k  0 a f ar) = (f, ar) := rfl
    rw [e]; exact ⟨rfl, rfl⟩
  | succ j ih =>
    intro a f ar hj
    have hc : ¬ (5 : Int32) ≤ nI a := by show ¬ nI 5 ≤ nI a; exact nI_ge (by omega) (by omega)
    refine R_iload_n 3 dX7_passes_2 rfl rfl ?_
    refine R_aload_n 4 dX7_passes_3 rfl rfl ?_
    refine R_alen 5 dX7_passes_4 rfl rfl rfl ?_
    refine R_top (y := 5) (by decide) ?_
    refine R_icmp_ge 8 58 dX7_passes_5 rfl (by decide) (fun c => absurd c hc) (fun _ => ?_)
    refine R_aload_n 9 dX7_passes_8 rfl rfl ?_
    refine R_get 12 dX7_passes_9 rfl fX7_156 rfl (v := .int (f 22)) rfl ?_
    refine R_if_eq 15 30 dX7_passes_12 rfl (by decide) (fun c => absurd c hj.2.2.2) (fun _ => ?_)
    refine R_aload_n 16 dX7_passes_15 rfl rfl ?_
    refine R_get 19 dX7_passes_16 rfl fX7_46 rfl (v := .ref 113) rfl ?_
    refine R_aload_n 20 dX7_passes_19 rfl rfl ?_
    refine R_get 23 dX7_passes_20 rfl fX7_160 rfl (v := .int (f 23)) rfl ?_
    refine R_aload_n 24 dX7_passes_23 rfl rfl ?_
    refine R_iload_n 25 dX7_passes_24 rfl rfl ?_
    refine R_iald 26 dX7_passes_25 rfl rfl rfl (vp_in_nI (by omega) (by omega)) ?_
    refine R_nm2 (fun z1_ hz1_ => ?_)
    refine R_iast 27 dX7_passes_26 rfl rfl rfl (c23 (b := b) hj.2.2.1 (by omega)) (h2 := (h1, hM G f (up2 ar 20 (upd (ar 20) (f 23).toNatClampNeg z1_)))) ms_20 ?_
    refine R_goto 42 dX7_passes_27 (by decide) ?_
    refine R_aload_n 43 dX7_passes_42 rfl rfl ?_
    refine R_dup 44 dX7_passes_43 rfl rfl ?_
    refine R_get 47 dX7_passes_44 rfl fX7_160 rfl (v := .int (f 23)) rfl ?_
    refine R_iconst 48 dX7_passes_47 rfl (v := 1) (by decide) ?_
    refine R_iadd 49 dX7_passes_48 rfl ?_
    refine R_nm2 (fun z2_ hz2_ => ?_)
    refine R_put 52 dX7_passes_49 rfl wX7_160 rfl rfl rfl rfl (h2 := (h1, hM G (upd f 23 z2_) (up2 ar 20 (upd (ar 20) (f 23).toNatClampNeg z1_)))) mp_23 ?_
    refine R_iinc 55 dX7_passes_52 rfl rfl (v := (nI (a + 1))) (nI_1 a) rfl (by decide) (loc' := [(0, .ref 100), (1, .ref 108), (2, .int (nI (a + 1)))]) rfl ?_
    refine R_goto 2 dX7_passes_55 (by decide) ?_
    subst hz1_ hz2_
    refine R_pick [0, 1, 2] rfl ?_
    have e : stX7_passes_7k  a f ar = ((upd f 23 ((f 23) + 1)), (up2 ar 20 (upd (ar 20) (f 23).toNatClampNeg (ar 7 (nI a).toNatClampNeg)))) := by rfl
    have e2 : (itX7_passes_7k  (j + 1) a f ar) = (itX7_passes_7k  j (a + 1) (upd f 23 ((f 23) + 1)) (up2 ar 20 (upd (ar 20) (f 23).toNatClampNeg (ar 7 (nI a).toNatClampNeg)))) := itX7_passes_7k_n e
    rw [e2]; exact ih (a + 1) (upd f 23 ((f 23) + 1)) (up2 ar 20 (upd (ar 20) (f 23).toNatClampNeg (ar 7 (nI a).toNatClampNeg))) ⟨by omega, hj.2.1, (by show f 23 + 1 = nI (b + (a + 1)); rw [hj.2.2.1, nI_1]; rfl), hj.2.2.2⟩
def sX7_passes_7k (f : Nat → Int32) (ar : Nat → Nat → Int32) : (Nat → Int32) × (Nat → Nat → Int32) := ((itX7_passes_7k  5 0 f ar).1, (itX7_passes_7k  5 0 f ar).2)
set_option maxRecDepth 20000 in
theorem eX7_passes_7k {G : zG} {h1 : List va_E} {f : Nat → Int32} {ar : Nat → Nat → Int32} {b : Nat} (hb : b + 5 ≤ 150) (h23 : f 23 = nI b) (hm : ¬ f 22 = 0) : EvF G mX7_passes [.ref 100, .ref 108] (h1, hM G f ar) (none) (h1, hM G ((sX7_passes_7k f ar).1) ((sX7_passes_7k f ar).2)) := by
  generalize hs : (sX7_passes_7k f ar) = zz
  refine EvF.of pnX7 rfl ?_
  refine R_iconst 1 dX7_passes_0 rfl (v := 0) (by decide) ?_
  refine R_istore_n 2 dX7_passes_1 rfl rfl (by decide) (loc' := [(0, .ref 100), (1, .ref 108), (2, .int 0)]) rfl ?_
  refine R_pick [0, 1, 2] rfl ?_
  have e : zz = ((itX7_passes_7k  5 0 f ar).1, (itX7_passes_7k  5 0 f ar).2) := by rw [← hs]; unfold sX7_passes_7k; rfl
  rw [pr1 e, pr2 e]; exact lpX7_passes_7k 5 0 f ar ⟨rfl, hb, h23, hm⟩
theorem pl_7k {b : Nat} : ∀ (j a : Nat) (f : Nat → Int32) (ar : Nat → Nat → Int32), b + a + j ≤ 150 → f 23 = nI (b + a) → itX7_passes_7k j a f ar = (upd f 23 (nI (b + a + j)), up2 ar 20 (fun i => if b + a ≤ i ∧ i < b + a + j then ar 7 (i - b) else ar 20 i))
  | 0, a, f, ar, hb, h => by
    rw [sk_0, up2_id rfl, upd_id (u := nI (b + a + 0)) h]
    rfl
  | j + 1, a, f, ar, hb, h => by
    have hc : (f 23).toNatClampNeg = b + a := by rw [h, nI_clamp (by omega)]
    have ha : (nI a).toNatClampNeg = a := nI_clamp (by omega)
    have es : stX7_passes_7k a f ar = (upd f 23 (nI (b + (a + 1))), up2 ar 20 (upd (ar 20) (b + a) (ar 7 a))) := by
      show (upd f 23 (f 23 + 1), up2 ar 20 (upd (ar 20) (f 23).toNatClampNeg (ar 7 (nI a).toNatClampNeg))) = _
      rw [hc, ha, h, nI_1]
      rfl
    have e3 : (fun i => if b + (a + 1) ≤ i ∧ i < b + (a + 1) + j then (up2 ar 20 (upd (ar 20) (b + a) (ar 7 a))) 7 (i - b) else (up2 ar 20 (upd (ar 20) (b + a) (ar 7 a))) 20 i) = _ := sk_n (ar 20) (ar 7) b a j
    rw [show itX7_passes_7k (j + 1) a f ar = itX7_passes_7k j (a + 1) (stX7_passes_7k a f ar).1 (stX7_passes_7k a f ar).2 from rfl, es]
    rw [pl_7k (b := b) j (a + 1) (upd f 23 (nI (b + (a + 1)))) (up2 ar 20 (upd (ar 20) (b + a) (ar 7 a))) (by omega) rfl, e3, up2_2, upd_2, show b + (a + 1) + j = b + a + (j + 1) by omega]
theorem passK_7 {G : zG} {h1 : List va_E} {f : Nat → Int32} {ar : Nat → Nat → Int32} {b : Nat} {c0 c1 : Int32} (hb : b + 5 ≤ 150) (h23 : f 23 = c0) (h0 : c0 = nI b) (hc : c1 = nI (b + 5)) (hm : ¬ f 22 = 0) : EvF G mX7_passes [.ref 100, .ref 108] (h1, hM G f ar) none (h1, hM G (upd f 23 c1) (up2 ar 20 (savK (ar 20) (ar 7) b 5))) := by
  have e := eX7_passes_7k (G := G) (h1 := h1) (f := f) (ar := ar) hb (h23.trans h0) hm
  have e2 : sX7_passes_7k f ar = (upd f 23 (nI (b + 0 + 5)), up2 ar 20 (fun i => if b + 0 ≤ i ∧ i < b + 0 + 5 then ar 7 (i - b) else ar 20 i)) := pl_7k 5 0 f ar (by omega) (h23.trans h0)
  rw [e2] at e
  subst hc
  exact e
def exX7_passes_7p  (a : Nat) (f : Nat → Int32) (ar : Nat → Nat → Int32) : (Nat → Int32) × (Nat → Nat → Int32) := (f, ar)
def stX7_passes_7p  (a : Nat) (f : Nat → Int32) (ar : Nat → Nat → Int32) : (Nat → Int32) × (Nat → Nat → Int32) := ((upd f 23 ((f 23) + 1)), (up2 ar 7 (upd (ar 7) (nI a).toNatClampNeg (ar 20 (f 23).toNatClampNeg))))
def itX7_passes_7p  : Nat → Nat → (Nat → Int32) → (Nat → Nat → Int32) → (Nat → Int32) × (Nat → Nat → Int32)
  | 0, a, f, ar => exX7_passes_7p  a f ar
  | j + 1, a, f, ar => itX7_passes_7p  j (a + 1) ((stX7_passes_7p  a f ar).1) ((stX7_passes_7p  a f ar).2)
theorem itX7_passes_7p_n  {j a : Nat} {f : Nat → Int32} {ar : Nat → Nat → Int32} {s0_ : Nat → Int32} {s1_ : Nat → Nat → Int32} (e : stX7_passes_7p  a f ar = (s0_, s1_)) : (itX7_passes_7p  (j + 1) a f ar) = (itX7_passes_7p  j (a + 1) s0_ s1_) := by simp only [itX7_passes_7p.eq_2, e]
set_option maxRecDepth 20000 in
theorem lpX7_passes_7p {G : zG} {h1 : List va_E} {b : Nat} : ∀ (j a : Nat) (f : Nat → Int32) (ar : Nat → Nat → Int32), (a + j = 5 ∧ b + 5 ≤ 150 ∧ f 23 = nI (b + a) ∧ f 22 = 0) → R G mX7_passes 2 [(0, .ref 100), (1, .ref 108), (2, .int (nI a))] [] (h1, hM G f ar) (fun r0 h0 => r0 = none ∧ h0 = (h1, hM G ((itX7_passes_7p  j a f ar).1) ((itX7_passes_7p  j a f ar).2))) := by
  intro j
  induction j with
  | zero =>
    intro a f ar hj
    have hc : (5 : Int32) ≤ nI a := by show nI 5 ≤ nI a; exact nI_le (by omega) (by omega)
    refine R_iload_n 3 dX7_passes_2 rfl rfl ?_
    refine R_aload_n 4 dX7_passes_3 rfl rfl ?_
    refine R_alen 5 dX7_passes_4 rfl rfl rfl ?_
    refine R_top (y := 5) (by decide) ?_
    refine R_icmp_ge 8 58 dX7_passes_5 rfl (by decide) (fun _ => ?_) (fun c => absurd hc c)
    refine R_return dX7_passes_58 rfl ?_
    have e : (itX7_passes_7p  0 a f ar) = (f, ar) := rfl
    rw [e]; exact ⟨rfl, rfl⟩
  | succ j ih =>
    intro a f ar hj
    have hc : ¬ (5 : Int32) ≤ nI a := by show ¬ nI 5 ≤ nI a; exact nI_ge (by omega) (by omega)
    refine R_iload_n 3 dX7_passes_2 rfl rfl ?_
    refine R_aload_n 4 dX7_passes_3 rfl rfl ?_
    refine R_alen 5 dX7_passes_4 rfl rfl rfl ?_
    refine R_top (y := 5) (by decide) ?_
    refine R_icmp_ge 8 58 dX7_passes_5 rfl (by decide) (fun c => absurd c hc) (fun _ => ?_)
    refine R_aload_n 9 dX7_passes_8 rfl rfl ?_
    refine R_get 12 dX7_passes_9 rfl fX7_156 rfl (v := .int (f 22)) rfl ?_
    refine R_if_eq 15 30 dX7_passes_12 rfl (by decide) (fun _ => ?_) (fun c => absurd hj.2.2.2 c)
    refine R_aload_n 31 dX7_passes_30 rfl rfl ?_
    refine R_iload_n 32 dX7_passes_31 rfl rfl ?_
    refine R_aload_n 33 dX7_passes_32 rfl rfl ?_
    refine R_get 36 dX7_passes_33 rfl fX7_46 rfl (v := .ref 113) rfl ?_
    refine R_aload_n 37 dX7_passes_36 rfl rfl ?_
    refine R_get 40 dX7_passes_37 rfl fX7_160 rfl (v := .int (f 23)) rfl ?_
    refine R_iald 41 dX7_passes_40 rfl rfl rfl (c23 (b := b) hj.2.2.1 (by omega)) ?_
    refine R_nm2 (fun z1_ hz1_ => ?_)
    refine R_iast 42 dX7_passes_41 rfl rfl rfl (vp_in_nI (by omega) (by omega)) (h2 := (h1, hM G f (up2 ar 7 (upd (ar 7) (nI a).toNatClampNeg z1_)))) ms_7 ?_
    refine R_aload_n 43 dX7_passes_42 rfl rfl ?_
    refine R_dup 44 dX7_passes_43 rfl rfl ?_
    refine R_get 47 dX7_passes_44 rfl fX7_160 rfl (v := .int (f 23)) rfl ?_
    refine R_iconst 48 dX7_passes_47 rfl (v := 1) (by decide) ?_
    refine R_iadd 49 dX7_passes_48 rfl ?_
    refine R_nm2 (fun z2_ hz2_ => ?_)
    refine R_put 52 dX7_passes_49 rfl wX7_160 rfl rfl rfl rfl (h2 := (h1, hM G (upd f 23 z2_) (up2 ar 7 (upd (ar 7) (nI a).toNatClampNeg z1_)))) mp_23 ?_
    refine R_iinc 55 dX7_passes_52 rfl rfl (v := (nI (a + 1))) (nI_1 a) rfl (by decide) (loc' := [(0, .ref 100), (1, .ref 108), (2, .int (nI (a + 1)))]) rfl ?_
    refine R_goto 2 dX7_passes_55 (by decide) ?_
    subst hz1_ hz2_
    refine R_pick [0, 1, 2] rfl ?_
    have e : stX7_passes_7p  a f ar = ((upd f 23 ((f 23) + 1)), (up2 ar 7 (upd (ar 7) (nI a).toNatClampNeg (ar 20 (f 23).toNatClampNeg)))) := by rfl
    have e2 : (itX7_passes_7p  (j + 1) a f ar) = (itX7_passes_7p  j (a + 1) (upd f 23 ((f 23) + 1)) (up2 ar 7 (upd (ar 7) (nI a).toNatClampNeg (ar 20 (f 23).toNatClampNeg)))) := itX7_passes_7p_n e
    rw [e2]; exact ih (a + 1) (upd f 23 ((f 23) + 1)) (up2 ar 7 (upd (ar 7) (nI a).toNatClampNeg (ar 20 (f 23).toNatClampNeg))) ⟨by omega, hj.2.1, (by show f 23 + 1 = nI (b + (a + 1)); rw [hj.2.2.1, nI_1]; rfl), hj.2.2.2⟩
def sX7_passes_7p (f : Nat → Int32) (ar : Nat → Nat → Int32) : (Nat → Int32) × (Nat → Nat → Int32) := ((itX7_passes_7p  5 0 f ar).1, (itX7_passes_7p  5 0 f ar).2)
set_option maxRecDepth 20000 in
theorem eX7_passes_7p {G : zG} {h1 : List va_E} {f : Nat → Int32} {ar : Nat → Nat → Int32} {b : Nat} (hb : b + 5 ≤ 150) (h23 : f 23 = nI b) (hm : f 22 = 0) : EvF G mX7_passes [.ref 100, .ref 108] (h1, hM G f ar) (none) (h1, hM G ((sX7_passes_7p f ar).1) ((sX7_passes_7p f ar).2)) := by
  generalize hs : (sX7_passes_7p f ar) = zz
  refine EvF.of pnX7 rfl ?_
  refine R_iconst 1 dX7_passes_0 rfl (v := 0) (by decide) ?_
  refine R_istore_n 2 dX7_passes_1 rfl rfl (by decide) (loc' := [(0, .ref 100), (1, .ref 108), (2, .int 0)]) rfl ?_
  refine R_pick [0, 1, 2] rfl ?_
  have e : zz = ((itX7_passes_7p  5 0 f ar).1, (itX7_passes_7p  5 0 f ar).2) := by rw [← hs]; unfold sX7_passes_7p; rfl
  rw [pr1 e, pr2 e]; exact lpX7_passes_7p 5 0 f ar ⟨rfl, hb, h23, hm⟩
theorem pl_7p {b : Nat} : ∀ (j a : Nat) (f : Nat → Int32) (ar : Nat → Nat → Int32), b + a + j ≤ 150 → f 23 = nI (b + a) → itX7_passes_7p j a f ar = (upd f 23 (nI (b + a + j)), up2 ar 7 (fun i => if a ≤ i ∧ i < a + j then ar 20 (b + i) else ar 7 i))
  | 0, a, f, ar, hb, h => by
    rw [gk_0, up2_id rfl, upd_id (u := nI (b + a + 0)) h]
    rfl
  | j + 1, a, f, ar, hb, h => by
    have hc : (f 23).toNatClampNeg = b + a := by rw [h, nI_clamp (by omega)]
    have ha : (nI a).toNatClampNeg = a := nI_clamp (by omega)
    have es : stX7_passes_7p a f ar = (upd f 23 (nI (b + (a + 1))), up2 ar 7 (upd (ar 7) a (ar 20 (b + a)))) := by
      show (upd f 23 (f 23 + 1), up2 ar 7 (upd (ar 7) (nI a).toNatClampNeg (ar 20 (f 23).toNatClampNeg))) = _
      rw [hc, ha, h, nI_1]
      rfl
    have e3 : (fun i => if a + 1 ≤ i ∧ i < a + 1 + j then (up2 ar 7 (upd (ar 7) a (ar 20 (b + a)))) 20 (b + i) else (up2 ar 7 (upd (ar 7) a (ar 20 (b + a)))) 7 i) = _ := gk_n (ar 20) (ar 7) b a j
    rw [show itX7_passes_7p (j + 1) a f ar = itX7_passes_7p j (a + 1) (stX7_passes_7p a f ar).1 (stX7_passes_7p a f ar).2 from rfl, es]
    rw [pl_7p (b := b) j (a + 1) (upd f 23 (nI (b + (a + 1)))) (up2 ar 7 (upd (ar 7) a (ar 20 (b + a)))) (by omega) rfl, e3, up2_2, upd_2, show b + (a + 1) + j = b + a + (j + 1) by omega]
theorem passP_7 {G : zG} {h1 : List va_E} {f : Nat → Int32} {ar : Nat → Nat → Int32} {b : Nat} {c0 c1 : Int32} (hb : b + 5 ≤ 150) (h23 : f 23 = c0) (h0 : c0 = nI b) (hc : c1 = nI (b + 5)) (hm : f 22 = 0) : EvF G mX7_passes [.ref 100, .ref 108] (h1, hM G f ar) none (h1, hM G (upd f 23 c1) (up2 ar 7 (getK (ar 20) (ar 7) b 5))) := by
  have e := eX7_passes_7p (G := G) (h1 := h1) (f := f) (ar := ar) hb (h23.trans h0) hm
  have e2 : sX7_passes_7p f ar = (upd f 23 (nI (b + 0 + 5)), up2 ar 7 (fun i => if 0 ≤ i ∧ i < 0 + 5 then ar 20 (b + i) else ar 7 i)) := pl_7p 5 0 f ar (by omega) (h23.trans h0)
  have e3 : (fun i => if 0 ≤ i ∧ i < 0 + 5 then ar 20 (b + i) else ar 7 i) = getK (ar 20) (ar 7) b 5 := by
    funext i
    unfold getK
    by_cases h : i < 5
    · rw [if_pos (by omega), if_pos h]
    · rw [if_neg (by omega), if_neg h]
  rw [e2, e3] at e
  subst hc
  exact e
def sX7_passOne_k (f : Nat → Int32) (ar : Nat → Nat → Int32) (v : Int32) : Int32 × (Nat → Int32) × (Nat → Nat → Int32) := (v, (upd f 23 ((f 23) + 1)), (up2 ar 20 (upd (ar 20) (f 23).toNatClampNeg v)))
set_option maxRecDepth 20000 in
theorem eX7_passOne_k {G : zG} {h1 : List va_E} {f : Nat → Int32} {ar : Nat → Nat → Int32} {v : Int32} (hv : vp_in (f 23) 150) (hm : ¬ f 22 = 0) : EvF G mX7_passOne [.ref 100, .int v] (h1, hM G f ar) (some (.int ((sX7_passOne_k f ar v).1))) (h1, hM G ((sX7_passOne_k f ar v).2.1) ((sX7_passOne_k f ar v).2.2)) := by
  generalize hs : (sX7_passOne_k f ar v) = zz
  refine EvF.of pnX7 rfl ?_
  refine R_aload_n 1 dX7_passOne_0 rfl rfl ?_
  refine R_get 4 dX7_passOne_1 rfl fX7_156 rfl (v := .int (f 22)) rfl ?_
  refine R_if_eq 7 11 dX7_passOne_4 rfl (by decide) (fun c => absurd c hm) (fun _ => ?_)
  refine R_iload_n 8 dX7_passOne_7 rfl rfl ?_
  refine R_goto 20 dX7_passOne_8 (by decide) ?_
  refine R_istore_n 21 dX7_passOne_20 rfl rfl (by decide) (loc' := [(0, .ref 100), (1, .int v), (2, .int v)]) rfl ?_
  refine R_aload_n 22 dX7_passOne_21 rfl rfl ?_
  refine R_get 25 dX7_passOne_22 rfl fX7_156 rfl (v := .int (f 22)) rfl ?_
  refine R_if_eq 28 38 dX7_passOne_25 rfl (by decide) (fun c => absurd c hm) (fun _ => ?_)
  refine R_aload_n 29 dX7_passOne_28 rfl rfl ?_
  refine R_get 32 dX7_passOne_29 rfl fX7_46 rfl (v := .ref 113) rfl ?_
  refine R_aload_n 33 dX7_passOne_32 rfl rfl ?_
  refine R_get 36 dX7_passOne_33 rfl fX7_160 rfl (v := .int (f 23)) rfl ?_
  refine R_iload_n 37 dX7_passOne_36 rfl rfl ?_
  refine R_iast 38 dX7_passOne_37 rfl rfl rfl hv (h2 := (h1, hM G f (up2 ar 20 (upd (ar 20) (f 23).toNatClampNeg v)))) ms_20 ?_
  refine R_aload_n 39 dX7_passOne_38 rfl rfl ?_
  refine R_dup 40 dX7_passOne_39 rfl rfl ?_
  refine R_get 43 dX7_passOne_40 rfl fX7_160 rfl (v := .int (f 23)) rfl ?_
  refine R_iconst 44 dX7_passOne_43 rfl (v := 1) (by decide) ?_
  refine R_iadd 45 dX7_passOne_44 rfl ?_
  refine R_nm2 (fun z1_ hz1_ => ?_)
  refine R_put 48 dX7_passOne_45 rfl wX7_160 rfl rfl rfl rfl (h2 := (h1, hM G (upd f 23 z1_) (up2 ar 20 (upd (ar 20) (f 23).toNatClampNeg v)))) mp_23 ?_
  refine R_iload_n 49 dX7_passOne_48 rfl rfl ?_
  refine R_ireturn dX7_passOne_49 rfl rfl ?_
  subst hz1_
  have e : zz = (v, (upd f 23 ((f 23) + 1)), (up2 ar 20 (upd (ar 20) (f 23).toNatClampNeg v))) := by rw [← hs]; unfold sX7_passOne_k; rfl
  rw [pr1 e, pr1 (pr2 e), pr2 (pr2 e)]; exact ⟨rfl, rfl⟩
def sX7_passOne_p (f : Nat → Int32) (ar : Nat → Nat → Int32) (v : Int32) : Int32 × (Nat → Int32) := (ar 20 (f 23).toNatClampNeg, (upd f 23 ((f 23) + 1)))
set_option maxRecDepth 20000 in
theorem eX7_passOne_p {G : zG} {h1 : List va_E} {f : Nat → Int32} {ar : Nat → Nat → Int32} {v : Int32} (hv : vp_in (f 23) 150) (hm : f 22 = 0) : EvF G mX7_passOne [.ref 100, .int v] (h1, hM G f ar) (some (.int ((sX7_passOne_p f ar v).1))) (h1, hM G ((sX7_passOne_p f ar v).2) ar) := by
  generalize hs : (sX7_passOne_p f ar v) = zz
  refine EvF.of pnX7 rfl ?_
  refine R_aload_n 1 dX7_passOne_0 rfl rfl ?_
  refine R_get 4 dX7_passOne_1 rfl fX7_156 rfl (v := .int (f 22)) rfl ?_
  refine R_if_eq 7 11 dX7_passOne_4 rfl (by decide) (fun _ => ?_) (fun c => absurd hm c)
  refine R_aload_n 12 dX7_passOne_11 rfl rfl ?_
  refine R_get 15 dX7_passOne_12 rfl fX7_46 rfl (v := .ref 113) rfl ?_
  refine R_aload_n 16 dX7_passOne_15 rfl rfl ?_
  refine R_get 19 dX7_passOne_16 rfl fX7_160 rfl (v := .int (f 23)) rfl ?_
  refine R_iald 20 dX7_passOne_19 rfl rfl rfl hv ?_
  refine R_istore_n 21 dX7_passOne_20 rfl rfl (by decide) (loc' := [(0, .ref 100), (1, .int v), (2, .int (ar 20 (f 23).toNatClampNeg))]) rfl ?_
  refine R_aload_n 22 dX7_passOne_21 rfl rfl ?_
  refine R_get 25 dX7_passOne_22 rfl fX7_156 rfl (v := .int (f 22)) rfl ?_
  refine R_if_eq 28 38 dX7_passOne_25 rfl (by decide) (fun _ => ?_) (fun c => absurd hm c)
  refine R_aload_n 39 dX7_passOne_38 rfl rfl ?_
  refine R_dup 40 dX7_passOne_39 rfl rfl ?_
  refine R_get 43 dX7_passOne_40 rfl fX7_160 rfl (v := .int (f 23)) rfl ?_
  refine R_iconst 44 dX7_passOne_43 rfl (v := 1) (by decide) ?_
  refine R_iadd 45 dX7_passOne_44 rfl ?_
  refine R_nm2 (fun z1_ hz1_ => ?_)
  refine R_put 48 dX7_passOne_45 rfl wX7_160 rfl rfl rfl rfl (h2 := (h1, hM G (upd f 23 z1_) ar)) mp_23 ?_
  refine R_iload_n 49 dX7_passOne_48 rfl rfl ?_
  refine R_ireturn dX7_passOne_49 rfl rfl ?_
  subst hz1_
  have e : zz = (ar 20 (f 23).toNatClampNeg, (upd f 23 ((f 23) + 1))) := by rw [← hs]; unfold sX7_passOne_p; rfl
  rw [pr1 e, pr2 e]; exact ⟨rfl, rfl⟩
theorem pOneK {G : zG} {h1 : List va_E} {f : Nat → Int32} {ar : Nat → Nat → Int32} {v c0 c1 : Int32} {k : Nat} (h23 : f 23 = c0) (h0 : c0 = nI k) (hk : k < 150) (hc : c1 = nI (k + 1)) (hm : ¬ f 22 = 0) : EvF G mX7_passOne [.ref 100, .int v] (h1, hM G f ar) (some (.int v)) (h1, hM G (upd f 23 c1) (up2 ar 20 (upd (ar 20) k v))) := by
  have hf := h23.trans h0
  have e := eX7_passOne_k (G := G) (h1 := h1) (f := f) (ar := ar) (v := v) (by rw [hf]; exact vp_in_nI hk (by omega)) hm
  have e2 : sX7_passOne_k f ar v = (v, upd f 23 (nI (k + 1)), up2 ar 20 (upd (ar 20) k v)) := by
    unfold sX7_passOne_k
    rw [hf, nI_1, nI_clamp (by omega)]
  rw [e2] at e
  subst hc
  exact e
theorem pOneP {G : zG} {h1 : List va_E} {f : Nat → Int32} {ar : Nat → Nat → Int32} {v c0 c1 : Int32} {k : Nat} (h23 : f 23 = c0) (h0 : c0 = nI k) (hk : k < 150) (hc : c1 = nI (k + 1)) (hm : f 22 = 0) : EvF G mX7_passOne [.ref 100, .int v] (h1, hM G f ar) (some (.int (ar 20 k))) (h1, hM G (upd f 23 c1) ar) := by
  have hf := h23.trans h0
  have e := eX7_passOne_p (G := G) (h1 := h1) (f := f) (ar := ar) (v := v) (by rw [hf]; exact vp_in_nI hk (by omega)) hm
  have e2 : sX7_passOne_p f ar v = (ar 20 k, upd f 23 (nI (k + 1))) := by
    unfold sX7_passOne_p
    rw [hf, nI_1, nI_clamp (by omega)]
  rw [e2] at e
  subst hc
  exact e
def sX7_passesAll_0k (f : Nat → Int32) (ar : Nat → Nat → Int32) : (Nat → Int32) × (Nat → Nat → Int32) := ((upd (upd (upd (upd (upd (upd (upd f 22 1) 8 (f 8)) 9 (f 9)) 10 (f 10)) 11 (f 11)) 23 41) 12 (f 12)), (up2 ar 20 (upd (upd (upd (upd (upd (savK (savK (savK (savK (savK (savK (savK (ar 20) (ar 1) 0 6) (ar 2) 6 5) (ar 3) 11 5) (ar 4) 16 5) (ar 5) 21 5) (ar 6) 26 5) (ar 7) 31 5) 36 (f 8)) 37 (f 9)) 38 (f 10)) 39 (f 11)) 40 (f 12))))
set_option maxRecDepth 20000 in
theorem eX7_passesAll_0k {G : zG} {h1 : List va_E} {f : Nat → Int32} {ar : Nat → Nat → Int32} : EvF G mX7_passesAll [.ref 100, .int 0, .int 1] (h1, hM G f ar) (none) (h1, hM G ((sX7_passesAll_0k f ar).1) ((sX7_passesAll_0k f ar).2)) := by
  generalize hs : (sX7_passesAll_0k f ar) = zz
  refine EvF.of pnX7 rfl ?_
  refine R_aload_n 1 dX7_passesAll_0 rfl rfl ?_
  refine R_bipush 3 dX7_passesAll_1 rfl (v := 50) (by decide) ?_
  refine R_iload_n 4 dX7_passesAll_3 rfl rfl ?_
  refine R_imul 5 dX7_passesAll_4 rfl ?_
  refine R_top (y := 0) (by decide) ?_
  refine R_put 8 dX7_passesAll_5 rfl wX7_160 rfl rfl rfl rfl (h2 := (h1, hM G (upd f 23 0) ar)) mp_23 ?_
  refine R_aload_n 9 dX7_passesAll_8 rfl rfl ?_
  refine R_iload_n 10 dX7_passesAll_9 rfl rfl ?_
  refine R_put 13 dX7_passesAll_10 rfl wX7_156 rfl (by decide) (by decide) rfl (h2 := (h1, hM G (upd (upd f 23 0) 22 1) ar)) mp_22 ?_
  refine R_aload_n 14 dX7_passesAll_13 rfl rfl ?_
  refine R_aload_n 15 dX7_passesAll_14 rfl rfl ?_
  refine R_get 18 dX7_passesAll_15 rfl fX7_13 rfl (v := .ref 102) rfl ?_
  refine R_callVv 21 (passK_1 (c0 := 0) (c1 := 6) (b := 0) (by decide) rfl (by decide) (by decide) (show ¬ (1 : Int32) = 0 by decide)) dX7_passesAll_18 rfl kX7_passes lX7_163 rfl rfl rfl rfl rfl rfl rfl ?_
  refine R_h (h1 := (h1, hM G (upd (upd f 22 1) 23 6) (up2 ar 20 (savK (ar 20) (ar 1) 0 6)))) rfl ?_
  refine R_aload_n 22 dX7_passesAll_21 rfl rfl ?_
  refine R_aload_n 23 dX7_passesAll_22 rfl rfl ?_
  refine R_get 26 dX7_passesAll_23 rfl fX7_16 rfl (v := .ref 103) rfl ?_
  refine R_callVv 29 (passK_2 (c0 := 6) (c1 := 11) (b := 6) (by decide) rfl (by decide) (by decide) (show ¬ (1 : Int32) = 0 by decide)) dX7_passesAll_26 rfl kX7_passes lX7_163 rfl rfl rfl rfl rfl rfl rfl ?_
  refine R_h (h1 := (h1, hM G (upd (upd f 22 1) 23 11) (up2 ar 20 (savK (savK (ar 20) (ar 1) 0 6) (ar 2) 6 5)))) rfl ?_
  refine R_aload_n 30 dX7_passesAll_29 rfl rfl ?_
  refine R_aload_n 31 dX7_passesAll_30 rfl rfl ?_
  refine R_get 34 dX7_passesAll_31 rfl fX7_19 rfl (v := .ref 104) rfl ?_
  refine R_callVv 37 (passK_3 (c0 := 11) (c1 := 16) (b := 11) (by decide) rfl (by decide) (by decide) (show ¬ (1 : Int32) = 0 by decide)) dX7_passesAll_34 rfl kX7_passes lX7_163 rfl rfl rfl rfl rfl rfl rfl ?_
  refine R_h (h1 := (h1, hM G (upd (upd f 22 1) 23 16) (up2 ar 20 (savK (savK (savK (ar 20) (ar 1) 0 6) (ar 2) 6 5) (ar 3) 11 5)))) rfl ?_
  refine R_aload_n 38 dX7_passesAll_37 rfl rfl ?_
  refine R_aload_n 39 dX7_passesAll_38 rfl rfl ?_
  refine R_get 42 dX7_passesAll_39 rfl fX7_22 rfl (v := .ref 105) rfl ?_
  refine R_callVv 45 (passK_4 (c0 := 16) (c1 := 21) (b := 16) (by decide) rfl (by decide) (by decide) (show ¬ (1 : Int32) = 0 by decide)) dX7_passesAll_42 rfl kX7_passes lX7_163 rfl rfl rfl rfl rfl rfl rfl ?_
  refine R_h (h1 := (h1, hM G (upd (upd f 22 1) 23 21) (up2 ar 20 (savK (savK (savK (savK (ar 20) (ar 1) 0 6) (ar 2) 6 5) (ar 3) 11 5) (ar 4) 16 5)))) rfl ?_
  refine R_aload_n 46 dX7_passesAll_45 rfl rfl ?_
  refine R_aload_n 47 dX7_passesAll_46 rfl rfl ?_
  refine R_get 50 dX7_passesAll_47 rfl fX7_25 rfl (v := .ref 106) rfl ?_
  refine R_callVv 53 (passK_5 (c0 := 21) (c1 := 26) (b := 21) (by decide) rfl (by decide) (by decide) (show ¬ (1 : Int32) = 0 by decide)) dX7_passesAll_50 rfl kX7_passes lX7_163 rfl rfl rfl rfl rfl rfl rfl ?_
  refine R_h (h1 := (h1, hM G (upd (upd f 22 1) 23 26) (up2 ar 20 (savK (savK (savK (savK (savK (ar 20) (ar 1) 0 6) (ar 2) 6 5) (ar 3) 11 5) (ar 4) 16 5) (ar 5) 21 5)))) rfl ?_
  refine R_aload_n 54 dX7_passesAll_53 rfl rfl ?_
  refine R_aload_n 55 dX7_passesAll_54 rfl rfl ?_
  refine R_get 58 dX7_passesAll_55 rfl fX7_28 rfl (v := .ref 107) rfl ?_
  refine R_callVv 61 (passK_6 (c0 := 26) (c1 := 31) (b := 26) (by decide) rfl (by decide) (by decide) (show ¬ (1 : Int32) = 0 by decide)) dX7_passesAll_58 rfl kX7_passes lX7_163 rfl rfl rfl rfl rfl rfl rfl ?_
  refine R_h (h1 := (h1, hM G (upd (upd f 22 1) 23 31) (up2 ar 20 (savK (savK (savK (savK (savK (savK (ar 20) (ar 1) 0 6) (ar 2) 6 5) (ar 3) 11 5) (ar 4) 16 5) (ar 5) 21 5) (ar 6) 26 5)))) rfl ?_
  refine R_aload_n 62 dX7_passesAll_61 rfl rfl ?_
  refine R_aload_n 63 dX7_passesAll_62 rfl rfl ?_
  refine R_get 66 dX7_passesAll_63 rfl fX7_31 rfl (v := .ref 108) rfl ?_
  refine R_callVv 69 (passK_7 (c0 := 31) (c1 := 36) (b := 31) (by decide) rfl (by decide) (by decide) (show ¬ (1 : Int32) = 0 by decide)) dX7_passesAll_66 rfl kX7_passes lX7_163 rfl rfl rfl rfl rfl rfl rfl ?_
  refine R_h (h1 := (h1, hM G (upd (upd f 22 1) 23 36) (up2 ar 20 (savK (savK (savK (savK (savK (savK (savK (ar 20) (ar 1) 0 6) (ar 2) 6 5) (ar 3) 11 5) (ar 4) 16 5) (ar 5) 21 5) (ar 6) 26 5) (ar 7) 31 5)))) rfl ?_
  refine R_aload_n 70 dX7_passesAll_69 rfl rfl ?_
  refine R_aload_n 71 dX7_passesAll_70 rfl rfl ?_
  refine R_aload_n 72 dX7_passesAll_71 rfl rfl ?_
  refine R_get 75 dX7_passesAll_72 rfl fX7_65 rfl (v := .int (f 8)) rfl ?_
  refine R_callVi 78 (pOneK (c0 := 36) (c1 := 37) (k := 36) rfl (by decide) (by decide) (by decide) (show ¬ (1 : Int32) = 0 by decide)) dX7_passesAll_75 rfl kX7_passOne lX7_167 rfl rfl rfl rfl rfl rfl rfl ?_
  refine R_h (h1 := (h1, hM G (upd (upd f 22 1) 23 37) (up2 ar 20 (upd (savK (savK (savK (savK (savK (savK (savK (ar 20) (ar 1) 0 6) (ar 2) 6 5) (ar 3) 11 5) (ar 4) 16 5) (ar 5) 21 5) (ar 6) 26 5) (ar 7) 31 5) 36 (f 8))))) rfl ?_
  refine R_put 81 dX7_passesAll_78 rfl wX7_65 rfl rfl rfl rfl (h2 := (h1, hM G (upd (upd (upd f 22 1) 23 37) 8 (f 8)) (up2 ar 20 (upd (savK (savK (savK (savK (savK (savK (savK (ar 20) (ar 1) 0 6) (ar 2) 6 5) (ar 3) 11 5) (ar 4) 16 5) (ar 5) 21 5) (ar 6) 26 5) (ar 7) 31 5) 36 (f 8))))) mp_8 ?_
  refine R_aload_n 82 dX7_passesAll_81 rfl rfl ?_
  refine R_aload_n 83 dX7_passesAll_82 rfl rfl ?_
  refine R_aload_n 84 dX7_passesAll_83 rfl rfl ?_
  refine R_get 87 dX7_passesAll_84 rfl fX7_132 rfl (v := .int (f 9)) rfl ?_
  refine R_callVi 90 (pOneK (c0 := 37) (c1 := 38) (k := 37) rfl (by decide) (by decide) (by decide) (show ¬ (1 : Int32) = 0 by decide)) dX7_passesAll_87 rfl kX7_passOne lX7_167 rfl rfl rfl rfl rfl rfl rfl ?_
  refine R_h (h1 := (h1, hM G (upd (upd (upd f 22 1) 8 (f 8)) 23 38) (up2 ar 20 (upd (upd (savK (savK (savK (savK (savK (savK (savK (ar 20) (ar 1) 0 6) (ar 2) 6 5) (ar 3) 11 5) (ar 4) 16 5) (ar 5) 21 5) (ar 6) 26 5) (ar 7) 31 5) 36 (f 8)) 37 (f 9))))) rfl ?_
  refine R_put 93 dX7_passesAll_90 rfl wX7_132 rfl rfl rfl rfl (h2 := (h1, hM G (upd (upd (upd (upd f 22 1) 8 (f 8)) 23 38) 9 (f 9)) (up2 ar 20 (upd (upd (savK (savK (savK (savK (savK (savK (savK (ar 20) (ar 1) 0 6) (ar 2) 6 5) (ar 3) 11 5) (ar 4) 16 5) (ar 5) 21 5) (ar 6) 26 5) (ar 7) 31 5) 36 (f 8)) 37 (f 9))))) mp_9 ?_
  refine R_aload_n 94 dX7_passesAll_93 rfl rfl ?_
  refine R_aload_n 95 dX7_passesAll_94 rfl rfl ?_
  refine R_aload_n 96 dX7_passesAll_95 rfl rfl ?_
  refine R_get 99 dX7_passesAll_96 rfl fX7_135 rfl (v := .int (f 10)) rfl ?_
  refine R_callVi 102 (pOneK (c0 := 38) (c1 := 39) (k := 38) rfl (by decide) (by decide) (by decide) (show ¬ (1 : Int32) = 0 by decide)) dX7_passesAll_99 rfl kX7_passOne lX7_167 rfl rfl rfl rfl rfl rfl rfl ?_
  refine R_h (h1 := (h1, hM G (upd (upd (upd (upd f 22 1) 8 (f 8)) 9 (f 9)) 23 39) (up2 ar 20 (upd (upd (upd (savK (savK (savK (savK (savK (savK (savK (ar 20) (ar 1) 0 6) (ar 2) 6 5) (ar 3) 11 5) (ar 4) 16 5) (ar 5) 21 5) (ar 6) 26 5) (ar 7) 31 5) 36 (f 8)) 37 (f 9)) 38 (f 10))))) rfl ?_
  refine R_put 105 dX7_passesAll_102 rfl wX7_135 rfl rfl rfl rfl (h2 := (h1, hM G (upd (upd (upd (upd (upd f 22 1) 8 (f 8)) 9 (f 9)) 23 39) 10 (f 10)) (up2 ar 20 (upd (upd (upd (savK (savK (savK (savK (savK (savK (savK (ar 20) (ar 1) 0 6) (ar 2) 6 5) (ar 3) 11 5) (ar 4) 16 5) (ar 5) 21 5) (ar 6) 26 5) (ar 7) 31 5) 36 (f 8)) 37 (f 9)) 38 (f 10))))) mp_10 ?_
  refine R_aload_n 106 dX7_passesAll_105 rfl rfl ?_
  refine R_aload_n 107 dX7_passesAll_106 rfl rfl ?_
  refine R_aload_n 108 dX7_passesAll_107 rfl rfl ?_
  refine R_get 111 dX7_passesAll_108 rfl fX7_170 rfl (v := .int (f 11)) rfl ?_
  refine R_callVi 114 (pOneK (c0 := 39) (c1 := 40) (k := 39) rfl (by decide) (by decide) (by decide) (show ¬ (1 : Int32) = 0 by decide)) dX7_passesAll_111 rfl kX7_passOne lX7_167 rfl rfl rfl rfl rfl rfl rfl ?_
  refine R_h (h1 := (h1, hM G (upd (upd (upd (upd (upd f 22 1) 8 (f 8)) 9 (f 9)) 10 (f 10)) 23 40) (up2 ar 20 (upd (upd (upd (upd (savK (savK (savK (savK (savK (savK (savK (ar 20) (ar 1) 0 6) (ar 2) 6 5) (ar 3) 11 5) (ar 4) 16 5) (ar 5) 21 5) (ar 6) 26 5) (ar 7) 31 5) 36 (f 8)) 37 (f 9)) 38 (f 10)) 39 (f 11))))) rfl ?_
  refine R_put 117 dX7_passesAll_114 rfl wX7_170 rfl rfl rfl rfl (h2 := (h1, hM G (upd (upd (upd (upd (upd (upd f 22 1) 8 (f 8)) 9 (f 9)) 10 (f 10)) 23 40) 11 (f 11)) (up2 ar 20 (upd (upd (upd (upd (savK (savK (savK (savK (savK (savK (savK (ar 20) (ar 1) 0 6) (ar 2) 6 5) (ar 3) 11 5) (ar 4) 16 5) (ar 5) 21 5) (ar 6) 26 5) (ar 7) 31 5) 36 (f 8)) 37 (f 9)) 38 (f 10)) 39 (f 11))))) mp_11 ?_
  refine R_aload_n 118 dX7_passesAll_117 rfl rfl ?_
  refine R_aload_n 119 dX7_passesAll_118 rfl rfl ?_
  refine R_aload_n 120 dX7_passesAll_119 rfl rfl ?_
  refine R_get 123 dX7_passesAll_120 rfl fX7_138 rfl (v := .int (f 12)) rfl ?_
  refine R_callVi 126 (pOneK (c0 := 40) (c1 := 41) (k := 40) rfl (by decide) (by decide) (by decide) (show ¬ (1 : Int32) = 0 by decide)) dX7_passesAll_123 rfl kX7_passOne lX7_167 rfl rfl rfl rfl rfl rfl rfl ?_
  refine R_h (h1 := (h1, hM G (upd (upd (upd (upd (upd (upd f 22 1) 8 (f 8)) 9 (f 9)) 10 (f 10)) 11 (f 11)) 23 41) (up2 ar 20 (upd (upd (upd (upd (upd (savK (savK (savK (savK (savK (savK (savK (ar 20) (ar 1) 0 6) (ar 2) 6 5) (ar 3) 11 5) (ar 4) 16 5) (ar 5) 21 5) (ar 6) 26 5) (ar 7) 31 5) 36 (f 8)) 37 (f 9)) 38 (f 10)) 39 (f 11)) 40 (f 12))))) rfl ?_
  refine R_put 129 dX7_passesAll_126 rfl wX7_138 rfl rfl rfl rfl (h2 := (h1, hM G (upd (upd (upd (upd (upd (upd (upd f 22 1) 8 (f 8)) 9 (f 9)) 10 (f 10)) 11 (f 11)) 23 41) 12 (f 12)) (up2 ar 20 (upd (upd (upd (upd (upd (savK (savK (savK (savK (savK (savK (savK (ar 20) (ar 1) 0 6) (ar 2) 6 5) (ar 3) 11 5) (ar 4) 16 5) (ar 5) 21 5) (ar 6) 26 5) (ar 7) 31 5) 36 (f 8)) 37 (f 9)) 38 (f 10)) 39 (f 11)) 40 (f 12))))) mp_12 ?_
  refine R_return dX7_passesAll_129 rfl ?_
  have e : zz = ((upd (upd (upd (upd (upd (upd (upd f 22 1) 8 (f 8)) 9 (f 9)) 10 (f 10)) 11 (f 11)) 23 41) 12 (f 12)), (up2 ar 20 (upd (upd (upd (upd (upd (savK (savK (savK (savK (savK (savK (savK (ar 20) (ar 1) 0 6) (ar 2) 6 5) (ar 3) 11 5) (ar 4) 16 5) (ar 5) 21 5) (ar 6) 26 5) (ar 7) 31 5) 36 (f 8)) 37 (f 9)) 38 (f 10)) 39 (f 11)) 40 (f 12)))) := by rw [← hs]; unfold sX7_passesAll_0k; rfl
  rw [pr1 e, pr2 e]; exact ⟨rfl, rfl⟩
def sX7_passesAll_0p (f : Nat → Int32) (ar : Nat → Nat → Int32) : (Nat → Int32) × (Nat → Nat → Int32) := ((upd (upd (upd (upd (upd (upd (upd f 22 0) 8 (ar 20 36)) 9 (ar 20 37)) 10 (ar 20 38)) 11 (ar 20 39)) 23 41) 12 (ar 20 40)), (up2 (up2 (up2 (up2 (up2 (up2 (up2 ar 1 (getK (ar 20) (ar 1) 0 6)) 2 (getK (ar 20) (ar 2) 6 5)) 3 (getK (ar 20) (ar 3) 11 5)) 4 (getK (ar 20) (ar 4) 16 5)) 5 (getK (ar 20) (ar 5) 21 5)) 6 (getK (ar 20) (ar 6) 26 5)) 7 (getK (ar 20) (ar 7) 31 5)))
set_option maxRecDepth 20000 in
theorem eX7_passesAll_0p {G : zG} {h1 : List va_E} {f : Nat → Int32} {ar : Nat → Nat → Int32} : EvF G mX7_passesAll [.ref 100, .int 0, .int 0] (h1, hM G f ar) (none) (h1, hM G ((sX7_passesAll_0p f ar).1) ((sX7_passesAll_0p f ar).2)) := by
  generalize hs : (sX7_passesAll_0p f ar) = zz
  refine EvF.of pnX7 rfl ?_
  refine R_aload_n 1 dX7_passesAll_0 rfl rfl ?_
  refine R_bipush 3 dX7_passesAll_1 rfl (v := 50) (by decide) ?_
  refine R_iload_n 4 dX7_passesAll_3 rfl rfl ?_
  refine R_imul 5 dX7_passesAll_4 rfl ?_
  refine R_top (y := 0) (by decide) ?_
  refine R_put 8 dX7_passesAll_5 rfl wX7_160 rfl rfl rfl rfl (h2 := (h1, hM G (upd f 23 0) ar)) mp_23 ?_
  refine R_aload_n 9 dX7_passesAll_8 rfl rfl ?_
  refine R_iload_n 10 dX7_passesAll_9 rfl rfl ?_
  refine R_put 13 dX7_passesAll_10 rfl wX7_156 rfl (by decide) (by decide) rfl (h2 := (h1, hM G (upd (upd f 23 0) 22 0) ar)) mp_22 ?_
  refine R_aload_n 14 dX7_passesAll_13 rfl rfl ?_
  refine R_aload_n 15 dX7_passesAll_14 rfl rfl ?_
  refine R_get 18 dX7_passesAll_15 rfl fX7_13 rfl (v := .ref 102) rfl ?_
  refine R_callVv 21 (passP_1 (c0 := 0) (c1 := 6) (b := 0) (by decide) rfl (by decide) (by decide) rfl) dX7_passesAll_18 rfl kX7_passes lX7_163 rfl rfl rfl rfl rfl rfl rfl ?_
  refine R_h (h1 := (h1, hM G (upd (upd f 22 0) 23 6) (up2 ar 1 (getK (ar 20) (ar 1) 0 6)))) rfl ?_
  refine R_aload_n 22 dX7_passesAll_21 rfl rfl ?_
  refine R_aload_n 23 dX7_passesAll_22 rfl rfl ?_
  refine R_get 26 dX7_passesAll_23 rfl fX7_16 rfl (v := .ref 103) rfl ?_
  refine R_callVv 29 (passP_2 (c0 := 6) (c1 := 11) (b := 6) (by decide) rfl (by decide) (by decide) rfl) dX7_passesAll_26 rfl kX7_passes lX7_163 rfl rfl rfl rfl rfl rfl rfl ?_
  refine R_h (h1 := (h1, hM G (upd (upd f 22 0) 23 11) (up2 (up2 ar 1 (getK (ar 20) (ar 1) 0 6)) 2 (getK (ar 20) (ar 2) 6 5)))) rfl ?_
  refine R_aload_n 30 dX7_passesAll_29 rfl rfl ?_
  refine R_aload_n 31 dX7_passesAll_30 rfl rfl ?_
  refine R_get 34 dX7_passesAll_31 rfl fX7_19 rfl (v := .ref 104) rfl ?_
  refine R_callVv 37 (passP_3 (c0 := 11) (c1 := 16) (b := 11) (by decide) rfl (by decide) (by decide) rfl) dX7_passesAll_34 rfl kX7_passes lX7_163 rfl rfl rfl rfl rfl rfl rfl ?_
  refine R_h (h1 := (h1, hM G (upd (upd f 22 0) 23 16) (up2 (up2 (up2 ar 1 (getK (ar 20) (ar 1) 0 6)) 2 (getK (ar 20) (ar 2) 6 5)) 3 (getK (ar 20) (ar 3) 11 5)))) rfl ?_
  refine R_aload_n 38 dX7_passesAll_37 rfl rfl ?_
  refine R_aload_n 39 dX7_passesAll_38 rfl rfl ?_
  refine R_get 42 dX7_passesAll_39 rfl fX7_22 rfl (v := .ref 105) rfl ?_
  refine R_callVv 45 (passP_4 (c0 := 16) (c1 := 21) (b := 16) (by decide) rfl (by decide) (by decide) rfl) dX7_passesAll_42 rfl kX7_passes lX7_163 rfl rfl rfl rfl rfl rfl rfl ?_
  refine R_h (h1 := (h1, hM G (upd (upd f 22 0) 23 21) (up2 (up2 (up2 (up2 ar 1 (getK (ar 20) (ar 1) 0 6)) 2 (getK (ar 20) (ar 2) 6 5)) 3 (getK (ar 20) (ar 3) 11 5)) 4 (getK (ar 20) (ar 4) 16 5)))) rfl ?_
  refine R_aload_n 46 dX7_passesAll_45 rfl rfl ?_
  refine R_aload_n 47 dX7_passesAll_46 rfl rfl ?_
  refine R_get 50 dX7_passesAll_47 rfl fX7_25 rfl (v := .ref 106) rfl ?_
  refine R_callVv 53 (passP_5 (c0 := 21) (c1 := 26) (b := 21) (by decide) rfl (by decide) (by decide) rfl) dX7_passesAll_50 rfl kX7_passes lX7_163 rfl rfl rfl rfl rfl rfl rfl ?_
  refine R_h (h1 := (h1, hM G (upd (upd f 22 0) 23 26) (up2 (up2 (up2 (up2 (up2 ar 1 (getK (ar 20) (ar 1) 0 6)) 2 (getK (ar 20) (ar 2) 6 5)) 3 (getK (ar 20) (ar 3) 11 5)) 4 (getK (ar 20) (ar 4) 16 5)) 5 (getK (ar 20) (ar 5) 21 5)))) rfl ?_
  refine R_aload_n 54 dX7_passesAll_53 rfl rfl ?_
  refine R_aload_n 55 dX7_passesAll_54 rfl rfl ?_
  refine R_get 58 dX7_passesAll_55 rfl fX7_28 rfl (v := .ref 107) rfl ?_
  refine R_callVv 61 (passP_6 (c0 := 26) (c1 := 31) (b := 26) (by decide) rfl (by decide) (by decide) rfl) dX7_passesAll_58 rfl kX7_passes lX7_163 rfl rfl rfl rfl rfl rfl rfl ?_
  refine R_h (h1 := (h1, hM G (upd (upd f 22 0) 23 31) (up2 (up2 (up2 (up2 (up2 (up2 ar 1 (getK (ar 20) (ar 1) 0 6)) 2 (getK (ar 20) (ar 2) 6 5)) 3 (getK (ar 20) (ar 3) 11 5)) 4 (getK (ar 20) (ar 4) 16 5)) 5 (getK (ar 20) (ar 5) 21 5)) 6 (getK (ar 20) (ar 6) 26 5)))) rfl ?_
  refine R_aload_n 62 dX7_passesAll_61 rfl rfl ?_
  refine R_aload_n 63 dX7_passesAll_62 rfl rfl ?_
  refine R_get 66 dX7_passesAll_63 rfl fX7_31 rfl (v := .ref 108) rfl ?_
  refine R_callVv 69 (passP_7 (c0 := 31) (c1 := 36) (b := 31) (by decide) rfl (by decide) (by decide) rfl) dX7_passesAll_66 rfl kX7_passes lX7_163 rfl rfl rfl rfl rfl rfl rfl ?_
  refine R_h (h1 := (h1, hM G (upd (upd f 22 0) 23 36) (up2 (up2 (up2 (up2 (up2 (up2 (up2 ar 1 (getK (ar 20) (ar 1) 0 6)) 2 (getK (ar 20) (ar 2) 6 5)) 3 (getK (ar 20) (ar 3) 11 5)) 4 (getK (ar 20) (ar 4) 16 5)) 5 (getK (ar 20) (ar 5) 21 5)) 6 (getK (ar 20) (ar 6) 26 5)) 7 (getK (ar 20) (ar 7) 31 5)))) rfl ?_
  refine R_aload_n 70 dX7_passesAll_69 rfl rfl ?_
  refine R_aload_n 71 dX7_passesAll_70 rfl rfl ?_
  refine R_aload_n 72 dX7_passesAll_71 rfl rfl ?_
  refine R_get 75 dX7_passesAll_72 rfl fX7_65 rfl (v := .int (f 8)) rfl ?_
  refine R_callVi 78 (pOneP (c0 := 36) (c1 := 37) (k := 36) rfl (by decide) (by decide) (by decide) rfl) dX7_passesAll_75 rfl kX7_passOne lX7_167 rfl rfl rfl rfl rfl rfl rfl ?_
  refine R_h (h1 := (h1, hM G (upd (upd f 22 0) 23 37) (up2 (up2 (up2 (up2 (up2 (up2 (up2 ar 1 (getK (ar 20) (ar 1) 0 6)) 2 (getK (ar 20) (ar 2) 6 5)) 3 (getK (ar 20) (ar 3) 11 5)) 4 (getK (ar 20) (ar 4) 16 5)) 5 (getK (ar 20) (ar 5) 21 5)) 6 (getK (ar 20) (ar 6) 26 5)) 7 (getK (ar 20) (ar 7) 31 5)))) rfl ?_
  refine R_put 81 dX7_passesAll_78 rfl wX7_65 rfl rfl rfl rfl (h2 := (h1, hM G (upd (upd (upd f 22 0) 23 37) 8 (ar 20 36)) (up2 (up2 (up2 (up2 (up2 (up2 (up2 ar 1 (getK (ar 20) (ar 1) 0 6)) 2 (getK (ar 20) (ar 2) 6 5)) 3 (getK (ar 20) (ar 3) 11 5)) 4 (getK (ar 20) (ar 4) 16 5)) 5 (getK (ar 20) (ar 5) 21 5)) 6 (getK (ar 20) (ar 6) 26 5)) 7 (getK (ar 20) (ar 7) 31 5)))) mp_8 ?_
  refine R_aload_n 82 dX7_passesAll_81 rfl rfl ?_
  refine R_aload_n 83 dX7_passesAll_82 rfl rfl ?_
  refine R_aload_n 84 dX7_passesAll_83 rfl rfl ?_
  refine R_get 87 dX7_passesAll_84 rfl fX7_132 rfl (v := .int (f 9)) rfl ?_
  refine R_callVi 90 (pOneP (c0 := 37) (c1 := 38) (k := 37) rfl (by decide) (by decide) (by decide) rfl) dX7_passesAll_87 rfl kX7_passOne lX7_167 rfl rfl rfl rfl rfl rfl rfl ?_
  refine R_h (h1 := (h1, hM G (upd (upd (upd f 22 0) 8 (ar 20 36)) 23 38) (up2 (up2 (up2 (up2 (up2 (up2 (up2 ar 1 (getK (ar 20) (ar 1) 0 6)) 2 (getK (ar 20) (ar 2) 6 5)) 3 (getK (ar 20) (ar 3) 11 5)) 4 (getK (ar 20) (ar 4) 16 5)) 5 (getK (ar 20) (ar 5) 21 5)) 6 (getK (ar 20) (ar 6) 26 5)) 7 (getK (ar 20) (ar 7) 31 5)))) rfl ?_
  refine R_put 93 dX7_passesAll_90 rfl wX7_132 rfl rfl rfl rfl (h2 := (h1, hM G (upd (upd (upd (upd f 22 0) 8 (ar 20 36)) 23 38) 9 (ar 20 37)) (up2 (up2 (up2 (up2 (up2 (up2 (up2 ar 1 (getK (ar 20) (ar 1) 0 6)) 2 (getK (ar 20) (ar 2) 6 5)) 3 (getK (ar 20) (ar 3) 11 5)) 4 (getK (ar 20) (ar 4) 16 5)) 5 (getK (ar 20) (ar 5) 21 5)) 6 (getK (ar 20) (ar 6) 26 5)) 7 (getK (ar 20) (ar 7) 31 5)))) mp_9 ?_
  refine R_aload_n 94 dX7_passesAll_93 rfl rfl ?_
  refine R_aload_n 95 dX7_passesAll_94 rfl rfl ?_
  refine R_aload_n 96 dX7_passesAll_95 rfl rfl ?_
  refine R_get 99 dX7_passesAll_96 rfl fX7_135 rfl (v := .int (f 10)) rfl ?_
  refine R_callVi 102 (pOneP (c0 := 38) (c1 := 39) (k := 38) rfl (by decide) (by decide) (by decide) rfl) dX7_passesAll_99 rfl kX7_passOne lX7_167 rfl rfl rfl rfl rfl rfl rfl ?_
  refine R_h (h1 := (h1, hM G (upd (upd (upd (upd f 22 0) 8 (ar 20 36)) 9 (ar 20 37)) 23 39) (up2 (up2 (up2 (up2 (up2 (up2 (up2 ar 1 (getK (ar 20) (ar 1) 0 6)) 2 (getK (ar 20) (ar 2) 6 5)) 3 (getK (ar 20) (ar 3) 11 5)) 4 (getK (ar 20) (ar 4) 16 5)) 5 (getK (ar 20) (ar 5) 21 5)) 6 (getK (ar 20) (ar 6) 26 5)) 7 (getK (ar 20) (ar 7) 31 5)))) rfl ?_
  refine R_put 105 dX7_passesAll_102 rfl wX7_135 rfl rfl rfl rfl (h2 := (h1, hM G (upd (upd (upd (upd (upd f 22 0) 8 (ar 20 36)) 9 (ar 20 37)) 23 39) 10 (ar 20 38)) (up2 (up2 (up2 (up2 (up2 (up2 (up2 ar 1 (getK (ar 20) (ar 1) 0 6)) 2 (getK (ar 20) (ar 2) 6 5)) 3 (getK (ar 20) (ar 3) 11 5)) 4 (getK (ar 20) (ar 4) 16 5)) 5 (getK (ar 20) (ar 5) 21 5)) 6 (getK (ar 20) (ar 6) 26 5)) 7 (getK (ar 20) (ar 7) 31 5)))) mp_10 ?_
  refine R_aload_n 106 dX7_passesAll_105 rfl rfl ?_
  refine R_aload_n 107 dX7_passesAll_106 rfl rfl ?_
  refine R_aload_n 108 dX7_passesAll_107 rfl rfl ?_
  refine R_get 111 dX7_passesAll_108 rfl fX7_170 rfl (v := .int (f 11)) rfl ?_
  refine R_callVi 114 (pOneP (c0 := 39) (c1 := 40) (k := 39) rfl (by decide) (by decide) (by decide) rfl) dX7_passesAll_111 rfl kX7_passOne lX7_167 rfl rfl rfl rfl rfl rfl rfl ?_
  refine R_h (h1 := (h1, hM G (upd (upd (upd (upd (upd f 22 0) 8 (ar 20 36)) 9 (ar 20 37)) 10 (ar 20 38)) 23 40) (up2 (up2 (up2 (up2 (up2 (up2 (up2 ar 1 (getK (ar 20) (ar 1) 0 6)) 2 (getK (ar 20) (ar 2) 6 5)) 3 (getK (ar 20) (ar 3) 11 5)) 4 (getK (ar 20) (ar 4) 16 5)) 5 (getK (ar 20) (ar 5) 21 5)) 6 (getK (ar 20) (ar 6) 26 5)) 7 (getK (ar 20) (ar 7) 31 5)))) rfl ?_
  refine R_put 117 dX7_passesAll_114 rfl wX7_170 rfl rfl rfl rfl (h2 := (h1, hM G (upd (upd (upd (upd (upd (upd f 22 0) 8 (ar 20 36)) 9 (ar 20 37)) 10 (ar 20 38)) 23 40) 11 (ar 20 39)) (up2 (up2 (up2 (up2 (up2 (up2 (up2 ar 1 (getK (ar 20) (ar 1) 0 6)) 2 (getK (ar 20) (ar 2) 6 5)) 3 (getK (ar 20) (ar 3) 11 5)) 4 (getK (ar 20) (ar 4) 16 5)) 5 (getK (ar 20) (ar 5) 21 5)) 6 (getK (ar 20) (ar 6) 26 5)) 7 (getK (ar 20) (ar 7) 31 5)))) mp_11 ?_
  refine R_aload_n 118 dX7_passesAll_117 rfl rfl ?_
  refine R_aload_n 119 dX7_passesAll_118 rfl rfl ?_
  refine R_aload_n 120 dX7_passesAll_119 rfl rfl ?_
  refine R_get 123 dX7_passesAll_120 rfl fX7_138 rfl (v := .int (f 12)) rfl ?_
  refine R_callVi 126 (pOneP (c0 := 40) (c1 := 41) (k := 40) rfl (by decide) (by decide) (by decide) rfl) dX7_passesAll_123 rfl kX7_passOne lX7_167 rfl rfl rfl rfl rfl rfl rfl ?_
  refine R_h (h1 := (h1, hM G (upd (upd (upd (upd (upd (upd f 22 0) 8 (ar 20 36)) 9 (ar 20 37)) 10 (ar 20 38)) 11 (ar 20 39)) 23 41) (up2 (up2 (up2 (up2 (up2 (up2 (up2 ar 1 (getK (ar 20) (ar 1) 0 6)) 2 (getK (ar 20) (ar 2) 6 5)) 3 (getK (ar 20) (ar 3) 11 5)) 4 (getK (ar 20) (ar 4) 16 5)) 5 (getK (ar 20) (ar 5) 21 5)) 6 (getK (ar 20) (ar 6) 26 5)) 7 (getK (ar 20) (ar 7) 31 5)))) rfl ?_
  refine R_put 129 dX7_passesAll_126 rfl wX7_138 rfl rfl rfl rfl (h2 := (h1, hM G (upd (upd (upd (upd (upd (upd (upd f 22 0) 8 (ar 20 36)) 9 (ar 20 37)) 10 (ar 20 38)) 11 (ar 20 39)) 23 41) 12 (ar 20 40)) (up2 (up2 (up2 (up2 (up2 (up2 (up2 ar 1 (getK (ar 20) (ar 1) 0 6)) 2 (getK (ar 20) (ar 2) 6 5)) 3 (getK (ar 20) (ar 3) 11 5)) 4 (getK (ar 20) (ar 4) 16 5)) 5 (getK (ar 20) (ar 5) 21 5)) 6 (getK (ar 20) (ar 6) 26 5)) 7 (getK (ar 20) (ar 7) 31 5)))) mp_12 ?_
  refine R_return dX7_passesAll_129 rfl ?_
  have e : zz = ((upd (upd (upd (upd (upd (upd (upd f 22 0) 8 (ar 20 36)) 9 (ar 20 37)) 10 (ar 20 38)) 11 (ar 20 39)) 23 41) 12 (ar 20 40)), (up2 (up2 (up2 (up2 (up2 (up2 (up2 ar 1 (getK (ar 20) (ar 1) 0 6)) 2 (getK (ar 20) (ar 2) 6 5)) 3 (getK (ar 20) (ar 3) 11 5)) 4 (getK (ar 20) (ar 4) 16 5)) 5 (getK (ar 20) (ar 5) 21 5)) 6 (getK (ar 20) (ar 6) 26 5)) 7 (getK (ar 20) (ar 7) 31 5))) := by rw [← hs]; unfold sX7_passesAll_0p; rfl
  rw [pr1 e, pr2 e]; exact ⟨rfl, rfl⟩
def sX7_passesAll_1k (f : Nat → Int32) (ar : Nat → Nat → Int32) : (Nat → Int32) × (Nat → Nat → Int32) := ((upd (upd (upd (upd (upd (upd (upd f 22 1) 8 (f 8)) 9 (f 9)) 10 (f 10)) 11 (f 11)) 23 91) 12 (f 12)), (up2 ar 20 (upd (upd (upd (upd (upd (savK (savK (savK (savK (savK (savK (savK (ar 20) (ar 1) 50 6) (ar 2) 56 5) (ar 3) 61 5) (ar 4) 66 5) (ar 5) 71 5) (ar 6) 76 5) (ar 7) 81 5) 86 (f 8)) 87 (f 9)) 88 (f 10)) 89 (f 11)) 90 (f 12))))
set_option maxRecDepth 20000 in
theorem eX7_passesAll_1k {G : zG} {h1 : List va_E} {f : Nat → Int32} {ar : Nat → Nat → Int32} : EvF G mX7_passesAll [.ref 100, .int 1, .int 1] (h1, hM G f ar) (none) (h1, hM G ((sX7_passesAll_1k f ar).1) ((sX7_passesAll_1k f ar).2)) := by
  generalize hs : (sX7_passesAll_1k f ar) = zz
  refine EvF.of pnX7 rfl ?_
  refine R_aload_n 1 dX7_passesAll_0 rfl rfl ?_
  refine R_bipush 3 dX7_passesAll_1 rfl (v := 50) (by decide) ?_
  refine R_iload_n 4 dX7_passesAll_3 rfl rfl ?_
  refine R_imul 5 dX7_passesAll_4 rfl ?_
  refine R_top (y := 50) (by decide) ?_
  refine R_put 8 dX7_passesAll_5 rfl wX7_160 rfl rfl rfl rfl (h2 := (h1, hM G (upd f 23 50) ar)) mp_23 ?_
  refine R_aload_n 9 dX7_passesAll_8 rfl rfl ?_
  refine R_iload_n 10 dX7_passesAll_9 rfl rfl ?_
  refine R_put 13 dX7_passesAll_10 rfl wX7_156 rfl (by decide) (by decide) rfl (h2 := (h1, hM G (upd (upd f 23 50) 22 1) ar)) mp_22 ?_
  refine R_aload_n 14 dX7_passesAll_13 rfl rfl ?_
  refine R_aload_n 15 dX7_passesAll_14 rfl rfl ?_
  refine R_get 18 dX7_passesAll_15 rfl fX7_13 rfl (v := .ref 102) rfl ?_
  refine R_callVv 21 (passK_1 (c0 := 50) (c1 := 56) (b := 50) (by decide) rfl (by decide) (by decide) (show ¬ (1 : Int32) = 0 by decide)) dX7_passesAll_18 rfl kX7_passes lX7_163 rfl rfl rfl rfl rfl rfl rfl ?_
  refine R_h (h1 := (h1, hM G (upd (upd f 22 1) 23 56) (up2 ar 20 (savK (ar 20) (ar 1) 50 6)))) rfl ?_
  refine R_aload_n 22 dX7_passesAll_21 rfl rfl ?_
  refine R_aload_n 23 dX7_passesAll_22 rfl rfl ?_
  refine R_get 26 dX7_passesAll_23 rfl fX7_16 rfl (v := .ref 103) rfl ?_
  refine R_callVv 29 (passK_2 (c0 := 56) (c1 := 61) (b := 56) (by decide) rfl (by decide) (by decide) (show ¬ (1 : Int32) = 0 by decide)) dX7_passesAll_26 rfl kX7_passes lX7_163 rfl rfl rfl rfl rfl rfl rfl ?_
  refine R_h (h1 := (h1, hM G (upd (upd f 22 1) 23 61) (up2 ar 20 (savK (savK (ar 20) (ar 1) 50 6) (ar 2) 56 5)))) rfl ?_
  refine R_aload_n 30 dX7_passesAll_29 rfl rfl ?_
  refine R_aload_n 31 dX7_passesAll_30 rfl rfl ?_
  refine R_get 34 dX7_passesAll_31 rfl fX7_19 rfl (v := .ref 104) rfl ?_
  refine R_callVv 37 (passK_3 (c0 := 61) (c1 := 66) (b := 61) (by decide) rfl (by decide) (by decide) (show ¬ (1 : Int32) = 0 by decide)) dX7_passesAll_34 rfl kX7_passes lX7_163 rfl rfl rfl rfl rfl rfl rfl ?_
  refine R_h (h1 := (h1, hM G (upd (upd f 22 1) 23 66) (up2 ar 20 (savK (savK (savK (ar 20) (ar 1) 50 6) (ar 2) 56 5) (ar 3) 61 5)))) rfl ?_
  refine R_aload_n 38 dX7_passesAll_37 rfl rfl ?_
  refine R_aload_n 39 dX7_passesAll_38 rfl rfl ?_
  refine R_get 42 dX7_passesAll_39 rfl fX7_22 rfl (v := .ref 105) rfl ?_
  refine R_callVv 45 (passK_4 (c0 := 66) (c1 := 71) (b := 66) (by decide) rfl (by decide) (by decide) (show ¬ (1 : Int32) = 0 by decide)) dX7_passesAll_42 rfl kX7_passes lX7_163 rfl rfl rfl rfl rfl rfl rfl ?_
  refine R_h (h1 := (h1, hM G (upd (upd f 22 1) 23 71) (up2 ar 20 (savK (savK (savK (savK (ar 20) (ar 1) 50 6) (ar 2) 56 5) (ar 3) 61 5) (ar 4) 66 5)))) rfl ?_
  refine R_aload_n 46 dX7_passesAll_45 rfl rfl ?_
  refine R_aload_n 47 dX7_passesAll_46 rfl rfl ?_
  refine R_get 50 dX7_passesAll_47 rfl fX7_25 rfl (v := .ref 106) rfl ?_
  refine R_callVv 53 (passK_5 (c0 := 71) (c1 := 76) (b := 71) (by decide) rfl (by decide) (by decide) (show ¬ (1 : Int32) = 0 by decide)) dX7_passesAll_50 rfl kX7_passes lX7_163 rfl rfl rfl rfl rfl rfl rfl ?_
  refine R_h (h1 := (h1, hM G (upd (upd f 22 1) 23 76) (up2 ar 20 (savK (savK (savK (savK (savK (ar 20) (ar 1) 50 6) (ar 2) 56 5) (ar 3) 61 5) (ar 4) 66 5) (ar 5) 71 5)))) rfl ?_
  refine R_aload_n 54 dX7_passesAll_53 rfl rfl ?_
  refine R_aload_n 55 dX7_passesAll_54 rfl rfl ?_
  refine R_get 58 dX7_passesAll_55 rfl fX7_28 rfl (v := .ref 107) rfl ?_
  refine R_callVv 61 (passK_6 (c0 := 76) (c1 := 81) (b := 76) (by decide) rfl (by decide) (by decide) (show ¬ (1 : Int32) = 0 by decide)) dX7_passesAll_58 rfl kX7_passes lX7_163 rfl rfl rfl rfl rfl rfl rfl ?_
  refine R_h (h1 := (h1, hM G (upd (upd f 22 1) 23 81) (up2 ar 20 (savK (savK (savK (savK (savK (savK (ar 20) (ar 1) 50 6) (ar 2) 56 5) (ar 3) 61 5) (ar 4) 66 5) (ar 5) 71 5) (ar 6) 76 5)))) rfl ?_
  refine R_aload_n 62 dX7_passesAll_61 rfl rfl ?_
  refine R_aload_n 63 dX7_passesAll_62 rfl rfl ?_
  refine R_get 66 dX7_passesAll_63 rfl fX7_31 rfl (v := .ref 108) rfl ?_
  refine R_callVv 69 (passK_7 (c0 := 81) (c1 := 86) (b := 81) (by decide) rfl (by decide) (by decide) (show ¬ (1 : Int32) = 0 by decide)) dX7_passesAll_66 rfl kX7_passes lX7_163 rfl rfl rfl rfl rfl rfl rfl ?_
  refine R_h (h1 := (h1, hM G (upd (upd f 22 1) 23 86) (up2 ar 20 (savK (savK (savK (savK (savK (savK (savK (ar 20) (ar 1) 50 6) (ar 2) 56 5) (ar 3) 61 5) (ar 4) 66 5) (ar 5) 71 5) (ar 6) 76 5) (ar 7) 81 5)))) rfl ?_
  refine R_aload_n 70 dX7_passesAll_69 rfl rfl ?_
  refine R_aload_n 71 dX7_passesAll_70 rfl rfl ?_
  refine R_aload_n 72 dX7_passesAll_71 rfl rfl ?_
  refine R_get 75 dX7_passesAll_72 rfl fX7_65 rfl (v := .int (f 8)) rfl ?_
  refine R_callVi 78 (pOneK (c0 := 86) (c1 := 87) (k := 86) rfl (by decide) (by decide) (by decide) (show ¬ (1 : Int32) = 0 by decide)) dX7_passesAll_75 rfl kX7_passOne lX7_167 rfl rfl rfl rfl rfl rfl rfl ?_
  refine R_h (h1 := (h1, hM G (upd (upd f 22 1) 23 87) (up2 ar 20 (upd (savK (savK (savK (savK (savK (savK (savK (ar 20) (ar 1) 50 6) (ar 2) 56 5) (ar 3) 61 5) (ar 4) 66 5) (ar 5) 71 5) (ar 6) 76 5) (ar 7) 81 5) 86 (f 8))))) rfl ?_
  refine R_put 81 dX7_passesAll_78 rfl wX7_65 rfl rfl rfl rfl (h2 := (h1, hM G (upd (upd (upd f 22 1) 23 87) 8 (f 8)) (up2 ar 20 (upd (savK (savK (savK (savK (savK (savK (savK (ar 20) (ar 1) 50 6) (ar 2) 56 5) (ar 3) 61 5) (ar 4) 66 5) (ar 5) 71 5) (ar 6) 76 5) (ar 7) 81 5) 86 (f 8))))) mp_8 ?_
  refine R_aload_n 82 dX7_passesAll_81 rfl rfl ?_
  refine R_aload_n 83 dX7_passesAll_82 rfl rfl ?_
  refine R_aload_n 84 dX7_passesAll_83 rfl rfl ?_
  refine R_get 87 dX7_passesAll_84 rfl fX7_132 rfl (v := .int (f 9)) rfl ?_
  refine R_callVi 90 (pOneK (c0 := 87) (c1 := 88) (k := 87) rfl (by decide) (by decide) (by decide) (show ¬ (1 : Int32) = 0 by decide)) dX7_passesAll_87 rfl kX7_passOne lX7_167 rfl rfl rfl rfl rfl rfl rfl ?_
  refine R_h (h1 := (h1, hM G (upd (upd (upd f 22 1) 8 (f 8)) 23 88) (up2 ar 20 (upd (upd (savK (savK (savK (savK (savK (savK (savK (ar 20) (ar 1) 50 6) (ar 2) 56 5) (ar 3) 61 5) (ar 4) 66 5) (ar 5) 71 5) (ar 6) 76 5) (ar 7) 81 5) 86 (f 8)) 87 (f 9))))) rfl ?_
  refine R_put 93 dX7_passesAll_90 rfl wX7_132 rfl rfl rfl rfl (h2 := (h1, hM G (upd (upd (upd (upd f 22 1) 8 (f 8)) 23 88) 9 (f 9)) (up2 ar 20 (upd (upd (savK (savK (savK (savK (savK (savK (savK (ar 20) (ar 1) 50 6) (ar 2) 56 5) (ar 3) 61 5) (ar 4) 66 5) (ar 5) 71 5) (ar 6) 76 5) (ar 7) 81 5) 86 (f 8)) 87 (f 9))))) mp_9 ?_
  refine R_aload_n 94 dX7_passesAll_93 rfl rfl ?_
  refine R_aload_n 95 dX7_passesAll_94 rfl rfl ?_
  refine R_aload_n 96 dX7_passesAll_95 rfl rfl ?_
  refine R_get 99 dX7_passesAll_96 rfl fX7_135 rfl (v := .int (f 10)) rfl ?_
  refine R_callVi 102 (pOneK (c0 := 88) (c1 := 89) (k := 88) rfl (by decide) (by decide) (by decide) (show ¬ (1 : Int32) = 0 by decide)) dX7_passesAll_99 rfl kX7_passOne lX7_167 rfl rfl rfl rfl rfl rfl rfl ?_
  refine R_h (h1 := (h1, hM G (upd (upd (upd (upd f 22 1) 8 (f 8)) 9 (f 9)) 23 89) (up2 ar 20 (upd (upd (upd (savK (savK (savK (savK (savK (savK (savK (ar 20) (ar 1) 50 6) (ar 2) 56 5) (ar 3) 61 5) (ar 4) 66 5) (ar 5) 71 5) (ar 6) 76 5) (ar 7) 81 5) 86 (f 8)) 87 (f 9)) 88 (f 10))))) rfl ?_
  refine R_put 105 dX7_passesAll_102 rfl wX7_135 rfl rfl rfl rfl (h2 := (h1, hM G (upd (upd (upd (upd (upd f 22 1) 8 (f 8)) 9 (f 9)) 23 89) 10 (f 10)) (up2 ar 20 (upd (upd (upd (savK (savK (savK (savK (savK (savK (savK (ar 20) (ar 1) 50 6) (ar 2) 56 5) (ar 3) 61 5) (ar 4) 66 5) (ar 5) 71 5) (ar 6) 76 5) (ar 7) 81 5) 86 (f 8)) 87 (f 9)) 88 (f 10))))) mp_10 ?_
  refine R_aload_n 106 dX7_passesAll_105 rfl rfl ?_
  refine R_aload_n 107 dX7_passesAll_106 rfl rfl ?_
  refine R_aload_n 108 dX7_passesAll_107 rfl rfl ?_
  refine R_get 111 dX7_passesAll_108 rfl fX7_170 rfl (v := .int (f 11)) rfl ?_
  refine R_callVi 114 (pOneK (c0 := 89) (c1 := 90) (k := 89) rfl (by decide) (by decide) (by decide) (show ¬ (1 : Int32) = 0 by decide)) dX7_passesAll_111 rfl kX7_passOne lX7_167 rfl rfl rfl rfl rfl rfl rfl ?_
  refine R_h (h1 := (h1, hM G (upd (upd (upd (upd (upd f 22 1) 8 (f 8)) 9 (f 9)) 10 (f 10)) 23 90) (up2 ar 20 (upd (upd (upd (upd (savK (savK (savK (savK (savK (savK (savK (ar 20) (ar 1) 50 6) (ar 2) 56 5) (ar 3) 61 5) (ar 4) 66 5) (ar 5) 71 5) (ar 6) 76 5) (ar 7) 81 5) 86 (f 8)) 87 (f 9)) 88 (f 10)) 89 (f 11))))) rfl ?_
  refine R_put 117 dX7_passesAll_114 rfl wX7_170 rfl rfl rfl rfl (h2 := (h1, hM G (upd (upd (upd (upd (upd (upd f 22 1) 8 (f 8)) 9 (f 9)) 10 (f 10)) 23 90) 11 (f 11)) (up2 ar 20 (upd (upd (upd (upd (savK (savK (savK (savK (savK (savK (savK (ar 20) (ar 1) 50 6) (ar 2) 56 5) (ar 3) 61 5) (ar 4) 66 5) (ar 5) 71 5) (ar 6) 76 5) (ar 7) 81 5) 86 (f 8)) 87 (f 9)) 88 (f 10)) 89 (f 11))))) mp_11 ?_
  refine R_aload_n 118 dX7_passesAll_117 rfl rfl ?_
  refine R_aload_n 119 dX7_passesAll_118 rfl rfl ?_
  refine R_aload_n 120 dX7_passesAll_119 rfl rfl ?_
  refine R_get 123 dX7_passesAll_120 rfl fX7_138 rfl (v := .int (f 12)) rfl ?_
  refine R_callVi 126 (pOneK (c0 := 90) (c1 := 91) (k := 90) rfl (by decide) (by decide) (by decide) (show ¬ (1 : Int32) = 0 by decide)) dX7_passesAll_123 rfl kX7_passOne lX7_167 rfl rfl rfl rfl rfl rfl rfl ?_
  refine R_h (h1 := (h1, hM G (upd (upd (upd (upd (upd (upd f 22 1) 8 (f 8)) 9 (f 9)) 10 (f 10)) 11 (f 11)) 23 91) (up2 ar 20 (upd (upd (upd (upd (upd (savK (savK (savK (savK (savK (savK (savK (ar 20) (ar 1) 50 6) (ar 2) 56 5) (ar 3) 61 5) (ar 4) 66 5) (ar 5) 71 5) (ar 6) 76 5) (ar 7) 81 5) 86 (f 8)) 87 (f 9)) 88 (f 10)) 89 (f 11)) 90 (f 12))))) rfl ?_
  refine R_put 129 dX7_passesAll_126 rfl wX7_138 rfl rfl rfl rfl (h2 := (h1, hM G (upd (upd (upd (upd (upd (upd (upd f 22 1) 8 (f 8)) 9 (f 9)) 10 (f 10)) 11 (f 11)) 23 91) 12 (f 12)) (up2 ar 20 (upd (upd (upd (upd (upd (savK (savK (savK (savK (savK (savK (savK (ar 20) (ar 1) 50 6) (ar 2) 56 5) (ar 3) 61 5) (ar 4) 66 5) (ar 5) 71 5) (ar 6) 76 5) (ar 7) 81 5) 86 (f 8)) 87 (f 9)) 88 (f 10)) 89 (f 11)) 90 (f 12))))) mp_12 ?_
  refine R_return dX7_passesAll_129 rfl ?_
  have e : zz = ((upd (upd (upd (upd (upd (upd (upd f 22 1) 8 (f 8)) 9 (f 9)) 10 (f 10)) 11 (f 11)) 23 91) 12 (f 12)), (up2 ar 20 (upd (upd (upd (upd (upd (savK (savK (savK (savK (savK (savK (savK (ar 20) (ar 1) 50 6) (ar 2) 56 5) (ar 3) 61 5) (ar 4) 66 5) (ar 5) 71 5) (ar 6) 76 5) (ar 7) 81 5) 86 (f 8)) 87 (f 9)) 88 (f 10)) 89 (f 11)) 90 (f 12)))) := by rw [← hs]; unfold sX7_passesAll_1k; rfl
  rw [pr1 e, pr2 e]; exact ⟨rfl, rfl⟩
def sX7_passesAll_1p (f : Nat → Int32) (ar : Nat → Nat → Int32) : (Nat → Int32) × (Nat → Nat → Int32) := ((upd (upd (upd (upd (upd (upd (upd f 22 0) 8 (ar 20 86)) 9 (ar 20 87)) 10 (ar 20 88)) 11 (ar 20 89)) 23 91) 12 (ar 20 90)), (up2 (up2 (up2 (up2 (up2 (up2 (up2 ar 1 (getK (ar 20) (ar 1) 50 6)) 2 (getK (ar 20) (ar 2) 56 5)) 3 (getK (ar 20) (ar 3) 61 5)) 4 (getK (ar 20) (ar 4) 66 5)) 5 (getK (ar 20) (ar 5) 71 5)) 6 (getK (ar 20) (ar 6) 76 5)) 7 (getK (ar 20) (ar 7) 81 5)))
set_option maxRecDepth 20000 in
theorem eX7_passesAll_1p {G : zG} {h1 : List va_E} {f : Nat → Int32} {ar : Nat → Nat → Int32} : EvF G mX7_passesAll [.ref 100, .int 1, .int 0] (h1, hM G f ar) (none) (h1, hM G ((sX7_passesAll_1p f ar).1) ((sX7_passesAll_1p f ar).2)) := by
  generalize hs : (sX7_passesAll_1p f ar) = zz
  refine EvF.of pnX7 rfl ?_
  refine R_aload_n 1 dX7_passesAll_0 rfl rfl ?_
  refine R_bipush 3 dX7_passesAll_1 rfl (v := 50) (by decide) ?_
  refine R_iload_n 4 dX7_passesAll_3 rfl rfl ?_
  refine R_imul 5 dX7_passesAll_4 rfl ?_
  refine R_top (y := 50) (by decide) ?_
  refine R_put 8 dX7_passesAll_5 rfl wX7_160 rfl rfl rfl rfl (h2 := (h1, hM G (upd f 23 50) ar)) mp_23 ?_
  refine R_aload_n 9 dX7_passesAll_8 rfl rfl ?_
  refine R_iload_n 10 dX7_passesAll_9 rfl rfl ?_
  refine R_put 13 dX7_passesAll_10 rfl wX7_156 rfl (by decide) (by decide) rfl (h2 := (h1, hM G (upd (upd f 23 50) 22 0) ar)) mp_22 ?_
  refine R_aload_n 14 dX7_passesAll_13 rfl rfl ?_
  refine R_aload_n 15 dX7_passesAll_14 rfl rfl ?_
  refine R_get 18 dX7_passesAll_15 rfl fX7_13 rfl (v := .ref 102) rfl ?_
  refine R_callVv 21 (passP_1 (c0 := 50) (c1 := 56) (b := 50) (by decide) rfl (by decide) (by decide) rfl) dX7_passesAll_18 rfl kX7_passes lX7_163 rfl rfl rfl rfl rfl rfl rfl ?_
  refine R_h (h1 := (h1, hM G (upd (upd f 22 0) 23 56) (up2 ar 1 (getK (ar 20) (ar 1) 50 6)))) rfl ?_
  refine R_aload_n 22 dX7_passesAll_21 rfl rfl ?_
  refine R_aload_n 23 dX7_passesAll_22 rfl rfl ?_
  refine R_get 26 dX7_passesAll_23 rfl fX7_16 rfl (v := .ref 103) rfl ?_
  refine R_callVv 29 (passP_2 (c0 := 56) (c1 := 61) (b := 56) (by decide) rfl (by decide) (by decide) rfl) dX7_passesAll_26 rfl kX7_passes lX7_163 rfl rfl rfl rfl rfl rfl rfl ?_
  refine R_h (h1 := (h1, hM G (upd (upd f 22 0) 23 61) (up2 (up2 ar 1 (getK (ar 20) (ar 1) 50 6)) 2 (getK (ar 20) (ar 2) 56 5)))) rfl ?_
  refine R_aload_n 30 dX7_passesAll_29 rfl rfl ?_
  refine R_aload_n 31 dX7_passesAll_30 rfl rfl ?_
  refine R_get 34 dX7_passesAll_31 rfl fX7_19 rfl (v := .ref 104) rfl ?_
  refine R_callVv 37 (passP_3 (c0 := 61) (c1 := 66) (b := 61) (by decide) rfl (by decide) (by decide) rfl) dX7_passesAll_34 rfl kX7_passes lX7_163 rfl rfl rfl rfl rfl rfl rfl ?_
  refine R_h (h1 := (h1, hM G (upd (upd f 22 0) 23 66) (up2 (up2 (up2 ar 1 (getK (ar 20) (ar 1) 50 6)) 2 (getK (ar 20) (ar 2) 56 5)) 3 (getK (ar 20) (ar 3) 61 5)))) rfl ?_
  refine R_aload_n 38 dX7_passesAll_37 rfl rfl ?_
  refine R_aload_n 39 dX7_passesAll_38 rfl rfl ?_
  refine R_get 42 dX7_passesAll_39 rfl fX7_22 rfl (v := .ref 105) rfl ?_
  refine R_callVv 45 (passP_4 (c0 := 66) (c1 := 71) (b := 66) (by decide) rfl (by decide) (by decide) rfl) dX7_passesAll_42 rfl kX7_passes lX7_163 rfl rfl rfl rfl rfl rfl rfl ?_
  refine R_h (h1 := (h1, hM G (upd (upd f 22 0) 23 71) (up2 (up2 (up2 (up2 ar 1 (getK (ar 20) (ar 1) 50 6)) 2 (getK (ar 20) (ar 2) 56 5)) 3 (getK (ar 20) (ar 3) 61 5)) 4 (getK (ar 20) (ar 4) 66 5)))) rfl ?_
  refine R_aload_n 46 dX7_passesAll_45 rfl rfl ?_
  refine R_aload_n 47 dX7_passesAll_46 rfl rfl ?_
  refine R_get 50 dX7_passesAll_47 rfl fX7_25 rfl (v := .ref 106) rfl ?_
  refine R_callVv 53 (passP_5 (c0 := 71) (c1 := 76) (b := 71) (by decide) rfl (by decide) (by decide) rfl) dX7_passesAll_50 rfl kX7_passes lX7_163 rfl rfl rfl rfl rfl rfl rfl ?_
  refine R_h (h1 := (h1, hM G (upd (upd f 22 0) 23 76) (up2 (up2 (up2 (up2 (up2 ar 1 (getK (ar 20) (ar 1) 50 6)) 2 (getK (ar 20) (ar 2) 56 5)) 3 (getK (ar 20) (ar 3) 61 5)) 4 (getK (ar 20) (ar 4) 66 5)) 5 (getK (ar 20) (ar 5) 71 5)))) rfl ?_
  refine R_aload_n 54 dX7_passesAll_53 rfl rfl ?_
  refine R_aload_n 55 dX7_passesAll_54 rfl rfl ?_
  refine R_get 58 dX7_passesAll_55 rfl fX7_28 rfl (v := .ref 107) rfl ?_
  refine R_callVv 61 (passP_6 (c0 := 76) (c1 := 81) (b := 76) (by decide) rfl (by decide) (by decide) rfl) dX7_passesAll_58 rfl kX7_passes lX7_163 rfl rfl rfl rfl rfl rfl rfl ?_
  refine R_h (h1 := (h1, hM G (upd (upd f 22 0) 23 81) (up2 (up2 (up2 (up2 (up2 (up2 ar 1 (getK (ar 20) (ar 1) 50 6)) 2 (getK (ar 20) (ar 2) 56 5)) 3 (getK (ar 20) (ar 3) 61 5)) 4 (getK (ar 20) (ar 4) 66 5)) 5 (getK (ar 20) (ar 5) 71 5)) 6 (getK (ar 20) (ar 6) 76 5)))) rfl ?_
  refine R_aload_n 62 dX7_passesAll_61 rfl rfl ?_
  refine R_aload_n 63 dX7_passesAll_62 rfl rfl ?_
  refine R_get 66 dX7_passesAll_63 rfl fX7_31 rfl (v := .ref 108) rfl ?_
  refine R_callVv 69 (passP_7 (c0 := 81) (c1 := 86) (b := 81) (by decide) rfl (by decide) (by decide) rfl) dX7_passesAll_66 rfl kX7_passes lX7_163 rfl rfl rfl rfl rfl rfl rfl ?_
  refine R_h (h1 := (h1, hM G (upd (upd f 22 0) 23 86) (up2 (up2 (up2 (up2 (up2 (up2 (up2 ar 1 (getK (ar 20) (ar 1) 50 6)) 2 (getK (ar 20) (ar 2) 56 5)) 3 (getK (ar 20) (ar 3) 61 5)) 4 (getK (ar 20) (ar 4) 66 5)) 5 (getK (ar 20) (ar 5) 71 5)) 6 (getK (ar 20) (ar 6) 76 5)) 7 (getK (ar 20) (ar 7) 81 5)))) rfl ?_
  refine R_aload_n 70 dX7_passesAll_69 rfl rfl ?_
  refine R_aload_n 71 dX7_passesAll_70 rfl rfl ?_
  refine R_aload_n 72 dX7_passesAll_71 rfl rfl ?_
  refine R_get 75 dX7_passesAll_72 rfl fX7_65 rfl (v := .int (f 8)) rfl ?_
  refine R_callVi 78 (pOneP (c0 := 86) (c1 := 87) (k := 86) rfl (by decide) (by decide) (by decide) rfl) dX7_passesAll_75 rfl kX7_passOne lX7_167 rfl rfl rfl rfl rfl rfl rfl ?_
  refine R_h (h1 := (h1, hM G (upd (upd f 22 0) 23 87) (up2 (up2 (up2 (up2 (up2 (up2 (up2 ar 1 (getK (ar 20) (ar 1) 50 6)) 2 (getK (ar 20) (ar 2) 56 5)) 3 (getK (ar 20) (ar 3) 61 5)) 4 (getK (ar 20) (ar 4) 66 5)) 5 (getK (ar 20) (ar 5) 71 5)) 6 (getK (ar 20) (ar 6) 76 5)) 7 (getK (ar 20) (ar 7) 81 5)))) rfl ?_
  refine R_put 81 dX7_passesAll_78 rfl wX7_65 rfl rfl rfl rfl (h2 := (h1, hM G (upd (upd (upd f 22 0) 23 87) 8 (ar 20 86)) (up2 (up2 (up2 (up2 (up2 (up2 (up2 ar 1 (getK (ar 20) (ar 1) 50 6)) 2 (getK (ar 20) (ar 2) 56 5)) 3 (getK (ar 20) (ar 3) 61 5)) 4 (getK (ar 20) (ar 4) 66 5)) 5 (getK (ar 20) (ar 5) 71 5)) 6 (getK (ar 20) (ar 6) 76 5)) 7 (getK (ar 20) (ar 7) 81 5)))) mp_8 ?_
  refine R_aload_n 82 dX7_passesAll_81 rfl rfl ?_
  refine R_aload_n 83 dX7_passesAll_82 rfl rfl ?_
  refine R_aload_n 84 dX7_passesAll_83 rfl rfl ?_
  refine R_get 87 dX7_passesAll_84 rfl fX7_132 rfl (v := .int (f 9)) rfl ?_
  refine R_callVi 90 (pOneP (c0 := 87) (c1 := 88) (k := 87) rfl (by decide) (by decide) (by decide) rfl) dX7_passesAll_87 rfl kX7_passOne lX7_167 rfl rfl rfl rfl rfl rfl rfl ?_
  refine R_h (h1 := (h1, hM G (upd (upd (upd f 22 0) 8 (ar 20 86)) 23 88) (up2 (up2 (up2 (up2 (up2 (up2 (up2 ar 1 (getK (ar 20) (ar 1) 50 6)) 2 (getK (ar 20) (ar 2) 56 5)) 3 (getK (ar 20) (ar 3) 61 5)) 4 (getK (ar 20) (ar 4) 66 5)) 5 (getK (ar 20) (ar 5) 71 5)) 6 (getK (ar 20) (ar 6) 76 5)) 7 (getK (ar 20) (ar 7) 81 5)))) rfl ?_
  refine R_put 93 dX7_passesAll_90 rfl wX7_132 rfl rfl rfl rfl (h2 := (h1, hM G (upd (upd (upd (upd f 22 0) 8 (ar 20 86)) 23 88) 9 (ar 20 87)) (up2 (up2 (up2 (up2 (up2 (up2 (up2 ar 1 (getK (ar 20) (ar 1) 50 6)) 2 (getK (ar 20) (ar 2) 56 5)) 3 (getK (ar 20) (ar 3) 61 5)) 4 (getK (ar 20) (ar 4) 66 5)) 5 (getK (ar 20) (ar 5) 71 5)) 6 (getK (ar 20) (ar 6) 76 5)) 7 (getK (ar 20) (ar 7) 81 5)))) mp_9 ?_
  refine R_aload_n 94 dX7_passesAll_93 rfl rfl ?_
  refine R_aload_n 95 dX7_passesAll_94 rfl rfl ?_
  refine R_aload_n 96 dX7_passesAll_95 rfl rfl ?_
  refine R_get 99 dX7_passesAll_96 rfl fX7_135 rfl (v := .int (f 10)) rfl ?_
  refine R_callVi 102 (pOneP (c0 := 88) (c1 := 89) (k := 88) rfl (by decide) (by decide) (by decide) rfl) dX7_passesAll_99 rfl kX7_passOne lX7_167 rfl rfl rfl rfl rfl rfl rfl ?_
  refine R_h (h1 := (h1, hM G (upd (upd (upd (upd f 22 0) 8 (ar 20 86)) 9 (ar 20 87)) 23 89) (up2 (up2 (up2 (up2 (up2 (up2 (up2 ar 1 (getK (ar 20) (ar 1) 50 6)) 2 (getK (ar 20) (ar 2) 56 5)) 3 (getK (ar 20) (ar 3) 61 5)) 4 (getK (ar 20) (ar 4) 66 5)) 5 (getK (ar 20) (ar 5) 71 5)) 6 (getK (ar 20) (ar 6) 76 5)) 7 (getK (ar 20) (ar 7) 81 5)))) rfl ?_
  refine R_put 105 dX7_passesAll_102 rfl wX7_135 rfl rfl rfl rfl (h2 := (h1, hM G (upd (upd (upd (upd (upd f 22 0) 8 (ar 20 86)) 9 (ar 20 87)) 23 89) 10 (ar 20 88)) (up2 (up2 (up2 (up2 (up2 (up2 (up2 ar 1 (getK (ar 20) (ar 1) 50 6)) 2 (getK (ar 20) (ar 2) 56 5)) 3 (getK (ar 20) (ar 3) 61 5)) 4 (getK (ar 20) (ar 4) 66 5)) 5 (getK (ar 20) (ar 5) 71 5)) 6 (getK (ar 20) (ar 6) 76 5)) 7 (getK (ar 20) (ar 7) 81 5)))) mp_10 ?_
  refine R_aload_n 106 dX7_passesAll_105 rfl rfl ?_
  refine R_aload_n 107 dX7_passesAll_106 rfl rfl ?_
  refine R_aload_n 108 dX7_passesAll_107 rfl rfl ?_
  refine R_get 111 dX7_passesAll_108 rfl fX7_170 rfl (v := .int (f 11)) rfl ?_
  refine R_callVi 114 (pOneP (c0 := 89) (c1 := 90) (k := 89) rfl (by decide) (by decide) (by decide) rfl) dX7_passesAll_111 rfl kX7_passOne lX7_167 rfl rfl rfl rfl rfl rfl rfl ?_
  refine R_h (h1 := (h1, hM G (upd (upd (upd (upd (upd f 22 0) 8 (ar 20 86)) 9 (ar 20 87)) 10 (ar 20 88)) 23 90) (up2 (up2 (up2 (up2 (up2 (up2 (up2 ar 1 (getK (ar 20) (ar 1) 50 6)) 2 (getK (ar 20) (ar 2) 56 5)) 3 (getK (ar 20) (ar 3) 61 5)) 4 (getK (ar 20) (ar 4) 66 5)) 5 (getK (ar 20) (ar 5) 71 5)) 6 (getK (ar 20) (ar 6) 76 5)) 7 (getK (ar 20) (ar 7) 81 5)))) rfl ?_
  refine R_put 117 dX7_passesAll_114 rfl wX7_170 rfl rfl rfl rfl (h2 := (h1, hM G (upd (upd (upd (upd (upd (upd f 22 0) 8 (ar 20 86)) 9 (ar 20 87)) 10 (ar 20 88)) 23 90) 11 (ar 20 89)) (up2 (up2 (up2 (up2 (up2 (up2 (up2 ar 1 (getK (ar 20) (ar 1) 50 6)) 2 (getK (ar 20) (ar 2) 56 5)) 3 (getK (ar 20) (ar 3) 61 5)) 4 (getK (ar 20) (ar 4) 66 5)) 5 (getK (ar 20) (ar 5) 71 5)) 6 (getK (ar 20) (ar 6) 76 5)) 7 (getK (ar 20) (ar 7) 81 5)))) mp_11 ?_
  refine R_aload_n 118 dX7_passesAll_117 rfl rfl ?_
  refine R_aload_n 119 dX7_passesAll_118 rfl rfl ?_
  refine R_aload_n 120 dX7_passesAll_119 rfl rfl ?_
  refine R_get 123 dX7_passesAll_120 rfl fX7_138 rfl (v := .int (f 12)) rfl ?_
  refine R_callVi 126 (pOneP (c0 := 90) (c1 := 91) (k := 90) rfl (by decide) (by decide) (by decide) rfl) dX7_passesAll_123 rfl kX7_passOne lX7_167 rfl rfl rfl rfl rfl rfl rfl ?_
  refine R_h (h1 := (h1, hM G (upd (upd (upd (upd (upd (upd f 22 0) 8 (ar 20 86)) 9 (ar 20 87)) 10 (ar 20 88)) 11 (ar 20 89)) 23 91) (up2 (up2 (up2 (up2 (up2 (up2 (up2 ar 1 (getK (ar 20) (ar 1) 50 6)) 2 (getK (ar 20) (ar 2) 56 5)) 3 (getK (ar 20) (ar 3) 61 5)) 4 (getK (ar 20) (ar 4) 66 5)) 5 (getK (ar 20) (ar 5) 71 5)) 6 (getK (ar 20) (ar 6) 76 5)) 7 (getK (ar 20) (ar 7) 81 5)))) rfl ?_
  refine R_put 129 dX7_passesAll_126 rfl wX7_138 rfl rfl rfl rfl (h2 := (h1, hM G (upd (upd (upd (upd (upd (upd (upd f 22 0) 8 (ar 20 86)) 9 (ar 20 87)) 10 (ar 20 88)) 11 (ar 20 89)) 23 91) 12 (ar 20 90)) (up2 (up2 (up2 (up2 (up2 (up2 (up2 ar 1 (getK (ar 20) (ar 1) 50 6)) 2 (getK (ar 20) (ar 2) 56 5)) 3 (getK (ar 20) (ar 3) 61 5)) 4 (getK (ar 20) (ar 4) 66 5)) 5 (getK (ar 20) (ar 5) 71 5)) 6 (getK (ar 20) (ar 6) 76 5)) 7 (getK (ar 20) (ar 7) 81 5)))) mp_12 ?_
  refine R_return dX7_passesAll_129 rfl ?_
  have e : zz = ((upd (upd (upd (upd (upd (upd (upd f 22 0) 8 (ar 20 86)) 9 (ar 20 87)) 10 (ar 20 88)) 11 (ar 20 89)) 23 91) 12 (ar 20 90)), (up2 (up2 (up2 (up2 (up2 (up2 (up2 ar 1 (getK (ar 20) (ar 1) 50 6)) 2 (getK (ar 20) (ar 2) 56 5)) 3 (getK (ar 20) (ar 3) 61 5)) 4 (getK (ar 20) (ar 4) 66 5)) 5 (getK (ar 20) (ar 5) 71 5)) 6 (getK (ar 20) (ar 6) 76 5)) 7 (getK (ar 20) (ar 7) 81 5))) := by rw [← hs]; unfold sX7_passesAll_1p; rfl
  rw [pr1 e, pr2 e]; exact ⟨rfl, rfl⟩
def sX7_passesAll_2k (f : Nat → Int32) (ar : Nat → Nat → Int32) : (Nat → Int32) × (Nat → Nat → Int32) := ((upd (upd (upd (upd (upd (upd (upd f 22 1) 8 (f 8)) 9 (f 9)) 10 (f 10)) 11 (f 11)) 23 141) 12 (f 12)), (up2 ar 20 (upd (upd (upd (upd (upd (savK (savK (savK (savK (savK (savK (savK (ar 20) (ar 1) 100 6) (ar 2) 106 5) (ar 3) 111 5) (ar 4) 116 5) (ar 5) 121 5) (ar 6) 126 5) (ar 7) 131 5) 136 (f 8)) 137 (f 9)) 138 (f 10)) 139 (f 11)) 140 (f 12))))
set_option maxRecDepth 20000 in
theorem eX7_passesAll_2k {G : zG} {h1 : List va_E} {f : Nat → Int32} {ar : Nat → Nat → Int32} : EvF G mX7_passesAll [.ref 100, .int 2, .int 1] (h1, hM G f ar) (none) (h1, hM G ((sX7_passesAll_2k f ar).1) ((sX7_passesAll_2k f ar).2)) := by
  generalize hs : (sX7_passesAll_2k f ar) = zz
  refine EvF.of pnX7 rfl ?_
  refine R_aload_n 1 dX7_passesAll_0 rfl rfl ?_
  refine R_bipush 3 dX7_passesAll_1 rfl (v := 50) (by decide) ?_
  refine R_iload_n 4 dX7_passesAll_3 rfl rfl ?_
  refine R_imul 5 dX7_passesAll_4 rfl ?_
  refine R_top (y := 100) (by decide) ?_
  refine R_put 8 dX7_passesAll_5 rfl wX7_160 rfl rfl rfl rfl (h2 := (h1, hM G (upd f 23 100) ar)) mp_23 ?_
  refine R_aload_n 9 dX7_passesAll_8 rfl rfl ?_
  refine R_iload_n 10 dX7_passesAll_9 rfl rfl ?_
  refine R_put 13 dX7_passesAll_10 rfl wX7_156 rfl (by decide) (by decide) rfl (h2 := (h1, hM G (upd (upd f 23 100) 22 1) ar)) mp_22 ?_
  refine R_aload_n 14 dX7_passesAll_13 rfl rfl ?_
  refine R_aload_n 15 dX7_passesAll_14 rfl rfl ?_
  refine R_get 18 dX7_passesAll_15 rfl fX7_13 rfl (v := .ref 102) rfl ?_
  refine R_callVv 21 (passK_1 (c0 := 100) (c1 := 106) (b := 100) (by decide) rfl (by decide) (by decide) (show ¬ (1 : Int32) = 0 by decide)) dX7_passesAll_18 rfl kX7_passes lX7_163 rfl rfl rfl rfl rfl rfl rfl ?_
  refine R_h (h1 := (h1, hM G (upd (upd f 22 1) 23 106) (up2 ar 20 (savK (ar 20) (ar 1) 100 6)))) rfl ?_
  refine R_aload_n 22 dX7_passesAll_21 rfl rfl ?_
  refine R_aload_n 23 dX7_passesAll_22 rfl rfl ?_
  refine R_get 26 dX7_passesAll_23 rfl fX7_16 rfl (v := .ref 103) rfl ?_
  refine R_callVv 29 (passK_2 (c0 := 106) (c1 := 111) (b := 106) (by decide) rfl (by decide) (by decide) (show ¬ (1 : Int32) = 0 by decide)) dX7_passesAll_26 rfl kX7_passes lX7_163 rfl rfl rfl rfl rfl rfl rfl ?_
  refine R_h (h1 := (h1, hM G (upd (upd f 22 1) 23 111) (up2 ar 20 (savK (savK (ar 20) (ar 1) 100 6) (ar 2) 106 5)))) rfl ?_
  refine R_aload_n 30 dX7_passesAll_29 rfl rfl ?_
  refine R_aload_n 31 dX7_passesAll_30 rfl rfl ?_
  refine R_get 34 dX7_passesAll_31 rfl fX7_19 rfl (v := .ref 104) rfl ?_
  refine R_callVv 37 (passK_3 (c0 := 111) (c1 := 116) (b := 111) (by decide) rfl (by decide) (by decide) (show ¬ (1 : Int32) = 0 by decide)) dX7_passesAll_34 rfl kX7_passes lX7_163 rfl rfl rfl rfl rfl rfl rfl ?_
  refine R_h (h1 := (h1, hM G (upd (upd f 22 1) 23 116) (up2 ar 20 (savK (savK (savK (ar 20) (ar 1) 100 6) (ar 2) 106 5) (ar 3) 111 5)))) rfl ?_
  refine R_aload_n 38 dX7_passesAll_37 rfl rfl ?_
  refine R_aload_n 39 dX7_passesAll_38 rfl rfl ?_
  refine R_get 42 dX7_passesAll_39 rfl fX7_22 rfl (v := .ref 105) rfl ?_
  refine R_callVv 45 (passK_4 (c0 := 116) (c1 := 121) (b := 116) (by decide) rfl (by decide) (by decide) (show ¬ (1 : Int32) = 0 by decide)) dX7_passesAll_42 rfl kX7_passes lX7_163 rfl rfl rfl rfl rfl rfl rfl ?_
  refine R_h (h1 := (h1, hM G (upd (upd f 22 1) 23 121) (up2 ar 20 (savK (savK (savK (savK (ar 20) (ar 1) 100 6) (ar 2) 106 5) (ar 3) 111 5) (ar 4) 116 5)))) rfl ?_
  refine R_aload_n 46 dX7_passesAll_45 rfl rfl ?_
  refine R_aload_n 47 dX7_passesAll_46 rfl rfl ?_
  refine R_get 50 dX7_passesAll_47 rfl fX7_25 rfl (v := .ref 106) rfl ?_
  refine R_callVv 53 (passK_5 (c0 := 121) (c1 := 126) (b := 121) (by decide) rfl (by decide) (by decide) (show ¬ (1 : Int32) = 0 by decide)) dX7_passesAll_50 rfl kX7_passes lX7_163 rfl rfl rfl rfl rfl rfl rfl ?_
  refine R_h (h1 := (h1, hM G (upd (upd f 22 1) 23 126) (up2 ar 20 (savK (savK (savK (savK (savK (ar 20) (ar 1) 100 6) (ar 2) 106 5) (ar 3) 111 5) (ar 4) 116 5) (ar 5) 121 5)))) rfl ?_
  refine R_aload_n 54 dX7_passesAll_53 rfl rfl ?_
  refine R_aload_n 55 dX7_passesAll_54 rfl rfl ?_
  refine R_get 58 dX7_passesAll_55 rfl fX7_28 rfl (v := .ref 107) rfl ?_
  refine R_callVv 61 (passK_6 (c0 := 126) (c1 := 131) (b := 126) (by decide) rfl (by decide) (by decide) (show ¬ (1 : Int32) = 0 by decide)) dX7_passesAll_58 rfl kX7_passes lX7_163 rfl rfl rfl rfl rfl rfl rfl ?_
  refine R_h (h1 := (h1, hM G (upd (upd f 22 1) 23 131) (up2 ar 20 (savK (savK (savK (savK (savK (savK (ar 20) (ar 1) 100 6) (ar 2) 106 5) (ar 3) 111 5) (ar 4) 116 5) (ar 5) 121 5) (ar 6) 126 5)))) rfl ?_
  refine R_aload_n 62 dX7_passesAll_61 rfl rfl ?_
  refine R_aload_n 63 dX7_passesAll_62 rfl rfl ?_
  refine R_get 66 dX7_passesAll_63 rfl fX7_31 rfl (v := .ref 108) rfl ?_
  refine R_callVv 69 (passK_7 (c0 := 131) (c1 := 136) (b := 131) (by decide) rfl (by decide) (by decide) (show ¬ (1 : Int32) = 0 by decide)) dX7_passesAll_66 rfl kX7_passes lX7_163 rfl rfl rfl rfl rfl rfl rfl ?_
  refine R_h (h1 := (h1, hM G (upd (upd f 22 1) 23 136) (up2 ar 20 (savK (savK (savK (savK (savK (savK (savK (ar 20) (ar 1) 100 6) (ar 2) 106 5) (ar 3) 111 5) (ar 4) 116 5) (ar 5) 121 5) (ar 6) 126 5) (ar 7) 131 5)))) rfl ?_
  refine R_aload_n 70 dX7_passesAll_69 rfl rfl ?_
  refine R_aload_n 71 dX7_passesAll_70 rfl rfl ?_
  refine R_aload_n 72 dX7_passesAll_71 rfl rfl ?_
  refine R_get 75 dX7_passesAll_72 rfl fX7_65 rfl (v := .int (f 8)) rfl ?_
  refine R_callVi 78 (pOneK (c0 := 136) (c1 := 137) (k := 136) rfl (by decide) (by decide) (by decide) (show ¬ (1 : Int32) = 0 by decide)) dX7_passesAll_75 rfl kX7_passOne lX7_167 rfl rfl rfl rfl rfl rfl rfl ?_
  refine R_h (h1 := (h1, hM G (upd (upd f 22 1) 23 137) (up2 ar 20 (upd (savK (savK (savK (savK (savK (savK (savK (ar 20) (ar 1) 100 6) (ar 2) 106 5) (ar 3) 111 5) (ar 4) 116 5) (ar 5) 121 5) (ar 6) 126 5) (ar 7) 131 5) 136 (f 8))))) rfl ?_
  refine R_put 81 dX7_passesAll_78 rfl wX7_65 rfl rfl rfl rfl (h2 := (h1, hM G (upd (upd (upd f 22 1) 23 137) 8 (f 8)) (up2 ar 20 (upd (savK (savK (savK (savK (savK (savK (savK (ar 20) (ar 1) 100 6) (ar 2) 106 5) (ar 3) 111 5) (ar 4) 116 5) (ar 5) 121 5) (ar 6) 126 5) (ar 7) 131 5) 136 (f 8))))) mp_8 ?_
  refine R_aload_n 82 dX7_passesAll_81 rfl rfl ?_
  refine R_aload_n 83 dX7_passesAll_82 rfl rfl ?_
  refine R_aload_n 84 dX7_passesAll_83 rfl rfl ?_
  refine R_get 87 dX7_passesAll_84 rfl fX7_132 rfl (v := .int (f 9)) rfl ?_
  refine R_callVi 90 (pOneK (c0 := 137) (c1 := 138) (k := 137) rfl (by decide) (by decide) (by decide) (show ¬ (1 : Int32) = 0 by decide)) dX7_passesAll_87 rfl kX7_passOne lX7_167 rfl rfl rfl rfl rfl rfl rfl ?_
  refine R_h (h1 := (h1, hM G (upd (upd (upd f 22 1) 8 (f 8)) 23 138) (up2 ar 20 (upd (upd (savK (savK (savK (savK (savK (savK (savK (ar 20) (ar 1) 100 6) (ar 2) 106 5) (ar 3) 111 5) (ar 4) 116 5) (ar 5) 121 5) (ar 6) 126 5) (ar 7) 131 5) 136 (f 8)) 137 (f 9))))) rfl ?_
  refine R_put 93 dX7_passesAll_90 rfl wX7_132 rfl rfl rfl rfl (h2 := (h1, hM G (upd (upd (upd (upd f 22 1) 8 (f 8)) 23 138) 9 (f 9)) (up2 ar 20 (upd (upd (savK (savK (savK (savK (savK (savK (savK (ar 20) (ar 1) 100 6) (ar 2) 106 5) (ar 3) 111 5) (ar 4) 116 5) (ar 5) 121 5) (ar 6) 126 5) (ar 7) 131 5) 136 (f 8)) 137 (f 9))))) mp_9 ?_
  refine R_aload_n 94 dX7_passesAll_93 rfl rfl ?_
  refine R_aload_n 95 dX7_passesAll_94 rfl rfl ?_
  refine R_aload_n 96 dX7_passesAll_95 rfl rfl ?_
  refine R_get 99 dX7_passesAll_96 rfl fX7_135 rfl (v := .int (f 10)) rfl ?_
  refine R_callVi 102 (pOneK (c0 := 138) (c1 := 139) (k := 138) rfl (by decide) (by decide) (by decide) (show ¬ (1 : Int32) = 0 by decide)) dX7_passesAll_99 rfl kX7_passOne lX7_167 rfl rfl rfl rfl rfl rfl rfl ?_
  refine R_h (h1 := (h1, hM G (upd (upd (upd (upd f 22 1) 8 (f 8)) 9 (f 9)) 23 139) (up2 ar 20 (upd (upd (upd (savK (savK (savK (savK (savK (savK (savK (ar 20) (ar 1) 100 6) (ar 2) 106 5) (ar 3) 111 5) (ar 4) 116 5) (ar 5) 121 5) (ar 6) 126 5) (ar 7) 131 5) 136 (f 8)) 137 (f 9)) 138 (f 10))))) rfl ?_
  refine R_put 105 dX7_passesAll_102 rfl wX7_135 rfl rfl rfl rfl (h2 := (h1, hM G (upd (upd (upd (upd (upd f 22 1) 8 (f 8)) 9 (f 9)) 23 139) 10 (f 10)) (up2 ar 20 (upd (upd (upd (savK (savK (savK (savK (savK (savK (savK (ar 20) (ar 1) 100 6) (ar 2) 106 5) (ar 3) 111 5) (ar 4) 116 5) (ar 5) 121 5) (ar 6) 126 5) (ar 7) 131 5) 136 (f 8)) 137 (f 9)) 138 (f 10))))) mp_10 ?_
  refine R_aload_n 106 dX7_passesAll_105 rfl rfl ?_
  refine R_aload_n 107 dX7_passesAll_106 rfl rfl ?_
  refine R_aload_n 108 dX7_passesAll_107 rfl rfl ?_
  refine R_get 111 dX7_passesAll_108 rfl fX7_170 rfl (v := .int (f 11)) rfl ?_
  refine R_callVi 114 (pOneK (c0 := 139) (c1 := 140) (k := 139) rfl (by decide) (by decide) (by decide) (show ¬ (1 : Int32) = 0 by decide)) dX7_passesAll_111 rfl kX7_passOne lX7_167 rfl rfl rfl rfl rfl rfl rfl ?_
  refine R_h (h1 := (h1, hM G (upd (upd (upd (upd (upd f 22 1) 8 (f 8)) 9 (f 9)) 10 (f 10)) 23 140) (up2 ar 20 (upd (upd (upd (upd (savK (savK (savK (savK (savK (savK (savK (ar 20) (ar 1) 100 6) (ar 2) 106 5) (ar 3) 111 5) (ar 4) 116 5) (ar 5) 121 5) (ar 6) 126 5) (ar 7) 131 5) 136 (f 8)) 137 (f 9)) 138 (f 10)) 139 (f 11))))) rfl ?_
  refine R_put 117 dX7_passesAll_114 rfl wX7_170 rfl rfl rfl rfl (h2 := (h1, hM G (upd (upd (upd (upd (upd (upd f 22 1) 8 (f 8)) 9 (f 9)) 10 (f 10)) 23 140) 11 (f 11)) (up2 ar 20 (upd (upd (upd (upd (savK (savK (savK (savK (savK (savK (savK (ar 20) (ar 1) 100 6) (ar 2) 106 5) (ar 3) 111 5) (ar 4) 116 5) (ar 5) 121 5) (ar 6) 126 5) (ar 7) 131 5) 136 (f 8)) 137 (f 9)) 138 (f 10)) 139 (f 11))))) mp_11 ?_
  refine R_aload_n 118 dX7_passesAll_117 rfl rfl ?_
  refine R_aload_n 119 dX7_passesAll_118 rfl rfl ?_
  refine R_aload_n 120 dX7_passesAll_119 rfl rfl ?_
  refine R_get 123 dX7_passesAll_120 rfl fX7_138 rfl (v := .int (f 12)) rfl ?_
  refine R_callVi 126 (pOneK (c0 := 140) (c1 := 141) (k := 140) rfl (by decide) (by decide) (by decide) (show ¬ (1 : Int32) = 0 by decide)) dX7_passesAll_123 rfl kX7_passOne lX7_167 rfl rfl rfl rfl rfl rfl rfl ?_
  refine R_h (h1 := (h1, hM G (upd (upd (upd (upd (upd (upd f 22 1) 8 (f 8)) 9 (f 9)) 10 (f 10)) 11 (f 11)) 23 141) (up2 ar 20 (upd (upd (upd (upd (upd (savK (savK (savK (savK (savK (savK (savK (ar 20) (ar 1) 100 6) (ar 2) 106 5) (ar 3) 111 5) (ar 4) 116 5) (ar 5) 121 5) (ar 6) 126 5) (ar 7) 131 5) 136 (f 8)) 137 (f 9)) 138 (f 10)) 139 (f 11)) 140 (f 12))))) rfl ?_
  refine R_put 129 dX7_passesAll_126 rfl wX7_138 rfl rfl rfl rfl (h2 := (h1, hM G (upd (upd (upd (upd (upd (upd (upd f 22 1) 8 (f 8)) 9 (f 9)) 10 (f 10)) 11 (f 11)) 23 141) 12 (f 12)) (up2 ar 20 (upd (upd (upd (upd (upd (savK (savK (savK (savK (savK (savK (savK (ar 20) (ar 1) 100 6) (ar 2) 106 5) (ar 3) 111 5) (ar 4) 116 5) (ar 5) 121 5) (ar 6) 126 5) (ar 7) 131 5) 136 (f 8)) 137 (f 9)) 138 (f 10)) 139 (f 11)) 140 (f 12))))) mp_12 ?_
  refine R_return dX7_passesAll_129 rfl ?_
  have e : zz = ((upd (upd (upd (upd (upd (upd (upd f 22 1) 8 (f 8)) 9 (f 9)) 10 (f 10)) 11 (f 11)) 23 141) 12 (f 12)), (up2 ar 20 (upd (upd (upd (upd (upd (savK (savK (savK (savK (savK (savK (savK (ar 20) (ar 1) 100 6) (ar 2) 106 5) (ar 3) 111 5) (ar 4) 116 5) (ar 5) 121 5) (ar 6) 126 5) (ar 7) 131 5) 136 (f 8)) 137 (f 9)) 138 (f 10)) 139 (f 11)) 140 (f 12)))) := by rw [← hs]; unfold sX7_passesAll_2k; rfl
  rw [pr1 e, pr2 e]; exact ⟨rfl, rfl⟩
def sX7_passesAll_2p (f : Nat → Int32) (ar : Nat → Nat → Int32) : (Nat → Int32) × (Nat → Nat → Int32) := ((upd (upd (upd (upd (upd (upd (upd f 22 0) 8 (ar 20 136)) 9 (ar 20 137)) 10 (ar 20 138)) 11 (ar 20 139)) 23 141) 12 (ar 20 140)), (up2 (up2 (up2 (up2 (up2 (up2 (up2 ar 1 (getK (ar 20) (ar 1) 100 6)) 2 (getK (ar 20) (ar 2) 106 5)) 3 (getK (ar 20) (ar 3) 111 5)) 4 (getK (ar 20) (ar 4) 116 5)) 5 (getK (ar 20) (ar 5) 121 5)) 6 (getK (ar 20) (ar 6) 126 5)) 7 (getK (ar 20) (ar 7) 131 5)))
set_option maxRecDepth 20000 in
theorem eX7_passesAll_2p {G : zG} {h1 : List va_E} {f : Nat → Int32} {ar : Nat → Nat → Int32} : EvF G mX7_passesAll [.ref 100, .int 2, .int 0] (h1, hM G f ar) (none) (h1, hM G ((sX7_passesAll_2p f ar).1) ((sX7_passesAll_2p f ar).2)) := by
  generalize hs : (sX7_passesAll_2p f ar) = zz
  refine EvF.of pnX7 rfl ?_
  refine R_aload_n 1 dX7_passesAll_0 rfl rfl ?_
  refine R_bipush 3 dX7_passesAll_1 rfl (v := 50) (by decide) ?_
  refine R_iload_n 4 dX7_passesAll_3 rfl rfl ?_
  refine R_imul 5 dX7_passesAll_4 rfl ?_
  refine R_top (y := 100) (by decide) ?_
  refine R_put 8 dX7_passesAll_5 rfl wX7_160 rfl rfl rfl rfl (h2 := (h1, hM G (upd f 23 100) ar)) mp_23 ?_
  refine R_aload_n 9 dX7_passesAll_8 rfl rfl ?_
  refine R_iload_n 10 dX7_passesAll_9 rfl rfl ?_
  refine R_put 13 dX7_passesAll_10 rfl wX7_156 rfl (by decide) (by decide) rfl (h2 := (h1, hM G (upd (upd f 23 100) 22 0) ar)) mp_22 ?_
  refine R_aload_n 14 dX7_passesAll_13 rfl rfl ?_
  refine R_aload_n 15 dX7_passesAll_14 rfl rfl ?_
  refine R_get 18 dX7_passesAll_15 rfl fX7_13 rfl (v := .ref 102) rfl ?_
  refine R_callVv 21 (passP_1 (c0 := 100) (c1 := 106) (b := 100) (by decide) rfl (by decide) (by decide) rfl) dX7_passesAll_18 rfl kX7_passes lX7_163 rfl rfl rfl rfl rfl rfl rfl ?_
  refine R_h (h1 := (h1, hM G (upd (upd f 22 0) 23 106) (up2 ar 1 (getK (ar 20) (ar 1) 100 6)))) rfl ?_
  refine R_aload_n 22 dX7_passesAll_21 rfl rfl ?_
  refine R_aload_n 23 dX7_passesAll_22 rfl rfl ?_
  refine R_get 26 dX7_passesAll_23 rfl fX7_16 rfl (v := .ref 103) rfl ?_
  refine R_callVv 29 (passP_2 (c0 := 106) (c1 := 111) (b := 106) (by decide) rfl (by decide) (by decide) rfl) dX7_passesAll_26 rfl kX7_passes lX7_163 rfl rfl rfl rfl rfl rfl rfl ?_
  refine R_h (h1 := (h1, hM G (upd (upd f 22 0) 23 111) (up2 (up2 ar 1 (getK (ar 20) (ar 1) 100 6)) 2 (getK (ar 20) (ar 2) 106 5)))) rfl ?_
  refine R_aload_n 30 dX7_passesAll_29 rfl rfl ?_
  refine R_aload_n 31 dX7_passesAll_30 rfl rfl ?_
  refine R_get 34 dX7_passesAll_31 rfl fX7_19 rfl (v := .ref 104) rfl ?_
  refine R_callVv 37 (passP_3 (c0 := 111) (c1 := 116) (b := 111) (by decide) rfl (by decide) (by decide) rfl) dX7_passesAll_34 rfl kX7_passes lX7_163 rfl rfl rfl rfl rfl rfl rfl ?_
  refine R_h (h1 := (h1, hM G (upd (upd f 22 0) 23 116) (up2 (up2 (up2 ar 1 (getK (ar 20) (ar 1) 100 6)) 2 (getK (ar 20) (ar 2) 106 5)) 3 (getK (ar 20) (ar 3) 111 5)))) rfl ?_
  refine R_aload_n 38 dX7_passesAll_37 rfl rfl ?_
  refine R_aload_n 39 dX7_passesAll_38 rfl rfl ?_
  refine R_get 42 dX7_passesAll_39 rfl fX7_22 rfl (v := .ref 105) rfl ?_
  refine R_callVv 45 (passP_4 (c0 := 116) (c1 := 121) (b := 116) (by decide) rfl (by decide) (by decide) rfl) dX7_passesAll_42 rfl kX7_passes lX7_163 rfl rfl rfl rfl rfl rfl rfl ?_
  refine R_h (h1 := (h1, hM G (upd (upd f 22 0) 23 121) (up2 (up2 (up2 (up2 ar 1 (getK (ar 20) (ar 1) 100 6)) 2 (getK (ar 20) (ar 2) 106 5)) 3 (getK (ar 20) (ar 3) 111 5)) 4 (getK (ar 20) (ar 4) 116 5)))) rfl ?_
  refine R_aload_n 46 dX7_passesAll_45 rfl rfl ?_
  refine R_aload_n 47 dX7_passesAll_46 rfl rfl ?_
  refine R_get 50 dX7_passesAll_47 rfl fX7_25 rfl (v := .ref 106) rfl ?_
  refine R_callVv 53 (passP_5 (c0 := 121) (c1 := 126) (b := 121) (by decide) rfl (by decide) (by decide) rfl) dX7_passesAll_50 rfl kX7_passes lX7_163 rfl rfl rfl rfl rfl rfl rfl ?_
  refine R_h (h1 := (h1, hM G (upd (upd f 22 0) 23 126) (up2 (up2 (up2 (up2 (up2 ar 1 (getK (ar 20) (ar 1) 100 6)) 2 (getK (ar 20) (ar 2) 106 5)) 3 (getK (ar 20) (ar 3) 111 5)) 4 (getK (ar 20) (ar 4) 116 5)) 5 (getK (ar 20) (ar 5) 121 5)))) rfl ?_
  refine R_aload_n 54 dX7_passesAll_53 rfl rfl ?_
  refine R_aload_n 55 dX7_passesAll_54 rfl rfl ?_
  refine R_get 58 dX7_passesAll_55 rfl fX7_28 rfl (v := .ref 107) rfl ?_
  refine R_callVv 61 (passP_6 (c0 := 126) (c1 := 131) (b := 126) (by decide) rfl (by decide) (by decide) rfl) dX7_passesAll_58 rfl kX7_passes lX7_163 rfl rfl rfl rfl rfl rfl rfl ?_
  refine R_h (h1 := (h1, hM G (upd (upd f 22 0) 23 131) (up2 (up2 (up2 (up2 (up2 (up2 ar 1 (getK (ar 20) (ar 1) 100 6)) 2 (getK (ar 20) (ar 2) 106 5)) 3 (getK (ar 20) (ar 3) 111 5)) 4 (getK (ar 20) (ar 4) 116 5)) 5 (getK (ar 20) (ar 5) 121 5)) 6 (getK (ar 20) (ar 6) 126 5)))) rfl ?_
  refine R_aload_n 62 dX7_passesAll_61 rfl rfl ?_
  refine R_aload_n 63 dX7_passesAll_62 rfl rfl ?_
  refine R_get 66 dX7_passesAll_63 rfl fX7_31 rfl (v := .ref 108) rfl ?_
  refine R_callVv 69 (passP_7 (c0 := 131) (c1 := 136) (b := 131) (by decide) rfl (by decide) (by decide) rfl) dX7_passesAll_66 rfl kX7_passes lX7_163 rfl rfl rfl rfl rfl rfl rfl ?_
  refine R_h (h1 := (h1, hM G (upd (upd f 22 0) 23 136) (up2 (up2 (up2 (up2 (up2 (up2 (up2 ar 1 (getK (ar 20) (ar 1) 100 6)) 2 (getK (ar 20) (ar 2) 106 5)) 3 (getK (ar 20) (ar 3) 111 5)) 4 (getK (ar 20) (ar 4) 116 5)) 5 (getK (ar 20) (ar 5) 121 5)) 6 (getK (ar 20) (ar 6) 126 5)) 7 (getK (ar 20) (ar 7) 131 5)))) rfl ?_
  refine R_aload_n 70 dX7_passesAll_69 rfl rfl ?_
  refine R_aload_n 71 dX7_passesAll_70 rfl rfl ?_
  refine R_aload_n 72 dX7_passesAll_71 rfl rfl ?_
  refine R_get 75 dX7_passesAll_72 rfl fX7_65 rfl (v := .int (f 8)) rfl ?_
  refine R_callVi 78 (pOneP (c0 := 136) (c1 := 137) (k := 136) rfl (by decide) (by decide) (by decide) rfl) dX7_passesAll_75 rfl kX7_passOne lX7_167 rfl rfl rfl rfl rfl rfl rfl ?_
  refine R_h (h1 := (h1, hM G (upd (upd f 22 0) 23 137) (up2 (up2 (up2 (up2 (up2 (up2 (up2 ar 1 (getK (ar 20) (ar 1) 100 6)) 2 (getK (ar 20) (ar 2) 106 5)) 3 (getK (ar 20) (ar 3) 111 5)) 4 (getK (ar 20) (ar 4) 116 5)) 5 (getK (ar 20) (ar 5) 121 5)) 6 (getK (ar 20) (ar 6) 126 5)) 7 (getK (ar 20) (ar 7) 131 5)))) rfl ?_
  refine R_put 81 dX7_passesAll_78 rfl wX7_65 rfl rfl rfl rfl (h2 := (h1, hM G (upd (upd (upd f 22 0) 23 137) 8 (ar 20 136)) (up2 (up2 (up2 (up2 (up2 (up2 (up2 ar 1 (getK (ar 20) (ar 1) 100 6)) 2 (getK (ar 20) (ar 2) 106 5)) 3 (getK (ar 20) (ar 3) 111 5)) 4 (getK (ar 20) (ar 4) 116 5)) 5 (getK (ar 20) (ar 5) 121 5)) 6 (getK (ar 20) (ar 6) 126 5)) 7 (getK (ar 20) (ar 7) 131 5)))) mp_8 ?_
  refine R_aload_n 82 dX7_passesAll_81 rfl rfl ?_
  refine R_aload_n 83 dX7_passesAll_82 rfl rfl ?_
  refine R_aload_n 84 dX7_passesAll_83 rfl rfl ?_
  refine R_get 87 dX7_passesAll_84 rfl fX7_132 rfl (v := .int (f 9)) rfl ?_
  refine R_callVi 90 (pOneP (c0 := 137) (c1 := 138) (k := 137) rfl (by decide) (by decide) (by decide) rfl) dX7_passesAll_87 rfl kX7_passOne lX7_167 rfl rfl rfl rfl rfl rfl rfl ?_
  refine R_h (h1 := (h1, hM G (upd (upd (upd f 22 0) 8 (ar 20 136)) 23 138) (up2 (up2 (up2 (up2 (up2 (up2 (up2 ar 1 (getK (ar 20) (ar 1) 100 6)) 2 (getK (ar 20) (ar 2) 106 5)) 3 (getK (ar 20) (ar 3) 111 5)) 4 (getK (ar 20) (ar 4) 116 5)) 5 (getK (ar 20) (ar 5) 121 5)) 6 (getK (ar 20) (ar 6) 126 5)) 7 (getK (ar 20) (ar 7) 131 5)))) rfl ?_
  refine R_put 93 dX7_passesAll_90 rfl wX7_132 rfl rfl rfl rfl (h2 := (h1, hM G (upd (upd (upd (upd f 22 0) 8 (ar 20 136)) 23 138) 9 (ar 20 137)) (up2 (up2 (up2 (up2 (up2 (up2 (up2 ar 1 (getK (ar 20) (ar 1) 100 6)) 2 (getK (ar 20) (ar 2) 106 5)) 3 (getK (ar 20) (ar 3) 111 5)) 4 (getK (ar 20) (ar 4) 116 5)) 5 (getK (ar 20) (ar 5) 121 5)) 6 (getK (ar 20) (ar 6) 126 5)) 7 (getK (ar 20) (ar 7) 131 5)))) mp_9 ?_
  refine R_aload_n 94 dX7_passesAll_93 rfl rfl ?_
  refine R_aload_n 95 dX7_passesAll_94 rfl rfl ?_
  refine R_aload_n 96 dX7_passesAll_95 rfl rfl ?_
  refine R_get 99 dX7_passesAll_96 rfl fX7_135 rfl (v := .int (f 10)) rfl ?_
  refine R_callVi 102 (pOneP (c0 := 138) (c1 := 139) (k := 138) rfl (by decide) (by decide) (by decide) rfl) dX7_passesAll_99 rfl kX7_passOne lX7_167 rfl rfl rfl rfl rfl rfl rfl ?_
  refine R_h (h1 := (h1, hM G (upd (upd (upd (upd f 22 0) 8 (ar 20 136)) 9 (ar 20 137)) 23 139) (up2 (up2 (up2 (up2 (up2 (up2 (up2 ar 1 (getK (ar 20) (ar 1) 100 6)) 2 (getK (ar 20) (ar 2) 106 5)) 3 (getK (ar 20) (ar 3) 111 5)) 4 (getK (ar 20) (ar 4) 116 5)) 5 (getK (ar 20) (ar 5) 121 5)) 6 (getK (ar 20) (ar 6) 126 5)) 7 (getK (ar 20) (ar 7) 131 5)))) rfl ?_
  refine R_put 105 dX7_passesAll_102 rfl wX7_135 rfl rfl rfl rfl (h2 := (h1, hM G (upd (upd (upd (upd (upd f 22 0) 8 (ar 20 136)) 9 (ar 20 137)) 23 139) 10 (ar 20 138)) (up2 (up2 (up2 (up2 (up2 (up2 (up2 ar 1 (getK (ar 20) (ar 1) 100 6)) 2 (getK (ar 20) (ar 2) 106 5)) 3 (getK (ar 20) (ar 3) 111 5)) 4 (getK (ar 20) (ar 4) 116 5)) 5 (getK (ar 20) (ar 5) 121 5)) 6 (getK (ar 20) (ar 6) 126 5)) 7 (getK (ar 20) (ar 7) 131 5)))) mp_10 ?_
  refine R_aload_n 106 dX7_passesAll_105 rfl rfl ?_
  refine R_aload_n 107 dX7_passesAll_106 rfl rfl ?_
  refine R_aload_n 108 dX7_passesAll_107 rfl rfl ?_
  refine R_get 111 dX7_passesAll_108 rfl fX7_170 rfl (v := .int (f 11)) rfl ?_
  refine R_callVi 114 (pOneP (c0 := 139) (c1 := 140) (k := 139) rfl (by decide) (by decide) (by decide) rfl) dX7_passesAll_111 rfl kX7_passOne lX7_167 rfl rfl rfl rfl rfl rfl rfl ?_
  refine R_h (h1 := (h1, hM G (upd (upd (upd (upd (upd f 22 0) 8 (ar 20 136)) 9 (ar 20 137)) 10 (ar 20 138)) 23 140) (up2 (up2 (up2 (up2 (up2 (up2 (up2 ar 1 (getK (ar 20) (ar 1) 100 6)) 2 (getK (ar 20) (ar 2) 106 5)) 3 (getK (ar 20) (ar 3) 111 5)) 4 (getK (ar 20) (ar 4) 116 5)) 5 (getK (ar 20) (ar 5) 121 5)) 6 (getK (ar 20) (ar 6) 126 5)) 7 (getK (ar 20) (ar 7) 131 5)))) rfl ?_
  refine R_put 117 dX7_passesAll_114 rfl wX7_170 rfl rfl rfl rfl (h2 := (h1, hM G (upd (upd (upd (upd (upd (upd f 22 0) 8 (ar 20 136)) 9 (ar 20 137)) 10 (ar 20 138)) 23 140) 11 (ar 20 139)) (up2 (up2 (up2 (up2 (up2 (up2 (up2 ar 1 (getK (ar 20) (ar 1) 100 6)) 2 (getK (ar 20) (ar 2) 106 5)) 3 (getK (ar 20) (ar 3) 111 5)) 4 (getK (ar 20) (ar 4) 116 5)) 5 (getK (ar 20) (ar 5) 121 5)) 6 (getK (ar 20) (ar 6) 126 5)) 7 (getK (ar 20) (ar 7) 131 5)))) mp_11 ?_
  refine R_aload_n 118 dX7_passesAll_117 rfl rfl ?_
  refine R_aload_n 119 dX7_passesAll_118 rfl rfl ?_
  refine R_aload_n 120 dX7_passesAll_119 rfl rfl ?_
  refine R_get 123 dX7_passesAll_120 rfl fX7_138 rfl (v := .int (f 12)) rfl ?_
  refine R_callVi 126 (pOneP (c0 := 140) (c1 := 141) (k := 140) rfl (by decide) (by decide) (by decide) rfl) dX7_passesAll_123 rfl kX7_passOne lX7_167 rfl rfl rfl rfl rfl rfl rfl ?_
  refine R_h (h1 := (h1, hM G (upd (upd (upd (upd (upd (upd f 22 0) 8 (ar 20 136)) 9 (ar 20 137)) 10 (ar 20 138)) 11 (ar 20 139)) 23 141) (up2 (up2 (up2 (up2 (up2 (up2 (up2 ar 1 (getK (ar 20) (ar 1) 100 6)) 2 (getK (ar 20) (ar 2) 106 5)) 3 (getK (ar 20) (ar 3) 111 5)) 4 (getK (ar 20) (ar 4) 116 5)) 5 (getK (ar 20) (ar 5) 121 5)) 6 (getK (ar 20) (ar 6) 126 5)) 7 (getK (ar 20) (ar 7) 131 5)))) rfl ?_
  refine R_put 129 dX7_passesAll_126 rfl wX7_138 rfl rfl rfl rfl (h2 := (h1, hM G (upd (upd (upd (upd (upd (upd (upd f 22 0) 8 (ar 20 136)) 9 (ar 20 137)) 10 (ar 20 138)) 11 (ar 20 139)) 23 141) 12 (ar 20 140)) (up2 (up2 (up2 (up2 (up2 (up2 (up2 ar 1 (getK (ar 20) (ar 1) 100 6)) 2 (getK (ar 20) (ar 2) 106 5)) 3 (getK (ar 20) (ar 3) 111 5)) 4 (getK (ar 20) (ar 4) 116 5)) 5 (getK (ar 20) (ar 5) 121 5)) 6 (getK (ar 20) (ar 6) 126 5)) 7 (getK (ar 20) (ar 7) 131 5)))) mp_12 ?_
  refine R_return dX7_passesAll_129 rfl ?_
  have e : zz = ((upd (upd (upd (upd (upd (upd (upd f 22 0) 8 (ar 20 136)) 9 (ar 20 137)) 10 (ar 20 138)) 11 (ar 20 139)) 23 141) 12 (ar 20 140)), (up2 (up2 (up2 (up2 (up2 (up2 (up2 ar 1 (getK (ar 20) (ar 1) 100 6)) 2 (getK (ar 20) (ar 2) 106 5)) 3 (getK (ar 20) (ar 3) 111 5)) 4 (getK (ar 20) (ar 4) 116 5)) 5 (getK (ar 20) (ar 5) 121 5)) 6 (getK (ar 20) (ar 6) 126 5)) 7 (getK (ar 20) (ar 7) 131 5))) := by rw [← hs]; unfold sX7_passesAll_2p; rfl
  rw [pr1 e, pr2 e]; exact ⟨rfl, rfl⟩
def sX7_image (f : Nat → Int32) (ar : Nat → Nat → Int32) : Int32 × (Nat → Int32) × (Nat → Nat → Int32) := (((sX7_passesAll_0k (upd f 21 1) ar).1) 12, ((sX7_passesAll_0k (upd f 21 1) ar).1), ((sX7_passesAll_0k (upd f 21 1) ar).2))
set_option maxRecDepth 20000 in
theorem eX7_image {G : zG} {h1 : List va_E} {f : Nat → Int32} {ar : Nat → Nat → Int32} : EvF G mX7_image [.ref 100] (h1, hM G f ar) (some (.int ((sX7_image f ar).1))) (h1, hM G ((sX7_image f ar).2.1) ((sX7_image f ar).2.2)) := by
  generalize hs : (sX7_image f ar) = zz
  refine EvF.of pnX7 rfl ?_
  refine R_aload_n 1 dX7_image_0 rfl rfl ?_
  refine R_iconst 2 dX7_image_1 rfl (v := 1) (by decide) ?_
  refine R_put 5 dX7_image_2 rfl wX7_173 rfl (by decide) (by decide) rfl (h2 := (h1, hM G (upd f 21 1) ar)) mp_21 ?_
  refine R_aload_n 6 dX7_image_5 rfl rfl ?_
  refine R_iconst 7 dX7_image_6 rfl (v := 0) (by decide) ?_
  refine R_iconst 8 dX7_image_7 rfl (v := 1) (by decide) ?_
  refine R_callVv 11 eX7_passesAll_0k dX7_image_8 rfl kX7_passesAll lX7_149 rfl rfl rfl rfl rfl rfl rfl ?_
  generalize hz1_ : (sX7_passesAll_0k (upd f 21 1) ar).1 = z1_
  generalize hz2_ : (sX7_passesAll_0k (upd f 21 1) ar).2 = z2_
  refine R_aload_n 12 dX7_image_11 rfl rfl ?_
  refine R_get 15 dX7_image_12 rfl fX7_138 rfl (v := .int (z1_ 12)) rfl ?_
  refine R_ireturn dX7_image_15 rfl rfl ?_
  subst hz1_ hz2_
  have e : zz = (((sX7_passesAll_0k (upd f 21 1) ar).1) 12, ((sX7_passesAll_0k (upd f 21 1) ar).1), ((sX7_passesAll_0k (upd f 21 1) ar).2)) := by rw [← hs]; unfold sX7_image; rfl
  rw [pr1 e, pr1 (pr2 e), pr2 (pr2 e)]; exact ⟨rfl, rfl⟩
def sX7_on (f : Nat → Int32) (ar : Nat → Nat → Int32) : Int32 × (Nat → Int32) × (Nat → Nat → Int32) := if (f 21) = 0 then ((sX7_no ar (-3)).1, f, ((sX7_no ar (-3)).2)) else (((sX7_passesAll_0p f ar).1) 12, ((sX7_passesAll_0p f ar).1), ((sX7_passesAll_0p f ar).2))
set_option maxRecDepth 20000 in
theorem eX7_on {G : zG} {h1 : List va_E} {f : Nat → Int32} {ar : Nat → Nat → Int32} : EvF G mX7_on [.ref 100] (h1, hM G f ar) (some (.int ((sX7_on f ar).1))) (h1, hM G ((sX7_on f ar).2.1) ((sX7_on f ar).2.2)) := by
  generalize hs : (sX7_on f ar) = zz
  refine EvF.of pnX7 rfl ?_
  refine R_aload_n 1 dX7_on_0 rfl rfl ?_
  refine R_get 4 dX7_on_1 rfl fX7_173 rfl (v := .int (f 21)) rfl ?_
  refine R_if_ne 7 14 dX7_on_4 rfl (by decide) (fun c1 => ?_) (fun c1 => ?_)
  ·
    refine R_aload_n 15 dX7_on_14 rfl rfl ?_
    refine R_iconst 16 dX7_on_15 rfl (v := 0) (by decide) ?_
    refine R_iconst 17 dX7_on_16 rfl (v := 0) (by decide) ?_
    refine R_callVv 20 eX7_passesAll_0p dX7_on_17 rfl kX7_passesAll lX7_149 rfl rfl rfl rfl rfl rfl rfl ?_
    generalize hz1_ : (sX7_passesAll_0p f ar).1 = z1_
    generalize hz2_ : (sX7_passesAll_0p f ar).2 = z2_
    refine R_aload_n 21 dX7_on_20 rfl rfl ?_
    refine R_get 24 dX7_on_21 rfl fX7_138 rfl (v := .int (z1_ 12)) rfl ?_
    refine R_ireturn dX7_on_24 rfl rfl ?_
    subst hz1_ hz2_
    have e : zz = (((sX7_passesAll_0p f ar).1) 12, ((sX7_passesAll_0p f ar).1), ((sX7_passesAll_0p f ar).2)) := by rw [← hs]; unfold sX7_on; rw [if_neg c1]
    rw [pr1 e, pr1 (pr2 e), pr2 (pr2 e)]; exact ⟨rfl, rfl⟩
  ·
    refine R_aload_n 8 dX7_on_7 rfl rfl ?_
    refine R_bipush 10 dX7_on_8 rfl (v := (-3)) (by decide) ?_
    refine R_callVi 13 (eX7_no (vin_d (by decide))) dX7_on_10 rfl kX7_no lX7_76 rfl rfl rfl rfl rfl rfl rfl ?_
    generalize hz3_ : (sX7_no ar (-3)).2 = z3_
    refine R_ireturn dX7_on_13 rfl rfl ?_
    subst hz3_
    have e : zz = ((sX7_no ar (-3)).1, f, ((sX7_no ar (-3)).2)) := by rw [← hs]; unfold sX7_on; rw [if_pos c1]
    rw [pr1 e, pr1 (pr2 e), pr2 (pr2 e)]; exact ⟨rfl, rfl⟩
theorem pa2_ok {f f1 : Nat → Int32} {ar a1 : Nat → Nat → Int32} (h1 : (sX7_passesAll_2k f ar).1 = f1) (h2 : (sX7_passesAll_2k f ar).2 = a1) (hk : mOk f ar) : mOk f1 a1 := by
  subst h1 h2
  exact hk
theorem mk_init {f : Nat → Int32} {ar : Nat → Nat → Int32} {x : Int32} (hk : mOk f ar) (hx : x.toInt ≤ 240) : 0 + ((sX7_passesAll_2k (sX7_thinks f ar x).2.1 (sX7_thinks f ar x).2.2).1 8).toNatClampNeg = ((sX7_passesAll_2k (sX7_thinks f ar x).2.1 (sX7_thinks f ar x).2.2).1 8).toNatClampNeg ∧ ((sX7_passesAll_2k (sX7_thinks f ar x).2.1 (sX7_thinks f ar x).2.2).1 8).toNatClampNeg ≤ 5 ∧ mOk (sX7_passesAll_2k (sX7_thinks f ar x).2.1 (sX7_thinks f ar x).2.2).1 (sX7_passesAll_2k (sX7_thinks f ar x).2.1 (sX7_thinks f ar x).2.2).2 := by
  have h1 := (th_kt hk hx).ok hk
  exact ⟨Nat.zero_add _, mo_n (pa2_ok rfl rfl h1), pa2_ok rfl rfl h1⟩
def exX7_mark (x : Int32) (nw : Int32) (a : Nat) (f : Nat → Int32) (ar : Nat → Nat → Int32) : Int32 × (Nat → Int32) × (Nat → Nat → Int32) := (nw - ((sX7_thinks f ar x).1), ((sX7_passesAll_2p ((sX7_thinks f ar x).2.1) ((sX7_thinks f ar x).2.2)).1), ((sX7_passesAll_2p ((sX7_thinks f ar x).2.1) ((sX7_thinks f ar x).2.2)).2))
def stX7_mark (x : Int32) (nw : Int32) (a : Nat) (f : Nat → Int32) (ar : Nat → Nat → Int32) : (Nat → Int32) × (Nat → Nat → Int32) := (f, (up2 ar 6 (upd (ar 6) (nI a).toNatClampNeg 1)))
def itX7_mark (x : Int32) (nw : Int32) : Nat → Nat → (Nat → Int32) → (Nat → Nat → Int32) → Int32 × (Nat → Int32) × (Nat → Nat → Int32)
  | 0, a, f, ar => exX7_mark x nw a f ar
  | j + 1, a, f, ar => itX7_mark x nw j (a + 1) ((stX7_mark x nw a f ar).1) ((stX7_mark x nw a f ar).2)
theorem itX7_mark_n {x : Int32} {nw : Int32} {j a : Nat} {f : Nat → Int32} {ar : Nat → Nat → Int32} {s0_ : Nat → Int32} {s1_ : Nat → Nat → Int32} (e : stX7_mark x nw a f ar = (s0_, s1_)) : (itX7_mark x nw (j + 1) a f ar) = (itX7_mark x nw j (a + 1) s0_ s1_) := by simp only [itX7_mark.eq_2, e]
set_option maxRecDepth 20000 in
theorem lpX7_mark {G : zG} {h1 : List va_E} {x nw : Int32} (hxx : x.toInt ≤ 240) : ∀ (j a : Nat) (f : Nat → Int32) (ar : Nat → Nat → Int32), (a + j = (f 8).toNatClampNeg ∧ (f 8).toNatClampNeg ≤ 5 ∧ mOk f ar) → R G mX7_mark 34 [(0, .ref 100), (1, .int x), (3, .int nw), (4, .int (nI a))] [] (h1, hM G f ar) (fun r0 h0 => r0 = some (.int ((itX7_mark x nw j a f ar).1)) ∧ h0 = (h1, hM G ((itX7_mark x nw j a f ar).2.1) ((itX7_mark x nw j a f ar).2.2))) := by
  intro j
  induction j with
  | zero =>
    intro a f ar hj
    have hx := cl_of (f 8)
    have hc : (f 8) ≤ nI a := cl_le (by omega) (by omega)
    refine R_iload 36 dX7_mark_34 rfl rfl ?_
    refine R_aload_n 37 dX7_mark_36 rfl rfl ?_
    refine R_get 40 dX7_mark_37 rfl fX7_65 rfl (v := .int (f 8)) rfl ?_
    refine R_icmp_ge 43 57 dX7_mark_40 rfl (by decide) (fun _ => ?_) (fun c => absurd hc c)
    refine R_aload_n 58 dX7_mark_57 rfl rfl ?_
    refine R_iload_n 59 dX7_mark_58 rfl rfl ?_
    refine R_callVi 62 (eX7_thinks hj.2.2 hxx) dX7_mark_59 rfl kX7_thinks lX7_235 rfl rfl rfl rfl rfl rfl rfl ?_
    generalize hz1_ : (sX7_thinks f ar x).2.1 = z1_
    generalize hz2_ : (sX7_thinks f ar x).2.2 = z2_
    refine R_istore 64 dX7_mark_62 rfl rfl (by decide) (loc' := [(0, .ref 100), (1, .int x), (3, .int nw), (4, .int ((sX7_thinks f ar x).1))]) rfl ?_
    refine R_aload_n 65 dX7_mark_64 rfl rfl ?_
    refine R_iconst 66 dX7_mark_65 rfl (v := 2) (by decide) ?_
    refine R_iconst 67 dX7_mark_66 rfl (v := 0) (by decide) ?_
    refine R_callVv 70 eX7_passesAll_2p dX7_mark_67 rfl kX7_passesAll lX7_149 rfl rfl rfl rfl rfl rfl rfl ?_
    generalize hz3_ : (sX7_passesAll_2p z1_ z2_).1 = z3_
    generalize hz4_ : (sX7_passesAll_2p z1_ z2_).2 = z4_
    refine R_iload_n 71 dX7_mark_70 rfl rfl ?_
    refine R_iload 73 dX7_mark_71 rfl rfl ?_
    refine R_isub 74 dX7_mark_73 rfl ?_
    refine R_ireturn dX7_mark_74 rfl rfl ?_
    subst hz1_ hz2_ hz3_ hz4_
    have e : (itX7_mark x nw 0 a f ar) = (nw - ((sX7_thinks f ar x).1), ((sX7_passesAll_2p ((sX7_thinks f ar x).2.1) ((sX7_thinks f ar x).2.2)).1), ((sX7_passesAll_2p ((sX7_thinks f ar x).2.1) ((sX7_thinks f ar x).2.2)).2)) := rfl
    rw [e]; exact ⟨rfl, rfl⟩
  | succ j ih =>
    intro a f ar hj
    have hc : ¬ (f 8) ≤ nI a := cl_gt (by omega)
    refine R_iload 36 dX7_mark_34 rfl rfl ?_
    refine R_aload_n 37 dX7_mark_36 rfl rfl ?_
    refine R_get 40 dX7_mark_37 rfl fX7_65 rfl (v := .int (f 8)) rfl ?_
    refine R_icmp_ge 43 57 dX7_mark_40 rfl (by decide) (fun c => absurd c hc) (fun _ => ?_)
    refine R_aload_n 44 dX7_mark_43 rfl rfl ?_
    refine R_get 47 dX7_mark_44 rfl fX7_28 rfl (v := .ref 107) rfl ?_
    refine R_iload 49 dX7_mark_47 rfl rfl ?_
    refine R_iconst 50 dX7_mark_49 rfl (v := 1) (by decide) ?_
    refine R_iast 51 dX7_mark_50 rfl rfl rfl (vp_in_nI (by omega) (by omega)) (h2 := (h1, hM G f (up2 ar 6 (upd (ar 6) (nI a).toNatClampNeg 1)))) ms_6 ?_
    refine R_iinc 54 dX7_mark_51 rfl rfl (v := (nI (a + 1))) (nI_1 a) rfl (by decide) (loc' := [(0, .ref 100), (1, .int x), (3, .int nw), (4, .int (nI (a + 1)))]) rfl ?_
    refine R_goto 34 dX7_mark_54 (by decide) ?_
    refine R_pick [0, 1, 2, 3] rfl ?_
    have e : stX7_mark x nw a f ar = (f, (up2 ar 6 (upd (ar 6) (nI a).toNatClampNeg 1))) := by rfl
    have e2 : (itX7_mark x nw (j + 1) a f ar) = (itX7_mark x nw j (a + 1) f (up2 ar 6 (upd (ar 6) (nI a).toNatClampNeg 1))) := itX7_mark_n e
    rw [e2]; exact ih (a + 1) f (up2 ar 6 (upd (ar 6) (nI a).toNatClampNeg 1)) ⟨by omega, hj.2.1, mo_h1 hj.2.2 _⟩
def sX7_mark (f : Nat → Int32) (ar : Nat → Nat → Int32) (x : Int32) : Int32 × (Nat → Int32) × (Nat → Nat → Int32) := if (sX7_bound x 0 240) = 0 then ((itX7_mark x ((sX7_thinks f ar x).1) (((sX7_passesAll_2k ((sX7_thinks f ar x).2.1) ((sX7_thinks f ar x).2.2)).1) 8).toNatClampNeg 0 ((sX7_passesAll_2k ((sX7_thinks f ar x).2.1) ((sX7_thinks f ar x).2.2)).1) ((sX7_passesAll_2k ((sX7_thinks f ar x).2.1) ((sX7_thinks f ar x).2.2)).2)).1, (itX7_mark x ((sX7_thinks f ar x).1) (((sX7_passesAll_2k ((sX7_thinks f ar x).2.1) ((sX7_thinks f ar x).2.2)).1) 8).toNatClampNeg 0 ((sX7_passesAll_2k ((sX7_thinks f ar x).2.1) ((sX7_thinks f ar x).2.2)).1) ((sX7_passesAll_2k ((sX7_thinks f ar x).2.1) ((sX7_thinks f ar x).2.2)).2)).2.1, (itX7_mark x ((sX7_thinks f ar x).1) (((sX7_passesAll_2k ((sX7_thinks f ar x).2.1) ((sX7_thinks f ar x).2.2)).1) 8).toNatClampNeg 0 ((sX7_passesAll_2k ((sX7_thinks f ar x).2.1) ((sX7_thinks f ar x).2.2)).1) ((sX7_passesAll_2k ((sX7_thinks f ar x).2.1) ((sX7_thinks f ar x).2.2)).2)).2.2) else ((sX7_lower ar (sX7_bound x 0 240)).1, f, ((sX7_lower ar (sX7_bound x 0 240)).2))
set_option maxRecDepth 20000 in
theorem eX7_mark {G : zG} {h1 : List va_E} {f : Nat → Int32} {ar : Nat → Nat → Int32} {x : Int32} (hk : mOk f ar) : EvF G mX7_mark [.ref 100, .int x] (h1, hM G f ar) (some (.int ((sX7_mark f ar x).1))) (h1, hM G ((sX7_mark f ar x).2.1) ((sX7_mark f ar x).2.2)) := by
  generalize hs : (sX7_mark f ar x) = zz
  refine EvF.of pnX7 rfl ?_
  refine R_iload_n 1 dX7_mark_0 rfl rfl ?_
  refine R_iconst 2 dX7_mark_1 rfl (v := 0) (by decide) ?_
  refine R_sipush 5 dX7_mark_2 rfl (v := 240) (by decide) ?_
  refine R_callSi 8 eX7_bound dX7_mark_5 rfl kX7_bound lX7_69 rfl rfl rfl rfl rfl ?_
  refine R_istore_n 9 dX7_mark_8 rfl rfl (by decide) (loc' := [(0, .ref 100), (1, .int x), (2, .int (sX7_bound x 0 240))]) rfl ?_
  refine R_iload_n 10 dX7_mark_9 rfl rfl ?_
  refine R_if_eq 13 19 dX7_mark_10 rfl (by decide) (fun c1 => ?_) (fun c1 => ?_)
  ·
    refine R_aload_n 20 dX7_mark_19 rfl rfl ?_
    refine R_iload_n 21 dX7_mark_20 rfl rfl ?_
    refine R_callVi 24 (eX7_thinks hk (bd_hi c1)) dX7_mark_21 rfl kX7_thinks lX7_235 rfl rfl rfl rfl rfl rfl rfl ?_
    generalize hz1_ : (sX7_thinks f ar x).2.1 = z1_
    generalize hz2_ : (sX7_thinks f ar x).2.2 = z2_
    refine R_istore_n 25 dX7_mark_24 rfl rfl (by decide) (loc' := [(0, .ref 100), (1, .int x), (2, .int (sX7_bound x 0 240)), (3, .int ((sX7_thinks f ar x).1))]) rfl ?_
    refine R_aload_n 26 dX7_mark_25 rfl rfl ?_
    refine R_iconst 27 dX7_mark_26 rfl (v := 2) (by decide) ?_
    refine R_iconst 28 dX7_mark_27 rfl (v := 1) (by decide) ?_
    refine R_callVv 31 eX7_passesAll_2k dX7_mark_28 rfl kX7_passesAll lX7_149 rfl rfl rfl rfl rfl rfl rfl ?_
    generalize hz3_ : (sX7_passesAll_2k z1_ z2_).1 = z3_
    generalize hz4_ : (sX7_passesAll_2k z1_ z2_).2 = z4_
    refine R_iconst 32 dX7_mark_31 rfl (v := 0) (by decide) ?_
    refine R_istore 34 dX7_mark_32 rfl rfl (by decide) (loc' := [(0, .ref 100), (1, .int x), (2, .int (sX7_bound x 0 240)), (3, .int ((sX7_thinks f ar x).1)), (4, .int 0)]) rfl ?_
    subst hz1_ hz2_ hz3_ hz4_
    refine R_pick [0, 1, 3, 4] rfl ?_
    have e : zz = ((itX7_mark x ((sX7_thinks f ar x).1) (((sX7_passesAll_2k ((sX7_thinks f ar x).2.1) ((sX7_thinks f ar x).2.2)).1) 8).toNatClampNeg 0 ((sX7_passesAll_2k ((sX7_thinks f ar x).2.1) ((sX7_thinks f ar x).2.2)).1) ((sX7_passesAll_2k ((sX7_thinks f ar x).2.1) ((sX7_thinks f ar x).2.2)).2)).1, (itX7_mark x ((sX7_thinks f ar x).1) (((sX7_passesAll_2k ((sX7_thinks f ar x).2.1) ((sX7_thinks f ar x).2.2)).1) 8).toNatClampNeg 0 ((sX7_passesAll_2k ((sX7_thinks f ar x).2.1) ((sX7_thinks f ar x).2.2)).1) ((sX7_passesAll_2k ((sX7_thinks f ar x).2.1) ((sX7_thinks f ar x).2.2)).2)).2.1, (itX7_mark x ((sX7_thinks f ar x).1) (((sX7_passesAll_2k ((sX7_thinks f ar x).2.1) ((sX7_thinks f ar x).2.2)).1) 8).toNatClampNeg 0 ((sX7_passesAll_2k ((sX7_thinks f ar x).2.1) ((sX7_thinks f ar x).2.2)).1) ((sX7_passesAll_2k ((sX7_thinks f ar x).2.1) ((sX7_thinks f ar x).2.2)).2)).2.2) := by rw [← hs]; unfold sX7_mark; rw [if_pos c1]
    rw [pr1 e, pr1 (pr2 e), pr2 (pr2 e)]; exact lpX7_mark (bd_hi c1) ((((sX7_passesAll_2k ((sX7_thinks f ar x).2.1) ((sX7_thinks f ar x).2.2)).1) 8).toNatClampNeg) 0 ((sX7_passesAll_2k ((sX7_thinks f ar x).2.1) ((sX7_thinks f ar x).2.2)).1) ((sX7_passesAll_2k ((sX7_thinks f ar x).2.1) ((sX7_thinks f ar x).2.2)).2) (mk_init hk (bd_hi c1))
  ·
    refine R_aload_n 14 dX7_mark_13 rfl rfl ?_
    refine R_iload_n 15 dX7_mark_14 rfl rfl ?_
    refine R_callVi 18 (eX7_lower (bd_in c1)) dX7_mark_15 rfl kX7_lower lX7_241 rfl rfl rfl rfl rfl rfl rfl ?_
    generalize hz5_ : (sX7_lower ar (sX7_bound x 0 240)).2 = z5_
    refine R_ireturn dX7_mark_18 rfl rfl ?_
    subst hz5_
    have e : zz = ((sX7_lower ar (sX7_bound x 0 240)).1, f, ((sX7_lower ar (sX7_bound x 0 240)).2)) := by rw [← hs]; unfold sX7_mark; rw [if_neg c1]
    rw [pr1 e, pr1 (pr2 e), pr2 (pr2 e)]; exact ⟨rfl, rfl⟩
