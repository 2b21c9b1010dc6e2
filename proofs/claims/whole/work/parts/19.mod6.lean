def rB (f : Nat → Int32) (k : Int) : Prop := 0 ≤ (f 18).toInt ∧ (f 18).toInt ≤ k ∧ (f 17).toInt ≤ 96
theorem rB.up {f : Nat → Int32} {k l : Int} (h : rB f k) (hl : k ≤ l) : rB f l := ⟨h.1, Int.le_trans h.2.1 hl, h.2.2⟩
theorem rB.s {f : Nat → Int32} {k l : Int} (h : rB f k) (hk : k ≤ 2000) (hl : k + 1 ≤ l) : rB (upd f 18 (f 18 + 1)) l := by
  have e : (upd f 18 (f 18 + 1)) 18 = f 18 + 1 := rfl
  have e7 : (upd f 18 (f 18 + 1)) 17 = f 17 := rfl
  obtain ⟨h0, h1, h2⟩ := h
  unfold rB
  rw [e, e7, i_s1 (by omega)]
  exact ⟨by omega, by omega, h2⟩
theorem rB.sz {f : Nat → Int32} {k l : Int} {z : Int32} (h : rB f k) (e : f 18 + 1 = z) (hk : k ≤ 2000) (hl : k + 1 ≤ l) : rB (upd f 18 z) l := by
  rw [← e]
  exact h.s hk hl
theorem nx_in {f : Nat → Int32} {k : Int} (h : rB f k) (c : ¬ f 17 ≤ f 18) : vp_in (f 18) 96 := by
  obtain ⟨h0, h1, h2⟩ := h
  rw [Int32.le_iff_toInt_le] at c
  rw [vp_in_iff]
  omega
def sX7_next (f : Nat → Int32) (ar : Nat → Nat → Int32) : Int32 := if (f 17) ≤ (f 18) then (-1) else ar 13 (f 18).toNatClampNeg
set_option maxRecDepth 20000 in
theorem eX7_next {G : zG} {h1 : List va_E} {f : Nat → Int32} {ar : Nat → Nat → Int32} {k : Int} (hr : rB f k) : EvF G mX7_next [.ref 100] (h1, hM G f ar) (some (.int (sX7_next f ar))) (h1, hM G f ar) := by
  generalize hs : (sX7_next f ar) = zz
  refine EvF.of pnX7 rfl ?_
  refine R_aload_n 1 dX7_next_0 rfl rfl ?_
  refine R_get 4 dX7_next_1 rfl fX7_80 rfl (v := .int (f 18)) rfl ?_
  refine R_aload_n 5 dX7_next_4 rfl rfl ?_
  refine R_get 8 dX7_next_5 rfl fX7_73 rfl (v := .int (f 17)) rfl ?_
  refine R_cut 24 [(0, .ref 100)] (.int (if (f 17) ≤ (f 18) then (-1) else ar 13 (f 18).toNatClampNeg) :: []) (h1, hM G f ar) ?_ (fun kj => ?_)
  ·
    refine R_ireturn dX7_next_24 rfl rfl ?_
    have e : zz = if (f 17) ≤ (f 18) then (-1) else ar 13 (f 18).toNatClampNeg := by rw [← hs]; unfold sX7_next; rfl
    subst e; exact ⟨rfl, rfl⟩
  refine R_icmp_ge 11 23 dX7_next_8 rfl (by decide) (fun c1 => ?_) (fun c1 => ?_)
  · refine R_iconst 24 dX7_next_23 rfl (v := (-1)) (by decide) ?_
    rw [if_pos c1] at kj; exact kj
  · refine R_aload_n 12 dX7_next_11 rfl rfl ?_
    refine R_get 15 dX7_next_12 rfl fX7_34 rfl (v := .ref 109) rfl ?_
    refine R_aload_n 16 dX7_next_15 rfl rfl ?_
    refine R_get 19 dX7_next_16 rfl fX7_80 rfl (v := .int (f 18)) rfl ?_
    refine R_iald 20 dX7_next_19 rfl rfl rfl (nx_in hr c1) ?_
    refine R_goto 24 dX7_next_20 (by decide) ?_
    rw [if_neg c1] at kj; exact kj
def exX7_readsDigits (p : Int32) (a : Nat) (f : Nat → Int32) (ar : Nat → Nat → Int32) (v : Int32) : Bool × (Nat → Int32) × (Nat → Nat → Int32) := (true, f, (up2 ar 16 (upd (ar 16) p.toNatClampNeg v)))
def stX7_readsDigits (p : Int32) (a : Nat) (f : Nat → Int32) (ar : Nat → Nat → Int32) (v : Int32) : (Bool × (Nat → Int32) × (Nat → Nat → Int32)) ⊕ ((Nat → Int32) × (Nat → Nat → Int32) × Int32) := if (sX7_isIn (sX7_next f ar) 48 57) = true then .inr ((upd f 18 ((f 18) + 1)), ar, ((10 * v) + (sX7_next f ar)) - 48) else .inl (false, f, ar)
def itX7_readsDigits (p : Int32) (j a : Nat) (f : Nat → Int32) (ar : Nat → Nat → Int32) (v : Int32) : Bool × (Nat → Int32) × (Nat → Nat → Int32) := itG (fun a (s : (Nat → Int32) × (Nat → Nat → Int32) × Int32) => exX7_readsDigits p a s.1 s.2.1 s.2.2) (fun a (s : (Nat → Int32) × (Nat → Nat → Int32) × Int32) => stX7_readsDigits p a s.1 s.2.1 s.2.2) j a (f, ar, v)
theorem itX7_readsDigits_r {p : Int32} {j a : Nat} {f : Nat → Int32} {ar : Nat → Nat → Int32} {v : Int32} {r : Bool × (Nat → Int32) × (Nat → Nat → Int32)} (e : stX7_readsDigits p a f ar v = .inl r) : (itX7_readsDigits p (j + 1) a f ar v) = r := itG_r (st := fun a (s : (Nat → Int32) × (Nat → Nat → Int32) × Int32) => stX7_readsDigits p a s.1 s.2.1 s.2.2) (s := (f, ar, v)) e
theorem itX7_readsDigits_n {p : Int32} {j a : Nat} {f : Nat → Int32} {ar : Nat → Nat → Int32} {v : Int32} {s0_ : Nat → Int32} {s1_ : Nat → Nat → Int32} {s2_ : Int32} (e : stX7_readsDigits p a f ar v = .inr (s0_, s1_, s2_)) : (itX7_readsDigits p (j + 1) a f ar v) = (itX7_readsDigits p j (a + 1) s0_ s1_ s2_) := itG_n (st := fun a (s : (Nat → Int32) × (Nat → Nat → Int32) × Int32) => stX7_readsDigits p a s.1 s.2.1 s.2.2) (s := (f, ar, v)) (s1 := (s0_, s1_, s2_)) e
set_option maxRecDepth 20000 in
theorem lpX7_readsDigits {G : zG} {h1 : List va_E} {p d : Int32} (hp : vp_in p 288) : ∀ (j a : Nat) (f : Nat → Int32) (ar : Nat → Nat → Int32) (v : Int32), (a + j = d.toNatClampNeg ∧ rB f (1000 + (a : Int)) ∧ a + j ≤ 2) → R G mX7_readsDigits 5 [(0, .ref 100), (1, .int p), (2, .int d), (3, .int v), (4, .int (nI a))] [] (h1, hM G f ar) (fun r0 h0 => r0 = some (.int (b2i ((itX7_readsDigits p j a f ar v).1))) ∧ h0 = (h1, hM G ((itX7_readsDigits p j a f ar v).2.1) ((itX7_readsDigits p j a f ar v).2.2))) := by
  intro j
  induction j with
  | zero =>
    intro a f ar v hj
    have hx := cl_of d
    have hc : d ≤ nI a := cl_le (by omega) (by omega)
    refine R_iload 7 dX7_readsDigits_5 rfl rfl ?_
    refine R_iload_n 8 dX7_readsDigits_7 rfl rfl ?_
    refine R_icmp_ge 11 56 dX7_readsDigits_8 rfl (by decide) (fun _ => ?_) (fun c => absurd hc c)
    refine R_aload_n 57 dX7_readsDigits_56 rfl rfl ?_
    refine R_get 60 dX7_readsDigits_57 rfl fX7_43 rfl (v := .ref 112) rfl ?_
    refine R_iload_n 61 dX7_readsDigits_60 rfl rfl ?_
    refine R_iload_n 62 dX7_readsDigits_61 rfl rfl ?_
    refine R_iast 63 dX7_readsDigits_62 rfl rfl rfl hp (h2 := (h1, hM G f (up2 ar 16 (upd (ar 16) p.toNatClampNeg v)))) ms_16 ?_
    refine R_iconst 64 dX7_readsDigits_63 rfl (v := 1) (by decide) ?_
    refine R_ireturn dX7_readsDigits_64 rfl (by decide) ?_
    have e : (itX7_readsDigits p 0 a f ar v) = (true, f, (up2 ar 16 (upd (ar 16) p.toNatClampNeg v))) := rfl
    rw [e]; exact ⟨rfl, rfl⟩
  | succ j ih =>
    intro a f ar v hj
    have hc : ¬ d ≤ nI a := cl_gt (by omega)
    refine R_iload 7 dX7_readsDigits_5 rfl rfl ?_
    refine R_iload_n 8 dX7_readsDigits_7 rfl rfl ?_
    refine R_icmp_ge 11 56 dX7_readsDigits_8 rfl (by decide) (fun c => absurd c hc) (fun _ => ?_)
    refine R_aload_n 12 dX7_readsDigits_11 rfl rfl ?_
    refine R_callVi 15 (eX7_next hj.2.1) dX7_readsDigits_12 rfl kX7_next lX7_83 rfl rfl rfl rfl rfl rfl rfl ?_
    refine R_bipush 17 dX7_readsDigits_15 rfl (v := 48) (by decide) ?_
    refine R_bipush 19 dX7_readsDigits_17 rfl (v := 57) (by decide) ?_
    refine R_callSi 22 eX7_isIn dX7_readsDigits_19 rfl kX7_isIn lX7_87 rfl rfl rfl rfl rfl ?_
    refine R_ifb_ne 25 27 dX7_readsDigits_22 rfl (by decide) (fun c1 => ?_) (fun c1 => ?_)
    ·
      refine R_bipush 29 dX7_readsDigits_27 rfl (v := 10) (by decide) ?_
      refine R_iload_n 30 dX7_readsDigits_29 rfl rfl ?_
      refine R_imul 31 dX7_readsDigits_30 rfl ?_
      refine R_aload_n 32 dX7_readsDigits_31 rfl rfl ?_
      refine R_callVi 35 (eX7_next hj.2.1) dX7_readsDigits_32 rfl kX7_next lX7_83 rfl rfl rfl rfl rfl rfl rfl ?_
      refine R_iadd 36 dX7_readsDigits_35 rfl ?_
      refine R_bipush 38 dX7_readsDigits_36 rfl (v := 48) (by decide) ?_
      refine R_isub 39 dX7_readsDigits_38 rfl ?_
      refine R_istore_n 40 dX7_readsDigits_39 rfl rfl (by decide) (loc' := [(0, .ref 100), (1, .int p), (2, .int d), (3, .int (((10 * v) + (sX7_next f ar)) - 48)), (4, .int (nI a))]) rfl ?_
      refine R_aload_n 41 dX7_readsDigits_40 rfl rfl ?_
      refine R_dup 42 dX7_readsDigits_41 rfl rfl ?_
      refine R_get 45 dX7_readsDigits_42 rfl fX7_80 rfl (v := .int (f 18)) rfl ?_
      refine R_iconst 46 dX7_readsDigits_45 rfl (v := 1) (by decide) ?_
      refine R_iadd 47 dX7_readsDigits_46 rfl ?_
      refine R_nm2 (fun z1_ hz1_ => ?_)
      refine R_put 50 dX7_readsDigits_47 rfl wX7_80 rfl rfl rfl rfl (h2 := (h1, hM G (upd f 18 z1_) ar)) mp_18 ?_
      refine R_iinc 53 dX7_readsDigits_50 rfl rfl (v := (nI (a + 1))) (nI_1 a) rfl (by decide) (loc' := [(0, .ref 100), (1, .int p), (2, .int d), (3, .int (((10 * v) + (sX7_next f ar)) - 48)), (4, .int (nI (a + 1)))]) rfl ?_
      refine R_goto 5 dX7_readsDigits_53 (by decide) ?_
      subst hz1_
      refine R_pick [0, 1, 2, 3, 4] rfl ?_
      have e : stX7_readsDigits p a f ar v = .inr ((upd f 18 ((f 18) + 1)), ar, ((10 * v) + (sX7_next f ar)) - 48) := by unfold stX7_readsDigits; rw [if_pos c1]
      have e2 : (itX7_readsDigits p (j + 1) a f ar v) = (itX7_readsDigits p j (a + 1) (upd f 18 ((f 18) + 1)) ar (((10 * v) + (sX7_next f ar)) - 48)) := itX7_readsDigits_n e
      rw [e2]; exact ih (a + 1) (upd f 18 ((f 18) + 1)) ar (((10 * v) + (sX7_next f ar)) - 48) ⟨by omega, hj.2.1.s (by omega) (by omega), by omega⟩
    ·
      refine R_iconst 26 dX7_readsDigits_25 rfl (v := 0) (by decide) ?_
      refine R_ireturn dX7_readsDigits_26 rfl (by decide) ?_
      have e : stX7_readsDigits p a f ar v = .inl (false, f, ar) := by unfold stX7_readsDigits; rw [if_neg c1]
      have e2 : (itX7_readsDigits p (j + 1) a f ar v) = (false, f, ar) := itX7_readsDigits_r e
      rw [e2]; exact ⟨rfl, rfl⟩
def sX7_readsDigits (f : Nat → Int32) (ar : Nat → Nat → Int32) (p : Int32) (d : Int32) : Bool × (Nat → Int32) × (Nat → Nat → Int32) := (((itX7_readsDigits p d.toNatClampNeg 0 f ar 0).1), (itX7_readsDigits p d.toNatClampNeg 0 f ar 0).2.1, (itX7_readsDigits p d.toNatClampNeg 0 f ar 0).2.2)
set_option maxRecDepth 20000 in
theorem eX7_readsDigits {G : zG} {h1 : List va_E} {f : Nat → Int32} {ar : Nat → Nat → Int32} {p d : Int32} (hp : vp_in p 288) (hr : rB f 1000) (hd : d.toNatClampNeg ≤ 2) : EvF G mX7_readsDigits [.ref 100, .int p, .int d] (h1, hM G f ar) (some (.int (b2i ((sX7_readsDigits f ar p d).1)))) (h1, hM G ((sX7_readsDigits f ar p d).2.1) ((sX7_readsDigits f ar p d).2.2)) := by
  generalize hs : (sX7_readsDigits f ar p d) = zz
  refine EvF.of pnX7 rfl ?_
  refine R_iconst 1 dX7_readsDigits_0 rfl (v := 0) (by decide) ?_
  refine R_istore_n 2 dX7_readsDigits_1 rfl rfl (by decide) (loc' := [(0, .ref 100), (1, .int p), (2, .int d), (3, .int 0)]) rfl ?_
  refine R_iconst 3 dX7_readsDigits_2 rfl (v := 0) (by decide) ?_
  refine R_istore 5 dX7_readsDigits_3 rfl rfl (by decide) (loc' := [(0, .ref 100), (1, .int p), (2, .int d), (3, .int 0), (4, .int 0)]) rfl ?_
  refine R_pick [0, 1, 2, 3, 4] rfl ?_
  have e : zz = (((itX7_readsDigits p d.toNatClampNeg 0 f ar 0).1), (itX7_readsDigits p d.toNatClampNeg 0 f ar 0).2.1, (itX7_readsDigits p d.toNatClampNeg 0 f ar 0).2.2) := by rw [← hs]; unfold sX7_readsDigits; rfl
  rw [pr1 e, pr1 (pr2 e), pr2 (pr2 e)]; exact lpX7_readsDigits hp d.toNatClampNeg 0 f ar 0 ⟨Nat.zero_add _, hr, by omega⟩
/-- two digits, one digit, read off -/
theorem rd_1 (f : Nat → Int32) (ar : Nat → Nat → Int32) (p : Int32) : sX7_readsDigits f ar p 1 = if sX7_isIn (sX7_next f ar) 48 57 = true then (true, upd f 18 (f 18 + 1), up2 ar 16 (upd (ar 16) p.toNatClampNeg (((10 * 0) + (sX7_next f ar)) - 48))) else (false, f, ar) := by
  unfold sX7_readsDigits itX7_readsDigits
  rw [show (1 : Int32).toNatClampNeg = 1 by decide]
  simp only [itG]
  by_cases c : sX7_isIn (sX7_next f ar) 48 57 = true
  · rw [if_pos c]
    unfold stX7_readsDigits exX7_readsDigits
    simp only [if_pos c]
  · rw [if_neg c]
    unfold stX7_readsDigits
    simp only [if_neg c]
theorem rd_2 (f : Nat → Int32) (ar : Nat → Nat → Int32) (p : Int32) : sX7_readsDigits f ar p 2 = if sX7_isIn (sX7_next f ar) 48 57 = true then (if sX7_isIn (sX7_next (upd f 18 (f 18 + 1)) ar) 48 57 = true then (true, upd (upd f 18 (f 18 + 1)) 18 (f 18 + 1 + 1), up2 ar 16 (upd (ar 16) p.toNatClampNeg (((10 * (((10 * 0) + (sX7_next f ar)) - 48)) + (sX7_next (upd f 18 (f 18 + 1)) ar)) - 48))) else (false, upd f 18 (f 18 + 1), ar)) else (false, f, ar) := by
  unfold sX7_readsDigits itX7_readsDigits
  rw [show (2 : Int32).toNatClampNeg = 2 by decide]
  simp only [itG]
  by_cases c : sX7_isIn (sX7_next f ar) 48 57 = true
  · rw [if_pos c]
    have e : stX7_readsDigits p 0 f ar 0 = .inr (upd f 18 ((f 18) + 1), ar, ((10 * 0) + (sX7_next f ar)) - 48) := by
      unfold stX7_readsDigits
      rw [if_pos c]
    rw [e]
    by_cases c2 : sX7_isIn (sX7_next (upd f 18 (f 18 + 1)) ar) 48 57 = true
    · rw [if_pos c2]
      unfold stX7_readsDigits exX7_readsDigits
      simp only [if_pos c2]
      rfl
    · rw [if_neg c2]
      unfold stX7_readsDigits
      simp only [if_neg c2]
  · rw [if_neg c]
    unfold stX7_readsDigits
    simp only [if_neg c]
theorem rd1_rB {f : Nat → Int32} {ar : Nat → Nat → Int32} {p : Int32} {k : Int} (h : rB f k) (hk : k ≤ 1000) : rB (sX7_readsDigits f ar p 1).2.1 (k + 1) := by
  rw [rd_1]
  split
  · exact h.s (by omega) (by omega)
  · exact h.up (by omega)
theorem rd2_rB {f : Nat → Int32} {ar : Nat → Nat → Int32} {p : Int32} {k : Int} (h : rB f k) (hk : k ≤ 1000) : rB (sX7_readsDigits f ar p 2).2.1 (k + 2) := by
  rw [rd_2]
  split
  · split
    · exact (h.s (l := k + 1) (by omega) (by omega)).s (l := k + 2) (by omega) (by omega)
    · exact h.s (by omega) (by omega)
  · exact h.up (by omega)
theorem rd_rB {f : Nat → Int32} {ar : Nat → Nat → Int32} {p d : Int32} {k : Int} (hd : d = 1 ∨ d = 2) (h : rB f k) (hk : k ≤ 1000) : rB (sX7_readsDigits f ar p d).2.1 (k + 2) := by
  rcases hd with rfl | rfl
  · exact (rd1_rB h hk).up (by omega)
  · exact rd2_rB h hk
theorem pa_in {p : Int32} {a : Nat} (hp : 0 ≤ p.toInt ∧ p.toInt + 6 ≤ 288) (ha : a < 6) : vp_in (p + nI a) 288 := by
  rw [vp_in_iff, Int32.toInt_add, nI_toInt (by omega), Int.bmod_eq_of_le (by omega) (by omega)]
  omega
theorem pc_in {p c : Int32} (hp : 0 ≤ p.toInt ∧ p.toInt + 6 ≤ 288) (hc : 0 ≤ c.toInt ∧ c.toInt < 6) : vp_in (p + c) 288 := by
  rw [vp_in_iff, Int32.toInt_add, Int.bmod_eq_of_le (by omega) (by omega)]
  omega
theorem p0_in {p : Int32} (hp : 0 ≤ p.toInt ∧ p.toInt + 6 ≤ 288) : vp_in p 288 := by
  rw [vp_in_iff]
  omega
theorem d12 {d : Int32} (h : d = 1 ∨ d = 2) : d.toNatClampNeg ≤ 2 := by
  rcases h with rfl | rfl <;> decide
def sX7_readsSigned (f : Nat → Int32) (ar : Nat → Nat → Int32) (p : Int32) (d : Int32) : Bool × (Nat → Int32) × (Nat → Nat → Int32) := if (sX7_next f ar) = 43 then (if ((sX7_readsDigits (upd f 18 ((f 18) + 1)) ar p d).1) = true then (true, ((sX7_readsDigits (upd f 18 ((f 18) + 1)) ar p d).2.1), (up2 ((sX7_readsDigits (upd f 18 ((f 18) + 1)) ar p d).2.2) 16 (upd (((sX7_readsDigits (upd f 18 ((f 18) + 1)) ar p d).2.2) 16) p.toNatClampNeg (if (sX7_next f ar) = 45 then -(((sX7_readsDigits (upd f 18 ((f 18) + 1)) ar p d).2.2) 16 p.toNatClampNeg) else ((sX7_readsDigits (upd f 18 ((f 18) + 1)) ar p d).2.2) 16 p.toNatClampNeg)))) else (false, ((sX7_readsDigits (upd f 18 ((f 18) + 1)) ar p d).2.1), ((sX7_readsDigits (upd f 18 ((f 18) + 1)) ar p d).2.2))) else if (sX7_next f ar) = 45 then (if ((sX7_readsDigits (upd f 18 ((f 18) + 1)) ar p d).1) = true then (true, ((sX7_readsDigits (upd f 18 ((f 18) + 1)) ar p d).2.1), (up2 ((sX7_readsDigits (upd f 18 ((f 18) + 1)) ar p d).2.2) 16 (upd (((sX7_readsDigits (upd f 18 ((f 18) + 1)) ar p d).2.2) 16) p.toNatClampNeg (-(((sX7_readsDigits (upd f 18 ((f 18) + 1)) ar p d).2.2) 16 p.toNatClampNeg))))) else (false, ((sX7_readsDigits (upd f 18 ((f 18) + 1)) ar p d).2.1), ((sX7_readsDigits (upd f 18 ((f 18) + 1)) ar p d).2.2))) else (false, f, ar)
set_option maxRecDepth 20000 in
theorem eX7_readsSigned {G : zG} {h1 : List va_E} {f : Nat → Int32} {ar : Nat → Nat → Int32} {p d : Int32} (hp : vp_in p 288) (hr : rB f 990) (hd : d = 1 ∨ d = 2) : EvF G mX7_readsSigned [.ref 100, .int p, .int d] (h1, hM G f ar) (some (.int (b2i ((sX7_readsSigned f ar p d).1)))) (h1, hM G ((sX7_readsSigned f ar p d).2.1) ((sX7_readsSigned f ar p d).2.2)) := by
  generalize hs : (sX7_readsSigned f ar p d) = zz
  refine EvF.of pnX7 rfl ?_
  refine R_aload_n 1 dX7_readsSigned_0 rfl rfl ?_
  refine R_callVi 4 (eX7_next hr) dX7_readsSigned_1 rfl kX7_next lX7_83 rfl rfl rfl rfl rfl rfl rfl ?_
  refine R_istore_n 5 dX7_readsSigned_4 rfl rfl (by decide) (loc' := [(0, .ref 100), (1, .int p), (2, .int d), (3, .int (sX7_next f ar))]) rfl ?_
  refine R_iload_n 6 dX7_readsSigned_5 rfl rfl ?_
  refine R_bipush 8 dX7_readsSigned_6 rfl (v := 43) (by decide) ?_
  refine R_icmp_eq 11 19 dX7_readsSigned_8 rfl (by decide) (fun c1 => ?_) (fun c1 => ?_)
  ·
    refine R_aload_n 20 dX7_readsSigned_19 rfl rfl ?_
    refine R_dup 21 dX7_readsSigned_20 rfl rfl ?_
    refine R_get 24 dX7_readsSigned_21 rfl fX7_80 rfl (v := .int (f 18)) rfl ?_
    refine R_iconst 25 dX7_readsSigned_24 rfl (v := 1) (by decide) ?_
    refine R_iadd 26 dX7_readsSigned_25 rfl ?_
    refine R_nm2 (fun z1_ hz1_ => ?_)
    refine R_put 29 dX7_readsSigned_26 rfl wX7_80 rfl rfl rfl rfl (h2 := (h1, hM G (upd f 18 z1_) ar)) mp_18 ?_
    refine R_aload_n 30 dX7_readsSigned_29 rfl rfl ?_
    refine R_iload_n 31 dX7_readsSigned_30 rfl rfl ?_
    refine R_iload_n 32 dX7_readsSigned_31 rfl rfl ?_
    refine R_callVi 35 (eX7_readsDigits hp (hr.sz hz1_ (by decide) (by decide)) (d12 hd)) dX7_readsSigned_32 rfl kX7_readsDigits lX7_91 rfl rfl rfl rfl rfl rfl rfl ?_
    generalize hz2_ : (sX7_readsDigits (upd f 18 z1_) ar p d).2.1 = z2_
    generalize hz3_ : (sX7_readsDigits (upd f 18 z1_) ar p d).2.2 = z3_
    refine R_ifb_ne 38 40 dX7_readsSigned_35 rfl (by decide) (fun c2 => ?_) (fun c2 => ?_)
    ·
      refine R_aload_n 41 dX7_readsSigned_40 rfl rfl ?_
      refine R_get 44 dX7_readsSigned_41 rfl fX7_43 rfl (v := .ref 112) rfl ?_
      refine R_iload_n 45 dX7_readsSigned_44 rfl rfl ?_
      refine R_iload_n 46 dX7_readsSigned_45 rfl rfl ?_
      refine R_bipush 48 dX7_readsSigned_46 rfl (v := 45) (by decide) ?_
      refine R_cut 67 [(0, .ref 100), (1, .int p), (2, .int d), (3, .int (sX7_next f ar))] (.int (if (sX7_next f ar) = 45 then -(z3_ 16 p.toNatClampNeg) else z3_ 16 p.toNatClampNeg) :: [.int p, .ref 112]) (h1, hM G z2_ z3_) ?_ (fun kj => ?_)
      ·
        refine R_nm2 (fun z4_ hz4_ => ?_)
        refine R_iast 68 dX7_readsSigned_67 rfl rfl rfl hp (h2 := (h1, hM G z2_ (up2 z3_ 16 (upd (z3_ 16) p.toNatClampNeg z4_)))) ms_16 ?_
        refine R_iconst 69 dX7_readsSigned_68 rfl (v := 1) (by decide) ?_
        refine R_ireturn dX7_readsSigned_69 rfl (by decide) ?_
        subst hz1_ hz2_ hz3_ hz4_
        have e : zz = (true, ((sX7_readsDigits (upd f 18 ((f 18) + 1)) ar p d).2.1), (up2 ((sX7_readsDigits (upd f 18 ((f 18) + 1)) ar p d).2.2) 16 (upd (((sX7_readsDigits (upd f 18 ((f 18) + 1)) ar p d).2.2) 16) p.toNatClampNeg (if (sX7_next f ar) = 45 then -(((sX7_readsDigits (upd f 18 ((f 18) + 1)) ar p d).2.2) 16 p.toNatClampNeg) else ((sX7_readsDigits (upd f 18 ((f 18) + 1)) ar p d).2.2) 16 p.toNatClampNeg)))) := by rw [← hs]; unfold sX7_readsSigned; rw [if_pos c1, if_pos c2]
        rw [pr1 e, pr1 (pr2 e), pr2 (pr2 e)]; exact ⟨rfl, rfl⟩
      refine R_icmp_ne 51 61 dX7_readsSigned_48 rfl (by decide) (fun c3 => ?_) (fun c3 => ?_)
      · refine R_aload_n 62 dX7_readsSigned_61 rfl rfl ?_
        refine R_get 65 dX7_readsSigned_62 rfl fX7_43 rfl (v := .ref 112) rfl ?_
        refine R_iload_n 66 dX7_readsSigned_65 rfl rfl ?_
        refine R_iald 67 dX7_readsSigned_66 rfl rfl rfl hp ?_
        rw [if_neg c3] at kj; exact kj
      · refine R_aload_n 52 dX7_readsSigned_51 rfl rfl ?_
        refine R_get 55 dX7_readsSigned_52 rfl fX7_43 rfl (v := .ref 112) rfl ?_
        refine R_iload_n 56 dX7_readsSigned_55 rfl rfl ?_
        refine R_iald 57 dX7_readsSigned_56 rfl rfl rfl hp ?_
        refine R_ineg 58 dX7_readsSigned_57 rfl ?_
        refine R_goto 67 dX7_readsSigned_58 (by decide) ?_
        rw [if_pos c3] at kj; exact kj
    ·
      refine R_iconst 39 dX7_readsSigned_38 rfl (v := 0) (by decide) ?_
      refine R_ireturn dX7_readsSigned_39 rfl (by decide) ?_
      subst hz1_ hz2_ hz3_
      have e : zz = (false, ((sX7_readsDigits (upd f 18 ((f 18) + 1)) ar p d).2.1), ((sX7_readsDigits (upd f 18 ((f 18) + 1)) ar p d).2.2)) := by rw [← hs]; unfold sX7_readsSigned; rw [if_pos c1, if_neg c2]
      rw [pr1 e, pr1 (pr2 e), pr2 (pr2 e)]; exact ⟨rfl, rfl⟩
  ·
    refine R_iload_n 12 dX7_readsSigned_11 rfl rfl ?_
    refine R_bipush 14 dX7_readsSigned_12 rfl (v := 45) (by decide) ?_
    refine R_icmp_eq 17 19 dX7_readsSigned_14 rfl (by decide) (fun c4 => ?_) (fun c4 => ?_)
    ·
      refine R_aload_n 20 dX7_readsSigned_19 rfl rfl ?_
      refine R_dup 21 dX7_readsSigned_20 rfl rfl ?_
      refine R_get 24 dX7_readsSigned_21 rfl fX7_80 rfl (v := .int (f 18)) rfl ?_
      refine R_iconst 25 dX7_readsSigned_24 rfl (v := 1) (by decide) ?_
      refine R_iadd 26 dX7_readsSigned_25 rfl ?_
      refine R_nm2 (fun z5_ hz5_ => ?_)
      refine R_put 29 dX7_readsSigned_26 rfl wX7_80 rfl rfl rfl rfl (h2 := (h1, hM G (upd f 18 z5_) ar)) mp_18 ?_
      refine R_aload_n 30 dX7_readsSigned_29 rfl rfl ?_
      refine R_iload_n 31 dX7_readsSigned_30 rfl rfl ?_
      refine R_iload_n 32 dX7_readsSigned_31 rfl rfl ?_
      refine R_callVi 35 (eX7_readsDigits hp (hr.sz hz5_ (by decide) (by decide)) (d12 hd)) dX7_readsSigned_32 rfl kX7_readsDigits lX7_91 rfl rfl rfl rfl rfl rfl rfl ?_
      generalize hz6_ : (sX7_readsDigits (upd f 18 z5_) ar p d).2.1 = z6_
      generalize hz7_ : (sX7_readsDigits (upd f 18 z5_) ar p d).2.2 = z7_
      refine R_ifb_ne 38 40 dX7_readsSigned_35 rfl (by decide) (fun c5 => ?_) (fun c5 => ?_)
      ·
        refine R_aload_n 41 dX7_readsSigned_40 rfl rfl ?_
        refine R_get 44 dX7_readsSigned_41 rfl fX7_43 rfl (v := .ref 112) rfl ?_
        refine R_iload_n 45 dX7_readsSigned_44 rfl rfl ?_
        refine R_iload_n 46 dX7_readsSigned_45 rfl rfl ?_
        refine R_bipush 48 dX7_readsSigned_46 rfl (v := 45) (by decide) ?_
        refine R_icmp_ne 51 61 dX7_readsSigned_48 rfl (by decide) (fun c => absurd c4 c) (fun _ => ?_)
        refine R_aload_n 52 dX7_readsSigned_51 rfl rfl ?_
        refine R_get 55 dX7_readsSigned_52 rfl fX7_43 rfl (v := .ref 112) rfl ?_
        refine R_iload_n 56 dX7_readsSigned_55 rfl rfl ?_
        refine R_iald 57 dX7_readsSigned_56 rfl rfl rfl hp ?_
        refine R_ineg 58 dX7_readsSigned_57 rfl ?_
        refine R_goto 67 dX7_readsSigned_58 (by decide) ?_
        refine R_nm2 (fun z8_ hz8_ => ?_)
        refine R_iast 68 dX7_readsSigned_67 rfl rfl rfl hp (h2 := (h1, hM G z6_ (up2 z7_ 16 (upd (z7_ 16) p.toNatClampNeg z8_)))) ms_16 ?_
        refine R_iconst 69 dX7_readsSigned_68 rfl (v := 1) (by decide) ?_
        refine R_ireturn dX7_readsSigned_69 rfl (by decide) ?_
        subst hz5_ hz6_ hz7_ hz8_
        have e : zz = (true, ((sX7_readsDigits (upd f 18 ((f 18) + 1)) ar p d).2.1), (up2 ((sX7_readsDigits (upd f 18 ((f 18) + 1)) ar p d).2.2) 16 (upd (((sX7_readsDigits (upd f 18 ((f 18) + 1)) ar p d).2.2) 16) p.toNatClampNeg (-(((sX7_readsDigits (upd f 18 ((f 18) + 1)) ar p d).2.2) 16 p.toNatClampNeg))))) := by rw [← hs]; unfold sX7_readsSigned; rw [if_neg c1, if_pos c4, if_pos c5]
        rw [pr1 e, pr1 (pr2 e), pr2 (pr2 e)]; exact ⟨rfl, rfl⟩
      ·
        refine R_iconst 39 dX7_readsSigned_38 rfl (v := 0) (by decide) ?_
        refine R_ireturn dX7_readsSigned_39 rfl (by decide) ?_
        subst hz5_ hz6_ hz7_
        have e : zz = (false, ((sX7_readsDigits (upd f 18 ((f 18) + 1)) ar p d).2.1), ((sX7_readsDigits (upd f 18 ((f 18) + 1)) ar p d).2.2)) := by rw [← hs]; unfold sX7_readsSigned; rw [if_neg c1, if_pos c4, if_neg c5]
        rw [pr1 e, pr1 (pr2 e), pr2 (pr2 e)]; exact ⟨rfl, rfl⟩
    ·
      refine R_iconst 18 dX7_readsSigned_17 rfl (v := 0) (by decide) ?_
      refine R_ireturn dX7_readsSigned_18 rfl (by decide) ?_
      have e : zz = (false, f, ar) := by rw [← hs]; unfold sX7_readsSigned; rw [if_neg c1, if_neg c4]
      rw [pr1 e, pr1 (pr2 e), pr2 (pr2 e)]; exact ⟨rfl, rfl⟩
def sX7_readsKind (f : Nat → Int32) (ar : Nat → Nat → Int32) (p : Int32) (is : Int32) : Bool × (Nat → Int32) × (Nat → Nat → Int32) := if 0 ≤ is then (true, (upd f 18 ((f 18) + 1)), (up2 ar 16 (upd (ar 16) p.toNatClampNeg is))) else (false, f, ar)
set_option maxRecDepth 20000 in
theorem eX7_readsKind {G : zG} {h1 : List va_E} {f : Nat → Int32} {ar : Nat → Nat → Int32} {p is : Int32} (hp : vp_in p 288) : EvF G mX7_readsKind [.ref 100, .int p, .int is] (h1, hM G f ar) (some (.int (b2i ((sX7_readsKind f ar p is).1)))) (h1, hM G ((sX7_readsKind f ar p is).2.1) ((sX7_readsKind f ar p is).2.2)) := by
  generalize hs : (sX7_readsKind f ar p is) = zz
  refine EvF.of pnX7 rfl ?_
  refine R_iload_n 1 dX7_readsKind_0 rfl rfl ?_
  refine R_if_ge 4 6 dX7_readsKind_1 rfl (by decide) (fun c1 => ?_) (fun c1 => ?_)
  ·
    refine R_aload_n 7 dX7_readsKind_6 rfl rfl ?_
    refine R_get 10 dX7_readsKind_7 rfl fX7_43 rfl (v := .ref 112) rfl ?_
    refine R_iload_n 11 dX7_readsKind_10 rfl rfl ?_
    refine R_iload_n 12 dX7_readsKind_11 rfl rfl ?_
    refine R_iast 13 dX7_readsKind_12 rfl rfl rfl hp (h2 := (h1, hM G f (up2 ar 16 (upd (ar 16) p.toNatClampNeg is)))) ms_16 ?_
    refine R_aload_n 14 dX7_readsKind_13 rfl rfl ?_
    refine R_dup 15 dX7_readsKind_14 rfl rfl ?_
    refine R_get 18 dX7_readsKind_15 rfl fX7_80 rfl (v := .int (f 18)) rfl ?_
    refine R_iconst 19 dX7_readsKind_18 rfl (v := 1) (by decide) ?_
    refine R_iadd 20 dX7_readsKind_19 rfl ?_
    refine R_nm2 (fun z1_ hz1_ => ?_)
    refine R_put 23 dX7_readsKind_20 rfl wX7_80 rfl rfl rfl rfl (h2 := (h1, hM G (upd f 18 z1_) (up2 ar 16 (upd (ar 16) p.toNatClampNeg is)))) mp_18 ?_
    refine R_iconst 24 dX7_readsKind_23 rfl (v := 1) (by decide) ?_
    refine R_ireturn dX7_readsKind_24 rfl (by decide) ?_
    subst hz1_
    have e : zz = (true, (upd f 18 ((f 18) + 1)), (up2 ar 16 (upd (ar 16) p.toNatClampNeg is))) := by rw [← hs]; unfold sX7_readsKind; rw [if_pos c1]
    rw [pr1 e, pr1 (pr2 e), pr2 (pr2 e)]; exact ⟨rfl, rfl⟩
  ·
    refine R_iconst 5 dX7_readsKind_4 rfl (v := 0) (by decide) ?_
    refine R_ireturn dX7_readsKind_5 rfl (by decide) ?_
    have e : zz = (false, f, ar) := by rw [← hs]; unfold sX7_readsKind; rw [if_neg c1]
    rw [pr1 e, pr1 (pr2 e), pr2 (pr2 e)]; exact ⟨rfl, rfl⟩
theorem rk_rB {f : Nat → Int32} {ar : Nat → Nat → Int32} {p is : Int32} {k : Int} (h : rB f k) (hk : k ≤ 2000) : rB (sX7_readsKind f ar p is).2.1 (k + 1) := by
  unfold sX7_readsKind
  split
  · exact h.s hk (by omega)
  · exact h.up (by omega)
theorem rs_rB {f : Nat → Int32} {ar : Nat → Nat → Int32} {p d : Int32} {k : Int} (hd : d = 1 ∨ d = 2) (h : rB f k) (hk : k ≤ 990) : rB (sX7_readsSigned f ar p d).2.1 (k + 3) := by
  have e : rB (upd f 18 (f 18 + 1)) (k + 1) := h.s (by omega) (by omega)
  have e2 : rB (sX7_readsDigits (upd f 18 (f 18 + 1)) ar p d).2.1 (k + 3) := (rd_rB hd e (by omega)).up (by omega)
  unfold sX7_readsSigned
  repeat' split
  all_goals first | exact e2 | exact h.up (by omega)
def exX7_readsPerson (p : Int32) (a : Nat) (f : Nat → Int32) (ar : Nat → Nat → Int32) : Bool × (Nat → Int32) × (Nat → Nat → Int32) := (true, f, ar)
def stX7_readsPerson (p : Int32) (a : Nat) (f : Nat → Int32) (ar : Nat → Nat → Int32) : (Bool × (Nat → Int32) × (Nat → Nat → Int32)) ⊕ ((Nat → Int32) × (Nat → Nat → Int32)) := if ((sX7_readsDigits f ar (p + (nI a)) 1).1) = true then .inr (((sX7_readsDigits f ar (p + (nI a)) 1).2.1), ((sX7_readsDigits f ar (p + (nI a)) 1).2.2)) else .inl (false, ((sX7_readsDigits f ar (p + (nI a)) 1).2.1), ((sX7_readsDigits f ar (p + (nI a)) 1).2.2))
def itX7_readsPerson (p : Int32) (j a : Nat) (f : Nat → Int32) (ar : Nat → Nat → Int32) : Bool × (Nat → Int32) × (Nat → Nat → Int32) := itG (fun a (s : (Nat → Int32) × (Nat → Nat → Int32)) => exX7_readsPerson p a s.1 s.2) (fun a (s : (Nat → Int32) × (Nat → Nat → Int32)) => stX7_readsPerson p a s.1 s.2) j a (f, ar)
theorem itX7_readsPerson_r {p : Int32} {j a : Nat} {f : Nat → Int32} {ar : Nat → Nat → Int32} {r : Bool × (Nat → Int32) × (Nat → Nat → Int32)} (e : stX7_readsPerson p a f ar = .inl r) : (itX7_readsPerson p (j + 1) a f ar) = r := itG_r (st := fun a (s : (Nat → Int32) × (Nat → Nat → Int32)) => stX7_readsPerson p a s.1 s.2) (s := (f, ar)) e
theorem itX7_readsPerson_n {p : Int32} {j a : Nat} {f : Nat → Int32} {ar : Nat → Nat → Int32} {s0_ : Nat → Int32} {s1_ : Nat → Nat → Int32} (e : stX7_readsPerson p a f ar = .inr (s0_, s1_)) : (itX7_readsPerson p (j + 1) a f ar) = (itX7_readsPerson p j (a + 1) s0_ s1_) := itG_n (st := fun a (s : (Nat → Int32) × (Nat → Nat → Int32)) => stX7_readsPerson p a s.1 s.2) (s := (f, ar)) (s1 := (s0_, s1_)) e
set_option maxRecDepth 20000 in
theorem lpX7_readsPerson {G : zG} {h1 : List va_E} {p : Int32} (hp : 0 ≤ p.toInt ∧ p.toInt + 6 ≤ 288) : ∀ (j a : Nat) (f : Nat → Int32) (ar : Nat → Nat → Int32), (a + j = 6 ∧ rB f (900 + (a : Int))) → R G mX7_readsPerson 19 [(0, .ref 100), (1, .int p), (2, .int (nI a))] [] (h1, hM G f ar) (fun r0 h0 => r0 = some (.int (b2i ((itX7_readsPerson p j a f ar).1))) ∧ h0 = (h1, hM G ((itX7_readsPerson p j a f ar).2.1) ((itX7_readsPerson p j a f ar).2.2))) := by
  intro j
  induction j with
  | zero =>
    intro a f ar hj
    have hc : (6 : Int32) ≤ nI a := by show nI 6 ≤ nI a; exact nI_le (by omega) (by omega)
    refine R_iload_n 20 dX7_readsPerson_19 rfl rfl ?_
    refine R_bipush 22 dX7_readsPerson_20 rfl (v := 6) (by decide) ?_
    refine R_icmp_ge 25 44 dX7_readsPerson_22 rfl (by decide) (fun _ => ?_) (fun c => absurd hc c)
    refine R_iconst 45 dX7_readsPerson_44 rfl (v := 1) (by decide) ?_
    refine R_ireturn dX7_readsPerson_45 rfl (by decide) ?_
    have e : (itX7_readsPerson p 0 a f ar) = (true, f, ar) := rfl
    rw [e]; exact ⟨rfl, rfl⟩
  | succ j ih =>
    intro a f ar hj
    have hc : ¬ (6 : Int32) ≤ nI a := by show ¬ nI 6 ≤ nI a; exact nI_ge (by omega) (by omega)
    refine R_iload_n 20 dX7_readsPerson_19 rfl rfl ?_
    refine R_bipush 22 dX7_readsPerson_20 rfl (v := 6) (by decide) ?_
    refine R_icmp_ge 25 44 dX7_readsPerson_22 rfl (by decide) (fun c => absurd c hc) (fun _ => ?_)
    refine R_aload_n 26 dX7_readsPerson_25 rfl rfl ?_
    refine R_iload_n 27 dX7_readsPerson_26 rfl rfl ?_
    refine R_iload_n 28 dX7_readsPerson_27 rfl rfl ?_
    refine R_iadd 29 dX7_readsPerson_28 rfl ?_
    refine R_iconst 30 dX7_readsPerson_29 rfl (v := 1) (by decide) ?_
    refine R_callVi 33 (eX7_readsDigits (pa_in hp (by omega)) (hj.2.up (by omega)) (by decide)) dX7_readsPerson_30 rfl kX7_readsDigits lX7_91 rfl rfl rfl rfl rfl rfl rfl ?_
    generalize hz1_ : (sX7_readsDigits f ar (p + (nI a)) 1).2.1 = z1_
    generalize hz2_ : (sX7_readsDigits f ar (p + (nI a)) 1).2.2 = z2_
    refine R_ifb_ne 36 38 dX7_readsPerson_33 rfl (by decide) (fun c1 => ?_) (fun c1 => ?_)
    ·
      refine R_iinc 41 dX7_readsPerson_38 rfl rfl (v := (nI (a + 1))) (nI_1 a) rfl (by decide) (loc' := [(0, .ref 100), (1, .int p), (2, .int (nI (a + 1)))]) rfl ?_
      refine R_goto 19 dX7_readsPerson_41 (by decide) ?_
      subst hz1_ hz2_
      refine R_pick [0, 1, 2] rfl ?_
      have e : stX7_readsPerson p a f ar = .inr (((sX7_readsDigits f ar (p + (nI a)) 1).2.1), ((sX7_readsDigits f ar (p + (nI a)) 1).2.2)) := by unfold stX7_readsPerson; rw [if_pos c1]
      have e2 : (itX7_readsPerson p (j + 1) a f ar) = (itX7_readsPerson p j (a + 1) ((sX7_readsDigits f ar (p + (nI a)) 1).2.1) ((sX7_readsDigits f ar (p + (nI a)) 1).2.2)) := itX7_readsPerson_n e
      rw [e2]; exact ih (a + 1) ((sX7_readsDigits f ar (p + (nI a)) 1).2.1) ((sX7_readsDigits f ar (p + (nI a)) 1).2.2) ⟨by omega, (rd1_rB hj.2 (by omega)).up (by omega)⟩
    ·
      refine R_iconst 37 dX7_readsPerson_36 rfl (v := 0) (by decide) ?_
      refine R_ireturn dX7_readsPerson_37 rfl (by decide) ?_
      subst hz1_ hz2_
      have e : stX7_readsPerson p a f ar = .inl (false, ((sX7_readsDigits f ar (p + (nI a)) 1).2.1), ((sX7_readsDigits f ar (p + (nI a)) 1).2.2)) := by unfold stX7_readsPerson; rw [if_neg c1]
      have e2 : (itX7_readsPerson p (j + 1) a f ar) = (false, ((sX7_readsDigits f ar (p + (nI a)) 1).2.1), ((sX7_readsDigits f ar (p + (nI a)) 1).2.2)) := itX7_readsPerson_r e
      rw [e2]; exact ⟨rfl, rfl⟩
def sX7_readsPerson (f : Nat → Int32) (ar : Nat → Nat → Int32) (p : Int32) : Bool × (Nat → Int32) × (Nat → Nat → Int32) := if ((sX7_readsKind f ar p (sX7_personOf (sX7_next f ar))).1) = true then (((itX7_readsPerson p 5 1 ((sX7_readsKind f ar p (sX7_personOf (sX7_next f ar))).2.1) ((sX7_readsKind f ar p (sX7_personOf (sX7_next f ar))).2.2)).1), (itX7_readsPerson p 5 1 ((sX7_readsKind f ar p (sX7_personOf (sX7_next f ar))).2.1) ((sX7_readsKind f ar p (sX7_personOf (sX7_next f ar))).2.2)).2.1, (itX7_readsPerson p 5 1 ((sX7_readsKind f ar p (sX7_personOf (sX7_next f ar))).2.1) ((sX7_readsKind f ar p (sX7_personOf (sX7_next f ar))).2.2)).2.2) else (false, ((sX7_readsKind f ar p (sX7_personOf (sX7_next f ar))).2.1), ((sX7_readsKind f ar p (sX7_personOf (sX7_next f ar))).2.2))
set_option maxRecDepth 20000 in
theorem eX7_readsPerson {G : zG} {h1 : List va_E} {f : Nat → Int32} {ar : Nat → Nat → Int32} {p : Int32} (hp : 0 ≤ p.toInt ∧ p.toInt + 6 ≤ 288) (hr : rB f 900) : EvF G mX7_readsPerson [.ref 100, .int p] (h1, hM G f ar) (some (.int (b2i ((sX7_readsPerson f ar p).1)))) (h1, hM G ((sX7_readsPerson f ar p).2.1) ((sX7_readsPerson f ar p).2.2)) := by
  generalize hs : (sX7_readsPerson f ar p) = zz
  refine EvF.of pnX7 rfl ?_
  refine R_aload_n 1 dX7_readsPerson_0 rfl rfl ?_
  refine R_iload_n 2 dX7_readsPerson_1 rfl rfl ?_
  refine R_aload_n 3 dX7_readsPerson_2 rfl rfl ?_
  refine R_callVi 6 (eX7_next hr) dX7_readsPerson_3 rfl kX7_next lX7_83 rfl rfl rfl rfl rfl rfl rfl ?_
  refine R_callSi 9 eX7_personOf dX7_readsPerson_6 rfl kX7_personOf lX7_95 rfl rfl rfl rfl rfl ?_
  refine R_callVi 12 (eX7_readsKind (p0_in hp)) dX7_readsPerson_9 rfl kX7_readsKind lX7_98 rfl rfl rfl rfl rfl rfl rfl ?_
  generalize hz1_ : (sX7_readsKind f ar p (sX7_personOf (sX7_next f ar))).2.1 = z1_
  generalize hz2_ : (sX7_readsKind f ar p (sX7_personOf (sX7_next f ar))).2.2 = z2_
  refine R_ifb_ne 15 17 dX7_readsPerson_12 rfl (by decide) (fun c1 => ?_) (fun c1 => ?_)
  ·
    refine R_iconst 18 dX7_readsPerson_17 rfl (v := 1) (by decide) ?_
    refine R_istore_n 19 dX7_readsPerson_18 rfl rfl (by decide) (loc' := [(0, .ref 100), (1, .int p), (2, .int 1)]) rfl ?_
    subst hz1_ hz2_
    refine R_pick [0, 1, 2] rfl ?_
    have e : zz = (((itX7_readsPerson p 5 1 ((sX7_readsKind f ar p (sX7_personOf (sX7_next f ar))).2.1) ((sX7_readsKind f ar p (sX7_personOf (sX7_next f ar))).2.2)).1), (itX7_readsPerson p 5 1 ((sX7_readsKind f ar p (sX7_personOf (sX7_next f ar))).2.1) ((sX7_readsKind f ar p (sX7_personOf (sX7_next f ar))).2.2)).2.1, (itX7_readsPerson p 5 1 ((sX7_readsKind f ar p (sX7_personOf (sX7_next f ar))).2.1) ((sX7_readsKind f ar p (sX7_personOf (sX7_next f ar))).2.2)).2.2) := by rw [← hs]; unfold sX7_readsPerson; rw [if_pos c1]
    rw [pr1 e, pr1 (pr2 e), pr2 (pr2 e)]; exact lpX7_readsPerson hp 5 1 ((sX7_readsKind f ar p (sX7_personOf (sX7_next f ar))).2.1) ((sX7_readsKind f ar p (sX7_personOf (sX7_next f ar))).2.2) ⟨rfl, rk_rB hr (by decide)⟩
  ·
    refine R_iconst 16 dX7_readsPerson_15 rfl (v := 0) (by decide) ?_
    refine R_ireturn dX7_readsPerson_16 rfl (by decide) ?_
    subst hz1_ hz2_
    have e : zz = (false, ((sX7_readsKind f ar p (sX7_personOf (sX7_next f ar))).2.1), ((sX7_readsKind f ar p (sX7_personOf (sX7_next f ar))).2.2)) := by rw [← hs]; unfold sX7_readsPerson; rw [if_neg c1]
    rw [pr1 e, pr1 (pr2 e), pr2 (pr2 e)]; exact ⟨rfl, rfl⟩
theorem rp_it : ∀ (j a : Nat) (p : Int32) (f : Nat → Int32) (ar : Nat → Nat → Int32) (k : Int), rB f k → k + (j : Int) ≤ 950 → rB (itX7_readsPerson p j a f ar).2.1 (k + (j : Int))
  | 0, a, p, f, ar, k, h, hk => h.up (by omega)
  | j + 1, a, p, f, ar, k, h, hk => by
    have h1 := rd1_rB (ar := ar) (p := p + nI a) h (by omega)
    cases e : stX7_readsPerson p a f ar with
    | inl r =>
      rw [itX7_readsPerson_r e]
      unfold stX7_readsPerson at e
      split at e
      · cases e
      · cases e
        exact h1.up (by omega)
    | inr s =>
      obtain ⟨f1, a1⟩ := s
      rw [itX7_readsPerson_n e]
      unfold stX7_readsPerson at e
      split at e
      · cases e
        exact (rp_it j (a + 1) p _ _ (k + 1) h1 (by omega)).up (by omega)
      · cases e
theorem rp_rB {f : Nat → Int32} {ar : Nat → Nat → Int32} {p : Int32} {k : Int} (h : rB f k) (hk : k ≤ 900) : rB (sX7_readsPerson f ar p).2.1 (k + 6) := by
  have h1 := rk_rB (ar := ar) (p := p) (is := sX7_personOf (sX7_next f ar)) h (by omega)
  have h2 := rp_it 5 1 p (sX7_readsKind f ar p (sX7_personOf (sX7_next f ar))).2.1 (sX7_readsKind f ar p (sX7_personOf (sX7_next f ar))).2.2 (k + 1) h1 (by omega)
  unfold sX7_readsPerson
  by_cases c : (sX7_readsKind f ar p (sX7_personOf (sX7_next f ar))).1 = true
  · rw [if_pos c]
    exact h2.up (by omega)
  · rw [if_neg c]
    exact h1.up (by omega)
theorem kd_z {f z : Nat → Int32} {ar : Nat → Nat → Int32} {p is : Int32} {k : Int} (e : (sX7_readsKind f ar p is).2.1 = z) (h : rB f k) (hk : k ≤ 1000) : rB z (k + 2) := by
  rw [← e]
  exact (rk_rB h (by omega)).up (by omega)
theorem rd_z {f z : Nat → Int32} {ar : Nat → Nat → Int32} {p d : Int32} {k : Int} (e : (sX7_readsDigits f ar p d).2.1 = z) (hd : d = 1 ∨ d = 2) (h : rB f k) (hk : k ≤ 1000) : rB z (k + 2) := by
  rw [← e]
  exact rd_rB hd h hk
def sX7_readsAll (f : Nat → Int32) (ar : Nat → Nat → Int32) (b : Int32) (p : Int32) : Bool × (Nat → Int32) × (Nat → Nat → Int32) := if b = 100 then (if ((sX7_readsKind f ar p (sX7_driftOf (sX7_next f ar))).1) = true then (decide (((sX7_readsSigned ((sX7_readsKind f ar p (sX7_driftOf (sX7_next f ar))).2.1) ((sX7_readsKind f ar p (sX7_driftOf (sX7_next f ar))).2.2) (p + 1) 1).1) = true), ((sX7_readsSigned ((sX7_readsKind f ar p (sX7_driftOf (sX7_next f ar))).2.1) ((sX7_readsKind f ar p (sX7_driftOf (sX7_next f ar))).2.2) (p + 1) 1).2.1), ((sX7_readsSigned ((sX7_readsKind f ar p (sX7_driftOf (sX7_next f ar))).2.1) ((sX7_readsKind f ar p (sX7_driftOf (sX7_next f ar))).2.2) (p + 1) 1).2.2)) else (false, ((sX7_readsKind f ar p (sX7_driftOf (sX7_next f ar))).2.1), ((sX7_readsKind f ar p (sX7_driftOf (sX7_next f ar))).2.2))) else if b = 112 then (((sX7_readsPerson f ar p).1), ((sX7_readsPerson f ar p).2.1), ((sX7_readsPerson f ar p).2.2)) else if b = 114 then (if ((sX7_readsKind f ar p (sX7_ruleOf (sX7_next f ar))).1) = true then (if ((sX7_readsDigits ((sX7_readsKind f ar p (sX7_ruleOf (sX7_next f ar))).2.1) ((sX7_readsKind f ar p (sX7_ruleOf (sX7_next f ar))).2.2) (p + 1) 2).1) = true then (decide (((sX7_readsDigits ((sX7_readsDigits ((sX7_readsKind f ar p (sX7_ruleOf (sX7_next f ar))).2.1) ((sX7_readsKind f ar p (sX7_ruleOf (sX7_next f ar))).2.2) (p + 1) 2).2.1) ((sX7_readsDigits ((sX7_readsKind f ar p (sX7_ruleOf (sX7_next f ar))).2.1) ((sX7_readsKind f ar p (sX7_ruleOf (sX7_next f ar))).2.2) (p + 1) 2).2.2) (p + 2) 1).1) = true), ((sX7_readsDigits ((sX7_readsDigits ((sX7_readsKind f ar p (sX7_ruleOf (sX7_next f ar))).2.1) ((sX7_readsKind f ar p (sX7_ruleOf (sX7_next f ar))).2.2) (p + 1) 2).2.1) ((sX7_readsDigits ((sX7_readsKind f ar p (sX7_ruleOf (sX7_next f ar))).2.1) ((sX7_readsKind f ar p (sX7_ruleOf (sX7_next f ar))).2.2) (p + 1) 2).2.2) (p + 2) 1).2.1), ((sX7_readsDigits ((sX7_readsDigits ((sX7_readsKind f ar p (sX7_ruleOf (sX7_next f ar))).2.1) ((sX7_readsKind f ar p (sX7_ruleOf (sX7_next f ar))).2.2) (p + 1) 2).2.1) ((sX7_readsDigits ((sX7_readsKind f ar p (sX7_ruleOf (sX7_next f ar))).2.1) ((sX7_readsKind f ar p (sX7_ruleOf (sX7_next f ar))).2.2) (p + 1) 2).2.2) (p + 2) 1).2.2)) else (false, ((sX7_readsDigits ((sX7_readsKind f ar p (sX7_ruleOf (sX7_next f ar))).2.1) ((sX7_readsKind f ar p (sX7_ruleOf (sX7_next f ar))).2.2) (p + 1) 2).2.1), ((sX7_readsDigits ((sX7_readsKind f ar p (sX7_ruleOf (sX7_next f ar))).2.1) ((sX7_readsKind f ar p (sX7_ruleOf (sX7_next f ar))).2.2) (p + 1) 2).2.2))) else (false, ((sX7_readsKind f ar p (sX7_ruleOf (sX7_next f ar))).2.1), ((sX7_readsKind f ar p (sX7_ruleOf (sX7_next f ar))).2.2))) else if b = 115 then (if ((sX7_readsDigits f ar p 1).1) = true then (decide (((sX7_readsSigned ((sX7_readsDigits f ar p 1).2.1) ((sX7_readsDigits f ar p 1).2.2) (p + 1) 2).1) = true), ((sX7_readsSigned ((sX7_readsDigits f ar p 1).2.1) ((sX7_readsDigits f ar p 1).2.2) (p + 1) 2).2.1), ((sX7_readsSigned ((sX7_readsDigits f ar p 1).2.1) ((sX7_readsDigits f ar p 1).2.2) (p + 1) 2).2.2)) else (false, ((sX7_readsDigits f ar p 1).2.1), ((sX7_readsDigits f ar p 1).2.2))) else if b = 119 then (((sX7_readsSigned f ar p 2).1), ((sX7_readsSigned f ar p 2).2.1), ((sX7_readsSigned f ar p 2).2.2)) else (((sX7_readsDigits f ar p 2).1), ((sX7_readsDigits f ar p 2).2.1), ((sX7_readsDigits f ar p 2).2.2))
set_option maxRecDepth 20000 in
theorem eX7_readsAll {G : zG} {h1 : List va_E} {f : Nat → Int32} {ar : Nat → Nat → Int32} {b p : Int32} (hp : 0 ≤ p.toInt ∧ p.toInt + 6 ≤ 288) (hr : rB f 800) : EvF G mX7_readsAll [.ref 100, .int b, .int p] (h1, hM G f ar) (some (.int (b2i ((sX7_readsAll f ar b p).1)))) (h1, hM G ((sX7_readsAll f ar b p).2.1) ((sX7_readsAll f ar b p).2.2)) := by
  generalize hs : (sX7_readsAll f ar b p) = zz
  refine EvF.of pnX7 rfl ?_
  refine R_iload_n 1 dX7_readsAll_0 rfl rfl ?_
  by_cases c1 : b = 100
  ·
    refine R_lookAt 91 (off := 90) 100 c1 dX7_readsAll_1 (by decide) (by decide) ?_
    refine R_aload_n 92 dX7_readsAll_91 rfl rfl ?_
    refine R_iload_n 93 dX7_readsAll_92 rfl rfl ?_
    refine R_aload_n 94 dX7_readsAll_93 rfl rfl ?_
    refine R_callVi 97 (eX7_next hr) dX7_readsAll_94 rfl kX7_next lX7_83 rfl rfl rfl rfl rfl rfl rfl ?_
    refine R_callSi 100 eX7_driftOf dX7_readsAll_97 rfl kX7_driftOf lX7_108 rfl rfl rfl rfl rfl ?_
    refine R_callVi 103 (eX7_readsKind (p0_in hp)) dX7_readsAll_100 rfl kX7_readsKind lX7_98 rfl rfl rfl rfl rfl rfl rfl ?_
    generalize hz1_ : (sX7_readsKind f ar p (sX7_driftOf (sX7_next f ar))).2.1 = z1_
    generalize hz2_ : (sX7_readsKind f ar p (sX7_driftOf (sX7_next f ar))).2.2 = z2_
    refine R_ifb_eq 106 121 dX7_readsAll_103 rfl (by decide) (fun c2 => ?_) (fun c2 => ?_)
    ·
      refine R_iconst 122 dX7_readsAll_121 rfl (v := 0) (by decide) ?_
      refine R_ireturn dX7_readsAll_122 rfl (by decide) ?_
      subst hz1_ hz2_
      have e : zz = (false, ((sX7_readsKind f ar p (sX7_driftOf (sX7_next f ar))).2.1), ((sX7_readsKind f ar p (sX7_driftOf (sX7_next f ar))).2.2)) := by rw [← hs]; unfold sX7_readsAll; rw [if_pos c1, if_neg c2]
      rw [pr1 e, pr1 (pr2 e), pr2 (pr2 e)]; exact ⟨rfl, rfl⟩
    ·
      refine R_aload_n 107 dX7_readsAll_106 rfl rfl ?_
      refine R_iload_n 108 dX7_readsAll_107 rfl rfl ?_
      refine R_iconst 109 dX7_readsAll_108 rfl (v := 1) (by decide) ?_
      refine R_iadd 110 dX7_readsAll_109 rfl ?_
      refine R_iconst 111 dX7_readsAll_110 rfl (v := 1) (by decide) ?_
      refine R_callVi 114 (eX7_readsSigned (pc_in (c := 1) hp (by decide)) ((by first | exact (kd_z hz1_ hr (by decide)).up (by decide) | exact (rd_z hz1_ (by decide) hr (by decide)).up (by decide))) (by decide)) dX7_readsAll_111 rfl kX7_readsSigned lX7_105 rfl rfl rfl rfl rfl rfl rfl ?_
      generalize hz3_ : (sX7_readsSigned z1_ z2_ (p + 1) 1).2.1 = z3_
      generalize hz4_ : (sX7_readsSigned z1_ z2_ (p + 1) 1).2.2 = z4_
      refine R_cut 122 [(0, .ref 100), (1, .int b), (2, .int p)] (.int (b2i (decide (((sX7_readsSigned z1_ z2_ (p + 1) 1).1) = true))) :: []) (h1, hM G z3_ z4_) ?_ (fun kj => ?_)
      ·
        refine R_ireturn dX7_readsAll_122 rfl (nar_b _) ?_
        subst hz1_ hz2_ hz3_ hz4_
        have e : zz = (decide (((sX7_readsSigned ((sX7_readsKind f ar p (sX7_driftOf (sX7_next f ar))).2.1) ((sX7_readsKind f ar p (sX7_driftOf (sX7_next f ar))).2.2) (p + 1) 1).1) = true), ((sX7_readsSigned ((sX7_readsKind f ar p (sX7_driftOf (sX7_next f ar))).2.1) ((sX7_readsKind f ar p (sX7_driftOf (sX7_next f ar))).2.2) (p + 1) 1).2.1), ((sX7_readsSigned ((sX7_readsKind f ar p (sX7_driftOf (sX7_next f ar))).2.1) ((sX7_readsKind f ar p (sX7_driftOf (sX7_next f ar))).2.2) (p + 1) 1).2.2)) := by rw [← hs]; unfold sX7_readsAll; rw [if_pos c1, if_pos c2]
        rw [pr1 e, pr1 (pr2 e), pr2 (pr2 e)]; exact ⟨rfl, rfl⟩
      refine R_ifb_eq 117 121 dX7_readsAll_114 rfl (by decide) (fun c3 => ?_) (fun c3 => ?_)
      · refine R_iconst 122 dX7_readsAll_121 rfl (v := 0) (by decide) ?_
        rw [b2i_n c3] at kj; exact kj
      · refine R_iconst 118 dX7_readsAll_117 rfl (v := 1) (by decide) ?_
        refine R_goto 122 dX7_readsAll_118 (by decide) ?_
        rw [b2i_p c3] at kj; exact kj
  by_cases c4 : b = 112
  ·
    refine R_lookAt 52 (off := 51) 112 c4 dX7_readsAll_1 (by decide) (by decide) ?_
    refine R_aload_n 53 dX7_readsAll_52 rfl rfl ?_
    refine R_iload_n 54 dX7_readsAll_53 rfl rfl ?_
    refine R_callVi 57 (eX7_readsPerson hp (hr.up (by decide))) dX7_readsAll_54 rfl kX7_readsPerson lX7_101 rfl rfl rfl rfl rfl rfl rfl ?_
    generalize hz5_ : (sX7_readsPerson f ar p).2.1 = z5_
    generalize hz6_ : (sX7_readsPerson f ar p).2.2 = z6_
    refine R_ireturn dX7_readsAll_57 rfl (nar_b _) ?_
    subst hz5_ hz6_
    have e : zz = (((sX7_readsPerson f ar p).1), ((sX7_readsPerson f ar p).2.1), ((sX7_readsPerson f ar p).2.2)) := by rw [← hs]; unfold sX7_readsAll; rw [if_neg c1, if_pos c4]
    rw [pr1 e, pr1 (pr2 e), pr2 (pr2 e)]; exact ⟨rfl, rfl⟩
  by_cases c5 : b = 114
  ·
    refine R_lookAt 123 (off := 122) 114 c5 dX7_readsAll_1 (by decide) (by decide) ?_
    refine R_aload_n 124 dX7_readsAll_123 rfl rfl ?_
    refine R_iload_n 125 dX7_readsAll_124 rfl rfl ?_
    refine R_aload_n 126 dX7_readsAll_125 rfl rfl ?_
    refine R_callVi 129 (eX7_next hr) dX7_readsAll_126 rfl kX7_next lX7_83 rfl rfl rfl rfl rfl rfl rfl ?_
    refine R_callSi 132 eX7_ruleOf dX7_readsAll_129 rfl kX7_ruleOf lX7_111 rfl rfl rfl rfl rfl ?_
    refine R_callVi 135 (eX7_readsKind (p0_in hp)) dX7_readsAll_132 rfl kX7_readsKind lX7_98 rfl rfl rfl rfl rfl rfl rfl ?_
    generalize hz7_ : (sX7_readsKind f ar p (sX7_ruleOf (sX7_next f ar))).2.1 = z7_
    generalize hz8_ : (sX7_readsKind f ar p (sX7_ruleOf (sX7_next f ar))).2.2 = z8_
    refine R_ifb_eq 138 164 dX7_readsAll_135 rfl (by decide) (fun c6 => ?_) (fun c6 => ?_)
    ·
      refine R_iconst 165 dX7_readsAll_164 rfl (v := 0) (by decide) ?_
      refine R_ireturn dX7_readsAll_165 rfl (by decide) ?_
      subst hz7_ hz8_
      have e : zz = (false, ((sX7_readsKind f ar p (sX7_ruleOf (sX7_next f ar))).2.1), ((sX7_readsKind f ar p (sX7_ruleOf (sX7_next f ar))).2.2)) := by rw [← hs]; unfold sX7_readsAll; rw [if_neg c1, if_neg c4, if_pos c5, if_neg c6]
      rw [pr1 e, pr1 (pr2 e), pr2 (pr2 e)]; exact ⟨rfl, rfl⟩
    ·
      refine R_aload_n 139 dX7_readsAll_138 rfl rfl ?_
      refine R_iload_n 140 dX7_readsAll_139 rfl rfl ?_
      refine R_iconst 141 dX7_readsAll_140 rfl (v := 1) (by decide) ?_
      refine R_iadd 142 dX7_readsAll_141 rfl ?_
      refine R_iconst 143 dX7_readsAll_142 rfl (v := 2) (by decide) ?_
      refine R_callVi 146 (eX7_readsDigits (pc_in (c := 1) hp (by decide)) ((by first | exact (kd_z hz7_ hr (by decide)).up (by decide) | exact (rd_z hz7_ (by decide) hr (by decide)).up (by decide))) (by decide)) dX7_readsAll_143 rfl kX7_readsDigits lX7_91 rfl rfl rfl rfl rfl rfl rfl ?_
      generalize hz9_ : (sX7_readsDigits z7_ z8_ (p + 1) 2).2.1 = z9_
      generalize hz10_ : (sX7_readsDigits z7_ z8_ (p + 1) 2).2.2 = z10_
      refine R_ifb_eq 149 164 dX7_readsAll_146 rfl (by decide) (fun c7 => ?_) (fun c7 => ?_)
      ·
        refine R_iconst 165 dX7_readsAll_164 rfl (v := 0) (by decide) ?_
        refine R_ireturn dX7_readsAll_165 rfl (by decide) ?_
        subst hz7_ hz8_ hz9_ hz10_
        have e : zz = (false, ((sX7_readsDigits ((sX7_readsKind f ar p (sX7_ruleOf (sX7_next f ar))).2.1) ((sX7_readsKind f ar p (sX7_ruleOf (sX7_next f ar))).2.2) (p + 1) 2).2.1), ((sX7_readsDigits ((sX7_readsKind f ar p (sX7_ruleOf (sX7_next f ar))).2.1) ((sX7_readsKind f ar p (sX7_ruleOf (sX7_next f ar))).2.2) (p + 1) 2).2.2)) := by rw [← hs]; unfold sX7_readsAll; rw [if_neg c1, if_neg c4, if_pos c5, if_pos c6, if_neg c7]
        rw [pr1 e, pr1 (pr2 e), pr2 (pr2 e)]; exact ⟨rfl, rfl⟩
      ·
        refine R_aload_n 150 dX7_readsAll_149 rfl rfl ?_
        refine R_iload_n 151 dX7_readsAll_150 rfl rfl ?_
        refine R_iconst 152 dX7_readsAll_151 rfl (v := 2) (by decide) ?_
        refine R_iadd 153 dX7_readsAll_152 rfl ?_
        refine R_iconst 154 dX7_readsAll_153 rfl (v := 1) (by decide) ?_
        refine R_callVi 157 (eX7_readsDigits (pc_in (c := 2) hp (by decide)) (by first | exact (rd_z hz9_ (by decide) (kd_z hz7_ hr (by decide)) (by decide)).up (by decide)) (by decide)) dX7_readsAll_154 rfl kX7_readsDigits lX7_91 rfl rfl rfl rfl rfl rfl rfl ?_
        generalize hz11_ : (sX7_readsDigits z9_ z10_ (p + 2) 1).2.1 = z11_
        generalize hz12_ : (sX7_readsDigits z9_ z10_ (p + 2) 1).2.2 = z12_
        refine R_cut 165 [(0, .ref 100), (1, .int b), (2, .int p)] (.int (b2i (decide (((sX7_readsDigits z9_ z10_ (p + 2) 1).1) = true))) :: []) (h1, hM G z11_ z12_) ?_ (fun kj => ?_)
        ·
          refine R_ireturn dX7_readsAll_165 rfl (nar_b _) ?_
          subst hz7_ hz8_ hz9_ hz10_ hz11_ hz12_
          have e : zz = (decide (((sX7_readsDigits ((sX7_readsDigits ((sX7_readsKind f ar p (sX7_ruleOf (sX7_next f ar))).2.1) ((sX7_readsKind f ar p (sX7_ruleOf (sX7_next f ar))).2.2) (p + 1) 2).2.1) ((sX7_readsDigits ((sX7_readsKind f ar p (sX7_ruleOf (sX7_next f ar))).2.1) ((sX7_readsKind f ar p (sX7_ruleOf (sX7_next f ar))).2.2) (p + 1) 2).2.2) (p + 2) 1).1) = true), ((sX7_readsDigits ((sX7_readsDigits ((sX7_readsKind f ar p (sX7_ruleOf (sX7_next f ar))).2.1) ((sX7_readsKind f ar p (sX7_ruleOf (sX7_next f ar))).2.2) (p + 1) 2).2.1) ((sX7_readsDigits ((sX7_readsKind f ar p (sX7_ruleOf (sX7_next f ar))).2.1) ((sX7_readsKind f ar p (sX7_ruleOf (sX7_next f ar))).2.2) (p + 1) 2).2.2) (p + 2) 1).2.1), ((sX7_readsDigits ((sX7_readsDigits ((sX7_readsKind f ar p (sX7_ruleOf (sX7_next f ar))).2.1) ((sX7_readsKind f ar p (sX7_ruleOf (sX7_next f ar))).2.2) (p + 1) 2).2.1) ((sX7_readsDigits ((sX7_readsKind f ar p (sX7_ruleOf (sX7_next f ar))).2.1) ((sX7_readsKind f ar p (sX7_ruleOf (sX7_next f ar))).2.2) (p + 1) 2).2.2) (p + 2) 1).2.2)) := by rw [← hs]; unfold sX7_readsAll; rw [if_neg c1, if_neg c4, if_pos c5, if_pos c6, if_pos c7]
          rw [pr1 e, pr1 (pr2 e), pr2 (pr2 e)]; exact ⟨rfl, rfl⟩
        refine R_ifb_eq 160 164 dX7_readsAll_157 rfl (by decide) (fun c8 => ?_) (fun c8 => ?_)
        · refine R_iconst 165 dX7_readsAll_164 rfl (v := 0) (by decide) ?_
          rw [b2i_n c8] at kj; exact kj
        · refine R_iconst 161 dX7_readsAll_160 rfl (v := 1) (by decide) ?_
          refine R_goto 165 dX7_readsAll_161 (by decide) ?_
          rw [b2i_p c8] at kj; exact kj
  by_cases c9 : b = 115
  ·
    refine R_lookAt 65 (off := 64) 115 c9 dX7_readsAll_1 (by decide) (by decide) ?_
    refine R_aload_n 66 dX7_readsAll_65 rfl rfl ?_
    refine R_iload_n 67 dX7_readsAll_66 rfl rfl ?_
    refine R_iconst 68 dX7_readsAll_67 rfl (v := 1) (by decide) ?_
    refine R_callVi 71 (eX7_readsDigits (p0_in hp) (hr.up (by decide)) (by decide)) dX7_readsAll_68 rfl kX7_readsDigits lX7_91 rfl rfl rfl rfl rfl rfl rfl ?_
    generalize hz13_ : (sX7_readsDigits f ar p 1).2.1 = z13_
    generalize hz14_ : (sX7_readsDigits f ar p 1).2.2 = z14_
    refine R_ifb_eq 74 89 dX7_readsAll_71 rfl (by decide) (fun c10 => ?_) (fun c10 => ?_)
    ·
      refine R_iconst 90 dX7_readsAll_89 rfl (v := 0) (by decide) ?_
      refine R_ireturn dX7_readsAll_90 rfl (by decide) ?_
      subst hz13_ hz14_
      have e : zz = (false, ((sX7_readsDigits f ar p 1).2.1), ((sX7_readsDigits f ar p 1).2.2)) := by rw [← hs]; unfold sX7_readsAll; rw [if_neg c1, if_neg c4, if_neg c5, if_pos c9, if_neg c10]
      rw [pr1 e, pr1 (pr2 e), pr2 (pr2 e)]; exact ⟨rfl, rfl⟩
    ·
      refine R_aload_n 75 dX7_readsAll_74 rfl rfl ?_
      refine R_iload_n 76 dX7_readsAll_75 rfl rfl ?_
      refine R_iconst 77 dX7_readsAll_76 rfl (v := 1) (by decide) ?_
      refine R_iadd 78 dX7_readsAll_77 rfl ?_
      refine R_iconst 79 dX7_readsAll_78 rfl (v := 2) (by decide) ?_
      refine R_callVi 82 (eX7_readsSigned (pc_in (c := 1) hp (by decide)) ((by first | exact (kd_z hz13_ hr (by decide)).up (by decide) | exact (rd_z hz13_ (by decide) hr (by decide)).up (by decide))) (by decide)) dX7_readsAll_79 rfl kX7_readsSigned lX7_105 rfl rfl rfl rfl rfl rfl rfl ?_
      generalize hz15_ : (sX7_readsSigned z13_ z14_ (p + 1) 2).2.1 = z15_
      generalize hz16_ : (sX7_readsSigned z13_ z14_ (p + 1) 2).2.2 = z16_
      refine R_cut 90 [(0, .ref 100), (1, .int b), (2, .int p)] (.int (b2i (decide (((sX7_readsSigned z13_ z14_ (p + 1) 2).1) = true))) :: []) (h1, hM G z15_ z16_) ?_ (fun kj => ?_)
      ·
        refine R_ireturn dX7_readsAll_90 rfl (nar_b _) ?_
        subst hz13_ hz14_ hz15_ hz16_
        have e : zz = (decide (((sX7_readsSigned ((sX7_readsDigits f ar p 1).2.1) ((sX7_readsDigits f ar p 1).2.2) (p + 1) 2).1) = true), ((sX7_readsSigned ((sX7_readsDigits f ar p 1).2.1) ((sX7_readsDigits f ar p 1).2.2) (p + 1) 2).2.1), ((sX7_readsSigned ((sX7_readsDigits f ar p 1).2.1) ((sX7_readsDigits f ar p 1).2.2) (p + 1) 2).2.2)) := by rw [← hs]; unfold sX7_readsAll; rw [if_neg c1, if_neg c4, if_neg c5, if_pos c9, if_pos c10]
        rw [pr1 e, pr1 (pr2 e), pr2 (pr2 e)]; exact ⟨rfl, rfl⟩
      refine R_ifb_eq 85 89 dX7_readsAll_82 rfl (by decide) (fun c11 => ?_) (fun c11 => ?_)
      · refine R_iconst 90 dX7_readsAll_89 rfl (v := 0) (by decide) ?_
        rw [b2i_n c11] at kj; exact kj
      · refine R_iconst 86 dX7_readsAll_85 rfl (v := 1) (by decide) ?_
        refine R_goto 90 dX7_readsAll_86 (by decide) ?_
        rw [b2i_p c11] at kj; exact kj
  by_cases c12 : b = 119
  ·
    refine R_lookAt 58 (off := 57) 119 c12 dX7_readsAll_1 (by decide) (by decide) ?_
    refine R_aload_n 59 dX7_readsAll_58 rfl rfl ?_
    refine R_iload_n 60 dX7_readsAll_59 rfl rfl ?_
    refine R_iconst 61 dX7_readsAll_60 rfl (v := 2) (by decide) ?_
    refine R_callVi 64 (eX7_readsSigned (p0_in hp) (hr.up (by decide)) (by decide)) dX7_readsAll_61 rfl kX7_readsSigned lX7_105 rfl rfl rfl rfl rfl rfl rfl ?_
    generalize hz17_ : (sX7_readsSigned f ar p 2).2.1 = z17_
    generalize hz18_ : (sX7_readsSigned f ar p 2).2.2 = z18_
    refine R_ireturn dX7_readsAll_64 rfl (nar_b _) ?_
    subst hz17_ hz18_
    have e : zz = (((sX7_readsSigned f ar p 2).1), ((sX7_readsSigned f ar p 2).2.1), ((sX7_readsSigned f ar p 2).2.2)) := by rw [← hs]; unfold sX7_readsAll; rw [if_neg c1, if_neg c4, if_neg c5, if_neg c9, if_pos c12]
    rw [pr1 e, pr1 (pr2 e), pr2 (pr2 e)]; exact ⟨rfl, rfl⟩
  refine R_lookup 166 (off := 165) dX7_readsAll_1 (by decide) (by rw [lv_osw c1 (show (100 : Int32).toInt = 100 by decide), lv_osw c4 (show (112 : Int32).toInt = 112 by decide), lv_osw c5 (show (114 : Int32).toInt = 114 by decide), lv_osw c9 (show (115 : Int32).toInt = 115 by decide), lv_osw c12 (show (119 : Int32).toInt = 119 by decide)]; rfl) (by decide) ?_
  refine R_aload_n 167 dX7_readsAll_166 rfl rfl ?_
  refine R_iload_n 168 dX7_readsAll_167 rfl rfl ?_
  refine R_iconst 169 dX7_readsAll_168 rfl (v := 2) (by decide) ?_
  refine R_callVi 172 (eX7_readsDigits (p0_in hp) (hr.up (by decide)) (by decide)) dX7_readsAll_169 rfl kX7_readsDigits lX7_91 rfl rfl rfl rfl rfl rfl rfl ?_
  generalize hz19_ : (sX7_readsDigits f ar p 2).2.1 = z19_
  generalize hz20_ : (sX7_readsDigits f ar p 2).2.2 = z20_
  refine R_ireturn dX7_readsAll_172 rfl (nar_b _) ?_
  subst hz19_ hz20_
  have e : zz = (((sX7_readsDigits f ar p 2).1), ((sX7_readsDigits f ar p 2).2.1), ((sX7_readsDigits f ar p 2).2.2)) := by rw [← hs]; unfold sX7_readsAll; rw [if_neg c1, if_neg c4, if_neg c5, if_neg c9, if_neg c12]
  rw [pr1 e, pr1 (pr2 e), pr2 (pr2 e)]; exact ⟨rfl, rfl⟩
