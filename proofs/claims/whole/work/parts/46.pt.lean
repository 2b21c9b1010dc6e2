section zPT
variable {n m i : zP} {cf cf1 : Nat → Int32} {ca ca1 : Nat → Nat → Int32}
theorem fit_le {T : Nat → Int32} {L : Nat} (hT : ∀ r : Nat, r < 1000 → L ≤ r → T r = -1) : ∀ (l : List (Int32 → Bool)) (r : Nat), l.all (fun g => !g (-1)) = true → r + l.length < 1000 → r ≤ L → fitL l T r = l.length → r + l.length ≤ L
  | [], r, _, _, hr, _ => by simpa using hr
  | g :: l, r, ha, h1, hr, hf => by
    obtain ⟨f1, f2⟩ := fit_1 hf
    have ha2 : (!g (-1)) = true ∧ l.all (fun g => !g (-1)) = true := by
      rw [List.all_cons] at ha
      exact Bool.and_eq_true_iff.mp ha
    rw [List.length_cons] at h1 ⊢
    by_cases c : r < L
    · have := fit_le hT l (r + 1) ha2.2 (by omega) (by omega) f2
      omega
    · rw [hT r (by omega) (by omega)] at f1
      rw [f1] at ha2
      exact absurd ha2.1 (by decide)
theorem no_hd : ¬ hdP (-1) := by unfold hdP; decide
theorem fu_head {T : Nat → Int32} {L : Nat} (h : tp cf ca T L) {r j sh : Nat} {dn : Int32} (hd : sJ0_length_8abf5 sh ≤ dn) (hj : r + (j + 1) = L) (hb : hdP (T r)) : itX5_firstUnfit cf ca (j + 1) r sh dn = itX5_firstUnfit cf ca j (r + 1) (sc (T r)) (nI 0) := by
  have e1 : stX5_firstUnfit cf ca r sh dn = .inr (sc (T r), nI 0) := by
    unfold stX5_firstUnfit
    rw [if_pos hd, sc_at, sg_in h (by omega), (shp hb).1, if_neg Bool.false_ne_true]
    rfl
  exact itX5_firstUnfit_n e1
theorem fu_nohd {T : Nat → Int32} {L : Nat} (h : tp cf ca T L) {r j sh : Nat} {dn : Int32} (hd : sJ0_length_8abf5 sh ≤ dn) (hj : r + (j + 1) = L) (hb : ¬ hdP (T r)) : itX5_firstUnfit cf ca (j + 1) r sh dn = nI r := by
  have e1 : stX5_firstUnfit cf ca r sh dn = .inl (nI r) := by
    unfold stX5_firstUnfit
    rw [if_pos hd, sc_at, sg_in h (by omega), shn hb, if_pos rfl]
  exact itX5_firstUnfit_r e1
/-- a whole statement of the class, from its first letter -/
theorem fu_stm {T : Nat → Int32} {L : Nat} (h : tp cf ca T L) {r sh : Nat} {dn : Int32} (hd : sJ0_length_8abf5 sh ≤ dn) (hr : r < L) (hb : hdP (T r)) : itX5_firstUnfit cf ca (L - r) r sh dn = if fitL (shE (T r)) T (r + 1) = (shE (T r)).length then itX5_firstUnfit cf ca (L - (r + 1 + (shE (T r)).length)) (r + 1 + (shE (T r)).length) (sc (T r)) (nI (shE (T r)).length) else nI (r + 1 + fitL (shE (T r)) T (r + 1)) := by
  rw [show L - r = (L - (r + 1)) + 1 by omega, fu_head h hd (by omega) hb]
  have := fu_run h hb (shE (T r)).length 0 (r + 1) (L - (r + 1)) (by omega) (by omega)
  rw [List.drop_zero] at this
  exact this
theorem fu_end {T : Nat → Int32} {L sh : Nat} {dn : Int32} (h : tp cf ca T L) (hd : sJ0_length_8abf5 sh ≤ dn) : itX5_firstUnfit cf ca 0 L sh dn = if L = 0 then nI 0 else -9 := by
  show exX5_firstUnfit cf ca L sh dn = _
  have hL := h.1
  unfold exX5_firstUnfit
  rw [h.2.1]
  by_cases c : L = 0
  · subst c
    rw [if_pos (show nI 0 = 0 from rfl), if_pos rfl]
  · rw [if_neg (show ¬ nI L = 0 from fun z => by have := congrArg Int32.toInt z; rw [nI_toInt (by omega), i0] at this; omega), if_pos hd, if_neg c]
end zPT
