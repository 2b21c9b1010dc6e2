section zPS
variable {n m i : zP} {cf cf1 : Nat → Int32} {ca ca1 : Nat → Nat → Int32} {f f1 : Nat → Int32} {ar a1 : Nat → Nat → Int32}
theorem shE_all {b : Int32} (hb : hdP b) : (shE b).all (fun g => !g (-1)) = true := by
  unfold hdP at hb
  rcases hb with h | h | h | h | h | h <;> subst h <;> decide +kernel
theorem shE_out {b : Int32} (hb : hdP b) {d : Nat} (h : d < (shE b).length) : (shE b)[d] (-1) = false := by
  have h1 := List.all_eq_true.mp (shE_all hb) _ (List.getElem_mem h)
  cases e : (shE b)[d] (-1)
  · rfl
  · rw [e] at h1; cases h1
theorem fu_run {T : Nat → Int32} {L : Nat} (h : tp cf ca T L) {b : Int32} (hb : hdP b) : ∀ (t d r j : Nat), t + d = (shE b).length → r + j = L → itX5_firstUnfit cf ca j r (sc b) (nI d) = if fitL ((shE b).drop d) T r = t then itX5_firstUnfit cf ca (L - (r + t)) (r + t) (sc b) (nI (shE b).length) else nI (r + fitL ((shE b).drop d) T r)
  | 0, d, r, j, hd, hj => by
    rw [List.drop_eq_nil_of_le (by omega), show fitL [] T r = 0 from rfl, if_pos rfl, show L - (r + 0) = j by omega, Nat.add_zero, show d = (shE b).length by omega]
  | t + 1, d, r, j, hd, hj => by
    have hl := (shE_len b).2
    have hdl : d < (shE b).length := by omega
    obtain ⟨s1, s2, s3⟩ := shp hb
    have hg : (shE b)[d]? = some (shE b)[d] := List.getElem?_eq_getElem hdl
    rw [List.drop_eq_getElem_cons hdl, fitL_c]
    have hlt : ¬ sJ0_length_8abf5 (sc b) ≤ nI d := by
      rw [s2, Int32.le_iff_toInt_le, nI_toInt (by omega), nI_toInt (by omega)]
      omega
    match j, hj with
    | 0, hj =>
      rw [h.2.2.2 r (by have := h.1; omega) (by omega), shE_out hb hdl, if_neg Bool.false_ne_true, if_neg (by omega), Nat.add_zero]
      show exX5_firstUnfit cf ca r (sc b) (nI d) = _
      unfold exX5_firstUnfit
      rw [h.2.1, if_neg hlt]
      by_cases c : nI L = 0
      · rw [if_pos c, show r = L by omega]
      · rw [if_neg c, show r = L by omega]
    | j + 1, hj =>
      have hrL : r < L := by omega
      have hL := h.1
      obtain ⟨q, hq, eq⟩ := (h.2.2.1 r hrL).2
      have hs := sg_in h hrL
      have hf : sX5_fits (sJ0_charAt_5068e (sc b) (nI d)) (T r) = (shE b)[d] (T r) := by rw [eq]; exact s3 d _ hg q hq
      by_cases c : (shE b)[d] (T r) = true
      · have e1 : stX5_firstUnfit cf ca r (sc b) (nI d) = .inr (sc b, nI (d + 1)) := by
          unfold stX5_firstUnfit
          rw [if_neg hlt, hs, hf, if_pos c, nI_1]
        rw [itX5_firstUnfit_n e1, fu_run h hb t (d + 1) (r + 1) j (by omega) (by omega), if_pos c, show r + 1 + t = r + (t + 1) by omega]
        by_cases c2 : fitL ((shE b).drop (d + 1)) T (r + 1) = t
        · rw [if_pos c2, if_pos (by omega)]
        · rw [if_neg c2, if_neg (by omega)]
          congr 1
          omega
      · have e1 : stX5_firstUnfit cf ca r (sc b) (nI d) = .inl (nI r) := by
          unfold stX5_firstUnfit
          rw [if_neg hlt, hs, hf, if_neg c]
        rw [itX5_firstUnfit_r e1, if_neg c, if_neg (by omega), Nat.add_zero]
end zPS
