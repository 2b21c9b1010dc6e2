section zPY
variable {n m i : zP} {cf cf1 : Nat → Int32} {ca ca1 : Nat → Nat → Int32} {f f1 : Nat → Int32} {ar a1 : Nat → Nat → Int32}
/-- somebody more -/
theorem rN.ap {s : Nat} {x0 x1 x2 x3 x4 x5 : Int32} (h : rN m f ar) (h6 : m.1 6 = nI s) (hs : s < 5) (h0 : bt x0 0 4) (h1 : bt x1 0 9) (h2 : bt x2 0 9) (h3 : bt x3 0 1) (h4 : bt x4 1 5) (h5 : bt x5 0 9) : rN ((upd m.1 6 (nI (s + 1))), (up2 m.2 s (upd (upd (upd (upd (upd (upd (m.2 s) 0 x0) 1 x1) 2 x2) 3 x3) 4 x4) 5 x5))) (upd f 8 (nI (s + 1))) (up2 (up2 (up2 (up2 (up2 (up2 ar 2 (upd (ar 2) s x0)) 3 (upd (ar 3) s x1)) 4 (upd (ar 4) s x2)) 5 (upd (ar 5) s x3)) 6 (upd (ar 6) s x4)) 7 (upd (ar 7) s x5)) := by
  obtain ⟨⟨a0, b1, a2, a6, a7, a8, a9, a10, a11, a12, a13⟩, hP, ⟨r1, r2, r6, r7, r10, r12, r13, rQ_, r9, r11⟩, b0, b8⟩ := h
  have t6 : (m.1 6).toInt = s := by rw [h6, nI_toInt (by omega)]
  have ts : (nI (s + 1)).toInt = (s : Int) + 1 := by rw [nI_toInt (by omega)]; omega
  generalize nI (s + 1) = z at ts ⊢
  refine ⟨⟨a0, b1, a2, rfl, a7, a8, a9, a10, a11, a12, a13⟩, fun p hp => ?_, ⟨r1, r2, ?_, ⟨fun e => ?_, fun _ => ?_⟩, r10, r12, r13, fun p hp => ?_, r9, r11⟩, b0, b8⟩
  · have hp : (p : Int) < z.toInt := hp
    rw [ts] at hp
    dsimp only
    by_cases c : p = s
    · subst c
      rw [up2_eq]
      exact ⟨(show x0 = upd (ar 2) p x0 p from upd_eq.symm), (show x1 = upd (ar 3) p x1 p from upd_eq.symm), (show x2 = upd (ar 4) p x2 p from upd_eq.symm), (show x3 = upd (ar 5) p x3 p from upd_eq.symm), (show x4 = upd (ar 6) p x4 p from upd_eq.symm), (show x5 = upd (ar 7) p x5 p from upd_eq.symm)⟩
    · obtain ⟨p0, p1, p2, p3, p4, p5⟩ := hP p (by rw [t6]; omega)
      rw [up2_ne c]
      exact ⟨p0.trans (show ar 2 p = upd (ar 2) s x0 p from (upd_ne c).symm), p1.trans (show ar 3 p = upd (ar 3) s x1 p from (upd_ne c).symm), p2.trans (show ar 4 p = upd (ar 4) s x2 p from (upd_ne c).symm), p3.trans (show ar 5 p = upd (ar 5) s x3 p from (upd_ne c).symm), p4.trans (show ar 6 p = upd (ar 6) s x4 p from (upd_ne c).symm), p5.trans (show ar 7 p = upd (ar 7) s x5 p from (upd_ne c).symm)⟩
  · show 0 ≤ z.toInt ∧ z.toInt ≤ 5
    rw [ts]; omega
  · have e : z = 0 := e
    rw [e, i0] at ts
    omega
  · show 0 ≤ (m.1 7).toInt ∧ (m.1 7).toInt < z.toInt
    rw [ts]
    by_cases c : s = 0
    · have e0 : m.1 7 = 0 := r7.1 (by rw [h6, c]; rfl)
      rw [e0, i0]
      omega
    · have := r7.2 (by rw [t6]; omega)
      rw [t6] at this
      omega
  · have hp : (p : Int) < z.toInt := hp
    rw [ts] at hp
    dsimp only
    by_cases c : p = s
    · subst c
      rw [up2_eq]
      exact ⟨h0, h1, h2, h3, h4, h5⟩
    · rw [up2_ne c]
      exact rQ_ p (by rw [t6]; omega)
/-- .. in the class -/
theorem tp_add {j : Int32} {s : Nat} (h6 : m.1 6 = nI s) (hs : s < 5) (d1 : ¬ 1 < sX5_digitAt cf ca (j + 4)) (d2 : ¬ sX5_digitAt cf ca (j + 5) < 1) (d3 : ¬ 5 < sX5_digitAt cf ca (j + 5)) : sX5_tellPerson m cf ca j = (true, ((upd m.1 6 (nI (s + 1))), (up2 m.2 s (upd (upd (upd (upd (upd (upd (m.2 s) 0 (sX5_kindAt_1 cf ca (j + 1))) 1 (sX5_digitAt cf ca (j + 2))) 2 (sX5_digitAt cf ca (j + 3))) 3 (sX5_digitAt cf ca (j + 4))) 4 (sX5_digitAt cf ca (j + 5))) 5 (sX5_digitAt cf ca (j + 6)))))) := by
  have e1 : m.1 6 + 1 = nI (s + 1) := by rw [h6, nI_1]
  have n0 : ¬ m.1 6 < 0 := by rw [h6, Int32.lt_iff_toInt_lt, i0, nI_toInt (by omega)]; omega
  have l5 : m.1 6 < 5 := by rw [h6, Int32.lt_iff_toInt_lt, nI_toInt (by omega), show (5 : Int32).toInt = 5 by decide]; omega
  unfold sX5_tellPerson
  rw [if_neg d1, if_neg d2, if_neg d3, if_neg n0, if_pos l5, e1]
  match s, hs, h6 with
  | 0, _, h6 => rw [if_pos (show m.1 6 = 0 from h6)]
  | 1, _, h6 => rw [if_neg (show ¬ m.1 6 = 0 by rw [h6]; decide), if_pos (show m.1 6 = 1 from h6)]
  | 2, _, h6 => rw [if_neg (show ¬ m.1 6 = 0 by rw [h6]; decide), if_neg (show ¬ m.1 6 = 1 by rw [h6]; decide), if_pos (show m.1 6 = 2 from h6)]
  | 3, _, h6 => rw [if_neg (show ¬ m.1 6 = 0 by rw [h6]; decide), if_neg (show ¬ m.1 6 = 1 by rw [h6]; decide), if_neg (show ¬ m.1 6 = 2 by rw [h6]; decide), if_pos (show m.1 6 = 3 from h6)]
  | 4, _, h6 => rw [if_neg (show ¬ m.1 6 = 0 by rw [h6]; decide), if_neg (show ¬ m.1 6 = 1 by rw [h6]; decide), if_neg (show ¬ m.1 6 = 2 by rw [h6]; decide), if_neg (show ¬ m.1 6 = 3 by rw [h6]; decide)]
  | s + 5, hs, _ => exact absurd hs (by omega)
theorem tp_no {j : Int32} (h : 1 < sX5_digitAt cf ca (j + 4) ∨ sX5_digitAt cf ca (j + 5) < 1 ∨ 5 < sX5_digitAt cf ca (j + 5) ∨ m.1 6 = 5) : sX5_tellPerson m cf ca j = (false, m) := by
  unfold sX5_tellPerson
  by_cases d1 : 1 < sX5_digitAt cf ca (j + 4)
  · rw [if_pos d1]
  rw [if_neg d1]
  by_cases d2 : sX5_digitAt cf ca (j + 5) < 1
  · rw [if_pos d2]
  rw [if_neg d2]
  by_cases d3 : 5 < sX5_digitAt cf ca (j + 5)
  · rw [if_pos d3]
  rw [if_neg d3]
  have h6 := ((h.resolve_left d1).resolve_left d2).resolve_left d3
  rw [if_neg (show ¬ m.1 6 < 0 by rw [h6]; decide), if_neg (show ¬ m.1 6 < 5 by rw [h6]; decide)]
/-- .. in the reference -/
theorem cp_eq {q : Nat} (hq : q < 900) {x0 x1 x2 x3 x4 x5 : Int32} (v0 : ar 16 q = x0) (v1 : ar 16 (q + 1) = x1) (v2 : ar 16 (q + 2) = x2) (v3 : ar 16 (q + 3) = x3) (v4 : ar 16 (q + 4) = x4) (v5 : ar 16 (q + 5) = x5) {s : Nat} (h8 : f 8 = nI s) (hs : s ≤ 5) : sX7_comesPerson f ar (nI q) = if 1 < x3 then (false, f, ar) else if sX7_isIn x4 1 5 = true then (if s = 5 then (false, f, ar) else (true, (upd f 8 (nI (s + 1))), (up2 (up2 (up2 (up2 (up2 (up2 ar 2 (upd (ar 2) s x0)) 3 (upd (ar 3) s x1)) 4 (upd (ar 4) s x2)) 5 (upd (ar 5) s x3)) 6 (upd (ar 6) s x4)) 7 (upd (ar 7) s x5)))) else (false, f, ar) := by
  unfold sX7_comesPerson
  rw [nI_clamp (show q < 2 ^ 31 by omega), q_1 hq, q_2 hq, nI_3, nI_4, nI_5, nI_clamp (show q + 3 < 2 ^ 31 by omega), nI_clamp (show q + 4 < 2 ^ 31 by omega), nI_clamp (show q + 5 < 2 ^ 31 by omega), v0, v1, v2, v3, v4, v5, h8, nI_1, nI_clamp (show s < 2 ^ 31 by omega)]
  by_cases c : s = 5
  · rw [if_pos c, if_pos (show nI s = 5 by rw [c]; rfl)]
  · rw [if_neg c, if_neg (show ¬ nI s = 5 from fun e => c (nI_inj (by omega) (by omega) (e.trans (show (5 : Int32) = nI 5 from rfl))))]
theorem al_p {T : Nat → Int32} {L r c : Nat} (hT : tp cf ca T L) (h14 : ar 14 c = T r) (hc : c < 48) (hb : T r = 112) (hf : fitL (shE (T r)) T (r + 1) = (shE (T r)).length) (hv : ∀ q ∈ vsA (T r) T (r + 1) (6 * c), ar 16 q.1 = q.2) (hl : r + 1 + (shE (T r)).length ≤ L) (hN : rN m f ar) : alike (sX5_tellTo m cf ca (nI r)) (sX7_comes f ar (nI c)) := by
  rw [hb] at hf hv hl
  have hL := hT.1
  have k4 : fitL [cP, cD, cD, cD, cD, cD, cE] T (r + 1) = [cP, cD, cD, cD, cD, cD, cE].length := hf
  have hl : r + 1 + 7 ≤ L := hl
  have g1 := fit_1 k4
  have g2 := fit_1 g1.2
  have g3 := fit_1 g2.2
  have g4 := fit_1 g3.2
  have g5 := fit_1 g4.2
  have g6 := fit_1 g5.2
  have v0 : ar 16 (6 * c) = sX7_personOf (T (r + 1)) := hv (6 * c, sX7_personOf (T (r + 1))) List.mem_cons_self
  have v1 : ar 16 (6 * c + 1) = T (r + 2) - 48 := hv (6 * c + 1, T (r + 2) - 48) (List.mem_cons_of_mem _ List.mem_cons_self)
  have v2 : ar 16 (6 * c + 2) = T (r + 3) - 48 := hv (6 * c + 2, T (r + 3) - 48) (List.mem_cons_of_mem _ (List.mem_cons_of_mem _ List.mem_cons_self))
  have v3 : ar 16 (6 * c + 3) = T (r + 4) - 48 := hv (6 * c + 3, T (r + 4) - 48) (List.mem_cons_of_mem _ (List.mem_cons_of_mem _ (List.mem_cons_of_mem _ List.mem_cons_self)))
  have v4 : ar 16 (6 * c + 4) = T (r + 5) - 48 := hv (6 * c + 4, T (r + 5) - 48) (List.mem_cons_of_mem _ (List.mem_cons_of_mem _ (List.mem_cons_of_mem _ (List.mem_cons_of_mem _ List.mem_cons_self))))
  have v5 : ar 16 (6 * c + 5) = T (r + 6) - 48 := hv (6 * c + 5, T (r + 6) - 48) (List.mem_cons_of_mem _ (List.mem_cons_of_mem _ (List.mem_cons_of_mem _ (List.mem_cons_of_mem _ (List.mem_cons_of_mem _ List.mem_cons_self)))))
  have e0 : sX5_signAt cf ca (nI r) = 112 := (sg_in hT (by omega)).trans hb
  obtain ⟨e1, b0⟩ := k1A hT (show r + 1 < L by omega) g1.1
  rw [← nI_1] at e1
  have b1 : bt (T (r + 2) - 48) 0 9 := cD_b g2.1
  have b2 : bt (T (r + 3) - 48) 0 9 := cD_b g3.1
  have b3 : bt (T (r + 4) - 48) 0 9 := cD_b g4.1
  have b5 : bt (T (r + 6) - 48) 0 9 := cD_b g6.1
  have d2 : sX5_digitAt cf ca (nI r + 2) = T (r + 2) - 48 := by rw [nI_2]; exact dgA hT (by omega)
  have d3 : sX5_digitAt cf ca (nI r + 3) = T (r + 3) - 48 := by rw [nI_3]; exact dgA hT (by omega)
  have d4 : sX5_digitAt cf ca (nI r + 4) = T (r + 4) - 48 := by rw [nI_4]; exact dgA hT (by omega)
  have d5 : sX5_digitAt cf ca (nI r + 5) = T (r + 5) - 48 := by rw [nI_5]; exact dgA hT (by omega)
  have d6 : sX5_digitAt cf ca (nI r + 6) = T (r + 6) - 48 := by rw [nI_6]; exact dgA hT (by omega)
  have z : sX5_tellTo m cf ca (nI r) = (((sX5_tellPerson m cf ca (nI r)).1), (sX5_tellPerson m cf ca (nI r)).2, cf, ca) := by
    unfold sX5_tellTo
    rw [e0, if_neg (by decide), if_pos rfl]
  have y : sX7_comes f ar (nI c) = sX7_comesPerson f ar (nI (6 * c)) := by
    unfold sX7_comes
    rw [s6e rfl hc, nI_clamp (by omega : c < 2 ^ 31), h14, hb, if_neg (by decide), if_pos rfl]
  obtain ⟨s, hs, h6⟩ := bt_nI (hi := 5) hN.2.2.1.2.2.1 (by omega)
  have h8 : f 8 = nI s := hN.1.2.2.2.1.symm.trans h6
  rw [z, y, cp_eq (by omega) v0 v1 v2 v3 v4 v5 h8 hs]
  have t1 : (1 : Int32).toInt = 1 := by decide
  have t5 : (5 : Int32).toInt = 5 := by decide
  have hno : (1 < T (r + 4) - 48 ∨ T (r + 5) - 48 < 1 ∨ 5 < T (r + 5) - 48 ∨ m.1 6 = 5) → sX5_tellPerson m cf ca (nI r) = (false, m) := fun h => tp_no (by rw [d4, d5]; exact h)
  have hyes := fun (hs : s < 5) (c3 : ¬ 1 < T (r + 4) - 48) (c4 : ¬ T (r + 5) - 48 < 1) (c5 : ¬ 5 < T (r + 5) - 48) => tp_add (m := m) (cf := cf) (ca := ca) (j := nI r) h6 hs (by rw [d4]; exact c3) (by rw [d5]; exact c4) (by rw [d5]; exact c5)
  rw [e1, d2, d3, d4, d5, d6] at hyes
  generalize sX5_tellPerson m cf ca (nI r) = P at hno hyes ⊢
  generalize T (r + 4) - 48 = y3 at hno hyes b3 ⊢
  generalize T (r + 5) - 48 = y4 at hno hyes ⊢
  by_cases c3 : 1 < y3
  · rw [hno (Or.inl c3), if_pos c3]
    exact al_f
  rw [if_neg c3]
  by_cases c4 : y4 < 1
  · rw [hno (Or.inr (Or.inl c4)), if_neg (fun d => by have := (isIn_ge d).1; rw [Int32.lt_iff_toInt_lt] at c4; omega)]
    exact al_f
  by_cases c5 : 5 < y4
  · rw [hno (Or.inr (Or.inr (Or.inl c5))), if_neg (fun d => by have := (isIn_ge d).2; rw [Int32.lt_iff_toInt_lt] at c5; omega)]
    exact al_f
  have b4 : bt y4 1 5 := by
    rw [Int32.lt_iff_toInt_lt] at c4 c5
    unfold bt
    omega
  rw [if_pos (isIn_to (by rw [t1, t5]; exact b4))]
  by_cases c6 : s = 5
  · rw [hno (Or.inr (Or.inr (Or.inr (by rw [h6, c6]; rfl)))), if_pos c6]
    exact al_f
  · rw [hyes (by omega) c3 c4 c5, if_neg c6]
    rw [Int32.lt_iff_toInt_lt] at c3
    exact al_t (hN.ap h6 (by omega) b0 b1 b2 ⟨b3.1, by omega⟩ b4 b5)
theorem al {T : Nat → Int32} {L r c : Nat} (hT : tp cf ca T L) (h14 : ar 14 c = T r) (hc : c < 48) (hb : hdP (T r)) (hf : fitL (shE (T r)) T (r + 1) = (shE (T r)).length) (hv : ∀ q ∈ vsA (T r) T (r + 1) (6 * c), ar 16 q.1 = q.2) (hl : r + 1 + (shE (T r)).length ≤ L) (hN : rN m f ar) : alike (sX5_tellTo m cf ca (nI r)) (sX7_comes f ar (nI c)) := by
  rcases hb with hb | hb | hb | hb | hb | hb
  · exact al_p hT h14 hc hb hf hv hl hN
  · exact al_w hT h14 hc hb hf hv hl hN
  · exact al_st hT h14 hc hb hf hv hl hN
  · exact al_d hT h14 hc hb hf hv hl hN
  · exact al_r hT h14 hc hb hf hv hl hN
  · exact al_n hT h14 hc hb hf hv hl hN
end zPY
