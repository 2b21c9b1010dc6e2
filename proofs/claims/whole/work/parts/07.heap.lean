/-! the class: what a parlour holds: numbers (0 at, 1, 2 places, 6 people, 7 turn, 8 minute, 9, 10 drift, 11, 12, 13 rule), people by their numbers -/
abbrev zP : Type := (Nat → Int32) × (Nat → Nat → Int32)
def up2 {α : Type} (f : Nat → α) (k : Nat) (x : α) : Nat → α := fun j => if j = k then x else f j
def hPs (p : Nat → Int32) : va_E := .inr (3, [.int (p 0), .int (p 1), .int (p 2), .int (p 3), .int (p 4), .int (p 5)])
def hPl (G : zG) (b : Nat) (m : zP) : List va_E := [.inr (2, [.int (m.1 0), .int (m.1 1), .int (m.1 2), .ref (b + 1), .ref (b + 2), .ref (b + 3), .int (m.1 6), .int (m.1 7), .int (m.1 8)]), .inr (1, [.int (m.1 9), .int (m.1 10)]), .inr (4, [.int (m.1 11), .int (m.1 12), .int (m.1 13)]), .inl (G.2.2.1, 5, .inr (.inr (.inr (.inr (fun j => some (b + 4 + j)))))), hPs (m.2 0), hPs (m.2 1), hPs (m.2 2), hPs (m.2 3), hPs (m.2 4)]
def hC (G : zG) (n m i : zP) (cf : Nat → Int32) (ca : Nat → Nat → Int32) : List va_E := .inr (6, [.ref 1, .ref 10, .ref 19, .int (cf 0), .ref 28, .ref 32, .ref 34, .int (cf 1), .ref 35]) :: (hPl G 1 n ++ (hPl G 10 m ++ (hPl G 19 i ++ [.inr (0, [.ref 29, .ref 30, .ref 31, .int (cf 3), .int (cf 4), .int (cf 5)]), .inl (G.1, 5, .inl (ca 29)), .inl (G.1, 5, .inl (ca 30)), .inl (G.1, 5, .inl (ca 31)), .inr (5, [.ref 33, .int (cf 2)]), .inl (G.2.1, 96, .inl (ca 33)), .inl (G.1, 12, .inl (ca 34)), .inl (G.1, 7, .inl (ca 35))])))
def hM (G : zG) (f : Nat → Int32) (a : Nat → Nat → Int32) : List va_E := [.inr (7, [.ref 101, .ref 102, .ref 103, .ref 104, .ref 105, .ref 106, .ref 107, .ref 108, .int (f 8), .int (f 9), .int (f 10), .int (f 11), .int (f 12), .ref 109, .ref 110, .ref 111, .ref 112, .int (f 17), .int (f 18), .int (f 19), .ref 113, .int (f 21), .int (f 22), .int (f 23), .ref 114, .ref 115, .ref 116, .ref 117, .int (f 28), .int (f 29), .int (f 30), .int (f 31), .int (f 32), .int (f 33), .ref 118, .int (f 35)]), .inl (G.1, 7, .inl (a 0)), .inl (G.1, 6, .inl (a 1)), .inl (G.1, 5, .inl (a 2)), .inl (G.1, 5, .inl (a 3)), .inl (G.1, 5, .inl (a 4)), .inl (G.1, 5, .inl (a 5)), .inl (G.1, 5, .inl (a 6)), .inl (G.1, 5, .inl (a 7)), .inl (G.1, 96, .inl (a 13)), .inl (G.1, 48, .inl (a 14)), .inl (G.1, 48, .inl (a 15)), .inl (G.1, 288, .inl (a 16)), .inl (G.1, 150, .inl (a 20)), .inl (G.1, 5, .inl (a 24)), .inl (G.1, 5, .inl (a 25)), .inl (G.1, 240, .inl (a 26)), .inl (G.1, 240, .inl (a 27)), .inl (G.1, 12, .inl (a 34))]
def b2i (b : Bool) : Int32 := if b = true then 1 else 0
theorem b2i_p {c : Prop} [Decidable c] (h : c) : b2i (decide c) = 1 := by rw [decide_eq_true h]; rfl
theorem b2i_n {c : Prop} [Decidable c] (h : ¬ c) : b2i (decide c) = 0 := by rw [decide_eq_false h]; rfl
theorem b2i_np {c : Prop} [Decidable c] (h : c) : b2i (!decide c) = 0 := by rw [decide_eq_true h]; rfl
theorem b2i_nn {c : Prop} [Decidable c] (h : ¬ c) : b2i (!decide c) = 1 := by rw [decide_eq_false h]; rfl
theorem nar_b (b : Bool) : narrow .boolean (.int (b2i b)) = .int (b2i b) := by cases b <;> decide
theorem fit_b (b : Bool) : fits .boolean (.int (b2i b)) = true := by cases b <;> decide
theorem b2i_0 {b : Bool} (h : b2i b = 0) : ¬ b = true := by cases b with
  | true => exact absurd h (by decide)
  | false => exact Bool.false_ne_true
theorem b2i_1 {b : Bool} (h : ¬ b2i b = 0) : b = true := by cases b with
  | true => rfl
  | false => exact absurd (by decide) h
section zRb
variable {G : zG} {M : zM} {pc : Nat} {loc : List (Nat × Value)} {st : List Value} {h : zH} {Q : Option Value → zH → Prop}
theorem R_ifb_eq (q t : Nat) {b : Bool} {off : Int} (hd : decode M.2.1 pc = .ok (.ifCond .eq off, 3)) (hq : pc + 3 = q) (ht : (pc : Int) + off = (t : Int)) (kt : ¬ b = true → R G M t loc st h Q) (kf : b = true → R G M q loc st h Q) : R G M pc loc (.int (b2i b) :: st) h Q := R_if_eq q t hd hq ht (fun c => kt (b2i_0 c)) (fun c => kf (b2i_1 c))
theorem R_ifb_ne (q t : Nat) {b : Bool} {off : Int} (hd : decode M.2.1 pc = .ok (.ifCond .ne off, 3)) (hq : pc + 3 = q) (ht : (pc : Int) + off = (t : Int)) (kt : b = true → R G M t loc st h Q) (kf : ¬ b = true → R G M q loc st h Q) : R G M pc loc (.int (b2i b) :: st) h Q := R_if_ne q t hd hq ht (fun c => kt (b2i_1 c)) (fun c => kf (b2i_0 c))
end zRb
theorem R_cut {G : zG} {M : zM} {pc : Nat} {loc : List (Nat × Value)} {st : List Value} {h : zH} {Q : Option Value → zH → Prop} (pc1 : Nat) (loc1 : List (Nat × Value)) (st1 : List Value) (h1 : zH) (k : R G M pc1 loc1 st1 h1 Q) (k2 : R G M pc1 loc1 st1 h1 Q → R G M pc loc st h Q) : R G M pc loc st h Q := k2 k
theorem R_tableD {G : zG} {M : zM} {pc : Nat} {loc : List (Nat × Value)} {st : List Value} {h : zH} {Q : Option Value → zH → Prop} (t : Nat) {dflt lo hi : Int} {offs : Array Int} {len : Nat} {x : Int32} (ks : List Int) (hd : decode M.2.1 pc = .ok (.tableswitch dflt lo hi offs, len)) (hk : ∀ k ∈ ks, ¬ x.toInt = k) (hh : (List.range offs.size).all (fun j => decide (offs[j]? = some dflt) || decide (lo + (j : Int) ∈ ks)) = true ∧ hi - lo < (offs.size : Int)) (ht : (pc : Int) + dflt = (t : Int)) (k : R G M t loc st h Q) : R G M pc loc (.int x :: st) h Q := by
  by_cases h1 : x.toInt < lo
  · exact R_tableOut t hd (Or.inl h1) ht k
  · by_cases h2 : hi < x.toInt
    · exact R_tableOut t hd (Or.inr h2) ht k
    · have hj : (x.toInt - lo).toNat < offs.size := by have := hh.2; omega
      have h3 := List.all_eq_true.mp hh.1 _ (List.mem_range.mpr hj)
      rw [Bool.or_eq_true, decide_eq_true_eq, decide_eq_true_eq] at h3
      rcases h3 with h3 | h3
      · exact R_tableIn t hd h1 h2 h3 ht k
      · exact absurd (by omega) (hk _ h3)
theorem R_aaldAt {G : zG} {M : zM} {pc : Nat} {loc : List (Nat × Value)} {st : List Value} {h : zH} {Q : Option Value → zH → Prop} (q : Nat) {i n y : Nat} {cA : ClassId} {f : Nat → Option Nat} {x : Int32} (v : Int32) (hx0 : x = v) (hd : decode M.2.1 pc = .ok (.aaload, 1)) (hq : pc + 1 = q) (hg : zg h i = some (.inl (cA, n, .inr (.inr (.inr (.inr f)))))) (hc : cA = G.2.2.1) (hx : vp_in v n) (hy : f v.toNatClampNeg = some y) (k : R G M q loc (.ref y :: st) h Q) : R G M pc loc (.int x :: .ref i :: st) h Q := by
  subst hx0
  exact R_aald q hd hq hg hc hx hy k
theorem pr1 {α β : Type} {x : α × β} {a : α} {b : β} (e : x = (a, b)) : x.1 = a := by rw [e]
theorem pr2 {α β : Type} {x : α × β} {a : α} {b : β} (e : x = (a, b)) : x.2 = b := by rw [e]
theorem nm_X2_99 : (RX2, 99, yX6_held) ∈ zNm := List.mem_cons_self
theorem nm_X5_143 : (RX5, 143, yX6_outside) ∈ zNm := List.mem_cons_of_mem _ List.mem_cons_self
theorem nn_136 : Cond.fieldLinkNest RX5 136 RX6 "LEAST" "[I" RX6 ∈ zN := List.mem_cons_self
theorem nn_140 : Cond.fieldLinkNest RX5 140 RX6 "GREATEST" "[I" RX6 ∈ zN := List.mem_cons_of_mem _ List.mem_cons_self
theorem R_nm {G : zG} {M : zM} {pc : Nat} {loc : List (Nat × Value)} {st : List Value} {h : zH} {Q : Option Value → zH → Prop} {x : Int32} (k : ∀ z : Int32, z = x → R G M pc loc (.int z :: st) h Q) : R G M pc loc (.int x :: st) h Q := k x rfl
theorem zs_zs (h : zH) (i : Nat) (x y : va_E) : zs (zs h i x) i y = zs h i y := by
  unfold zs
  by_cases hi : i < 100
  · simp [hi]
  · simp [hi]
theorem zg_zs {h : zH} {i : Nat} {x y : va_E} (hg : zg h i = some y) : zg (zs h i x) i = some x := by
  unfold zg zs at *
  by_cases hi : i < 100
  · simp only [hi, if_true] at hg ⊢
    rw [List.getElem?_set_self (List.getElem?_eq_some_iff.mp hg).1]
  · simp only [hi, if_false] at hg ⊢
    rw [List.getElem?_set_self (List.getElem?_eq_some_iff.mp hg).1]
theorem zg_zn {h : zH} {i j : Nat} {x y : va_E} (hij : i ≠ j) (hg : zg h j = some y) : zg (zs h i x) j = some y := by
  unfold zg zs at *
  by_cases hi : i < 100 <;> by_cases hj : j < 100
  · simp only [hi, hj, if_true] at hg ⊢
    rw [List.getElem?_set_ne hij]; exact hg
  · simp only [hi, hj, if_true, if_false] at hg ⊢
    exact hg
  · simp only [hi, hj, if_true, if_false] at hg ⊢
    exact hg
  · simp only [hi, hj, if_false] at hg ⊢
    rw [List.getElem?_set_ne (by omega)]; exact hg
theorem EvF.of {G : zG} {M : zM} {as : List Value} {h h' : zH} {r : Option Value} (hy : plainName M.1.cls = true) (hn : Nat.ble (lg_sl as).length M.2.2.1 = true) (k : R G M 0 (lv_args 0 as) [] h (fun r0 h0 => r0 = r ∧ h0 = h')) : EvF G M as h r h' := Ev.of hy (Nat.le_of_ble_eq_true hn) k
/-- texts that a parlour may be told in: each letter is a char -/
def zCh (f : Nat → Int32) : Prop := ∀ j : Nat, narrow .char (.int (f j)) = .int (f j)
theorem pnX0 : plainName RX0 = true := by decide +kernel
theorem pnX1 : plainName RX1 = true := by decide +kernel
theorem pnX2 : plainName RX2 = true := by decide +kernel
theorem pnX3 : plainName RX3 = true := by decide +kernel
theorem pnX4 : plainName RX4 = true := by decide +kernel
theorem pnX5 : plainName RX5 = true := by decide +kernel
theorem pnX6 : plainName RX6 = true := by decide +kernel
theorem pnX7 : plainName RX7 = true := by decide +kernel
theorem pnJ0 : plainName RJ0 = true := by decide +kernel
theorem pnJ1 : plainName RJ1 = true := by decide +kernel
theorem pnJ3 : plainName RJ3 = true := by decide +kernel
def sMax (x y : Int32) : Int32 := if x < y then y else x
def sMin (x y : Int32) : Int32 := if y < x then y else x
def sAbs (x : Int32) : Int32 := if 0 ≤ x then x else 0 - x
