/-! between two calls: the class's parlour now (n), its image (i), its letters, numbers, refusals, beside the reference's -/
def bt (x : Int32) (lo hi : Int) : Prop := lo ≤ x.toInt ∧ x.toInt ≤ hi
def rS (N f : Nat → Int32) (ar : Nat → Nat → Int32) : Prop := N 0 = ar 1 0 ∧ N 1 = ar 1 1 ∧ N 2 = ar 1 2 ∧ N 6 = f 8 ∧ N 7 = f 11 ∧ N 8 = f 12 ∧ N 9 = f 9 ∧ N 10 = ar 1 3 ∧ N 11 = f 10 ∧ N 12 = ar 1 4 ∧ N 13 = ar 1 5
def rP (Q : Nat → Nat → Int32) (sz : Int32) (ar : Nat → Nat → Int32) : Prop := ∀ p : Nat, (p : Int) < sz.toInt → Q p 0 = ar 2 p ∧ Q p 1 = ar 3 p ∧ Q p 2 = ar 4 p ∧ Q p 3 = ar 5 p ∧ Q p 4 = ar 6 p ∧ Q p 5 = ar 7 p
/-- one of the people in range -/
def rQ (q : Nat → Int32) : Prop := bt (q 0) 0 4 ∧ bt (q 1) 0 9 ∧ bt (q 2) 0 9 ∧ bt (q 3) 0 1 ∧ bt (q 4) 1 5 ∧ bt (q 5) 0 9
/-- all but AT and MINUTE in range -/
def rR (n : zP) : Prop := bt (n.1 1) (-20) 20 ∧ bt (n.1 2) (-20) 20 ∧ bt (n.1 6) 0 5 ∧ ((n.1 6 = 0 → n.1 7 = 0) ∧ (0 < (n.1 6).toInt → 0 ≤ (n.1 7).toInt ∧ (n.1 7).toInt < (n.1 6).toInt)) ∧ bt (n.1 10) (-9) 9 ∧ bt (n.1 12) 1 20 ∧ bt (n.1 13) 0 9 ∧ (∀ p : Nat, (p : Int) < (n.1 6).toInt → rQ (n.2 p)) ∧ bt (n.1 9) 0 4 ∧ bt (n.1 11) 0 4
def rN (n : zP) (f : Nat → Int32) (ar : Nat → Nat → Int32) : Prop := rS n.1 f ar ∧ rP n.2 (n.1 6) ar ∧ rR n ∧ bt (n.1 0) (-250) 250 ∧ bt (n.1 8) 0 9999
def fI (s : Nat → Int32) : Nat → Int32 := fun k => if k = 8 then s 36 else if k = 9 then s 37 else if k = 10 then s 38 else if k = 11 then s 39 else if k = 12 then s 40 else 0
def aI (s : Nat → Int32) : Nat → Nat → Int32 := fun k j => if k = 1 then s j else if k = 2 then s (6 + j) else if k = 3 then s (11 + j) else if k = 4 then s (16 + j) else if k = 5 then s (21 + j) else if k = 6 then s (26 + j) else if k = 7 then s (31 + j) else 0
def Inv (n i : zP) (cf : Nat → Int32) (ca : Nat → Nat → Int32) (f : Nat → Int32) (ar : Nat → Nat → Int32) : Prop := rN n f ar ∧ (cf 0 = f 21 ∧ (¬ cf 0 = 0 → rN i (fI (ar 20)) (aI (ar 20)))) ∧ (cf 2 = f 17 ∧ bt (cf 2) 0 96 ∧ zCh (ca 33) ∧ ∀ j : Nat, (j : Int) < (cf 2).toInt → ca 33 j = ar 13 j ∧ bt (ca 33 j) 0 255) ∧ (cf 1 = f 35 ∧ bt (cf 1) 0 12 ∧ ∀ j : Nat, (j : Int) < (cf 1).toInt → ca 34 j = ar 34 j) ∧ (∀ j : Nat, j < 7 → ca 35 j = ar 0 j)
theorem nC {x : Int32} {p : Nat} (h : p < x.toNatClampNeg) : (p : Int) < x.toInt := by
  unfold Int32.toNatClampNeg at h
  omega
theorem rN.mk {n : zP} {f : Nat → Int32} {ar : Nat → Nat → Int32} (h : rN n f ar) : mOk f ar := by
  obtain ⟨⟨-, -, -, e6, e7, -, -, -, -, e12, -⟩, hP, ⟨-, -, h6, ⟨-, ht⟩, -, h12, -, hQ, -, -⟩, -, -⟩ := h
  unfold mOk
  rw [← e6, ← e7, ← e12]
  refine ⟨h6, ht, fun p hp => ?_, fun e => ?_⟩
  · have hp := nC hp
    obtain ⟨-, -, -, p3, p4, -⟩ := hP p hp
    obtain ⟨-, -, -, q3, q4, -⟩ := hQ p hp
    rw [← p3, ← p4]
    refine ⟨?_, fun e => ?_⟩
    · by_cases z : (n.2 p 3).toInt = 0
      · exact Or.inl (Int32.toInt_inj.mp (z.trans (by decide)))
      · exact Or.inr (Int32.toInt_inj.mp ((show (n.2 p 3).toInt = 1 by unfold bt at q3; omega).trans (by decide)))
    · rw [e] at q4
      exact absurd q4.1 (by decide)
  · rw [e] at h12
    exact absurd h12.1 (by decide)
theorem rN.tz {n : zP} {f : Nat → Int32} {ar : Nat → Nat → Int32} (h : rN n f ar) : tZ f := by
  obtain ⟨⟨-, -, -, e6, e7, -⟩, -, ⟨-, -, -, ⟨h0, -⟩, -⟩, -, -⟩ := h
  unfold tZ
  rw [← e6, ← e7]
  exact h0
section zIv
variable {n i : zP} {cf : Nat → Int32} {ca : Nat → Nat → Int32} {f : Nat → Int32} {ar : Nat → Nat → Int32}
theorem iv_mk (h : Inv n i cf ca f ar) : mOk f ar := h.1.mk
theorem iv_tz (h : Inv n i cf ca f ar) : tZ f := h.1.tz
theorem iv_sz (h : Inv n i cf ca f ar) : 0 ≤ (n.1 6).toInt ∧ (n.1 6).toInt ≤ 5 := h.1.2.2.1.2.2.1
theorem iv_r0 (h : Inv n i cf ca f ar) : ¬ cf 1 < 0 := by
  have := h.2.2.2.1.2.1.1
  rw [Int32.lt_iff_toInt_lt, show (0 : Int32).toInt = 0 by decide]
  omega
theorem cl12 {x : Int32} (h : bt x 0 12) : x.toNatClampNeg ≤ 12 := by
  unfold bt at h
  unfold Int32.toNatClampNeg
  omega
theorem iv_c12 (h : Inv n i cf ca f ar) : (cf 1).toNatClampNeg ≤ 12 := cl12 h.2.2.2.1.2.1
theorem iv_12 (h : Inv n i cf ca f ar) : (f 35).toNatClampNeg ≤ 12 := h.2.2.2.1.1 ▸ iv_c12 h
theorem iv_35 (h : Inv n i cf ca f ar) : 0 ≤ (f 35).toInt ∧ (f 35).toInt ≤ 12 := h.2.2.2.1.1 ▸ h.2.2.2.1.2.1
theorem iv_l96 (h : Inv n i cf ca f ar) : 0 ≤ (cf 2).toInt ∧ (cf 2).toInt ≤ 96 := h.2.2.1.2.1
theorem iv_17 (h : Inv n i cf ca f ar) : 0 ≤ (f 17).toInt ∧ (f 17).toInt ≤ 96 := h.2.2.1.1 ▸ h.2.2.1.2.1
theorem iv_ch (h : Inv n i cf ca f ar) : zCh (ca 33) := h.2.2.1.2.2.1
end zIv
theorem la_in {a L : Nat} {k : Nat} (h : a + 4 ≤ L) (hL : L ≤ 2048) (hk : k < 4) : vp_in (nI a + nI k) L := by
  rw [nI_add]
  exact vp_in_nI (by omega) (by omega)
theorem la_0 {a L : Nat} (h : a + 4 ≤ L) (hL : L ≤ 2048) : vp_in (nI a) L := vp_in_nI (by omega) (by omega)
