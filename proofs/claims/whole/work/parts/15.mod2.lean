theorem gi_keep : ∀ (j a : Nat) (f : Nat → Int32) (ar : Nat → Nat → Int32), (itX7_goesOne j a f ar).1 8 = f 8 ∧ (itX7_goesOne j a f ar).1 11 = f 11 ∧ (itX7_goesOne j a f ar).1 28 = f 28 ∧ (itX7_goesOne j a f ar).1 33 = f 33 + 1 ∧ (itX7_goesOne j a f ar).2 1 = ar 1 ∧ (itX7_goesOne j a f ar).2 5 = ar 5 ∧ (itX7_goesOne j a f ar).2 6 = ar 6
  | 0, _, _, _ => ⟨rfl, rfl, rfl, rfl, rfl, rfl, rfl⟩
  | j + 1, a, f, ar => gi_keep j (a + 1) f (up2 ar 24 (upd (ar 24) (nI a).toNatClampNeg ((ar 24 (nI a).toNatClampNeg) + (sX7_botherOf ar (nI a) (sX7_size ((ar 1 0) - (sX7_placeOf ar (ar 5 (nI a).toNatClampNeg))))))))
theorem gi_ok {j : Nat} {f : Nat → Int32} {ar : Nat → Nat → Int32} (hk : mOk f ar) : mOk (itX7_goesOne j 0 f ar).1 (itX7_goesOne j 0 f ar).2 := by
  obtain ⟨h8, h11, -, -, h1, h5, h6⟩ := gi_keep j 0 f ar
  unfold mOk at hk ⊢
  rw [h8, h11, h1, h5, h6]
  exact hk
theorem tu_next {t n : Int32} (h0 : 0 ≤ t.toInt) (h1 : t.toInt < n.toInt) (h5 : n.toInt ≤ 5) : 0 ≤ ((t + 1) - (t + 1) / n * n).toInt ∧ ((t + 1) - (t + 1) / n * n).toInt < n.toInt := by
  obtain ⟨a, ha, rfl⟩ := nI_of (x := t) (by rw [Int32.lt_iff_toInt_lt, show (0 : Int32).toInt = 0 by decide]; omega)
  obtain ⟨b, hb, rfl⟩ := nI_of (x := n) (by rw [Int32.lt_iff_toInt_lt, show (0 : Int32).toInt = 0 by decide]; omega)
  rw [nI_toInt ha] at h0 h1
  rw [nI_toInt hb] at h1 h5
  have hr := pk_rem (a := a + 1) (d := b) (by omega) (by omega) hb
  rw [nI_1, hr, nI_toInt hb, nI_toInt (Nat.lt_trans (Nat.mod_lt _ (by omega)) hb)]
  have := Nat.mod_lt (a + 1) (show 0 < b by omega)
  omega
theorem gu_ok {f : Nat → Int32} {ar : Nat → Nat → Int32} (hk : mOk f ar) (c : ¬ f 8 ≤ 0) : mOk (sX7_getsUp f ar).1 (sX7_getsUp f ar).2 := by
  have hp := mo_pos c
  have ht := hk.2.1 hp
  exact ⟨hk.1, fun _ => tu_next ht.1 ht.2 hk.1.2, hk.2.2.1, hk.2.2.2⟩
