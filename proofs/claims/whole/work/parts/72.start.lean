theorem tb_m {w : Cond} (h : w ∈ tables_1) : w ∈ lw_tbl := List.mem_append_right _ h
theorem tb_1 {w : Cond} (i : Nat) (h : tables_1_1[i]? = some w) : w ∈ lw_tbl := tb_m (List.mem_append_left _ (List.mem_of_getElem? h))
theorem tb_2 {w : Cond} (i : Nat) (h : tables_1_2[i]? = some w) : w ∈ lw_tbl := tb_m (List.mem_append_right _ (List.mem_append_left _ (List.mem_of_getElem? h)))
theorem tb_3 {w : Cond} (i : Nat) (h : tables_1_3[i]? = some w) : w ∈ lw_tbl := tb_m (List.mem_append_right _ (List.mem_append_right _ (List.mem_append_left _ (List.mem_of_getElem? h))))
theorem tb_4 {w : Cond} (i : Nat) (h : tables_1_4[i]? = some w) : w ∈ lw_tbl := tb_m (List.mem_append_right _ (List.mem_append_right _ (List.mem_append_right _ (List.mem_append_left _ (List.mem_of_getElem? h)))))
theorem zE.congr {G : zG} {ad ad1 : Nat → Nat} {A : Nat → Prop} {U : State} {H : Heap} (h : zE G ad A U H) (e : ∀ i, 1000 ≤ i → ad1 i = ad i) : zE G ad1 A U H := by
  obtain ⟨h1, h2, h3, h4, h5, h6, h7⟩ := h
  refine ⟨h1, h2, fun q hq => ?_, fun i n f hi => ?_, ?_, fun i k tx hi => ?_, ?_⟩
  · have hz := h3 q hq
    have ez : zv ad1 q.2.2.2 = zv ad q.2.2.2 := by
      simp only [zSt, List.mem_cons, List.not_mem_nil, or_false] at hq
      rcases hq with rfl | rfl | rfl
      · exact congrArg Value.ref (e 3000 (by omega))
      · exact congrArg Value.ref (e 3001 (by omega))
      · rfl
    rw [ez]
    exact hz
  · have hz := h4 i n f hi
    have ei : ad1 i = ad i := by
      refine e i ?_
      unfold zro at hi
      split at hi
      · omega
      · split at hi
        · omega
        · split at hi
          · omega
          · cases hi
    rw [ei]
    exact hz
  · rw [show (fun i => ad1 (1000 + i)) = fun i => ad (1000 + i) from funext fun i => e _ (by omega), show (fun i => ad1 (2000 + i)) = fun i => ad (2000 + i) from funext fun i => e _ (by omega)]
    exact h5
  · rw [e (1000 + i) (by omega)]
    exact h6 i k tx hi
  · rw [e 5000 (by omega)]
    exact h7
theorem al_tbl {args : Array Value} {s : State} (h : ∀ w ∈ lw_tbl, w.before args s = true) : ∀ w ∈ zAL, w.before args s = true := fun w hw => h w (al_good w hw).1
theorem st_arr (ty : FieldType) {s : State} {args : Array Value} (hp : (∀ C, ty ≠ .object C)) (h : (Cond.arrayClass ty).before args s = true) : ∃ cA : ClassId, ArrOfT s cA ty ∧ va_RA s cA ty := by
  obtain ⟨cA, kA, comp, h1, h2, h3⟩ := Cond.arrayClass_spec h
  refine ⟨cA, fun n z => ⟨fun k h => (by cases h), kA, h2, comp, h3⟩, ?_⟩
  cases ty with
  | object C => exact absurd rfl (hp C)
  | _ => exact h1
theorem st_arrO (C : String) {s : State} {args : Array Value} (h : (Cond.arrayOver (.object C)).before args s = true) : ∃ cA : ClassId, ArrOfT s cA (.object C) ∧ va_RA s cA (.object C) := by
  obtain ⟨comp, c, k, h1, -, h3, h4, h5⟩ := Cond.arrayOver_spec h
  exact ⟨c, fun n z => ⟨fun k h => (by cases h), k, h3, comp, h4⟩, k, comp, h3, h4, h1, h5⟩
theorem st_K {s : State} {b L : Nat} {xs : Nat → Int32} (hts : ∀ w ∈ lw_tbl, w.before #[Value.ref b] s = true) (hgv : (Jvm.Cond.and given_1 narrow_1).before #[Value.ref b] s = true) : ∃ (D : va_G) (cI cC cP : ClassId), va_K D vwCl [(cI, .int), (cC, .char), (cP, .object RX3)] s := by
  have hal := al_tbl hts
  obtain ⟨cI, i1, i2⟩ := st_arr .int (fun _ h => by cases h) (hal _ awI)
  obtain ⟨cC, c1, c2⟩ := st_arr .char (fun _ h => by cases h) (hal _ awC)
  obtain ⟨cP, p1, p2⟩ := st_arrO RX3 (hts (.arrayOver (.object RX3)) (tb_1 73 rfl))
  obtain ⟨k0, j0, n0⟩ := u_known (n := 6) hal inX0 (hal (Cond.instantiable RX0 6) (al_1 150 (by decide +kernel)))
  obtain ⟨k1, j1, n1⟩ := u_known (n := 2) hal inX1 (hal (Cond.instantiable RX1 2) (al_1 30 (by decide +kernel)))
  obtain ⟨k2, j2, n2⟩ := u_known (n := 9) hal inX2 (hal (Cond.instantiable RX2 9) (al_1 24 (by decide +kernel)))
  obtain ⟨k3, j3, n3⟩ := u_known (n := 6) hal inX3 (hal (Cond.instantiable RX3 6) (al_1 74 (by decide +kernel)))
  obtain ⟨k4, j4, n4⟩ := u_known (n := 3) hal inX4 (hal (Cond.instantiable RX4 3) (al_1 48 (by decide +kernel)))
  obtain ⟨k5, j5, n5⟩ := u_known (n := 2) hal inX5 (hal (Cond.instantiable RX5 2) (al_1 177 (by decide +kernel)))
  obtain ⟨k6, j6, n6⟩ := u_known (n := 9) hal inX6 (hal (Cond.instantiable RX6 9) (al_1 16 (by decide +kernel)))
  obtain ⟨k7, j7, n7⟩ := u_known (n := 36) hal inX7 (hal (Cond.instantiable RX7 36) (al_4 16 (by decide +kernel)))
  refine ⟨(fun c => ([k0, k1, k2, k3, k4, k5, k6, k7] : List ClassId).getD c 0, fun c => ([j0, j1, j2, j3, j4, j5, j6, j7] : List (Nat → Nat)).getD c (fun _ => 0)), cI, cC, cP, fun c q hq => ?_, fun k q hq => ?_⟩
  · match c, hq with
    | 0, hq => cases hq; exact n0
    | 1, hq => cases hq; exact n1
    | 2, hq => cases hq; exact n2
    | 3, hq => cases hq; exact n3
    | 4, hq => cases hq; exact n4
    | 5, hq => cases hq; exact n5
    | 6, hq => cases hq; exact n6
    | 7, hq => cases hq; exact n7
    | c + 8, hq => simp [vwCl] at hq
  · match k, hq with
    | 0, hq => cases hq; exact ⟨i1, i2⟩
    | 1, hq => cases hq; exact ⟨c1, c2⟩
    | 2, hq => cases hq; exact ⟨p1, p2⟩
    | k + 3, hq => simp at hq
def zKs : List Nat := [35, 113, 82, 151, 23, 25, 27, 29, 31, 33]
def zTm (i : Nat) : Term := Term.string RX5 (zKs.getD i 0)
theorem st_ex {s : State} {b : Nat} (hs : ∀ c ∈ flatC (Jvm.Cond.and given_1 narrow_1), c.before #[Value.ref b] s = true) : ∀ i : Nat, i < 10 → (Cond.exactly (zTm i) "java/lang/String").before #[Value.ref b] s = true := by
  intro i hi
  match i, hi with
  | 0, _ => exact hs _ (by decide +kernel)
  | 1, _ => exact hs _ (by decide +kernel)
  | 2, _ => exact hs _ (by decide +kernel)
  | 3, _ => exact hs _ (by decide +kernel)
  | 4, _ => exact hs _ (by decide +kernel)
  | 5, _ => exact hs _ (by decide +kernel)
  | 6, _ => exact hs _ (by decide +kernel)
  | 7, _ => exact hs _ (by decide +kernel)
  | 8, _ => exact hs _ (by decide +kernel)
  | 9, _ => exact hs _ (by decide +kernel)
  | i + 10, h => exact absurd h (by omega)
theorem st_co {s : State} {b : Nat} (hs : ∀ c ∈ flatC (Jvm.Cond.and given_1 narrow_1), c.before #[Value.ref b] s = true) : ∀ i : Nat, i < 10 → (Cond.eq (.field (zTm i) "java/lang/String" "coder" "B") (.int 0)).before #[Value.ref b] s = true := by
  intro i hi
  match i, hi with
  | 0, _ => exact hs _ (by decide +kernel)
  | 1, _ => exact hs _ (by decide +kernel)
  | 2, _ => exact hs _ (by decide +kernel)
  | 3, _ => exact hs _ (by decide +kernel)
  | 4, _ => exact hs _ (by decide +kernel)
  | 5, _ => exact hs _ (by decide +kernel)
  | 6, _ => exact hs _ (by decide +kernel)
  | 7, _ => exact hs _ (by decide +kernel)
  | 8, _ => exact hs _ (by decide +kernel)
  | 9, _ => exact hs _ (by decide +kernel)
  | i + 10, h => exact absurd h (by omega)
theorem st_ar {s : State} {b : Nat} (hs : ∀ c ∈ flatC (Jvm.Cond.and given_1 narrow_1), c.before #[Value.ref b] s = true) : ∀ i : Nat, i < 10 → (Cond.arrayOf (.field (zTm i) "java/lang/String" "value" "[B") .byte).before #[Value.ref b] s = true := by
  intro i hi
  match i, hi with
  | 0, _ => exact hs _ (by decide +kernel)
  | 1, _ => exact hs _ (by decide +kernel)
  | 2, _ => exact hs _ (by decide +kernel)
  | 3, _ => exact hs _ (by decide +kernel)
  | 4, _ => exact hs _ (by decide +kernel)
  | 5, _ => exact hs _ (by decide +kernel)
  | 6, _ => exact hs _ (by decide +kernel)
  | 7, _ => exact hs _ (by decide +kernel)
  | 8, _ => exact hs _ (by decide +kernel)
  | 9, _ => exact hs _ (by decide +kernel)
  | i + 10, h => exact absurd h (by omega)
theorem st_le {s : State} {b : Nat} (hs : ∀ c ∈ flatC (Jvm.Cond.and given_1 narrow_1), c.before #[Value.ref b] s = true) : ∀ i : Nat, i < 10 → (Cond.eq (.length (.field (zTm i) "java/lang/String" "value" "[B")) (.int (Int32.ofNat (zLn.getD i 0)))).before #[Value.ref b] s = true := by
  intro i hi
  match i, hi with
  | 0, _ => exact hs _ (by decide +kernel)
  | 1, _ => exact hs _ (by decide +kernel)
  | 2, _ => exact hs _ (by decide +kernel)
  | 3, _ => exact hs _ (by decide +kernel)
  | 4, _ => exact hs _ (by decide +kernel)
  | 5, _ => exact hs _ (by decide +kernel)
  | 6, _ => exact hs _ (by decide +kernel)
  | 7, _ => exact hs _ (by decide +kernel)
  | 8, _ => exact hs _ (by decide +kernel)
  | 9, _ => exact hs _ (by decide +kernel)
  | i + 10, h => exact absurd h (by omega)
theorem st_el0 {s : State} {b : Nat} (hs : ∀ c ∈ flatC (Jvm.Cond.and given_1 narrow_1), c.before #[Value.ref b] s = true) : ∀ j : Nat, j < 0 → (Cond.eq (.elem (.field (zTm 0) "java/lang/String" "value" "[B") (.int (Int32.ofNat j))) (.int ((zBy.getD 0 []).getD j 0))).before #[Value.ref b] s = true := fun j hj => absurd hj (Nat.not_lt_zero j)
theorem st_el1 {s : State} {b : Nat} (hs : ∀ c ∈ flatC (Jvm.Cond.and given_1 narrow_1), c.before #[Value.ref b] s = true) : ∀ j : Nat, j < 5 → (Cond.eq (.elem (.field (zTm 1) "java/lang/String" "value" "[B") (.int (Int32.ofNat j))) (.int ((zBy.getD 1 []).getD j 0))).before #[Value.ref b] s = true := by
  intro j hj
  match j, hj with
  | 0, _ => exact hs _ (by decide +kernel)
  | 1, _ => exact hs _ (by decide +kernel)
  | 2, _ => exact hs _ (by decide +kernel)
  | 3, _ => exact hs _ (by decide +kernel)
  | 4, _ => exact hs _ (by decide +kernel)
  | j + 5, h => exact absurd h (by omega)
theorem st_el2 {s : State} {b : Nat} (hs : ∀ c ∈ flatC (Jvm.Cond.and given_1 narrow_1), c.before #[Value.ref b] s = true) : ∀ j : Nat, j < 5 → (Cond.eq (.elem (.field (zTm 2) "java/lang/String" "value" "[B") (.int (Int32.ofNat j))) (.int ((zBy.getD 2 []).getD j 0))).before #[Value.ref b] s = true := by
  intro j hj
  match j, hj with
  | 0, _ => exact hs _ (by decide +kernel)
  | 1, _ => exact hs _ (by decide +kernel)
  | 2, _ => exact hs _ (by decide +kernel)
  | 3, _ => exact hs _ (by decide +kernel)
  | 4, _ => exact hs _ (by decide +kernel)
  | j + 5, h => exact absurd h (by omega)
theorem st_el3 {s : State} {b : Nat} (hs : ∀ c ∈ flatC (Jvm.Cond.and given_1 narrow_1), c.before #[Value.ref b] s = true) : ∀ j : Nat, j < 5 → (Cond.eq (.elem (.field (zTm 3) "java/lang/String" "value" "[B") (.int (Int32.ofNat j))) (.int ((zBy.getD 3 []).getD j 0))).before #[Value.ref b] s = true := by
  intro j hj
  match j, hj with
  | 0, _ => exact hs _ (by decide +kernel)
  | 1, _ => exact hs _ (by decide +kernel)
  | 2, _ => exact hs _ (by decide +kernel)
  | 3, _ => exact hs _ (by decide +kernel)
  | 4, _ => exact hs _ (by decide +kernel)
  | j + 5, h => exact absurd h (by omega)
theorem st_el4 {s : State} {b : Nat} (hs : ∀ c ∈ flatC (Jvm.Cond.and given_1 narrow_1), c.before #[Value.ref b] s = true) : ∀ j : Nat, j < 7 → (Cond.eq (.elem (.field (zTm 4) "java/lang/String" "value" "[B") (.int (Int32.ofNat j))) (.int ((zBy.getD 4 []).getD j 0))).before #[Value.ref b] s = true := by
  intro j hj
  match j, hj with
  | 0, _ => exact hs _ (by decide +kernel)
  | 1, _ => exact hs _ (by decide +kernel)
  | 2, _ => exact hs _ (by decide +kernel)
  | 3, _ => exact hs _ (by decide +kernel)
  | 4, _ => exact hs _ (by decide +kernel)
  | 5, _ => exact hs _ (by decide +kernel)
  | 6, _ => exact hs _ (by decide +kernel)
  | j + 7, h => exact absurd h (by omega)
theorem st_el5 {s : State} {b : Nat} (hs : ∀ c ∈ flatC (Jvm.Cond.and given_1 narrow_1), c.before #[Value.ref b] s = true) : ∀ j : Nat, j < 4 → (Cond.eq (.elem (.field (zTm 5) "java/lang/String" "value" "[B") (.int (Int32.ofNat j))) (.int ((zBy.getD 5 []).getD j 0))).before #[Value.ref b] s = true := by
  intro j hj
  match j, hj with
  | 0, _ => exact hs _ (by decide +kernel)
  | 1, _ => exact hs _ (by decide +kernel)
  | 2, _ => exact hs _ (by decide +kernel)
  | 3, _ => exact hs _ (by decide +kernel)
  | j + 4, h => exact absurd h (by omega)
theorem st_el6 {s : State} {b : Nat} (hs : ∀ c ∈ flatC (Jvm.Cond.and given_1 narrow_1), c.before #[Value.ref b] s = true) : ∀ j : Nat, j < 5 → (Cond.eq (.elem (.field (zTm 6) "java/lang/String" "value" "[B") (.int (Int32.ofNat j))) (.int ((zBy.getD 6 []).getD j 0))).before #[Value.ref b] s = true := by
  intro j hj
  match j, hj with
  | 0, _ => exact hs _ (by decide +kernel)
  | 1, _ => exact hs _ (by decide +kernel)
  | 2, _ => exact hs _ (by decide +kernel)
  | 3, _ => exact hs _ (by decide +kernel)
  | 4, _ => exact hs _ (by decide +kernel)
  | j + 5, h => exact absurd h (by omega)
theorem st_el7 {s : State} {b : Nat} (hs : ∀ c ∈ flatC (Jvm.Cond.and given_1 narrow_1), c.before #[Value.ref b] s = true) : ∀ j : Nat, j < 4 → (Cond.eq (.elem (.field (zTm 7) "java/lang/String" "value" "[B") (.int (Int32.ofNat j))) (.int ((zBy.getD 7 []).getD j 0))).before #[Value.ref b] s = true := by
  intro j hj
  match j, hj with
  | 0, _ => exact hs _ (by decide +kernel)
  | 1, _ => exact hs _ (by decide +kernel)
  | 2, _ => exact hs _ (by decide +kernel)
  | 3, _ => exact hs _ (by decide +kernel)
  | j + 4, h => exact absurd h (by omega)
theorem st_el8 {s : State} {b : Nat} (hs : ∀ c ∈ flatC (Jvm.Cond.and given_1 narrow_1), c.before #[Value.ref b] s = true) : ∀ j : Nat, j < 5 → (Cond.eq (.elem (.field (zTm 8) "java/lang/String" "value" "[B") (.int (Int32.ofNat j))) (.int ((zBy.getD 8 []).getD j 0))).before #[Value.ref b] s = true := by
  intro j hj
  match j, hj with
  | 0, _ => exact hs _ (by decide +kernel)
  | 1, _ => exact hs _ (by decide +kernel)
  | 2, _ => exact hs _ (by decide +kernel)
  | 3, _ => exact hs _ (by decide +kernel)
  | 4, _ => exact hs _ (by decide +kernel)
  | j + 5, h => exact absurd h (by omega)
theorem st_el9 {s : State} {b : Nat} (hs : ∀ c ∈ flatC (Jvm.Cond.and given_1 narrow_1), c.before #[Value.ref b] s = true) : ∀ j : Nat, j < 3 → (Cond.eq (.elem (.field (zTm 9) "java/lang/String" "value" "[B") (.int (Int32.ofNat j))) (.int ((zBy.getD 9 []).getD j 0))).before #[Value.ref b] s = true := by
  intro j hj
  match j, hj with
  | 0, _ => exact hs _ (by decide +kernel)
  | 1, _ => exact hs _ (by decide +kernel)
  | 2, _ => exact hs _ (by decide +kernel)
  | j + 3, h => exact absurd h (by omega)
theorem st_el {s : State} {b : Nat} (hs : ∀ c ∈ flatC (Jvm.Cond.and given_1 narrow_1), c.before #[Value.ref b] s = true) : ∀ i : Nat, i < 10 → ∀ j : Nat, j < zLn.getD i 0 → (Cond.eq (.elem (.field (zTm i) "java/lang/String" "value" "[B") (.int (Int32.ofNat j))) (.int ((zBy.getD i []).getD j 0))).before #[Value.ref b] s = true := by
  intro i hi
  match i, hi with
  | 0, _ => exact st_el0 hs
  | 1, _ => exact st_el1 hs
  | 2, _ => exact st_el2 hs
  | 3, _ => exact st_el3 hs
  | 4, _ => exact st_el4 hs
  | 5, _ => exact st_el5 hs
  | 6, _ => exact st_el6 hs
  | 7, _ => exact st_el7 hs
  | 8, _ => exact st_el8 hs
  | 9, _ => exact st_el9 hs
  | i + 10, h => exact absurd h (by omega)
theorem st_ne1 {s : State} {b : Nat} (hs : ∀ c ∈ flatC (Jvm.Cond.and given_1 narrow_1), c.before #[Value.ref b] s = true) : ∀ i : Nat, i < 1 → (Cond.not (Cond.eq (zTm i) (zTm 1))).before #[Value.ref b] s = true := by
  intro i hi
  match i, hi with
  | 0, _ => exact hs _ (by decide +kernel)
  | i + 1, h => exact absurd h (by omega)
theorem st_ne2 {s : State} {b : Nat} (hs : ∀ c ∈ flatC (Jvm.Cond.and given_1 narrow_1), c.before #[Value.ref b] s = true) : ∀ i : Nat, i < 2 → (Cond.not (Cond.eq (zTm i) (zTm 2))).before #[Value.ref b] s = true := by
  intro i hi
  match i, hi with
  | 0, _ => exact hs _ (by decide +kernel)
  | 1, _ => exact hs _ (by decide +kernel)
  | i + 2, h => exact absurd h (by omega)
theorem st_ne3 {s : State} {b : Nat} (hs : ∀ c ∈ flatC (Jvm.Cond.and given_1 narrow_1), c.before #[Value.ref b] s = true) : ∀ i : Nat, i < 3 → (Cond.not (Cond.eq (zTm i) (zTm 3))).before #[Value.ref b] s = true := by
  intro i hi
  match i, hi with
  | 0, _ => exact hs _ (by decide +kernel)
  | 1, _ => exact hs _ (by decide +kernel)
  | 2, _ => exact hs _ (by decide +kernel)
  | i + 3, h => exact absurd h (by omega)
theorem st_ne4 {s : State} {b : Nat} (hs : ∀ c ∈ flatC (Jvm.Cond.and given_1 narrow_1), c.before #[Value.ref b] s = true) : ∀ i : Nat, i < 4 → (Cond.not (Cond.eq (zTm i) (zTm 4))).before #[Value.ref b] s = true := by
  intro i hi
  match i, hi with
  | 0, _ => exact hs _ (by decide +kernel)
  | 1, _ => exact hs _ (by decide +kernel)
  | 2, _ => exact hs _ (by decide +kernel)
  | 3, _ => exact hs _ (by decide +kernel)
  | i + 4, h => exact absurd h (by omega)
theorem st_ne5 {s : State} {b : Nat} (hs : ∀ c ∈ flatC (Jvm.Cond.and given_1 narrow_1), c.before #[Value.ref b] s = true) : ∀ i : Nat, i < 5 → (Cond.not (Cond.eq (zTm i) (zTm 5))).before #[Value.ref b] s = true := by
  intro i hi
  match i, hi with
  | 0, _ => exact hs _ (by decide +kernel)
  | 1, _ => exact hs _ (by decide +kernel)
  | 2, _ => exact hs _ (by decide +kernel)
  | 3, _ => exact hs _ (by decide +kernel)
  | 4, _ => exact hs _ (by decide +kernel)
  | i + 5, h => exact absurd h (by omega)
theorem st_ne6 {s : State} {b : Nat} (hs : ∀ c ∈ flatC (Jvm.Cond.and given_1 narrow_1), c.before #[Value.ref b] s = true) : ∀ i : Nat, i < 6 → (Cond.not (Cond.eq (zTm i) (zTm 6))).before #[Value.ref b] s = true := by
  intro i hi
  match i, hi with
  | 0, _ => exact hs _ (by decide +kernel)
  | 1, _ => exact hs _ (by decide +kernel)
  | 2, _ => exact hs _ (by decide +kernel)
  | 3, _ => exact hs _ (by decide +kernel)
  | 4, _ => exact hs _ (by decide +kernel)
  | 5, _ => exact hs _ (by decide +kernel)
  | i + 6, h => exact absurd h (by omega)
theorem st_ne7 {s : State} {b : Nat} (hs : ∀ c ∈ flatC (Jvm.Cond.and given_1 narrow_1), c.before #[Value.ref b] s = true) : ∀ i : Nat, i < 7 → (Cond.not (Cond.eq (zTm i) (zTm 7))).before #[Value.ref b] s = true := by
  intro i hi
  match i, hi with
  | 0, _ => exact hs _ (by decide +kernel)
  | 1, _ => exact hs _ (by decide +kernel)
  | 2, _ => exact hs _ (by decide +kernel)
  | 3, _ => exact hs _ (by decide +kernel)
  | 4, _ => exact hs _ (by decide +kernel)
  | 5, _ => exact hs _ (by decide +kernel)
  | 6, _ => exact hs _ (by decide +kernel)
  | i + 7, h => exact absurd h (by omega)
theorem st_ne8 {s : State} {b : Nat} (hs : ∀ c ∈ flatC (Jvm.Cond.and given_1 narrow_1), c.before #[Value.ref b] s = true) : ∀ i : Nat, i < 8 → (Cond.not (Cond.eq (zTm i) (zTm 8))).before #[Value.ref b] s = true := by
  intro i hi
  match i, hi with
  | 0, _ => exact hs _ (by decide +kernel)
  | 1, _ => exact hs _ (by decide +kernel)
  | 2, _ => exact hs _ (by decide +kernel)
  | 3, _ => exact hs _ (by decide +kernel)
  | 4, _ => exact hs _ (by decide +kernel)
  | 5, _ => exact hs _ (by decide +kernel)
  | 6, _ => exact hs _ (by decide +kernel)
  | 7, _ => exact hs _ (by decide +kernel)
  | i + 8, h => exact absurd h (by omega)
theorem st_ne9 {s : State} {b : Nat} (hs : ∀ c ∈ flatC (Jvm.Cond.and given_1 narrow_1), c.before #[Value.ref b] s = true) : ∀ i : Nat, i < 9 → (Cond.not (Cond.eq (zTm i) (zTm 9))).before #[Value.ref b] s = true := by
  intro i hi
  match i, hi with
  | 0, _ => exact hs _ (by decide +kernel)
  | 1, _ => exact hs _ (by decide +kernel)
  | 2, _ => exact hs _ (by decide +kernel)
  | 3, _ => exact hs _ (by decide +kernel)
  | 4, _ => exact hs _ (by decide +kernel)
  | 5, _ => exact hs _ (by decide +kernel)
  | 6, _ => exact hs _ (by decide +kernel)
  | 7, _ => exact hs _ (by decide +kernel)
  | 8, _ => exact hs _ (by decide +kernel)
  | i + 9, h => exact absurd h (by omega)
theorem st_ne {s : State} {b : Nat} (hs : ∀ c ∈ flatC (Jvm.Cond.and given_1 narrow_1), c.before #[Value.ref b] s = true) : ∀ i j : Nat, i < 10 → j < 10 → i ≠ j → (Cond.not (Cond.eq (zTm i) (zTm j))).before #[Value.ref b] s = true ∨ (Cond.not (Cond.eq (zTm j) (zTm i))).before #[Value.ref b] s = true := by
  have key : ∀ i j : Nat, i < j → j < 10 → (Cond.not (Cond.eq (zTm i) (zTm j))).before #[Value.ref b] s = true := by
    intro i j hij hj
    match j, hj with
    | 0, _ => exact absurd hij (Nat.not_lt_zero i)
    | 1, _ => exact st_ne1 hs i hij
    | 2, _ => exact st_ne2 hs i hij
    | 3, _ => exact st_ne3 hs i hij
    | 4, _ => exact st_ne4 hs i hij
    | 5, _ => exact st_ne5 hs i hij
    | 6, _ => exact st_ne6 hs i hij
    | 7, _ => exact st_ne7 hs i hij
    | 8, _ => exact st_ne8 hs i hij
    | 9, _ => exact st_ne9 hs i hij
    | j + 10, h => exact absurd h (by omega)
  intro i j hi hj hne
  rcases Nat.lt_or_gt_of_ne hne with h | h
  · exact Or.inl (key i j h hj)
  · exact Or.inr (key j i h hi)
theorem st_LEAST {s : State} {b : Nat} (hs : ∀ c ∈ flatC (Jvm.Cond.and given_1 narrow_1), c.before #[Value.ref b] s = true) {A : Nat → Prop} (hA : ∀ a : Nat, a < s.heap.size → ¬ A a) : ∃ t : Nat, (Term.static RX6 "LEAST" "[I").eval #[Value.ref b] s none [] s = some (.ref t) ∧ va_T .int t 6 (fun j => .int (zLe.getD j 0)) A s s.heap := by
  refine va_Tof (by decide) (hs _ (by decide +kernel)) (va_eqt (z := 6) (hs _ (by decide +kernel))) (fun j hj => va_eqt ?_) hA
  match j, hj with
  | 0, _ => exact hs _ (by decide +kernel)
  | 1, _ => exact hs _ (by decide +kernel)
  | 2, _ => exact hs _ (by decide +kernel)
  | 3, _ => exact hs _ (by decide +kernel)
  | 4, _ => exact hs _ (by decide +kernel)
  | 5, _ => exact hs _ (by decide +kernel)
  | j + 6, h => exact absurd h (by omega)
theorem st_GREATEST {s : State} {b : Nat} (hs : ∀ c ∈ flatC (Jvm.Cond.and given_1 narrow_1), c.before #[Value.ref b] s = true) {A : Nat → Prop} (hA : ∀ a : Nat, a < s.heap.size → ¬ A a) : ∃ t : Nat, (Term.static RX6 "GREATEST" "[I").eval #[Value.ref b] s none [] s = some (.ref t) ∧ va_T .int t 6 (fun j => .int (zGr.getD j 0)) A s s.heap := by
  refine va_Tof (by decide) (hs _ (by decide +kernel)) (va_eqt (z := 6) (hs _ (by decide +kernel))) (fun j hj => va_eqt ?_) hA
  match j, hj with
  | 0, _ => exact hs _ (by decide +kernel)
  | 1, _ => exact hs _ (by decide +kernel)
  | 2, _ => exact hs _ (by decide +kernel)
  | 3, _ => exact hs _ (by decide +kernel)
  | 4, _ => exact hs _ (by decide +kernel)
  | 5, _ => exact hs _ (by decide +kernel)
  | j + 6, h => exact absurd h (by omega)
theorem st_E {s : State} {b L : Nat} {xs : Nat → Int32} (hts : ∀ w ∈ lw_tbl, w.before #[Value.ref b] s = true) (hgv : (Jvm.Cond.and given_1 narrow_1).before #[Value.ref b] s = true) (hX : va_X b L xs s s.heap) (hL : L ≤ 2048) (hbl : b < s.heap.size) (cI cC cP : ClassId) : ∃ ad : Nat → Nat, ad 4000 = b ∧ zE (cI, cC, cP, L, xs) ad (fun q : Nat => s.heap.size ≤ q) s s.heap := by
  have hal := al_tbl hts
  have hs := flat_of_before _ hgv
  have hA : ∀ a : Nat, a < s.heap.size → ¬ (fun q : Nat => s.heap.size ≤ q) a := fun a h h2 => absurd h (Nat.not_lt.mpr h2)
  obtain ⟨adK, adV, hS, hev⟩ := vk_Sof (tm := zTm) (N := 10) (len := zLn) (byt := zBy) (A := fun q : Nat => s.heap.size ≤ q) (by decide) (st_ex hs) (st_co hs) (st_ar hs) (st_le hs) (st_el hs) (st_ne hs) hA
  obtain ⟨tL, eL, hTL⟩ := st_LEAST hs hA
  obtain ⟨tG, eG, hTG⟩ := st_GREATEST hs hA
  have hQ := va_Zqof (A := fun q : Nat => s.heap.size ≤ q) (hts (.laysStatic RJ3 "SIOOBE_FORMATTER" "Ljava/util/function/BiFunction;") (tb_2 28 rfl)) (hal (.initialized RJ3) (al_1 11 (by decide +kernel))) (hs (.isRef (.static RJ3 "SIOOBE_FORMATTER" "Ljava/util/function/BiFunction;")) (by decide +kernel)) hA
  have hq : ∃ tQ : Nat, va_Z RJ3 "SIOOBE_FORMATTER" "Ljava/util/function/BiFunction;" .null (fun q : Nat => s.heap.size ≤ q) s s.heap ∨ va_Z RJ3 "SIOOBE_FORMATTER" "Ljava/util/function/BiFunction;" (.ref tQ) (fun q : Nat => s.heap.size ≤ q) s s.heap := by
    rcases hQ with z | ⟨t, z⟩
    · exact ⟨0, Or.inl z⟩
    · exact ⟨t, Or.inr z⟩
  obtain ⟨tQ, hq⟩ := hq
  refine ⟨fun i => if i < 2000 then adK (i - 1000) else if i < 3000 then adV (i - 2000) else if i = 3000 then tL else if i = 3001 then tG else if i = 4000 then b else tQ, rfl, ?_, ?_, ?_, ?_, ?_, ?_, ?_⟩
  · intro w hw
    simp only [zN, List.mem_cons, List.not_mem_nil, or_false] at hw
    rcases hw with rfl | rfl
    · exact va_Nw.of rfl (hts _ (tb_2 202 rfl))
    · exact va_Nw.of rfl (hts _ (tb_2 204 rfl))
  · intro q hq
    simp only [zNm, List.mem_cons, List.not_mem_nil, or_false] at hq
    rcases hq with rfl | rfl
    · exact va_Nw.of rfl (hts _ (tb_2 231 rfl))
    · exact va_Nw.of rfl (hts _ (tb_2 206 rfl))
  · intro q hq
    simp only [zSt, List.mem_cons, List.not_mem_nil, or_false] at hq
    rcases hq with rfl | rfl | rfl
    · exact va_Zref (hts _ (tb_2 203 rfl)) (hal _ ki6.2.1) eL hA
    · exact va_Zref (hts _ (tb_2 205 rfl)) (hal _ ki6.2.1) eG hA
    · exact va_Zof (hts _ (tb_2 12 rfl)) (hal (.initialized RJ0) (al_1 9 (by decide +kernel))) (va_eqi (hs _ (by decide +kernel))) hA
  · intro i n f hi
    unfold zro at hi
    by_cases e1 : i = 3000
    · subst e1
      cases hi
      exact hTL
    · rw [if_neg e1] at hi
      by_cases e2 : i = 3001
      · subst e2
        cases hi
        exact hTG
      · rw [if_neg e2] at hi
        by_cases e3 : i = 4000
        · subst e3
          cases hi
          obtain ⟨scr, x1, x2, x3, x4, x5⟩ := hX
          exact ⟨scr, x1, x2, x3, Nat.le_of_eq x4.symm, by rw [x4], x5, hA b hbl⟩
        · rw [if_neg e3] at hi
          cases hi
  · refine ⟨fun i hi => ?_, fun i j hi hj e => ?_⟩
    · have := hS.1 i hi
      show va_O _ (if 1000 + i < 2000 then adK (1000 + i - 1000) else _) _ _ _ ∧ va_OF _ _ _ _ (if 1000 + i < 2000 then adK (1000 + i - 1000) else _) _ _ _ ∧ va_OF _ _ _ (.ref (if 2000 + i < 2000 then _ else if 2000 + i < 3000 then adV (2000 + i - 2000) else _)) (if 1000 + i < 2000 then adK (1000 + i - 1000) else _) _ _ _ ∧ va_T _ (if 2000 + i < 2000 then _ else if 2000 + i < 3000 then adV (2000 + i - 2000) else _) _ _ _ _ _
      rw [if_pos (by omega), if_neg (by omega), if_pos (by omega), Nat.add_sub_cancel_left, Nat.add_sub_cancel_left]
      exact this
    · have e : (if 1000 + i < 2000 then adK (1000 + i - 1000) else _) = (if 1000 + j < 2000 then adK (1000 + j - 1000) else _) := e
      rw [if_pos (by omega), if_pos (by omega), Nat.add_sub_cancel_left, Nat.add_sub_cancel_left] at e
      exact hS.2 i j hi hj e
  · intro i k tx hi
    show vk_R RX5 k tx (if 1000 + i < 2000 then adK (1000 + i - 1000) else _) s
    have hl : i < 10 := (List.getElem?_eq_some_iff.mp hi).1
    rw [if_pos (by omega), Nat.add_sub_cancel_left]
    match i, hl, hi with
    | 0, _, hi => cases hi; exact vk_R.of (hts _ (tb_2 2 rfl)) (hev 0 (by decide))
    | 1, _, hi => cases hi; exact vk_R.of (hts _ (tb_2 58 rfl)) (hev 1 (by decide))
    | 2, _, hi => cases hi; exact vk_R.of (hts _ (tb_2 118 rfl)) (hev 2 (by decide))
    | 3, _, hi => cases hi; exact vk_R.of (hts _ (tb_2 119 rfl)) (hev 3 (by decide))
    | 4, _, hi => cases hi; exact vk_R.of (hts _ (tb_2 124 rfl)) (hev 4 (by decide))
    | 5, _, hi => cases hi; exact vk_R.of (hts _ (tb_2 125 rfl)) (hev 5 (by decide))
    | 6, _, hi => cases hi; exact vk_R.of (hts _ (tb_2 126 rfl)) (hev 6 (by decide))
    | 7, _, hi => cases hi; exact vk_R.of (hts _ (tb_2 127 rfl)) (hev 7 (by decide))
    | 8, _, hi => cases hi; exact vk_R.of (hts _ (tb_2 128 rfl)) (hev 8 (by decide))
    | 9, _, hi => cases hi; exact vk_R.of (hts _ (tb_2 129 rfl)) (hev 9 (by decide))
    | i + 10, h, _ => exact absurd h (by omega)
  · exact hq
