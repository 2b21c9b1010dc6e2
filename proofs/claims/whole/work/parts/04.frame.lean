/-! A HEAP AS A PICTURE: two rows of cells; a reference in a picture is a number: below 100 a place of the first row, from 100 on of the second, 1000 + i a text, 2000 + i its bytes, 3000, 3001 the two tables, 4000 the script. ad tells where each lies. -/
abbrev zH : Type := List va_E × List va_E
def zv (ad : Nat → Nat) (v : Value) : Value := match v with
  | .ref i => .ref (ad i)
  | v => v
def ze (ad : Nat → Nat) (x : va_E) : va_E := match x with
  | .inl (c, n, .inl f) => .inl (c, n, .inl f)
  | .inl (c, n, .inr (.inl f)) => .inl (c, n, .inr (.inl f))
  | .inl (c, n, .inr (.inr (.inl f))) => .inl (c, n, .inr (.inr (.inl f)))
  | .inl (c, n, .inr (.inr (.inr (.inl f)))) => .inl (c, n, .inr (.inr (.inr (.inl f))))
  | .inl (c, n, .inr (.inr (.inr (.inr f)))) => .inl (c, n, .inr (.inr (.inr (.inr (fun j => (f j).map ad)))))
  | .inr (ci, fs) => .inr (ci, fs.map (zv ad))
def zl (ad : Nat → Nat) : Nat → List va_E → va_W
  | _, [] => []
  | b, x :: l => (ad b, ze ad x) :: zl ad (b + 1) l
def zw (ad : Nat → Nat) (h : zH) : va_W := zl ad 0 h.1 ++ zl ad 100 h.2
def zg (h : zH) (i : Nat) : Option va_E := if i < 100 then h.1[i]? else h.2[i - 100]?
def zs (h : zH) (i : Nat) (x : va_E) : zH := if i < 100 then (h.1.set i x, h.2) else (h.1, h.2.set (i - 100) x)
theorem zl_get (ad : Nat → Nat) : ∀ (l : List va_E) (b k : Nat) (x : va_E), l[k]? = some x → (zl ad b l)[k]? = some (ad (b + k), ze ad x)
  | [], _, k, _, h => by simp at h
  | y :: l, b, 0, x, h => by simp at h; subst h; rfl
  | y :: l, b, k + 1, x, h => by
    have h1 : l[k]? = some x := by simpa using h
    have := zl_get ad l (b + 1) k x h1
    show (zl ad (b + 1) l)[k]? = _
    rw [this]
    congr 3
    omega
theorem zl_len (ad : Nat → Nat) : ∀ (l : List va_E) (b : Nat), (zl ad b l).length = l.length
  | [], _ => rfl
  | y :: l, b => by show (zl ad (b + 1) l).length + 1 = _; rw [zl_len ad l (b + 1)]; rfl
theorem zl_set (ad : Nat → Nat) : ∀ (l : List va_E) (b k : Nat) (x : va_E), (zl ad b l).set k (ad (b + k), ze ad x) = zl ad b (l.set k x)
  | [], _, k, _ => by simp [zl]
  | y :: l, b, 0, x => rfl
  | y :: l, b, k + 1, x => by
    show (ad b, ze ad y) :: (zl ad (b + 1) l).set k (ad (b + (k + 1)), ze ad x) = (ad b, ze ad y) :: zl ad (b + 1) (l.set k x)
    rw [← zl_set ad l (b + 1) k x, show b + (k + 1) = b + 1 + k by omega]
theorem zw_look {ad : Nat → Nat} {h : zH} {i : Nat} {x : va_E} (hg : zg h i = some x) : ∃ q : Nat, (zw ad h)[q]? = some (ad i, ze ad x) ∧ ∀ y : va_E, (zw ad h).set q (ad i, ze ad y) = zw ad (zs h i y) := by
  unfold zg at hg
  unfold zs zw
  by_cases hi : i < 100
  · rw [if_pos hi] at hg
    have hl : i < h.1.length := (List.getElem?_eq_some_iff.mp hg).1
    refine ⟨i, ?_, fun y => ?_⟩
    · rw [List.getElem?_append_left (by rw [zl_len]; exact hl), zl_get ad _ 0 i x hg, Nat.zero_add]
    · rw [if_pos hi]
      show _ = zl ad 0 (h.1.set i y) ++ zl ad 100 h.2
      rw [List.set_append_left i _ (by rw [zl_len]; exact hl), ← zl_set ad h.1 0 i y, Nat.zero_add]
  · rw [if_neg hi] at hg
    have he : 100 + (i - 100) = i := by omega
    refine ⟨h.1.length + (i - 100), ?_, fun y => ?_⟩
    · rw [List.getElem?_append_right (by rw [zl_len]; omega), zl_len, Nat.add_sub_cancel_left, zl_get ad _ 100 (i - 100) x hg, he]
    · rw [if_neg hi]
      show _ = zl ad 0 h.1 ++ zl ad 100 (h.2.set (i - 100) y)
      rw [List.set_append_right _ _ (by rw [zl_len]; omega), zl_len, Nat.add_sub_cancel_left, ← zl_set ad h.2 100 (i - 100) y, he]
/-! what is given besides: the numbers of the array classes, the script -/
abbrev zG : Type := ClassId × ClassId × ClassId × Nat × (Nat → Int32)
def zT (G : zG) : List (ClassId × FieldType) := [(G.1, .int), (G.2.1, .char), (G.2.2.1, .object RX3)]
/-- the nest's words -/
def zN : List Cond := [.fieldLinkNest RX5 136 RX6 "LEAST" "[I" RX6, .fieldLinkNest RX5 140 RX6 "GREATEST" "[I" RX6]
def zNm : List (String × Nat × MethodName) := [(RX2, 99, yX6_held), (RX5, 143, yX6_outside)]
/-- statics: class, name, descriptor, what they hold -/
def zSt : List (String × String × String × Value) := [(RX6, "LEAST", "[I", .ref 3000), (RX6, "GREATEST", "[I", .ref 3001), (RJ0, "COMPACT_STRINGS", "Z", .int 1)]
def zLe : List Int32 := [-99, -20, -20, -9, 1, 0]
def zGr : List Int32 := [99, 20, 20, 9, 20, 9]
/-- int arrays that nobody writes -/
def zro (G : zG) (i : Nat) : Option (Nat × (Nat → Int32)) := if i = 3000 then some (6, fun j => zLe.getD j 0) else if i = 3001 then some (6, fun j => zGr.getD j 0) else if i = 4000 then some (G.2.2.2.1, G.2.2.2.2) else none
/-- the texts, by their places -/
def zTx : List (Nat × String) := [(35, ""), (113, "pdfmc"), (82, "swcju"), (151, "eokbl"), (23, "P#####;"), (25, "+##;"), (27, "#+##;"), (29, "D+#;"), (31, "R###;"), (33, "##;")]
def zBy : List (List Int32) := [[], [112, 100, 102, 109, 99], [115, 119, 99, 106, 117], [101, 111, 107, 98, 108], [80, 35, 35, 35, 35, 35, 59], [43, 35, 35, 59], [35, 43, 35, 35, 59], [68, 43, 35, 59], [82, 35, 35, 35, 59], [35, 35, 59]]
def zLn : List Nat := [0, 5, 5, 5, 7, 4, 5, 4, 5, 3]
def zE (G : zG) (ad : Nat → Nat) (A : Nat → Prop) (U : State) (H : Heap) : Prop :=
  (∀ w ∈ zN, va_Nw w U) ∧ (∀ q ∈ zNm, va_Nw (.methodLinkNest q.1 q.2.1 q.2.2 RX6) U) ∧ (∀ q ∈ zSt, va_Z q.1 q.2.1 q.2.2.1 (zv ad q.2.2.2) A U H) ∧ (∀ i n f, zro G i = some (n, f) → va_T .int (ad i) n (fun j => .int (f j)) A U H) ∧ vk_S 10 zLn zBy (fun i => ad (1000 + i)) (fun i => ad (2000 + i)) A U H ∧ (∀ (i k : Nat) (tx : String), zTx[i]? = some (k, tx) → vk_R RX5 k tx (ad (1000 + i)) U) ∧ (va_Z RJ3 "SIOOBE_FORMATTER" "Ljava/util/function/BiFunction;" .null A U H ∨ va_Z RJ3 "SIOOBE_FORMATTER" "Ljava/util/function/BiFunction;" (.ref (ad 5000)) A U H)
theorem zN_warm {s U : State} (hW : s.WarmedH U.vm) (h : ∀ w ∈ zN, va_Nw w s) : ∀ w ∈ zN, va_Nw w U := by
  intro w hw
  have := h w hw
  simp only [zN, List.mem_cons, List.not_mem_nil, or_false] at hw
  rcases hw with rfl | rfl <;> exact va_Nw.warmF hW this
theorem zN_same {s U : State} (hv : s.vm = U.vm) (h : ∀ w ∈ zN, va_Nw w s) : ∀ w ∈ zN, va_Nw w U := by
  intro w hw
  have := h w hw
  simp only [zN, List.mem_cons, List.not_mem_nil, or_false] at hw
  rcases hw with rfl | rfl <;> exact va_Nw.same rfl hv this
/-- from the caller to the callee's start -/
theorem zE.call {G : zG} {ad : Nat → Nat} {A B : Nat → Prop} {s U : State} {H : Heap} {locs : List Loc} (h : zE G ad A s s.heap) (hS : va_S A s.heap H locs) (hAB : ∀ q, B q → A q) (hU : U.heap = H) (hW : s.WarmedH U.vm) : zE G ad B U U.heap := by
  obtain ⟨h1, h2, h3, h4, h5, h6, h7⟩ := h
  have hk : ∀ a : Nat, a < s.heap.size → ¬ A a → U.heap[a]? = s.heap[a]? := fun a h1 h2 => by rw [hU]; exact hS.2.1 a h1 h2
  exact ⟨zN_warm hW h1, fun q hq => va_Nw.warmM hW (h2 q hq), fun q hq => (((h3 q hq).kept hk).narrow hAB).moved hW.alike, fun i n f hi => (((h4 i n f hi).kept hk).narrow hAB).moved hW.alike, ((h5.kept hk).narrow hAB).moved hW.alike, fun i k tx hi => (h6 i k tx hi).warm hW, h7.imp (fun z => ((z.kept hk).narrow hAB).moved hW.alike) (fun z => ((z.kept hk).narrow hAB).moved hW.alike)⟩
theorem zE.same {G : zG} {ad : Nat → Nat} {A : Nat → Prop} {s U : State} (h : zE G ad A s s.heap) (hv : U.vm = s.vm) (hH : U.heap = s.heap) : zE G ad A U U.heap := by
  obtain ⟨h1, h2, h3, h4, h5, h6, h7⟩ := h
  have ha : s.vm.Alike U.vm := by rw [hv]; exact Vm.Alike.refl _
  rw [hH]
  exact ⟨zN_same hv.symm h1, fun q hq => va_Nw.same rfl hv.symm (h2 q hq), fun q hq => (h3 q hq).moved ha, fun i n f hi => (h4 i n f hi).moved ha, h5.moved ha, fun i k tx hi => (h6 i k tx hi).same hv, h7.imp (fun z => z.moved ha) (fun z => z.moved ha)⟩
/-! a method: its name, its bytes, how many locals, what it answers, its room -/
abbrev zM : Type := MethodName × ByteArray × Nat × Option FieldType × Room
def zC (G : zG) (M : zM) (ad : Nat → Nat) (D : va_G) (A : Nat → Prop) (p : Program) (s : State) (m : MethodId) (args : Array Value) (c : Code) : Prop :=
  p.tables.exec = Jvm.exec ∧ c.code = M.2.1 ∧ c.maxLocals = M.2.2.1 ∧ s.vm.findClass M.1.cls = some m.cls ∧ (∀ w ∈ zAL, w.before args s = true) ∧ va_K D vwCl (zT G) s ∧ zE G ad A s s.heap ∧ ∀ q : Nat, s.heap.size ≤ q → A q
def zlo (ad : Nat → Nat) (loc : List (Nat × Value)) : List (Nat × Value) := loc.map (fun q => (q.1, zv ad q.2))
def zRet (M : zM) (pc : Nat) (r : Option Value) : Prop := match r with
  | none => decode M.2.1 pc = .ok (.return_, 1) ∧ M.2.2.2.1 = none
  | some (.int v) => decode M.2.1 pc = .ok (.ireturn, 1) ∧ ∃ ty, M.2.2.2.1 = some ty ∧ narrow ty (.int v) = .int v
  | some (.ref _) => decode M.2.1 pc = .ok (.areturn, 1) ∧ ∃ n, M.2.2.2.1 = some (.object n)
  | _ => False
def zFin (M : zM) (p : Program) (l : Launch) (e : Env) (s : State) (m : MethodId) (args : Array Value) (below : List Frame) (meth : Method) (c : Code) (ad : Nat → Nat) (D : va_G) (A : Nat → Prop) (K : State → Prop) (cells slots : Nat) (Q : Option Value → zH → Prop) : Prop :=
  ∀ (r : Option Value) (h : zH) (H : Heap) (locs : List Loc) (pc : Nat) (ls : Array Slot), Q r h → va_P D vwCl (zw ad h) H → va_D A (zw ad h) → va_S A s.heap H locs → zRet M pc r → W p l e M.2.2.2.2 s m args below meth c H locs cells slots K (F0 m pc ls (r.toList.map (zv ad)))
/-- from this place of the method, with these locals, this stack and this heap, it comes to an end that Q tells -/
def R (G : zG) (M : zM) (pc : Nat) (loc : List (Nat × Value)) (st : List Value) (h : zH) (Q : Option Value → zH → Prop) : Prop :=
  ∀ (p : Program) (l : Launch) (e : Env) (s : State) (m : MethodId) (args : Array Value) (below : List Frame) (meth : Method) (c : Code) (ad : Nat → Nat) (D : va_G) (A : Nat → Prop) (K : State → Prop) (cells slots : Nat),
    zC G M ad D A p s m args c → (cells ≤ M.2.2.2.2.cells ∧ slots ≤ M.2.2.2.2.slots) → zFin M p l e s m args below meth c ad D A K cells slots Q →
    ∀ (H : Heap) (locs : List Loc) (ls : Array Slot), va_P D vwCl (zw ad h) H → va_D A (zw ad h) → va_S A s.heap H locs → lv_has ls M.2.2.1 (zlo ad loc) → W p l e M.2.2.2.2 s m args below meth c H locs cells slots K (F0 m pc ls (st.map (zv ad)))
def zws (M : zM) : List Cond := .code M.1 M.2.1 M.2.2.1 M.2.2.2.1 :: zAL
def zPre (G : zG) (ad : Nat → Nat) (D : va_G) (sz : Nat) (h : zH) (U : State) : Prop := U.heap.size = sz ∧ va_P D vwCl (zw ad h) U.heap ∧ va_K D vwCl (zT G) U ∧ va_D (fun _ => True) (zw ad h) ∧ zE G ad (va_A (zw ad h) sz) U U.heap
def zQc (ad : Nat → Nat) (D : va_G) (sz : Nat) (h : zH) (Q : Option Value → zH → Prop) : Array Value → State → Outcome → State → Prop := fun _ st oc t => (∃ (r : Option Value) (h' : zH), oc = .returned (r.map (zv ad)) ∧ Q r h' ∧ va_P D vwCl (zw ad h') t.heap ∧ va_D (va_A (zw ad h) sz) (zw ad h')) ∧ va_F (va_A (zw ad h) sz) st t
/-- a call of the method M with as on h comes to an end that Q tells -/
def Ev (G : zG) (M : zM) (as : List Value) (h : zH) (Q : Option Value → zH → Prop) : Prop :=
  ∀ (l : Launch) (ad : Nat → Nat) (D : va_G) (sz : Nat), Met l M.1 (zws M) M.2.2.2.2 (va_Pc (as.map (zv ad)) (zPre G ad D sz h)) (zQc ad D sz h Q) 0 0 (va_A (zw ad h) sz)
def EvF (G : zG) (M : zM) (as : List Value) (h : zH) (r : Option Value) (h' : zH) : Prop := Ev G M as h (fun r0 h0 => r0 = r ∧ h0 = h')
theorem zv_cat (ad : Nat → Nat) (v : Value) : (zv ad v).category = v.category := by cases v <;> rfl
theorem lg_sl_len (ad : Nat → Nat) : ∀ as : List Value, (lg_sl (as.map (zv ad))).length = (lg_sl as).length
  | [] => rfl
  | v :: as => by
    have ih := lg_sl_len ad as
    unfold lg_sl at ih ⊢
    rw [List.map_cons, List.flatMap_cons, List.flatMap_cons, List.length_append, List.length_append, ih, zv_cat]
    by_cases hc : v.category = 2 <;> simp [hc]
theorem lv_args_map (ad : Nat → Nat) : ∀ (as : List Value) (i : Nat), lv_args i (as.map (zv ad)) = zlo ad (lv_args i as)
  | [], _ => rfl
  | v :: as, i => by
    show (i, zv ad v) :: lv_args (if (zv ad v).category = 2 then i + 2 else i + 1) (as.map (zv ad)) = (i, zv ad v) :: zlo ad (lv_args (if v.category = 2 then i + 2 else i + 1) as)
    rw [zv_cat, lv_args_map ad as]
theorem Ev.of {G : zG} {M : zM} {as : List Value} {h : zH} {Q : Option Value → zH → Prop} (hy : plainName M.1.cls = true) (hn : (lg_sl as).length ≤ M.2.2.1) (k : R G M 0 (lv_args 0 as) [] h Q) : Ev G M as h Q := by
  intro l ad D sz
  refine Met.ofW (cc := M.2.1) (maxL := M.2.2.1) (ret := M.2.2.2.1) hy rfl ?_
  intro p e s m args below meth c s₁ B hml hv
  obtain ⟨rfl, hsz, hP, hK, hD0, hE⟩ := hv
  have hts := atoms_spec (ws := zws M) B.pre
  have hown : s.vm.findClass M.1.cls = some m.cls := findClass_of_methodNamed B.named
  have hlocks := B.notSynchronized
  have hr := B.returns
  subst hsz
  have hD := hD0.self (sz := s.heap.size)
  rw [lg_entry_eq]
  have hl := lv_entry (as.map (zv ad)) (n := M.2.2.1) (by rw [lg_sl_len]; exact hn)
  rw [lv_args_map] at hl
  refine k p l e s m _ below meth c ad D (va_A (zw ad h) s.heap.size) _ 0 0 ⟨B.exec, B.bytes, hml, hown, fun w hw => hts w (List.mem_cons_of_mem _ hw), hK, hE, fun q hq => Or.inr hq⟩ ⟨Nat.zero_le _, Nat.zero_le _⟩ ?_ s.heap [] _ hP hD va_S.rf hl
  intro r h' H' locs' pc ls' hQ hP' hD' hS' hret
  cases r with
  | none => exact W.vret B.exec B.bytes (hr.trans hret.2) (fun t ht hW => ⟨⟨none, h', rfl, hQ, by rw [ht]; exact hP', hD'⟩, hS'.F ht⟩) hS'.2.2 hret.1
  | some v =>
    cases v with
    | int v =>
      obtain ⟨hd, ty, hty, hnar⟩ := hret
      exact W.zret B.exec B.bytes (hr.trans hty) hnar (fun t ht hW => ⟨⟨some (.int v), h', rfl, hQ, by rw [ht]; exact hP', hD'⟩, hS'.F ht⟩) hS'.2.2 hd
    | ref a =>
      obtain ⟨hd, n, hty⟩ := hret
      exact W.aret B.exec B.bytes (hr.trans hty) (Or.inl ⟨n, rfl⟩) (Or.inr ⟨_, rfl⟩) (fun t ht hW => ⟨⟨some (.ref a), h', rfl, hQ, by rw [ht]; exact hP', hD'⟩, hS'.F ht⟩) hS'.2.2 hd
    | _ => exact hret.elim
/-! locals -/
def zlk : List (Nat × Value) → Nat → Option Value
  | [], _ => none
  | q :: l, k => if q.1 = k then some q.2 else zlk l k
def zst : List (Nat × Value) → Nat → Value → List (Nat × Value)
  | [], k, v => [(k, v)]
  | q :: l, k, v => if q.1 = k then (k, v) :: l.filter (fun q => !(q.1 == k)) else q :: zst l k v
theorem zlk_mem : ∀ {l : List (Nat × Value)} {k : Nat} {v : Value}, zlk l k = some v → (k, v) ∈ l
  | [], _, _, h => by cases h
  | q :: l, k, v, h => by
    unfold zlk at h
    by_cases hk : q.1 = k
    · rw [if_pos hk] at h
      cases h
      subst hk
      exact List.mem_cons_self
    · rw [if_neg hk] at h
      exact List.mem_cons_of_mem _ (zlk_mem h)
theorem zst_mem : ∀ {l : List (Nat × Value)} {k : Nat} {v : Value} {q : Nat × Value}, q ∈ zst l k v → q = (k, v) ∨ (q ∈ l ∧ q.1 ≠ k)
  | [], k, v, q, h => by
    simp [zst] at h
    exact Or.inl h
  | p :: l, k, v, q, h => by
    unfold zst at h
    by_cases hk : p.1 = k
    · rw [if_pos hk] at h
      rcases List.mem_cons.mp h with h | h
      · exact Or.inl h
      · obtain ⟨h1, h2⟩ := List.mem_filter.mp h
        exact Or.inr ⟨List.mem_cons_of_mem _ h1, by simpa using h2⟩
    · rw [if_neg hk] at h
      rcases List.mem_cons.mp h with h | h
      · subst h
        exact Or.inr ⟨List.mem_cons_self, hk⟩
      · rcases zst_mem h with h | ⟨h1, h2⟩
        · exact Or.inl h
        · exact Or.inr ⟨List.mem_cons_of_mem _ h1, h2⟩
theorem zlo_at {ls : Array Slot} {nL : Nat} {ad : Nat → Nat} {loc : List (Nat × Value)} {k : Nat} {v : Value} (hl : lv_has ls nL (zlo ad loc)) (h : zlk loc k = some v) : ls[k]? = some (.val (zv ad v)) := hl.2.2 (k, zv ad v) (List.mem_map.mpr ⟨(k, v), zlk_mem h, rfl⟩)
theorem zlo_st {ls : Array Slot} {nL : Nat} {ad : Nat → Nat} {loc : List (Nat × Value)} {k : Nat} {v : Value} (hv : ∀ q ∈ loc, q.2.category = 1) (hl : lv_has ls nL ((k, zv ad v) :: (zlo ad loc).filter (fun q => !(q.1 == k) && !(q.1 + 1 == k && q.2.category == 2)))) : lv_has ls nL (zlo ad (zst loc k v)) := by
  refine ⟨hl.1, hl.2.1, fun q hq => ?_⟩
  obtain ⟨q0, h0, rfl⟩ := List.mem_map.mp hq
  rcases zst_mem h0 with rfl | ⟨h1, h2⟩
  · exact hl.2.2 _ List.mem_cons_self
  · refine hl.2.2 _ (List.mem_cons_of_mem _ (List.mem_filter.mpr ⟨List.mem_map.mpr ⟨q0, h1, rfl⟩, ?_⟩))
    have hc := hv q0 h1
    simp [h2, zv_cat, hc]
def zk1 : List (Nat × Value) → Bool
  | [] => true
  | q :: l => (match q.2 with | .int _ => true | .ref _ => true | .null => true | _ => false) && zk1 l
theorem zk1_spec : ∀ {l : List (Nat × Value)}, zk1 l = true → ∀ q ∈ l, q.2.category = 1
  | [], _, q, h => by cases h
  | p :: l, hk, q, h => by
    unfold zk1 at hk
    rw [Bool.and_eq_true] at hk
    rcases List.mem_cons.mp h with rfl | h
    · have := hk.1
      revert this
      cases q.2 <;> simp [Value.category]
    · exact zk1_spec hk.2 q h

section zR
variable {G : zG} {M : zM} {pc : Nat} {loc : List (Nat × Value)} {st : List Value} {h : zH} {Q : Option Value → zH → Prop}
theorem R_iconst (q : Nat) {n : Int} {v : Int32} (hd : decode M.2.1 pc = .ok (.iconst n, 1)) (hq : pc + 1 = q) (hv : Int32.ofInt n = v) (k : R G M q loc (.int v :: st) h Q) : R G M pc loc (st) h Q := by
  subst hq
  intro p l e s m args below meth c ad D A K cells slots C hr hf H locs ls hP hD hS hl
  exact lv_iconst C.1 C.2.1 hd hv (k p l e s m args below meth c ad D A K cells slots C hr hf H locs ls hP hD hS hl)
theorem R_bipush (q : Nat) {n : Int} {v : Int32} (hd : decode M.2.1 pc = .ok (.bipush n, 2)) (hq : pc + 2 = q) (hv : (Int8.ofInt n).toInt32 = v) (k : R G M q loc (.int v :: st) h Q) : R G M pc loc (st) h Q := by
  subst hq
  intro p l e s m args below meth c ad D A K cells slots C hr hf H locs ls hP hD hS hl
  exact lv_bipush C.1 C.2.1 hd hv (k p l e s m args below meth c ad D A K cells slots C hr hf H locs ls hP hD hS hl)
theorem R_sipush (q : Nat) {n : Int} {v : Int32} (hd : decode M.2.1 pc = .ok (.sipush n, 3)) (hq : pc + 3 = q) (hv : (Int16.ofInt n).toInt32 = v) (k : R G M q loc (.int v :: st) h Q) : R G M pc loc (st) h Q := by
  subst hq
  intro p l e s m args below meth c ad D A K cells slots C hr hf H locs ls hP hD hS hl
  exact lv_sipush C.1 C.2.1 hd hv (k p l e s m args below meth c ad D A K cells slots C hr hf H locs ls hP hD hS hl)
theorem R_iadd (q : Nat) {x y : Int32} (hd : decode M.2.1 pc = .ok (.iadd, 1)) (hq : pc + 1 = q) (k : R G M q loc (.int (x + y) :: st) h Q) : R G M pc loc (.int y :: .int x :: st) h Q := by
  subst hq
  intro p l e s m args below meth c ad D A K cells slots C hr hf H locs ls hP hD hS hl
  exact lv_iadd C.1 C.2.1 hd (k p l e s m args below meth c ad D A K cells slots C hr hf H locs ls hP hD hS hl)
theorem R_isub (q : Nat) {x y : Int32} (hd : decode M.2.1 pc = .ok (.isub, 1)) (hq : pc + 1 = q) (k : R G M q loc (.int (x - y) :: st) h Q) : R G M pc loc (.int y :: .int x :: st) h Q := by
  subst hq
  intro p l e s m args below meth c ad D A K cells slots C hr hf H locs ls hP hD hS hl
  exact lv_isub C.1 C.2.1 hd (k p l e s m args below meth c ad D A K cells slots C hr hf H locs ls hP hD hS hl)
theorem R_imul (q : Nat) {x y : Int32} (hd : decode M.2.1 pc = .ok (.imul, 1)) (hq : pc + 1 = q) (k : R G M q loc (.int (x * y) :: st) h Q) : R G M pc loc (.int y :: .int x :: st) h Q := by
  subst hq
  intro p l e s m args below meth c ad D A K cells slots C hr hf H locs ls hP hD hS hl
  exact lv_imul C.1 C.2.1 hd (k p l e s m args below meth c ad D A K cells slots C hr hf H locs ls hP hD hS hl)
theorem R_iand (q : Nat) {x y : Int32} (hd : decode M.2.1 pc = .ok (.iand, 1)) (hq : pc + 1 = q) (k : R G M q loc (.int (x &&& y) :: st) h Q) : R G M pc loc (.int y :: .int x :: st) h Q := by
  subst hq
  intro p l e s m args below meth c ad D A K cells slots C hr hf H locs ls hP hD hS hl
  exact lv_iand C.1 C.2.1 hd (k p l e s m args below meth c ad D A K cells slots C hr hf H locs ls hP hD hS hl)
theorem R_ior (q : Nat) {x y : Int32} (hd : decode M.2.1 pc = .ok (.ior, 1)) (hq : pc + 1 = q) (k : R G M q loc (.int (x ||| y) :: st) h Q) : R G M pc loc (.int y :: .int x :: st) h Q := by
  subst hq
  intro p l e s m args below meth c ad D A K cells slots C hr hf H locs ls hP hD hS hl
  exact lv_ior C.1 C.2.1 hd (k p l e s m args below meth c ad D A K cells slots C hr hf H locs ls hP hD hS hl)
theorem R_ishl (q : Nat) {x y : Int32} (hd : decode M.2.1 pc = .ok (.ishl, 1)) (hq : pc + 1 = q) (k : R G M q loc (.int (x <<< (y &&& 31)) :: st) h Q) : R G M pc loc (.int y :: .int x :: st) h Q := by
  subst hq
  intro p l e s m args below meth c ad D A K cells slots C hr hf H locs ls hP hD hS hl
  exact lv_ishl C.1 C.2.1 hd (k p l e s m args below meth c ad D A K cells slots C hr hf H locs ls hP hD hS hl)
theorem R_ishr (q : Nat) {x y : Int32} (hd : decode M.2.1 pc = .ok (.ishr, 1)) (hq : pc + 1 = q) (k : R G M q loc (.int (x >>> (y &&& 31)) :: st) h Q) : R G M pc loc (.int y :: .int x :: st) h Q := by
  subst hq
  intro p l e s m args below meth c ad D A K cells slots C hr hf H locs ls hP hD hS hl
  exact lv_ishr C.1 C.2.1 hd (k p l e s m args below meth c ad D A K cells slots C hr hf H locs ls hP hD hS hl)
theorem R_idiv (q : Nat) {x y : Int32} (hd : decode M.2.1 pc = .ok (.idiv, 1)) (hq : pc + 1 = q) (hne : ¬ y = 0) (k : R G M q loc (.int (x / y) :: st) h Q) : R G M pc loc (.int y :: .int x :: st) h Q := by
  subst hq
  intro p l e s m args below meth c ad D A K cells slots C hr hf H locs ls hP hD hS hl
  exact lv_idiv C.1 C.2.1 hd hne (k p l e s m args below meth c ad D A K cells slots C hr hf H locs ls hP hD hS hl)
theorem R_irem (q : Nat) {x y : Int32} (hd : decode M.2.1 pc = .ok (.irem, 1)) (hq : pc + 1 = q) (hne : ¬ y = 0) (k : R G M q loc (.int (x - x / y * y) :: st) h Q) : R G M pc loc (.int y :: .int x :: st) h Q := by
  subst hq
  intro p l e s m args below meth c ad D A K cells slots C hr hf H locs ls hP hD hS hl
  exact lv_irem C.1 C.2.1 hd hne (k p l e s m args below meth c ad D A K cells slots C hr hf H locs ls hP hD hS hl)
theorem R_ineg (q : Nat) {x : Int32} (hd : decode M.2.1 pc = .ok (.ineg, 1)) (hq : pc + 1 = q) (k : R G M q loc (.int (-x) :: st) h Q) : R G M pc loc (.int x :: st) h Q := by
  subst hq
  intro p l e s m args below meth c ad D A K cells slots C hr hf H locs ls hP hD hS hl
  exact lv_ineg C.1 C.2.1 hd (k p l e s m args below meth c ad D A K cells slots C hr hf H locs ls hP hD hS hl)
theorem R_i2c (q : Nat) {x : Int32} (hd : decode M.2.1 pc = .ok (.i2c, 1)) (hq : pc + 1 = q) (k : R G M q loc (.int (x.toUInt32 % 65536).toInt32 :: st) h Q) : R G M pc loc (.int x :: st) h Q := by
  subst hq
  intro p l e s m args below meth c ad D A K cells slots C hr hf H locs ls hP hD hS hl
  exact lv_i2c C.1 C.2.1 hd rfl (k p l e s m args below meth c ad D A K cells slots C hr hf H locs ls hP hD hS hl)
theorem R_i2b (q : Nat) {x : Int32} (hd : decode M.2.1 pc = .ok (.i2b, 1)) (hq : pc + 1 = q) (k : R G M q loc (.int x.toInt8.toInt32 :: st) h Q) : R G M pc loc (.int x :: st) h Q := by
  subst hq
  intro p l e s m args below meth c ad D A K cells slots C hr hf H locs ls hP hD hS hl
  exact lv_i2b C.1 C.2.1 hd rfl (k p l e s m args below meth c ad D A K cells slots C hr hf H locs ls hP hD hS hl)
theorem R_iushr (q : Nat) {x y : Int32} (hd : decode M.2.1 pc = .ok (.iushr, 1)) (hq : pc + 1 = q) (k : R G M q loc (.int (x.toUInt32 >>> (y.toUInt32 &&& Int32.toUInt32 31)).toInt32 :: st) h Q) : R G M pc loc (.int y :: .int x :: st) h Q := by
  subst hq
  intro p l e s m args below meth c ad D A K cells slots C hr hf H locs ls hP hD hS hl
  exact lv_iushr C.1 C.2.1 hd rfl (k p l e s m args below meth c ad D A K cells slots C hr hf H locs ls hP hD hS hl)
theorem R_dup (q : Nat) {v : Value} (hd : decode M.2.1 pc = .ok (.dup, 1)) (hq : pc + 1 = q) (hv : v.category = 1) (k : R G M q loc (v :: v :: st) h Q) : R G M pc loc (v :: st) h Q := by
  subst hq
  intro p l e s m args below meth c ad D A K cells slots C hr hf H locs ls hP hD hS hl
  exact lv_dup C.1 C.2.1 hd ((zv_cat _ _).trans hv) (k p l e s m args below meth c ad D A K cells slots C hr hf H locs ls hP hD hS hl)
theorem R_pop (q : Nat) {v : Value} (hd : decode M.2.1 pc = .ok (.pop, 1)) (hq : pc + 1 = q) (hv : v.category = 1) (k : R G M q loc (st) h Q) : R G M pc loc (v :: st) h Q := by
  subst hq
  intro p l e s m args below meth c ad D A K cells slots C hr hf H locs ls hP hD hS hl
  exact lv_pop C.1 C.2.1 hd ((zv_cat _ _).trans hv) (k p l e s m args below meth c ad D A K cells slots C hr hf H locs ls hP hD hS hl)
theorem R_dup2 (q : Nat) {v u : Value} (hd : decode M.2.1 pc = .ok (.dup2, 1)) (hq : pc + 1 = q) (hv : v.category = 1) (hu : u.category = 1) (k : R G M q loc (v :: u :: v :: u :: st) h Q) : R G M pc loc (v :: u :: st) h Q := by
  subst hq
  intro p l e s m args below meth c ad D A K cells slots C hr hf H locs ls hP hD hS hl
  exact lv_dup2_11 C.1 C.2.1 hd ((zv_cat _ _).trans hv) ((zv_cat _ _).trans hu) (k p l e s m args below meth c ad D A K cells slots C hr hf H locs ls hP hD hS hl)
theorem R_dup_x1 (q : Nat) {v u : Value} (hd : decode M.2.1 pc = .ok (.dup_x1, 1)) (hq : pc + 1 = q) (hv : v.category = 1) (hu : u.category = 1) (k : R G M q loc (v :: u :: v :: st) h Q) : R G M pc loc (v :: u :: st) h Q := by
  subst hq
  intro p l e s m args below meth c ad D A K cells slots C hr hf H locs ls hP hD hS hl
  exact lv_dup_x1 C.1 C.2.1 hd ((zv_cat _ _).trans hv) ((zv_cat _ _).trans hu) (k p l e s m args below meth c ad D A K cells slots C hr hf H locs ls hP hD hS hl)
theorem R_ldc (q : Nat) {i : Nat} {v : Int32} (hd : decode M.2.1 pc = .ok (.ldc i, 2)) (hq : pc + 2 = q) (hw : Cond.constant M.1.cls i v ∈ zAL) (k : R G M q loc (.int v :: st) h Q) : R G M pc loc st h Q := by
  subst hq
  intro p l e s m args below meth c ad D A K cells slots C hr hf H locs ls hP hD hS hl
  exact lv_ldc C.1 C.2.1 C.2.2.2.1 (C.2.2.2.2.1 _ hw) hd (k p l e s m args below meth c ad D A K cells slots C hr hf H locs ls hP hD hS hl)
theorem R_ldc_w (q : Nat) {i : Nat} {v : Int32} (hd : decode M.2.1 pc = .ok (.ldc_w i, 3)) (hq : pc + 3 = q) (hw : Cond.constant M.1.cls i v ∈ zAL) (k : R G M q loc (.int v :: st) h Q) : R G M pc loc st h Q := by
  subst hq
  intro p l e s m args below meth c ad D A K cells slots C hr hf H locs ls hP hD hS hl
  exact lv_ldcw C.1 C.2.1 C.2.2.2.1 (C.2.2.2.2.1 _ hw) hd (k p l e s m args below meth c ad D A K cells slots C hr hf H locs ls hP hD hS hl)
theorem R_ldcS (q : Nat) {i j : Nat} {tx : String} (hd : decode M.2.1 pc = .ok (.ldc i, 2)) (hq : pc + 2 = q) (hm : M.1.cls = RX5) (ht : zTx[j]? = some (i, tx)) (k : R G M q loc (.ref (1000 + j) :: st) h Q) : R G M pc loc st h Q := by
  subst hq
  intro p l e s m args below meth c ad D A K cells slots C hr hf H locs ls hP hD hS hl
  exact va_ldcS C.1 C.2.1 (hm ▸ C.2.2.2.1) (C.2.2.2.2.2.2.1.2.2.2.2.2.1 j i tx ht) hd (k p l e s m args below meth c ad D A K cells slots C hr hf H locs ls hP hD hS hl)
theorem R_iload_n (q : Nat) {n : Fin 4} {x : Int32} (hd : decode M.2.1 pc = .ok (.iload_n n, 1)) (hq : pc + 1 = q) (hv : zlk loc n.val = some (.int x)) (k : R G M q loc (.int x :: st) h Q) : R G M pc loc st h Q := by
  subst hq
  intro p l e s m args below meth c ad D A K cells slots C hr hf H locs ls hP hD hS hl
  exact lv_iload_n C.1 C.2.1 hd rfl (zlo_at hl hv) (k p l e s m args below meth c ad D A K cells slots C hr hf H locs ls hP hD hS hl)
theorem R_iload (q : Nat) {n : Nat} {x : Int32} (hd : decode M.2.1 pc = .ok (.iload n, 2)) (hq : pc + 2 = q) (hv : zlk loc n = some (.int x)) (k : R G M q loc (.int x :: st) h Q) : R G M pc loc st h Q := by
  subst hq
  intro p l e s m args below meth c ad D A K cells slots C hr hf H locs ls hP hD hS hl
  exact lv_iload C.1 C.2.1 hd (zlo_at hl hv) (k p l e s m args below meth c ad D A K cells slots C hr hf H locs ls hP hD hS hl)
theorem R_istore_n (q : Nat) {n : Fin 4} {x : Int32} (hd : decode M.2.1 pc = .ok (.istore_n n, 1)) (hq : pc + 1 = q) (hc : zk1 loc = true) (hn : n.val < M.2.2.1) {loc' : List (Nat × Value)} (hs : zst loc n.val (.int x) = loc') (k : R G M q loc' st h Q) : R G M pc loc (.int x :: st) h Q := by
  subst hq
  subst hs
  intro p l e s m args below meth c ad D A K cells slots C hr hf H locs ls hP hD hS hl
  exact lv_istore_n C.1 C.2.1 hd rfl hl hn rfl (fun ls' hl' => k p l e s m args below meth c ad D A K cells slots C hr hf H locs ls' hP hD hS (zlo_st (zk1_spec hc) hl'))
theorem R_istore (q : Nat) {n : Nat} {x : Int32} (hd : decode M.2.1 pc = .ok (.istore n, 2)) (hq : pc + 2 = q) (hc : zk1 loc = true) (hn : n < M.2.2.1) {loc' : List (Nat × Value)} (hs : zst loc n (.int x) = loc') (k : R G M q loc' st h Q) : R G M pc loc (.int x :: st) h Q := by
  subst hq
  subst hs
  intro p l e s m args below meth c ad D A K cells slots C hr hf H locs ls hP hD hS hl
  exact lv_istore C.1 C.2.1 hd hl hn rfl (fun ls' hl' => k p l e s m args below meth c ad D A K cells slots C hr hf H locs ls' hP hD hS (zlo_st (zk1_spec hc) hl'))
theorem R_aload_n (q : Nat) {n : Fin 4} {x : Nat} (hd : decode M.2.1 pc = .ok (.aload_n n, 1)) (hq : pc + 1 = q) (hv : zlk loc n.val = some (.ref x)) (k : R G M q loc (.ref x :: st) h Q) : R G M pc loc st h Q := by
  subst hq
  intro p l e s m args below meth c ad D A K cells slots C hr hf H locs ls hP hD hS hl
  exact lv_aload_n C.1 C.2.1 hd rfl (zlo_at hl hv) (k p l e s m args below meth c ad D A K cells slots C hr hf H locs ls hP hD hS hl)
theorem R_aload (q : Nat) {n : Nat} {x : Nat} (hd : decode M.2.1 pc = .ok (.aload n, 2)) (hq : pc + 2 = q) (hv : zlk loc n = some (.ref x)) (k : R G M q loc (.ref x :: st) h Q) : R G M pc loc st h Q := by
  subst hq
  intro p l e s m args below meth c ad D A K cells slots C hr hf H locs ls hP hD hS hl
  exact lv_aload C.1 C.2.1 hd (zlo_at hl hv) (k p l e s m args below meth c ad D A K cells slots C hr hf H locs ls hP hD hS hl)
theorem R_astore_n (q : Nat) {n : Fin 4} {x : Nat} (hd : decode M.2.1 pc = .ok (.astore_n n, 1)) (hq : pc + 1 = q) (hc : zk1 loc = true) (hn : n.val < M.2.2.1) {loc' : List (Nat × Value)} (hs : zst loc n.val (.ref x) = loc') (k : R G M q loc' st h Q) : R G M pc loc (.ref x :: st) h Q := by
  subst hq
  subst hs
  intro p l e s m args below meth c ad D A K cells slots C hr hf H locs ls hP hD hS hl
  exact lv_astore_n C.1 C.2.1 hd rfl hl hn rfl (fun ls' hl' => k p l e s m args below meth c ad D A K cells slots C hr hf H locs ls' hP hD hS (zlo_st (zk1_spec hc) hl'))
theorem R_astore (q : Nat) {n : Nat} {x : Nat} (hd : decode M.2.1 pc = .ok (.astore n, 2)) (hq : pc + 2 = q) (hc : zk1 loc = true) (hn : n < M.2.2.1) {loc' : List (Nat × Value)} (hs : zst loc n (.ref x) = loc') (k : R G M q loc' st h Q) : R G M pc loc (.ref x :: st) h Q := by
  subst hq
  subst hs
  intro p l e s m args below meth c ad D A K cells slots C hr hf H locs ls hP hD hS hl
  exact lv_astore C.1 C.2.1 hd hl hn rfl (fun ls' hl' => k p l e s m args below meth c ad D A K cells slots C hr hf H locs ls' hP hD hS (zlo_st (zk1_spec hc) hl'))
theorem R_iinc (q : Nat) {n : Nat} {i : Int} {x v : Int32} (hd : decode M.2.1 pc = .ok (.iinc n i, 3)) (hq : pc + 3 = q) (hv : zlk loc n = some (.int x)) (hx : x + Int32.ofInt i = v) (hc : zk1 loc = true) (hn : n < M.2.2.1) {loc' : List (Nat × Value)} (hs : zst loc n (.int v) = loc') (k : R G M q loc' st h Q) : R G M pc loc st h Q := by
  subst hq
  subst hs
  intro p l e s m args below meth c ad D A K cells slots C hr hf H locs ls hP hD hS hl
  have hm : (n, Value.int x) ∈ zlo ad loc := List.mem_map.mpr ⟨(n, .int x), zlk_mem hv, rfl⟩
  obtain ⟨j, hj⟩ := List.getElem?_of_mem hm
  exact lv_iinc C.1 C.2.1 hd hl hj hx hn rfl (fun ls' hl' => k p l e s m args below meth c ad D A K cells slots C hr hf H locs ls' hP hD hS (zlo_st (v := .int v) (zk1_spec hc) hl'))
theorem R_if_eq (q t : Nat) {x : Int32} {off : Int} (hd : decode M.2.1 pc = .ok (.ifCond .eq off, 3)) (hq : pc + 3 = q) (ht : (pc : Int) + off = (t : Int)) (kt : x = 0 → R G M t loc st h Q) (kf : ¬ x = 0 → R G M q loc st h Q) : R G M pc loc (.int x :: st) h Q := by
  subst hq
  intro p l e s m args below meth c ad D A K cells slots C hr hf H locs ls hP hD hS hl
  exact lv_if_eq C.1 C.2.1 hd ht (fun hc => kt hc p l e s m args below meth c ad D A K cells slots C hr hf H locs ls hP hD hS hl) (fun hc => kf hc p l e s m args below meth c ad D A K cells slots C hr hf H locs ls hP hD hS hl)
theorem R_icmp_eq (q t : Nat) {x y : Int32} {off : Int} (hd : decode M.2.1 pc = .ok (.if_icmp .eq off, 3)) (hq : pc + 3 = q) (ht : (pc : Int) + off = (t : Int)) (kt : x = y → R G M t loc st h Q) (kf : ¬ x = y → R G M q loc st h Q) : R G M pc loc (.int y :: .int x :: st) h Q := by
  subst hq
  intro p l e s m args below meth c ad D A K cells slots C hr hf H locs ls hP hD hS hl
  exact lv_icmp_eq C.1 C.2.1 hd ht (fun hc => kt hc p l e s m args below meth c ad D A K cells slots C hr hf H locs ls hP hD hS hl) (fun hc => kf hc p l e s m args below meth c ad D A K cells slots C hr hf H locs ls hP hD hS hl)
theorem R_if_ne (q t : Nat) {x : Int32} {off : Int} (hd : decode M.2.1 pc = .ok (.ifCond .ne off, 3)) (hq : pc + 3 = q) (ht : (pc : Int) + off = (t : Int)) (kt : ¬ x = 0 → R G M t loc st h Q) (kf : x = 0 → R G M q loc st h Q) : R G M pc loc (.int x :: st) h Q := by
  subst hq
  intro p l e s m args below meth c ad D A K cells slots C hr hf H locs ls hP hD hS hl
  exact lv_if_ne C.1 C.2.1 hd ht (fun hc => kt hc p l e s m args below meth c ad D A K cells slots C hr hf H locs ls hP hD hS hl) (fun hc => kf hc p l e s m args below meth c ad D A K cells slots C hr hf H locs ls hP hD hS hl)
theorem R_icmp_ne (q t : Nat) {x y : Int32} {off : Int} (hd : decode M.2.1 pc = .ok (.if_icmp .ne off, 3)) (hq : pc + 3 = q) (ht : (pc : Int) + off = (t : Int)) (kt : ¬ x = y → R G M t loc st h Q) (kf : x = y → R G M q loc st h Q) : R G M pc loc (.int y :: .int x :: st) h Q := by
  subst hq
  intro p l e s m args below meth c ad D A K cells slots C hr hf H locs ls hP hD hS hl
  exact lv_icmp_ne C.1 C.2.1 hd ht (fun hc => kt hc p l e s m args below meth c ad D A K cells slots C hr hf H locs ls hP hD hS hl) (fun hc => kf hc p l e s m args below meth c ad D A K cells slots C hr hf H locs ls hP hD hS hl)
theorem R_if_lt (q t : Nat) {x : Int32} {off : Int} (hd : decode M.2.1 pc = .ok (.ifCond .lt off, 3)) (hq : pc + 3 = q) (ht : (pc : Int) + off = (t : Int)) (kt : x < 0 → R G M t loc st h Q) (kf : ¬ x < 0 → R G M q loc st h Q) : R G M pc loc (.int x :: st) h Q := by
  subst hq
  intro p l e s m args below meth c ad D A K cells slots C hr hf H locs ls hP hD hS hl
  exact lv_if_lt C.1 C.2.1 hd ht (fun hc => kt hc p l e s m args below meth c ad D A K cells slots C hr hf H locs ls hP hD hS hl) (fun hc => kf hc p l e s m args below meth c ad D A K cells slots C hr hf H locs ls hP hD hS hl)
theorem R_icmp_lt (q t : Nat) {x y : Int32} {off : Int} (hd : decode M.2.1 pc = .ok (.if_icmp .lt off, 3)) (hq : pc + 3 = q) (ht : (pc : Int) + off = (t : Int)) (kt : x < y → R G M t loc st h Q) (kf : ¬ x < y → R G M q loc st h Q) : R G M pc loc (.int y :: .int x :: st) h Q := by
  subst hq
  intro p l e s m args below meth c ad D A K cells slots C hr hf H locs ls hP hD hS hl
  exact lv_icmp_lt C.1 C.2.1 hd ht (fun hc => kt hc p l e s m args below meth c ad D A K cells slots C hr hf H locs ls hP hD hS hl) (fun hc => kf hc p l e s m args below meth c ad D A K cells slots C hr hf H locs ls hP hD hS hl)
theorem R_if_ge (q t : Nat) {x : Int32} {off : Int} (hd : decode M.2.1 pc = .ok (.ifCond .ge off, 3)) (hq : pc + 3 = q) (ht : (pc : Int) + off = (t : Int)) (kt : 0 ≤ x → R G M t loc st h Q) (kf : ¬ 0 ≤ x → R G M q loc st h Q) : R G M pc loc (.int x :: st) h Q := by
  subst hq
  intro p l e s m args below meth c ad D A K cells slots C hr hf H locs ls hP hD hS hl
  exact lv_if_ge C.1 C.2.1 hd ht (fun hc => kt hc p l e s m args below meth c ad D A K cells slots C hr hf H locs ls hP hD hS hl) (fun hc => kf hc p l e s m args below meth c ad D A K cells slots C hr hf H locs ls hP hD hS hl)
theorem R_icmp_ge (q t : Nat) {x y : Int32} {off : Int} (hd : decode M.2.1 pc = .ok (.if_icmp .ge off, 3)) (hq : pc + 3 = q) (ht : (pc : Int) + off = (t : Int)) (kt : y ≤ x → R G M t loc st h Q) (kf : ¬ y ≤ x → R G M q loc st h Q) : R G M pc loc (.int y :: .int x :: st) h Q := by
  subst hq
  intro p l e s m args below meth c ad D A K cells slots C hr hf H locs ls hP hD hS hl
  exact lv_icmp_ge C.1 C.2.1 hd ht (fun hc => kt hc p l e s m args below meth c ad D A K cells slots C hr hf H locs ls hP hD hS hl) (fun hc => kf hc p l e s m args below meth c ad D A K cells slots C hr hf H locs ls hP hD hS hl)
theorem R_if_gt (q t : Nat) {x : Int32} {off : Int} (hd : decode M.2.1 pc = .ok (.ifCond .gt off, 3)) (hq : pc + 3 = q) (ht : (pc : Int) + off = (t : Int)) (kt : 0 < x → R G M t loc st h Q) (kf : ¬ 0 < x → R G M q loc st h Q) : R G M pc loc (.int x :: st) h Q := by
  subst hq
  intro p l e s m args below meth c ad D A K cells slots C hr hf H locs ls hP hD hS hl
  exact lv_if_gt C.1 C.2.1 hd ht (fun hc => kt hc p l e s m args below meth c ad D A K cells slots C hr hf H locs ls hP hD hS hl) (fun hc => kf hc p l e s m args below meth c ad D A K cells slots C hr hf H locs ls hP hD hS hl)
theorem R_icmp_gt (q t : Nat) {x y : Int32} {off : Int} (hd : decode M.2.1 pc = .ok (.if_icmp .gt off, 3)) (hq : pc + 3 = q) (ht : (pc : Int) + off = (t : Int)) (kt : y < x → R G M t loc st h Q) (kf : ¬ y < x → R G M q loc st h Q) : R G M pc loc (.int y :: .int x :: st) h Q := by
  subst hq
  intro p l e s m args below meth c ad D A K cells slots C hr hf H locs ls hP hD hS hl
  exact lv_icmp_gt C.1 C.2.1 hd ht (fun hc => kt hc p l e s m args below meth c ad D A K cells slots C hr hf H locs ls hP hD hS hl) (fun hc => kf hc p l e s m args below meth c ad D A K cells slots C hr hf H locs ls hP hD hS hl)
theorem R_if_le (q t : Nat) {x : Int32} {off : Int} (hd : decode M.2.1 pc = .ok (.ifCond .le off, 3)) (hq : pc + 3 = q) (ht : (pc : Int) + off = (t : Int)) (kt : x ≤ 0 → R G M t loc st h Q) (kf : ¬ x ≤ 0 → R G M q loc st h Q) : R G M pc loc (.int x :: st) h Q := by
  subst hq
  intro p l e s m args below meth c ad D A K cells slots C hr hf H locs ls hP hD hS hl
  exact lv_if_le C.1 C.2.1 hd ht (fun hc => kt hc p l e s m args below meth c ad D A K cells slots C hr hf H locs ls hP hD hS hl) (fun hc => kf hc p l e s m args below meth c ad D A K cells slots C hr hf H locs ls hP hD hS hl)
theorem R_icmp_le (q t : Nat) {x y : Int32} {off : Int} (hd : decode M.2.1 pc = .ok (.if_icmp .le off, 3)) (hq : pc + 3 = q) (ht : (pc : Int) + off = (t : Int)) (kt : x ≤ y → R G M t loc st h Q) (kf : ¬ x ≤ y → R G M q loc st h Q) : R G M pc loc (.int y :: .int x :: st) h Q := by
  subst hq
  intro p l e s m args below meth c ad D A K cells slots C hr hf H locs ls hP hD hS hl
  exact lv_icmp_le C.1 C.2.1 hd ht (fun hc => kt hc p l e s m args below meth c ad D A K cells slots C hr hf H locs ls hP hD hS hl) (fun hc => kf hc p l e s m args below meth c ad D A K cells slots C hr hf H locs ls hP hD hS hl)
theorem R_goto (t : Nat) {off : Int} (hd : decode M.2.1 pc = .ok (.goto off, 3)) (ht : (pc : Int) + off = (t : Int)) (k : R G M t loc st h Q) : R G M pc loc st h Q := by
  intro p l e s m args below meth c ad D A K cells slots C hr hf H locs ls hP hD hS hl
  exact lv_goto C.1 C.2.1 hd ht (k p l e s m args below meth c ad D A K cells slots C hr hf H locs ls hP hD hS hl)
theorem R_lookup (t : Nat) {dflt off : Int} {ps : Array (Int × Int)} {len : Nat} {x : Int32} (hd : decode M.2.1 pc = .ok (.lookupswitch dflt ps, len)) (hp : (ps.toList.zip (ps.toList.drop 1)).all (fun (a, next) => a.1 < next.1) = true) (ho : Op.lookupswitch.offset ps.toList dflt x.toInt = off) (ht : (pc : Int) + off = (t : Int)) (k : R G M t loc st h Q) : R G M pc loc (.int x :: st) h Q := by
  intro p l e s m args below meth c ad D A K cells slots C hr hf H locs ls hP hD hS hl
  exact lv_lookup C.1 C.2.1 hd hp ho ht (k p l e s m args below meth c ad D A K cells slots C hr hf H locs ls hP hD hS hl)
theorem R_tableOut (t : Nat) {dflt lo hi : Int} {offs : Array Int} {len : Nat} {x : Int32} (hd : decode M.2.1 pc = .ok (.tableswitch dflt lo hi offs, len)) (hx : x.toInt < lo ∨ hi < x.toInt) (ht : (pc : Int) + dflt = (t : Int)) (k : R G M t loc st h Q) : R G M pc loc (.int x :: st) h Q := by
  intro p l e s m args below meth c ad D A K cells slots C hr hf H locs ls hP hD hS hl
  exact lv_tableOut C.1 C.2.1 hd hx ht (k p l e s m args below meth c ad D A K cells slots C hr hf H locs ls hP hD hS hl)
theorem R_tableIn (t : Nat) {dflt lo hi off : Int} {offs : Array Int} {len : Nat} {x : Int32} (hd : decode M.2.1 pc = .ok (.tableswitch dflt lo hi offs, len)) (h1 : ¬ x.toInt < lo) (h2 : ¬ hi < x.toInt) (ho : offs[(x.toInt - lo).toNat]? = some off) (ht : (pc : Int) + off = (t : Int)) (k : R G M t loc st h Q) : R G M pc loc (.int x :: st) h Q := by
  intro p l e s m args below meth c ad D A K cells slots C hr hf H locs ls hP hD hS hl
  exact lv_tableIn C.1 C.2.1 hd h1 h2 ho ht (k p l e s m args below meth c ad D A K cells slots C hr hf H locs ls hP hD hS hl)
theorem R_ireturn {v : Int32} {ty : FieldType} (hd : decode M.2.1 pc = .ok (.ireturn, 1)) (hr : M.2.2.2.1 = some ty) (hn : narrow ty (.int v) = .int v) (hQ : Q (some (.int v)) h) : R G M pc loc [.int v] h Q := by
  intro p l e s m args below meth c ad D A K cells slots C _ hf H locs ls hP hD hS hl
  exact hf (some (.int v)) h H locs pc ls hQ hP hD hS ⟨hd, ty, hr, hn⟩
theorem R_areturn {v : Nat} {n : String} (hd : decode M.2.1 pc = .ok (.areturn, 1)) (hr : M.2.2.2.1 = some (.object n)) (hQ : Q (some (.ref v)) h) : R G M pc loc [.ref v] h Q := by
  intro p l e s m args below meth c ad D A K cells slots C _ hf H locs ls hP hD hS hl
  exact hf (some (.ref v)) h H locs pc ls hQ hP hD hS ⟨hd, n, hr⟩
theorem R_return (hd : decode M.2.1 pc = .ok (.return_, 1)) (hr : M.2.2.2.1 = none) (hQ : Q none h) : R G M pc loc [] h Q := by
  intro p l e s m args below meth c ad D A K cells slots C _ hf H locs ls hP hD hS hl
  exact hf none h H locs pc ls hQ hP hD hS ⟨hd, hr⟩
/-- a field's link: in the pool of the class own, at idx, the k-th field of class number ci -/
def zF (own : String) (idx ci k : Nat) : Prop := ∃ (C : String) (T : u_T) (N : Nat) (ty : Nat → FieldType), vwCl[ci]? = some (C, T, N) ∧ k < N ∧ (∀ w ∈ u_ws C T N, w ∈ zAL) ∧ Cond.fieldLink own idx (T k).1 (T k).2.1 (T k).2.2.1 ∈ zAL ∧ (∀ j, j < N → parseFieldDescriptor (T j).2.2.1 = some (ty j)) ∧ (∀ a, a < N → ∀ b, b < N → a ≠ b → (T a).2.1 ≠ (T b).2.1)
/-- .. that may be written, of the type ty -/
def zFw (own : String) (idx ci k : Nat) (ty : FieldType) : Prop := ∃ (C : String) (T : u_T) (N : Nat) (tyf : Nat → FieldType), vwCl[ci]? = some (C, T, N) ∧ k < N ∧ (∀ w ∈ u_ws C T N, w ∈ zAL) ∧ Cond.fieldLink own idx (T k).1 (T k).2.1 (T k).2.2.1 ∈ zAL ∧ (∀ j, j < N → parseFieldDescriptor (T j).2.2.1 = some (tyf j)) ∧ (∀ a, a < N → ∀ b, b < N → a ≠ b → (T a).2.1 ≠ (T b).2.1) ∧ (T k).2.2.2 = false ∧ parseFieldDescriptor (T k).2.2.1 = some ty
theorem R_get (q : Nat) {idx ci j i : Nat} {fs : List Value} {v : Value} (hd : decode M.2.1 pc = .ok (.getfield idx, 3)) (hq : pc + 3 = q) (hF : zF M.1.cls idx ci j) (hg : zg h i = some (.inr (ci, fs))) (hv : fs[j]? = some v) (k : R G M q loc (v :: st) h Q) : R G M pc loc (.ref i :: st) h Q := by
  subst hq
  obtain ⟨C1, T, N, ty, hc, hk, hin, hlk, -, -⟩ := hF
  intro p l e s m args below meth c ad D A K cells slots C hr hf H locs ls hP hD hS hl
  obtain ⟨q0, hq0, -⟩ := zw_look (ad := ad) hg
  exact va_get C.1 C.2.1 C.2.2.2.2.1 hin C.2.2.2.1 C.2.2.2.2.2.1 hP q0 hq0 hc j hk (C.2.2.2.2.1 _ hlk) (fun _ h9 => h9) (v := zv ad v) (by rw [List.getElem?_map, hv]; rfl) hd (k p l e s m args below meth c ad D A K cells slots C hr hf H locs ls hP hD hS hl)
theorem zv_nar {ty : FieldType} {ad : Nat → Nat} {v : Value} (h : narrow ty v = v) : narrow ty (zv ad v) = zv ad v := by
  cases v <;> first | exact h | (cases ty <;> rfl)
theorem zv_fits {ty : FieldType} {ad : Nat → Nat} {v : Value} (h : fits ty v = true) : fits ty (zv ad v) = true := by
  cases v <;> first | exact h | (cases ty <;> first | exact h | rfl)
theorem R_put (q : Nat) {idx ci j i : Nat} {ty : FieldType} {fs : List Value} {v : Value} (hd : decode M.2.1 pc = .ok (.putfield idx, 3)) (hq : pc + 3 = q) (hF : zFw M.1.cls idx ci j ty) (hg : zg h i = some (.inr (ci, fs))) (hn : narrow ty v = v) (hfit : fits ty v = true) (hlen : Nat.ble (j + 1) fs.length = true) {h2 : zH} (he : zs h i (.inr (ci, fs.set j v)) = h2) (k : R G M q loc st h2 Q) : R G M pc loc (v :: .ref i :: st) h Q := by
  subst hq
  subst he
  obtain ⟨C1, T, N, tyf, hc, hk, hin, hlk, hty, hnm, hfin, hd1⟩ := hF
  intro p l e s m args below meth c ad D A K cells slots C hr hf H locs ls hP hD hS hl
  obtain ⟨q0, hq0, hs⟩ := zw_look (ad := ad) hg
  refine va_put C.1 C.2.1 C.2.2.2.2.1 hin tyf hty hnm C.2.2.2.1 C.2.2.2.2.2.1 hP hD hS q0 hq0 hc j hk (C.2.2.2.2.1 _ hlk) (fun _ h9 => h9) hfin (v := zv ad v) hd1 (zv_nar hn) (zv_fits hfit) (by rw [List.length_map]; exact Nat.le_of_ble_eq_true hlen) hd (fun H1 locs1 hP1 hD1 hS1 => ?_)
  have he : (zw ad h).set q0 (ad i, .inr (ci, (fs.map (zv ad)).set j (zv ad v))) = zw ad (zs h i (.inr (ci, fs.set j v))) := by
    rw [← hs]
    show _ = (zw ad h).set q0 (ad i, .inr (ci, (fs.set j v).map (zv ad)))
    rw [List.map_set]
  rw [he] at hP1 hD1
  exact k p l e s m args below meth c ad D A K cells slots C hr hf H1 locs1 ls hP1 hD1 hS1 hl
theorem R_iald (q : Nat) {i n : Nat} {cA : ClassId} {f : Nat → Int32} {x : Int32} (hd : decode M.2.1 pc = .ok (.iaload, 1)) (hq : pc + 1 = q) (hg : zg h i = some (.inl (cA, n, .inl f))) (hc : cA = G.1) (hx : vp_in x n) (k : R G M q loc (.int (f x.toNatClampNeg) :: st) h Q) : R G M pc loc (.int x :: .ref i :: st) h Q := by
  subst hq
  subst hc
  intro p l e s m args below meth c ad D A K cells slots C hr hf H locs ls hP hD hS hl
  obtain ⟨q0, hq0, -⟩ := zw_look (ad := ad) hg
  exact va_iald C.1 C.2.1 C.2.2.2.2.2.1 hP q0 0 hq0 rfl hx hd (k p l e s m args below meth c ad D A K cells slots C hr hf H locs ls hP hD hS hl)
theorem R_cald (q : Nat) {i n : Nat} {cA : ClassId} {f : Nat → Int32} {x : Int32} (hd : decode M.2.1 pc = .ok (.caload, 1)) (hq : pc + 1 = q) (hg : zg h i = some (.inl (cA, n, .inl f))) (hc : cA = G.2.1) (hx : vp_in x n) (k : R G M q loc (.int (f x.toNatClampNeg) :: st) h Q) : R G M pc loc (.int x :: .ref i :: st) h Q := by
  subst hq
  subst hc
  intro p l e s m args below meth c ad D A K cells slots C hr hf H locs ls hP hD hS hl
  obtain ⟨q0, hq0, -⟩ := zw_look (ad := ad) hg
  exact va_cald C.1 C.2.1 C.2.2.2.2.2.1 hP q0 1 hq0 rfl hx hd (k p l e s m args below meth c ad D A K cells slots C hr hf H locs ls hP hD hS hl)
theorem R_aald (q : Nat) {i n y : Nat} {cA : ClassId} {f : Nat → Option Nat} {x : Int32} (hd : decode M.2.1 pc = .ok (.aaload, 1)) (hq : pc + 1 = q) (hg : zg h i = some (.inl (cA, n, .inr (.inr (.inr (.inr f)))))) (hc : cA = G.2.2.1) (hx : vp_in x n) (hy : f x.toNatClampNeg = some y) (k : R G M q loc (.ref y :: st) h Q) : R G M pc loc (.int x :: .ref i :: st) h Q := by
  subst hq
  subst hc
  intro p l e s m args below meth c ad D A K cells slots C hr hf H locs ls hP hD hS hl
  obtain ⟨q0, hq0, -⟩ := zw_look (ad := ad) hg
  have hq1 : (zw ad h)[q0]? = some (ad i, .inl (G.2.2.1, n, .inr (.inr (.inr (.inr (fun j => (f j).map ad)))))) := hq0
  refine va_aldq C.1 C.2.1 C.2.2.2.2.2.1 hP q0 2 hq1 rfl hx hd ?_
  rw [hy]
  exact k p l e s m args below meth c ad D A K cells slots C hr hf H locs ls hP hD hS hl
theorem R_iast (q : Nat) {i n : Nat} {cA : ClassId} {f : Nat → Int32} {x v : Int32} (hd : decode M.2.1 pc = .ok (.iastore, 1)) (hq : pc + 1 = q) (hg : zg h i = some (.inl (cA, n, .inl f))) (hc : cA = G.1) (hx : vp_in x n) {h2 : zH} (he : zs h i (.inl (cA, n, .inl (upd f x.toNatClampNeg v))) = h2) (k : R G M q loc st h2 Q) : R G M pc loc (.int v :: .int x :: .ref i :: st) h Q := by
  subst hq
  subst he
  subst hc
  intro p l e s m args below meth c ad D A K cells slots C hr hf H locs ls hP hD hS hl
  obtain ⟨q0, hq0, hs⟩ := zw_look (ad := ad) hg
  refine va_iast C.1 C.2.1 C.2.2.2.2.2.1 hP hD hS q0 0 hq0 rfl hx hd (fun H1 locs1 hP1 hD1 hS1 => ?_)
  have he := hs (.inl (G.1, n, .inl (upd f x.toNatClampNeg v)))
  exact k p l e s m args below meth c ad D A K cells slots C hr hf H1 locs1 ls (he ▸ hP1) (he ▸ hD1) hS1 hl
theorem R_cast (q : Nat) {i n : Nat} {cA : ClassId} {f : Nat → Int32} {x v : Int32} (hd : decode M.2.1 pc = .ok (.castore, 1)) (hq : pc + 1 = q) (hg : zg h i = some (.inl (cA, n, .inl f))) (hc : cA = G.2.1) (hx : vp_in x n) (k : R G M q loc st (zs h i (.inl (cA, n, .inl (upd f x.toNatClampNeg (vp_nar .char v))))) Q) : R G M pc loc (.int v :: .int x :: .ref i :: st) h Q := by
  subst hq
  subst hc
  intro p l e s m args below meth c ad D A K cells slots C hr hf H locs ls hP hD hS hl
  obtain ⟨q0, hq0, hs⟩ := zw_look (ad := ad) hg
  refine va_cast C.1 C.2.1 C.2.2.2.2.2.1 hP hD hS q0 1 hq0 rfl hx hd (fun H1 locs1 hP1 hD1 hS1 => ?_)
  have he := hs (.inl (G.2.1, n, .inl (upd f x.toNatClampNeg (vp_nar .char v))))
  exact k p l e s m args below meth c ad D A K cells slots C hr hf H1 locs1 ls (he ▸ hP1) (he ▸ hD1) hS1 hl
theorem R_alen (q : Nat) {i n : Nat} {cA : ClassId} {f : Nat → Int32} (hd : decode M.2.1 pc = .ok (.arraylength, 1)) (hq : pc + 1 = q) (hg : zg h i = some (.inl (cA, n, .inl f))) (hc : cA = G.1) (k : R G M q loc (.int (Int32.ofNat n) :: st) h Q) : R G M pc loc (.ref i :: st) h Q := by
  subst hq
  subst hc
  intro p l e s m args below meth c ad D A K cells slots C hr hf H locs ls hP hD hS hl
  obtain ⟨q0, hq0, -⟩ := zw_look (ad := ad) hg
  exact va_alen C.1 C.2.1 C.2.2.2.2.2.1 hP q0 0 hq0 rfl rfl hd (k p l e s m args below meth c ad D A K cells slots C hr hf H locs ls hP hD hS hl)
theorem R_iro (q : Nat) {i n : Nat} {f : Nat → Int32} {x : Int32} (hd : decode M.2.1 pc = .ok (.iaload, 1)) (hq : pc + 1 = q) (hg : zro G i = some (n, f)) (hx : vp_in x n) (k : R G M q loc (.int (f x.toNatClampNeg) :: st) h Q) : R G M pc loc (.int x :: .ref i :: st) h Q := by
  subst hq
  intro p l e s m args below meth c ad D A K cells slots C hr hf H locs ls hP hD hS hl
  exact va_ti C.1 C.2.1 (C.2.2.2.2.2.2.1.2.2.2.1 i n f hg) hS hx rfl hd (k p l e s m args below meth c ad D A K cells slots C hr hf H locs ls hP hD hS hl)
theorem R_rolen (q : Nat) {i n : Nat} {f : Nat → Int32} (hd : decode M.2.1 pc = .ok (.arraylength, 1)) (hq : pc + 1 = q) (hg : zro G i = some (n, f)) (k : R G M q loc (.int (Int32.ofNat n) :: st) h Q) : R G M pc loc (.ref i :: st) h Q := by
  subst hq
  intro p l e s m args below meth c ad D A K cells slots C hr hf H locs ls hP hD hS hl
  exact va_tlen C.1 C.2.1 (C.2.2.2.2.2.2.1.2.2.2.1 i n f hg) hS rfl hd (k p l e s m args below meth c ad D A K cells slots C hr hf H locs ls hP hD hS hl)
theorem R_gets (q : Nat) {idx j : Nat} {Cn nm ds : String} {v : Value} (hd : decode M.2.1 pc = .ok (.getstatic idx, 3)) (hq : pc + 3 = q) (hz : zSt[j]? = some (Cn, nm, ds, v)) (hw : Cond.fieldLink M.1.cls idx Cn nm ds ∈ zAL) (k : R G M q loc (v :: st) h Q) : R G M pc loc st h Q := by
  subst hq
  intro p l e s m args below meth c ad D A K cells slots C hr hf H locs ls hP hD hS hl
  exact va_gets C.1 C.2.1 (C.2.2.2.2.2.2.1.2.2.1 _ (List.mem_of_getElem? hz)) hS C.2.2.2.1 (C.2.2.2.2.1 _ hw) (fun _ h9 => h9) hd (k p l e s m args below meth c ad D A K cells slots C hr hf H locs ls hP hD hS hl)
theorem R_getsN (q : Nat) {idx j : Nat} {Cn nm ds : String} {v : Value} (hd : decode M.2.1 pc = .ok (.getstatic idx, 3)) (hq : pc + 3 = q) (hz : zSt[j]? = some (Cn, nm, ds, v)) (hw : Cond.fieldLinkNest M.1.cls idx Cn nm ds RX6 ∈ zN) (k : R G M q loc (v :: st) h Q) : R G M pc loc st h Q := by
  subst hq
  intro p l e s m args below meth c ad D A K cells slots C hr hf H locs ls hP hD hS hl
  exact va_getsN C.1 C.2.1 (C.2.2.2.2.2.2.1.2.2.1 _ (List.mem_of_getElem? hz)) hS C.2.2.2.1 (va_Nw.use rfl (C.2.2.2.2.2.2.1.1 _ hw)) (fun _ h9 => h9) hd (k p l e s m args below meth c ad D A K cells slots C hr hf H locs ls hP hD hS hl)
theorem R_getsQ (q : Nat) {idx : Nat} (hd : decode M.2.1 pc = .ok (.getstatic idx, 3)) (hq : pc + 3 = q) (hw : Cond.fieldLink M.1.cls idx RJ3 "SIOOBE_FORMATTER" "Ljava/util/function/BiFunction;" ∈ zAL) (k0 : R G M q loc (.null :: st) h Q) (k1 : R G M q loc (.ref 5000 :: st) h Q) : R G M pc loc st h Q := by
  subst hq
  intro p l e s m args below meth c ad D A K cells slots C hr hf H locs ls hP hD hS hl
  rcases C.2.2.2.2.2.2.1.2.2.2.2.2.2 with z | z
  · exact va_gets C.1 C.2.1 z hS C.2.2.2.1 (C.2.2.2.2.1 _ hw) (fun _ h9 => h9) hd (k0 p l e s m args below meth c ad D A K cells slots C hr hf H locs ls hP hD hS hl)
  · exact va_gets C.1 C.2.1 z hS C.2.2.2.1 (C.2.2.2.2.1 _ hw) (fun _ h9 => h9) hd (k1 p l e s m args below meth c ad D A K cells slots C hr hf H locs ls hP hD hS hl)
theorem R_h {h1 : zH} (he : h = h1) (k : R G M pc loc st h1 Q) : R G M pc loc st h Q := he ▸ k
theorem R_loc {loc1 : List (Nat × Value)} (he : loc = loc1) (k : R G M pc loc1 st h Q) : R G M pc loc st h Q := he ▸ k
theorem R_top {x y : Int32} (he : x = y) (k : R G M pc loc (.int y :: st) h Q) : R G M pc loc (.int x :: st) h Q := he ▸ k
theorem R_tableAt (t : Nat) {dflt lo hi off : Int} {offs : Array Int} {len : Nat} {x : Int32} (v : Int32) (hx : x = v) (hd : decode M.2.1 pc = .ok (.tableswitch dflt lo hi offs, len)) (hh : ¬ v.toInt < lo ∧ ¬ hi < v.toInt ∧ offs[(v.toInt - lo).toNat]? = some off) (ht : (pc : Int) + off = (t : Int)) (k : R G M t loc st h Q) : R G M pc loc (.int x :: st) h Q := by
  subst hx
  exact R_tableIn t hd hh.1 hh.2.1 hh.2.2 ht k
theorem R_lookAt (t : Nat) {dflt off : Int} {ps : Array (Int × Int)} {len : Nat} {x : Int32} (v : Int32) (hx : x = v) (hd : decode M.2.1 pc = .ok (.lookupswitch dflt ps, len)) (hp : (ps.toList.zip (ps.toList.drop 1)).all (fun (a, next) => a.1 < next.1) = true ∧ Op.lookupswitch.offset ps.toList dflt v.toInt = off) (ht : (pc : Int) + off = (t : Int)) (k : R G M t loc st h Q) : R G M pc loc (.int x :: st) h Q := by
  subst hx
  exact R_lookup t hd hp.1 hp.2 ht k
theorem R_bro (q : Nat) {i : Nat} {x : Int32} (hd : decode M.2.1 pc = .ok (.baload, 1)) (hq : pc + 1 = q) (hi : i < 10) (hx : vp_in x (zLn.getD i 0)) (k : R G M q loc (.int ((zBy.getD i []).getD x.toNatClampNeg 0) :: st) h Q) : R G M pc loc (.int x :: .ref (2000 + i) :: st) h Q := by
  subst hq
  intro p l e s m args below meth c ad D A K cells slots C hr hf H locs ls hP hD hS hl
  exact va_tb C.1 C.2.1 (C.2.2.2.2.2.2.1.2.2.2.2.1.1 i hi).2.2.2 hS hx rfl hd (k p l e s m args below meth c ad D A K cells slots C hr hf H locs ls hP hD hS hl)
theorem R_blen (q : Nat) {i : Nat} (hd : decode M.2.1 pc = .ok (.arraylength, 1)) (hq : pc + 1 = q) (hi : i < 10) (k : R G M q loc (.int (Int32.ofNat (zLn.getD i 0)) :: st) h Q) : R G M pc loc (.ref (2000 + i) :: st) h Q := by
  subst hq
  intro p l e s m args below meth c ad D A K cells slots C hr hf H locs ls hP hD hS hl
  exact va_tlen C.1 C.2.1 (C.2.2.2.2.2.2.1.2.2.2.2.1.1 i hi).2.2.2 hS rfl hd (k p l e s m args below meth c ad D A K cells slots C hr hf H locs ls hP hD hS hl)
theorem R_tval (q : Nat) {idx i : Nat} (hd : decode M.2.1 pc = .ok (.getfield idx, 3)) (hq : pc + 3 = q) (hi : i < 10) (hw : Cond.fieldLink M.1.cls idx "java/lang/String" "value" "[B" ∈ zAL) (k : R G M q loc (.ref (2000 + i) :: st) h Q) : R G M pc loc (.ref (1000 + i) :: st) h Q := by
  subst hq
  intro p l e s m args below meth c ad D A K cells slots C hr hf H locs ls hP hD hS hl
  exact vk_getf C.1 C.2.1 (C.2.2.2.2.2.2.1.2.2.2.2.1.1 i hi).2.2.1 hS C.2.2.2.1 (C.2.2.2.2.1 _ hw) (fun _ h9 => h9) hd (k p l e s m args below meth c ad D A K cells slots C hr hf H locs ls hP hD hS hl)
theorem R_tcod (q : Nat) {idx i : Nat} (hd : decode M.2.1 pc = .ok (.getfield idx, 3)) (hq : pc + 3 = q) (hi : i < 10) (hw : Cond.fieldLink M.1.cls idx "java/lang/String" "coder" "B" ∈ zAL) (k : R G M q loc (.int 0 :: st) h Q) : R G M pc loc (.ref (1000 + i) :: st) h Q := by
  subst hq
  intro p l e s m args below meth c ad D A K cells slots C hr hf H locs ls hP hD hS hl
  exact vk_getf C.1 C.2.1 (C.2.2.2.2.2.2.1.2.2.2.2.1.1 i hi).2.1 hS C.2.2.2.1 (C.2.2.2.2.1 _ hw) (fun _ h9 => h9) hd (k p l e s m args below meth c ad D A K cells slots C hr hf H locs ls hP hD hS hl)
end zR
