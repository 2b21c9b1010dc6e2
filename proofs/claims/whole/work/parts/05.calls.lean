theorem zws_good {M : zM} (hc : Cond.code M.1 M.2.1 M.2.2.1 M.2.2.2.1 ∈ zAL) : GoodIn zAL (zws M) := by
  intro w hw
  rcases List.mem_cons.mp hw with rfl | h
  · exact ⟨hc, (al_good _ hc).2⟩
  · exact ⟨h, (al_good _ h).2⟩
theorem zPre_blind (G : zG) (ad : Nat → Nat) (D : va_G) (sz : Nat) (h : zH) (av : List Value) : FrameBlind (va_Pc av (zPre G ad D sz h)) := by
  intro a U g mk q
  obtain ⟨q0, q1, qP, qK, qD, qE⟩ := q
  exact ⟨q0, q1, qP, va_K.moved (u := U) (U := U.calling g mk a) (Vm.Alike.refl U.vm) qK, qD, qE.same rfl rfl⟩
theorem zA_in {ad : Nat → Nat} {A : Nat → Prop} {h : zH} {s : State} {H : Heap} {locs : List Loc} (hD : va_D A (zw ad h)) (hS : va_S A s.heap H locs) (hA : ∀ q : Nat, s.heap.size ≤ q → A q) : ∀ q, va_A (zw ad h) H.size q → A q := by
  intro q hq
  rcases hq with ⟨k, e, hk⟩ | hq
  · exact hD.2 k (q, e) hk
  · exact hA q (Nat.le_trans hS.1 hq)
theorem zPre_call {G : zG} {M : zM} {ad : Nat → Nat} {D : va_G} {A : Nat → Prop} {p : Program} {s : State} {m : MethodId} {args : Array Value} {c : Code} {h : zH} {H : Heap} {locs : List Loc} (C : zC G M ad D A p s m args c) (hP : va_P D vwCl (zw ad h) H) (hD : va_D A (zw ad h)) (hS : va_S A s.heap H locs) (av : List Value) : ∀ U : State, U.heap = H → s.WarmedH U.vm → va_Pc av (zPre G ad D H.size h) av.toArray U := by
  intro U hU hW
  exact ⟨rfl, by rw [hU], by rw [hU]; exact hP, va_K.moved hW.alike C.2.2.2.2.2.1, hD.weaken (fun _ _ _ _ => trivial), C.2.2.2.2.2.2.1.call hS (zA_in hD hS C.2.2.2.2.2.2.2) hU hW⟩
/-- behind a call -/
theorem z_call {p : Program} {l : Launch} {e : Env} {R : Room} {s : State} {m : MethodId} {args : Array Value} {below : List Frame} {meth : Method} {c : Code} {H : Heap} {locs : List Loc} {cells slots pc : Nat} {K : State → Prop} {ls : Array Slot} {st0 rest : List Value} {ad : Nat → Nat} {D : va_G} {A : Nat → Prop} {h : zH} {Q : Option Value → zH → Prop} {a : Array Value}
    (hr : va_Run p l e R s m args below meth c H locs cells slots 0 0 (F0 m pc ls st0) rest (zQc ad D H.size h Q a) (va_A (zw ad h) H.size)) (hS : va_S A s.heap H locs) (hF : ∀ q, va_A (zw ad h) H.size q → A q)
    (kk : ∀ (r : Option Value) (h' : zH) (H1 : Heap) (locs1 : List Loc), Q r h' → va_P D vwCl (zw ad h') H1 → va_D A (zw ad h') → va_S A s.heap H1 locs1 → W p l e R s m args below meth c H1 locs1 cells slots K (F0 m (pc + 3) ls ((r.map (zv ad)).toList ++ rest))) : W p l e R s m args below meth c H locs cells slots K (F0 m pc ls st0) := by
  intro T hT X
  obtain ⟨v, st₀, t, T', L, h0, X', hL, e1, e2, ⟨⟨r, h', hv, hq, hP1, hD1⟩, hz, hk⟩, st⟩ := hr T hT X
  cases hv
  rw [h0] at hz hk
  obtain ⟨t2, a1, b1⟩ := kk r h' T'.heap (locs ++ L) hq (by rw [e1]; exact hP1) (hD1.weaken (fun k q _ hA' => hF q.1 hA'))
    ⟨Nat.le_trans hS.1 (by rw [e1]; exact hz), fun q h1 h2 => by rw [e1, hk q (Nat.lt_of_lt_of_le h1 hS.1) (fun z => h2 (hF q z))]; exact hS.2.1 q h1 h2, fun q hq => by
      rcases List.mem_append.mp hq with h | h
      · exact hS.2.2 q h
      · exact hF _ (hL q h)⟩ T' rfl X'
  exact ⟨t2, st t2 a1, b1⟩
/-! what is known of a callee: its words, its parameters, that it makes nothing -/
def zYd (M : zM) (n : Nat) : Prop := (M.1.cls ≠ "java/lang/invoke/MethodHandle" ∧ M.1.cls ≠ "java/lang/invoke/VarHandle" ∧ (parseMethodDescriptor M.1.desc).map (fun d => d.parameters.length) = some n) ∧ M.2.2.2.2.cells = 0 ∧ M.2.2.2.2.slots = 0
def zYv (M : zM) (n : Nat) : Prop := Cond.instanceMethod M.1 ∈ zAL ∧ Cond.selects M.1.cls M.1 M.1 ∈ zAL ∧ Cond.initialized M.1.cls ∈ zAL ∧ Cond.code M.1 M.2.1 M.2.2.1 M.2.2.2.1 ∈ zAL ∧ zYd M n
def zYs (M : zM) (n : Nat) : Prop := Cond.static M.1 ∈ zAL ∧ Cond.initialized M.1.cls ∈ zAL ∧ Cond.code M.1 M.2.1 M.2.2.1 M.2.2.2.1 ∈ zAL ∧ zYd M n
/-- the callee's frame fits -/
def zRm (M M' : zM) : Bool := Nat.ble (M'.2.2.2.2.frames + 1) M.2.2.2.2.frames && Nat.ble (8 + (M'.2.2.1 + 11) + M'.2.2.2.2.locals) M.2.2.2.2.locals
theorem zRm_spec {M M' : zM} (h : zRm M M' = true) : M'.2.2.2.2.frames + 1 ≤ M.2.2.2.2.frames ∧ 8 + (M'.2.2.1 + 11) + M'.2.2.2.2.locals ≤ M.2.2.2.2.locals := by
  unfold zRm at h
  rw [Bool.and_eq_true] at h
  exact ⟨Nat.le_of_ble_eq_true h.1, Nat.le_of_ble_eq_true h.2⟩
def zk2 : List Value → Bool
  | [] => true
  | v :: l => (match v with | .int _ => true | .ref _ => true | .null => true | _ => false) && zk2 l
theorem zk2_sum (ad : Nat → Nat) : ∀ {l : List Value}, zk2 l = true → ((l.map (zv ad)).map fun v => v.category).sum = l.length
  | [], _ => rfl
  | v :: l, h => by
    unfold zk2 at h
    rw [Bool.and_eq_true] at h
    have ih := zk2_sum ad h.2
    have hc : (zv ad v).category = 1 := by
      have := h.1
      revert this
      cases v <;> simp [zv, Value.category]
    simp only [List.map_cons, List.sum_cons, List.length_cons]
    rw [ih, hc]
    omega

section zCl
variable {G : zG} {M : zM} {pc : Nat} {loc : List (Nat × Value)} {h : zH} {Q : Option Value → zH → Prop}
theorem R_callV (q : Nat) {M1 : zM} {n idx i : Nat} {as st rest : List Value} {ci N : Nat} {T : u_T} {fs : List Value} {Q1 : Option Value → zH → Prop} (hev : Ev G M1 (.ref i :: as) h Q1) (hd : decode M.2.1 pc = .ok (.invokevirtual idx, 3)) (hq : pc + 3 = q) (hy : zYv M1 n) (hlk : Cond.methodLink M.1.cls idx M1.1 ∈ zAL) (hR : zRm M M1 = true) (hst : st = as.reverse ++ .ref i :: rest) (hn : as.length = n) (hrest : zk2 rest = true) (hrl : Nat.ble rest.length 8 = true) (hg : zg h i = some (.inr (ci, fs))) (hcl : vwCl[ci]? = some (M1.1.cls, T, N)) (k : ∀ (r : Option Value) (h' : zH), Q1 r h' → R G M q loc (r.toList ++ rest) h' Q) : R G M pc loc st h Q := by
  subst hq
  subst hst
  obtain ⟨hin, hse, hi, hc, hd0⟩ := hy
  intro p l e s m args below meth c ad D A K cells slots C hr hf H locs ls hP hD hS hl
  have hrs : 2 * (F0 m pc ls ((as.reverse ++ .ref i :: rest).map (zv ad))).monitorRoom + ((rest.map (zv ad)).map fun v => v.category).sum ≤ 8 := lv_room (by rw [zk2_sum ad hrest]; exact Nat.le_of_ble_eq_true hrl)
  refine z_call (rest := rest.map (zv ad)) (va_runV (C := M1.1.cls) (As := as.map (zv ad)) (b := ad i) ⟨C.1, C.2.1, C.2.2.1, C.2.2.2.1, C.2.2.2.2.1⟩ (hev l ad D H.size) ⟨callB_of n C.2.2.2.2.1 (zws_good hc) rfl hd0.2.1 hd0.2.2 (C.2.2.2.2.1 _ hi) (C.2.2.2.2.1 _ hlk) hd0.1 (zRm_spec hR), C.2.2.2.2.1 _ hin, C.2.2.2.2.1 _ hse⟩ ⟨zPre_blind G ad D H.size h _, (by obtain ⟨q0, hq0, -⟩ := zw_look (ad := ad) hg; exact va_recv C.2.2.2.2.2.1 hP hcl hq0), zPre_call C hP hD hS _⟩ rfl (by rw [List.length_map]; exact hn) hl.1 (by simp [zv]) hrs hd ⟨hr.1, hr.2⟩) hS (zA_in hD hS C.2.2.2.2.2.2.2) (fun r1 h1 H1 locs1 hq1 hP1 hD1 hS1 => ?_)
  have kk := k r1 h1 hq1 p l e s m args below meth c ad D A K cells slots C hr hf H1 locs1 ls hP1 hD1 hS1 hl
  rw [List.map_append] at kk
  cases r1 <;> exact kk
theorem R_callT (q : Nat) {M1 : zM} {n idx i : Nat} {as st rest : List Value} {j : Nat} {Q1 : Option Value → zH → Prop} (hev : Ev G M1 (.ref i :: as) h Q1) (hd : decode M.2.1 pc = .ok (.invokevirtual idx, 3)) (hq : pc + 3 = q) (hy : zYv M1 n) (hlk : Cond.methodLink M.1.cls idx M1.1 ∈ zAL) (hR : zRm M M1 = true) (hst : st = as.reverse ++ .ref i :: rest) (hn : as.length = n) (hrest : zk2 rest = true) (hrl : Nat.ble rest.length 8 = true) (hg : i = 1000 + j) (hj : j < 10) (hcl : M1.1.cls = "java/lang/String") (k : ∀ (r : Option Value) (h' : zH), Q1 r h' → R G M q loc (r.toList ++ rest) h' Q) : R G M pc loc st h Q := by
  subst hq
  subst hst
  obtain ⟨hin, hse, hi, hc, hd0⟩ := hy
  intro p l e s m args below meth c ad D A K cells slots C hr hf H locs ls hP hD hS hl
  have hrs : 2 * (F0 m pc ls ((as.reverse ++ .ref i :: rest).map (zv ad))).monitorRoom + ((rest.map (zv ad)).map fun v => v.category).sum ≤ 8 := lv_room (by rw [zk2_sum ad hrest]; exact Nat.le_of_ble_eq_true hrl)
  refine z_call (rest := rest.map (zv ad)) (va_runV (C := M1.1.cls) (As := as.map (zv ad)) (b := ad i) ⟨C.1, C.2.1, C.2.2.1, C.2.2.2.1, C.2.2.2.2.1⟩ (hev l ad D H.size) ⟨callB_of n C.2.2.2.2.1 (zws_good hc) rfl hd0.2.1 hd0.2.2 (C.2.2.2.2.1 _ hi) (C.2.2.2.2.1 _ hlk) hd0.1 (zRm_spec hR), C.2.2.2.2.1 _ hin, C.2.2.2.2.1 _ hse⟩ ⟨zPre_blind G ad D H.size h _, (by rw [hcl, hg]; exact vk_recv (adK := fun i => ad (1000 + i)) (i := j) C.2.2.2.2.2.2.1.2.2.2.2.1 hj hS), zPre_call C hP hD hS _⟩ rfl (by rw [List.length_map]; exact hn) hl.1 (by simp [zv]) hrs hd ⟨hr.1, hr.2⟩) hS (zA_in hD hS C.2.2.2.2.2.2.2) (fun r1 h1 H1 locs1 hq1 hP1 hD1 hS1 => ?_)
  have kk := k r1 h1 hq1 p l e s m args below meth c ad D A K cells slots C hr hf H1 locs1 ls hP1 hD1 hS1 hl
  rw [List.map_append] at kk
  cases r1 <;> exact kk
theorem R_callS (q : Nat) {M1 : zM} {n idx : Nat} {as st rest : List Value} {Q1 : Option Value → zH → Prop} (hev : Ev G M1 as h Q1) (hd : decode M.2.1 pc = .ok (.invokestatic idx, 3)) (hq : pc + 3 = q) (hy : zYs M1 n) (hlk : Cond.methodLink M.1.cls idx M1.1 ∈ zAL) (hR : zRm M M1 = true) (hst : st = as.reverse ++ rest) (hn : as.length = n) (hrest : zk2 rest = true) (hrl : Nat.ble rest.length 8 = true) (k : ∀ (r : Option Value) (h' : zH), Q1 r h' → R G M q loc (r.toList ++ rest) h' Q) : R G M pc loc st h Q := by
  subst hq
  subst hst
  obtain ⟨hin, hi, hc, hd0⟩ := hy
  intro p l e s m args below meth c ad D A K cells slots C hr hf H locs ls hP hD hS hl
  have hrs : 2 * (F0 m pc ls ((as.reverse ++ rest).map (zv ad))).monitorRoom + ((rest.map (zv ad)).map fun v => v.category).sum ≤ 8 := lv_room (by rw [zk2_sum ad hrest]; exact Nat.le_of_ble_eq_true hrl)
  refine z_call (rest := rest.map (zv ad)) (va_runS (As := as.map (zv ad)) ⟨C.1, C.2.1, C.2.2.1, C.2.2.2.1, C.2.2.2.2.1⟩ (hev l ad D H.size) ⟨callB_of n C.2.2.2.2.1 (zws_good hc) rfl hd0.2.1 hd0.2.2 (C.2.2.2.2.1 _ hi) (C.2.2.2.2.1 _ hlk) hd0.1 (zRm_spec hR), C.2.2.2.2.1 _ hin⟩ ⟨zPre_blind G ad D H.size h _, zPre_call C hP hD hS _⟩ rfl (by rw [List.length_map]; exact hn) hl.1 (by simp) hrs hd ⟨hr.1, hr.2⟩) hS (zA_in hD hS C.2.2.2.2.2.2.2) (fun r1 h1 H1 locs1 hq1 hP1 hD1 hS1 => ?_)
  have kk := k r1 h1 hq1 p l e s m args below meth c ad D A K cells slots C hr hf H1 locs1 ls hP1 hD1 hS1 hl
  rw [List.map_append] at kk
  cases r1 <;> exact kk
theorem R_callSN (q : Nat) {M1 : zM} {n idx : Nat} {as st rest : List Value} {Q1 : Option Value → zH → Prop} (hev : Ev G M1 as h Q1) (hd : decode M.2.1 pc = .ok (.invokestatic idx, 3)) (hq : pc + 3 = q) (hy : zYs M1 n) (hlk : (M.1.cls, idx, M1.1) ∈ zNm) (hR : zRm M M1 = true) (hst : st = as.reverse ++ rest) (hn : as.length = n) (hrest : zk2 rest = true) (hrl : Nat.ble rest.length 8 = true) (k : ∀ (r : Option Value) (h' : zH), Q1 r h' → R G M q loc (r.toList ++ rest) h' Q) : R G M pc loc st h Q := by
  subst hq
  subst hst
  obtain ⟨hin, hi, hc, hd0⟩ := hy
  intro p l e s m args below meth c ad D A K cells slots C hr hf H locs ls hP hD hS hl
  have hrs : 2 * (F0 m pc ls ((as.reverse ++ rest).map (zv ad))).monitorRoom + ((rest.map (zv ad)).map fun v => v.category).sum ≤ 8 := lv_room (by rw [zk2_sum ad hrest]; exact Nat.le_of_ble_eq_true hrl)
  refine z_call (rest := rest.map (zv ad)) (va_runSN (As := as.map (zv ad)) ⟨C.1, C.2.1, C.2.2.1, C.2.2.2.1, C.2.2.2.2.1⟩ (hev l ad D H.size) ⟨va_cnB n C.2.2.2.2.1 (zws_good hc) rfl hd0.2.1 hd0.2.2 (C.2.2.2.2.2.2.1.2.1 _ hlk) (C.2.2.2.2.1 _ hi) hd0.1 (zRm_spec hR), C.2.2.2.2.1 _ hin, trivial⟩ ⟨zPre_blind G ad D H.size h _, zPre_call C hP hD hS _⟩ rfl (by rw [List.length_map]; exact hn) hl.1 (by simp) hrs hd ⟨hr.1, hr.2⟩) hS (zA_in hD hS C.2.2.2.2.2.2.2) (fun r1 h1 H1 locs1 hq1 hP1 hD1 hS1 => ?_)
  have kk := k r1 h1 hq1 p l e s m args below meth c ad D A K cells slots C hr hf H1 locs1 ls hP1 hD1 hS1 hl
  rw [List.map_append] at kk
  cases r1 <;> exact kk
theorem R_callVi (q : Nat) {M1 : zM} {n idx i : Nat} {as st rest : List Value} {ci N : Nat} {T : u_T} {fs : List Value} {v : Int32} {h2 : zH} (hev : EvF G M1 (.ref i :: as) h (some (.int v)) h2) (hd : decode M.2.1 pc = .ok (.invokevirtual idx, 3)) (hq : pc + 3 = q) (hy : zYv M1 n) (hlk : Cond.methodLink M.1.cls idx M1.1 ∈ zAL) (hR : zRm M M1 = true) (hst : st = as.reverse ++ .ref i :: rest) (hn : as.length = n) (hrest : zk2 rest = true) (hrl : Nat.ble rest.length 8 = true) (hg : zg h i = some (.inr (ci, fs))) (hcl : vwCl[ci]? = some (M1.1.cls, T, N)) (k : R G M q loc (.int v :: rest) h2 Q) : R G M pc loc st h Q :=
  R_callV q hev hd hq hy hlk hR hst hn hrest hrl hg hcl (fun r h' e => by obtain ⟨rfl, rfl⟩ := e; exact k)
theorem R_callVv (q : Nat) {M1 : zM} {n idx i : Nat} {as st rest : List Value} {ci N : Nat} {T : u_T} {fs : List Value} {h2 : zH} (hev : EvF G M1 (.ref i :: as) h (none) h2) (hd : decode M.2.1 pc = .ok (.invokevirtual idx, 3)) (hq : pc + 3 = q) (hy : zYv M1 n) (hlk : Cond.methodLink M.1.cls idx M1.1 ∈ zAL) (hR : zRm M M1 = true) (hst : st = as.reverse ++ .ref i :: rest) (hn : as.length = n) (hrest : zk2 rest = true) (hrl : Nat.ble rest.length 8 = true) (hg : zg h i = some (.inr (ci, fs))) (hcl : vwCl[ci]? = some (M1.1.cls, T, N)) (k : R G M q loc (rest) h2 Q) : R G M pc loc st h Q :=
  R_callV q hev hd hq hy hlk hR hst hn hrest hrl hg hcl (fun r h' e => by obtain ⟨rfl, rfl⟩ := e; exact k)
theorem R_callVr (q : Nat) {M1 : zM} {n idx i : Nat} {as st rest : List Value} {ci N : Nat} {T : u_T} {fs : List Value} {v : Nat} {h2 : zH} (hev : EvF G M1 (.ref i :: as) h (some (.ref v)) h2) (hd : decode M.2.1 pc = .ok (.invokevirtual idx, 3)) (hq : pc + 3 = q) (hy : zYv M1 n) (hlk : Cond.methodLink M.1.cls idx M1.1 ∈ zAL) (hR : zRm M M1 = true) (hst : st = as.reverse ++ .ref i :: rest) (hn : as.length = n) (hrest : zk2 rest = true) (hrl : Nat.ble rest.length 8 = true) (hg : zg h i = some (.inr (ci, fs))) (hcl : vwCl[ci]? = some (M1.1.cls, T, N)) (k : R G M q loc (.ref v :: rest) h2 Q) : R G M pc loc st h Q :=
  R_callV q hev hd hq hy hlk hR hst hn hrest hrl hg hcl (fun r h' e => by obtain ⟨rfl, rfl⟩ := e; exact k)
theorem R_callTi (q : Nat) {M1 : zM} {n idx i : Nat} {as st rest : List Value} {j : Nat} {v : Int32} {h2 : zH} (hev : EvF G M1 (.ref i :: as) h (some (.int v)) h2) (hd : decode M.2.1 pc = .ok (.invokevirtual idx, 3)) (hq : pc + 3 = q) (hy : zYv M1 n) (hlk : Cond.methodLink M.1.cls idx M1.1 ∈ zAL) (hR : zRm M M1 = true) (hst : st = as.reverse ++ .ref i :: rest) (hn : as.length = n) (hrest : zk2 rest = true) (hrl : Nat.ble rest.length 8 = true) (hg : i = 1000 + j) (hj : j < 10) (hcl : M1.1.cls = "java/lang/String") (k : R G M q loc (.int v :: rest) h2 Q) : R G M pc loc st h Q :=
  R_callT q hev hd hq hy hlk hR hst hn hrest hrl hg hj hcl (fun r h' e => by obtain ⟨rfl, rfl⟩ := e; exact k)
theorem R_callTv (q : Nat) {M1 : zM} {n idx i : Nat} {as st rest : List Value} {j : Nat} {h2 : zH} (hev : EvF G M1 (.ref i :: as) h (none) h2) (hd : decode M.2.1 pc = .ok (.invokevirtual idx, 3)) (hq : pc + 3 = q) (hy : zYv M1 n) (hlk : Cond.methodLink M.1.cls idx M1.1 ∈ zAL) (hR : zRm M M1 = true) (hst : st = as.reverse ++ .ref i :: rest) (hn : as.length = n) (hrest : zk2 rest = true) (hrl : Nat.ble rest.length 8 = true) (hg : i = 1000 + j) (hj : j < 10) (hcl : M1.1.cls = "java/lang/String") (k : R G M q loc (rest) h2 Q) : R G M pc loc st h Q :=
  R_callT q hev hd hq hy hlk hR hst hn hrest hrl hg hj hcl (fun r h' e => by obtain ⟨rfl, rfl⟩ := e; exact k)
theorem R_callTr (q : Nat) {M1 : zM} {n idx i : Nat} {as st rest : List Value} {j : Nat} {v : Nat} {h2 : zH} (hev : EvF G M1 (.ref i :: as) h (some (.ref v)) h2) (hd : decode M.2.1 pc = .ok (.invokevirtual idx, 3)) (hq : pc + 3 = q) (hy : zYv M1 n) (hlk : Cond.methodLink M.1.cls idx M1.1 ∈ zAL) (hR : zRm M M1 = true) (hst : st = as.reverse ++ .ref i :: rest) (hn : as.length = n) (hrest : zk2 rest = true) (hrl : Nat.ble rest.length 8 = true) (hg : i = 1000 + j) (hj : j < 10) (hcl : M1.1.cls = "java/lang/String") (k : R G M q loc (.ref v :: rest) h2 Q) : R G M pc loc st h Q :=
  R_callT q hev hd hq hy hlk hR hst hn hrest hrl hg hj hcl (fun r h' e => by obtain ⟨rfl, rfl⟩ := e; exact k)
theorem R_callSi (q : Nat) {M1 : zM} {n idx : Nat} {as st rest : List Value} {v : Int32} {h2 : zH} (hev : EvF G M1 as h (some (.int v)) h2) (hd : decode M.2.1 pc = .ok (.invokestatic idx, 3)) (hq : pc + 3 = q) (hy : zYs M1 n) (hlk : Cond.methodLink M.1.cls idx M1.1 ∈ zAL) (hR : zRm M M1 = true) (hst : st = as.reverse ++ rest) (hn : as.length = n) (hrest : zk2 rest = true) (hrl : Nat.ble rest.length 8 = true) (k : R G M q loc (.int v :: rest) h2 Q) : R G M pc loc st h Q :=
  R_callS q hev hd hq hy hlk hR hst hn hrest hrl (fun r h' e => by obtain ⟨rfl, rfl⟩ := e; exact k)
theorem R_callSv (q : Nat) {M1 : zM} {n idx : Nat} {as st rest : List Value} {h2 : zH} (hev : EvF G M1 as h (none) h2) (hd : decode M.2.1 pc = .ok (.invokestatic idx, 3)) (hq : pc + 3 = q) (hy : zYs M1 n) (hlk : Cond.methodLink M.1.cls idx M1.1 ∈ zAL) (hR : zRm M M1 = true) (hst : st = as.reverse ++ rest) (hn : as.length = n) (hrest : zk2 rest = true) (hrl : Nat.ble rest.length 8 = true) (k : R G M q loc (rest) h2 Q) : R G M pc loc st h Q :=
  R_callS q hev hd hq hy hlk hR hst hn hrest hrl (fun r h' e => by obtain ⟨rfl, rfl⟩ := e; exact k)
theorem R_callSr (q : Nat) {M1 : zM} {n idx : Nat} {as st rest : List Value} {v : Nat} {h2 : zH} (hev : EvF G M1 as h (some (.ref v)) h2) (hd : decode M.2.1 pc = .ok (.invokestatic idx, 3)) (hq : pc + 3 = q) (hy : zYs M1 n) (hlk : Cond.methodLink M.1.cls idx M1.1 ∈ zAL) (hR : zRm M M1 = true) (hst : st = as.reverse ++ rest) (hn : as.length = n) (hrest : zk2 rest = true) (hrl : Nat.ble rest.length 8 = true) (k : R G M q loc (.ref v :: rest) h2 Q) : R G M pc loc st h Q :=
  R_callS q hev hd hq hy hlk hR hst hn hrest hrl (fun r h' e => by obtain ⟨rfl, rfl⟩ := e; exact k)
theorem R_callSNi (q : Nat) {M1 : zM} {n idx : Nat} {as st rest : List Value} {v : Int32} {h2 : zH} (hev : EvF G M1 as h (some (.int v)) h2) (hd : decode M.2.1 pc = .ok (.invokestatic idx, 3)) (hq : pc + 3 = q) (hy : zYs M1 n) (hlk : (M.1.cls, idx, M1.1) ∈ zNm) (hR : zRm M M1 = true) (hst : st = as.reverse ++ rest) (hn : as.length = n) (hrest : zk2 rest = true) (hrl : Nat.ble rest.length 8 = true) (k : R G M q loc (.int v :: rest) h2 Q) : R G M pc loc st h Q :=
  R_callSN q hev hd hq hy hlk hR hst hn hrest hrl (fun r h' e => by obtain ⟨rfl, rfl⟩ := e; exact k)
theorem R_callSNv (q : Nat) {M1 : zM} {n idx : Nat} {as st rest : List Value} {h2 : zH} (hev : EvF G M1 as h (none) h2) (hd : decode M.2.1 pc = .ok (.invokestatic idx, 3)) (hq : pc + 3 = q) (hy : zYs M1 n) (hlk : (M.1.cls, idx, M1.1) ∈ zNm) (hR : zRm M M1 = true) (hst : st = as.reverse ++ rest) (hn : as.length = n) (hrest : zk2 rest = true) (hrl : Nat.ble rest.length 8 = true) (k : R G M q loc (rest) h2 Q) : R G M pc loc st h Q :=
  R_callSN q hev hd hq hy hlk hR hst hn hrest hrl (fun r h' e => by obtain ⟨rfl, rfl⟩ := e; exact k)
theorem R_callSNr (q : Nat) {M1 : zM} {n idx : Nat} {as st rest : List Value} {v : Nat} {h2 : zH} (hev : EvF G M1 as h (some (.ref v)) h2) (hd : decode M.2.1 pc = .ok (.invokestatic idx, 3)) (hq : pc + 3 = q) (hy : zYs M1 n) (hlk : (M.1.cls, idx, M1.1) ∈ zNm) (hR : zRm M M1 = true) (hst : st = as.reverse ++ rest) (hn : as.length = n) (hrest : zk2 rest = true) (hrl : Nat.ble rest.length 8 = true) (k : R G M q loc (.ref v :: rest) h2 Q) : R G M pc loc st h Q :=
  R_callSN q hev hd hq hy hlk hR hst hn hrest hrl (fun r h' e => by obtain ⟨rfl, rfl⟩ := e; exact k)
theorem R_mmax (q : Nat) {idx : Nat} {st : List Value} {x y : Int32} (hd : decode M.2.1 pc = .ok (.invokestatic idx, 3)) (hq : pc + 3 = q) (hlk : Cond.methodLink M.1.cls idx Lib.Math.max.name ∈ zAL) (hw : Cond.static Lib.Math.max.name ∈ zAL ∧ Cond.initialized "java/lang/Math" ∈ zAL ∧ Cond.code Lib.Math.max.name Lib.Math.max.code 2 (some .int) ∈ zAL) (hfr : Nat.ble 1 M.2.2.2.2.frames = true) (hst : zk2 st = true) (hlo : Nat.ble (st.length + 13) M.2.2.2.2.locals = true) (k : R G M q loc (.int (if x < y then y else x) :: st) h Q) : R G M pc loc (.int y :: .int x :: st) h Q := by
  subst hq
  intro p l e s m args below meth c ad D A K cells slots C hr hf H locs ls hP hD hS hl
  exact va_mmax C.1 C.2.1 (C.2.2.1.trans hl.1.symm) C.2.2.2.1 (C.2.2.2.2.1 _ hlk) (C.2.2.2.2.1 _ hw.1) (C.2.2.2.2.1 _ hw.2.1) (C.2.2.2.2.1 _ hw.2.2) (Nat.le_of_ble_eq_true hfr) (by rw [zk2_sum ad hst]; exact Nat.le_of_ble_eq_true hlo) hr.1 hr.2 hd (k p l e s m args below meth c ad D A K cells slots C hr hf H locs ls hP hD hS hl)
theorem R_mmin (q : Nat) {idx : Nat} {st : List Value} {x y : Int32} (hd : decode M.2.1 pc = .ok (.invokestatic idx, 3)) (hq : pc + 3 = q) (hlk : Cond.methodLink M.1.cls idx Lib.Math.min.name ∈ zAL) (hw : Cond.static Lib.Math.min.name ∈ zAL ∧ Cond.initialized "java/lang/Math" ∈ zAL ∧ Cond.code Lib.Math.min.name Lib.Math.min.code 2 (some .int) ∈ zAL) (hfr : Nat.ble 1 M.2.2.2.2.frames = true) (hst : zk2 st = true) (hlo : Nat.ble (st.length + 13) M.2.2.2.2.locals = true) (k : R G M q loc (.int (if y < x then y else x) :: st) h Q) : R G M pc loc (.int y :: .int x :: st) h Q := by
  subst hq
  intro p l e s m args below meth c ad D A K cells slots C hr hf H locs ls hP hD hS hl
  exact va_mmin C.1 C.2.1 (C.2.2.1.trans hl.1.symm) C.2.2.2.1 (C.2.2.2.2.1 _ hlk) (C.2.2.2.2.1 _ hw.1) (C.2.2.2.2.1 _ hw.2.1) (C.2.2.2.2.1 _ hw.2.2) (Nat.le_of_ble_eq_true hfr) (by rw [zk2_sum ad hst]; exact Nat.le_of_ble_eq_true hlo) hr.1 hr.2 hd (k p l e s m args below meth c ad D A K cells slots C hr hf H locs ls hP hD hS hl)
theorem R_mabs (q : Nat) {idx : Nat} {st : List Value} {x : Int32} (hd : decode M.2.1 pc = .ok (.invokestatic idx, 3)) (hq : pc + 3 = q) (hlk : Cond.methodLink M.1.cls idx Lib.Math.abs.name ∈ zAL) (hw : Cond.static Lib.Math.abs.name ∈ zAL ∧ Cond.initialized "java/lang/Math" ∈ zAL ∧ Cond.code Lib.Math.abs.name Lib.Math.abs.code 1 (some .int) ∈ zAL) (hfr : Nat.ble 1 M.2.2.2.2.frames = true) (hst : zk2 st = true) (hlo : Nat.ble (st.length + 13) M.2.2.2.2.locals = true) (k : R G M q loc (.int (if 0 ≤ x then x else 0 - x) :: st) h Q) : R G M pc loc (.int x :: st) h Q := by
  subst hq
  intro p l e s m args below meth c ad D A K cells slots C hr hf H locs ls hP hD hS hl
  exact va_mabs C.1 C.2.1 (C.2.2.1.trans hl.1.symm) C.2.2.2.1 (C.2.2.2.2.1 _ hlk) (C.2.2.2.2.1 _ hw.1) (C.2.2.2.2.1 _ hw.2.1) (C.2.2.2.2.1 _ hw.2.2) (Nat.le_of_ble_eq_true hfr) (by rw [zk2_sum ad hst]; exact Nat.le_of_ble_eq_true hlo) hr.1 hr.2 hd (k p l e s m args below meth c ad D A K cells slots C hr hf H locs ls hP hD hS hl)
end zCl
