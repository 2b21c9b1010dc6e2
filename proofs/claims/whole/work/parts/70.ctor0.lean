/-! CONSTRUCTORS: pictures with the addresses themselves -/
def zCN (G : zG) (M : zM) (D : va_G) (A : Nat → Prop) (p : Program) (s : State) (m : MethodId) (args : Array Value) (meth : Method) (c : Code) : Prop :=
  p.tables.exec = Jvm.exec ∧ c.code = M.2.1 ∧ c.maxLocals = M.2.2.1 ∧ s.vm.findClass M.1.cls = some m.cls ∧ (∀ w ∈ zAL, w.before args s = true) ∧ va_K D vwCl (zT G) s ∧ (∀ q : Nat, s.heap.size ≤ q → A q) ∧ va_AO RX3 s ∧ (M.1.name = "<init>" → meth.name = "<init>")
abbrev zQN : Type := Nat → List (Nat × Value) → List Value → va_W → Nat → Nat → Prop
def zFN (M : zM) (p : Program) (l : Launch) (e : Env) (s : State) (m : MethodId) (args : Array Value) (below : List Frame) (meth : Method) (c : Code) (D : va_G) (A : Nat → Prop) (K : State → Prop) (Q : zQN) : Prop :=
  ∀ (pc : Nat) (loc : List (Nat × Value)) (st : List Value) (ws : va_W) (cells slots : Nat) (H : Heap) (locs : List Loc) (ls : Array Slot), Q pc loc st ws cells slots → va_P D vwCl ws H → va_D A ws → va_S A s.heap H locs → lv_has ls M.2.2.1 loc → W p l e M.2.2.2.2 s m args below meth c H locs cells slots K (F0 m pc ls st)
def RN (G : zG) (M : zM) (pc : Nat) (loc : List (Nat × Value)) (st : List Value) (ws : va_W) (cells slots : Nat) (Q : zQN) : Prop :=
  ∀ (p : Program) (l : Launch) (e : Env) (s : State) (m : MethodId) (args : Array Value) (below : List Frame) (meth : Method) (c : Code) (D : va_G) (A : Nat → Prop) (K : State → Prop), zCN G M D A p s m args meth c → zFN M p l e s m args below meth c D A K Q →
    ∀ (H : Heap) (locs : List Loc) (ls : Array Slot), va_P D vwCl ws H → va_D A ws → va_S A s.heap H locs → lv_has ls M.2.2.1 loc → W p l e M.2.2.2.2 s m args below meth c H locs cells slots K (F0 m pc ls st)
def endC (M : zM) (P : va_W → Prop) : zQN := fun pc _ st ws cells slots => (decode M.2.1 pc = .ok (.return_, 1) ∧ M.2.2.2.1 = none) ∧ st = [] ∧ P ws ∧ cells ≤ M.2.2.2.2.cells ∧ slots ≤ M.2.2.2.2.slots
def zPN (G : zG) (D : va_G) (sz : Nat) (ws : va_W) (U : State) : Prop := U.heap.size = sz ∧ va_P D vwCl ws U.heap ∧ va_K D vwCl (zT G) U ∧ va_D (fun _ => True) ws ∧ va_AO RX3 U
def EvN (G : zG) (M : zM) (b : Nat) (ws : va_W) (P : va_W → Prop) : Prop :=
  ∀ (l : Launch) (D : va_G) (sz : Nat), Met l M.1 (zws M) M.2.2.2.2 (va_Pc [.ref b] (zPN G D sz ws)) (fun _ st oc t => (∃ w1 : va_W, oc = .returned none ∧ P w1 ∧ va_P D vwCl w1 t.heap ∧ va_D (va_A ws sz) w1) ∧ va_F (va_A ws sz) st t) M.2.2.2.2.cells M.2.2.2.2.slots (va_A ws sz)
theorem EvN.of {G : zG} {M : zM} {b : Nat} {ws : va_W} {P : va_W → Prop} (hy : plainName M.1.cls = true) (hnm : M.1.name = "<init>") (hn : 1 ≤ M.2.2.1) (k : RN G M 0 [(0, .ref b)] [] ws 0 0 (endC M P)) : EvN G M b ws P := by
  intro l D sz
  refine Met.ofW (cc := M.2.1) (maxL := M.2.2.1) (ret := M.2.2.2.1) hy rfl ?_
  intro p e s m args below meth c s₁ B hml hv
  obtain ⟨rfl, hsz, hP, hK, hD0, hAO⟩ := hv
  have hts := atoms_spec (ws := zws M) B.pre
  have hown : s.vm.findClass M.1.cls = some m.cls := findClass_of_methodNamed B.named
  have hlocks := B.notSynchronized
  have hr := B.returns
  have hin : meth.name = M.1.name := (name_of_methodNamed B.named B.method).1
  subst hsz
  have hD := hD0.self (sz := s.heap.size)
  rw [lg_entry_eq]
  have hl := lv_entry [.ref b] (n := M.2.2.1) hn
  refine k p l e s m _ below meth c D (va_A ws s.heap.size) _ ⟨B.exec, B.bytes, hml, hown, fun w hw => hts w (List.mem_cons_of_mem _ hw), hK, fun q hq => Or.inr hq, hAO, fun _ => hin.trans hnm⟩ ?_ s.heap [] _ hP hD va_S.rf hl
  intro pc loc st w1 cells slots H' locs' ls' hQ hP' hD' hS' _
  obtain ⟨hd, rfl, hw, hc1, hc2⟩ := hQ
  refine W.widen hc1 hc2 ?_
  exact W.vret B.exec B.bytes (hr.trans hd.2) (fun t ht hW => ⟨⟨w1, rfl, hw, by rw [ht]; exact hP', hD'⟩, hS'.F ht⟩) hS'.2.2 hd.1
/-- a final field's link -/
def zFf (own : String) (idx ci k : Nat) (ty : FieldType) : Prop := ∃ (C : String) (T : u_T) (N : Nat) (tyf : Nat → FieldType), vwCl[ci]? = some (C, T, N) ∧ k < N ∧ (∀ w ∈ u_ws C T N, w ∈ zAL) ∧ Cond.fieldLink own idx (T k).1 (T k).2.1 (T k).2.2.1 ∈ zAL ∧ (∀ j, j < N → parseFieldDescriptor (T j).2.2.1 = some (tyf j)) ∧ (∀ a, a < N → ∀ b, b < N → a ≠ b → (T a).2.1 ≠ (T b).2.1) ∧ (T k).2.2.2 = true ∧ (T k).1 = own ∧ parseFieldDescriptor (T k).2.2.1 = some ty
/-- what 'new' wants of a class -/
def zNw (own : String) (idx ci : Nat) (fs : List Value) (n : Nat) : Prop := ∃ (C : String) (T : u_T) (ty : Nat → FieldType), vwCl[ci]? = some (C, T, n) ∧ (∀ w ∈ u_ws C T n, w ∈ zAL) ∧ (∀ k, k < n → parseFieldDescriptor (T k).2.2.1 = some (ty k)) ∧ Cond.classLink own idx C ∈ zAL ∧ Cond.instantiable C n ∈ zAL ∧ Cond.initialized C ∈ zAL ∧ ∀ j, j < n → defaultValue (ty j) = vp_V fs j
/-- .. and a constructor's call -/
def zYi (M : zM) : Prop := Cond.instanceMethod M.1 ∈ zAL ∧ Cond.initialized M.1.cls ∈ zAL ∧ Cond.code M.1 M.2.1 M.2.2.1 M.2.2.2.1 ∈ zAL ∧ (M.1.cls ≠ "java/lang/invoke/MethodHandle" ∧ M.1.cls ≠ "java/lang/invoke/VarHandle" ∧ (parseMethodDescriptor M.1.desc).map (fun d => d.parameters.length) = some 0) ∧ M.1.name = "<init>" ∧ M.2.2.2.1 = none
theorem ra_un {U : State} {cA cB : ClassId} {ty : FieldType} (h1 : va_RA U cA ty) (h2 : va_RA U cB ty) : cA = cB := by
  cases ty with
  | object C =>
    obtain ⟨_, _, -, -, -, e1⟩ := h1
    obtain ⟨_, _, -, -, -, e2⟩ := h2
    exact Option.some.inj (e1.symm.trans e2)
  | _ => exact Option.some.inj (Eq.trans (Eq.symm h1) h2)
theorem vk_un {D : va_G} {tys : List (ClassId × FieldType)} {U : State} {cA cB : ClassId} {ty : FieldType} (h : va_K D vwCl (tys ++ [(cB, ty)]) U) (k : Nat) (hk : tys[k]? = some (cA, ty)) : cB = cA := by
  have h1 := (h.2 k (cA, ty) (by rw [List.getElem?_append_left (List.getElem?_eq_some_iff.mp hk).1]; exact hk)).2
  have h2 := (h.2 tys.length (cB, ty) (by rw [List.getElem?_append_right (Nat.le_refl _), Nat.sub_self]; rfl)).2
  exact ra_un h2 h1
theorem arrV_congr {cA : ClassId} {n : Nat} {f g : Nat → Value} (h : ∀ j : Nat, j < n → f j = g j) : arrV cA n f = arrV cA n g := by
  unfold arrV
  rw [show (fun j : Fin n => f j.val) = fun j : Fin n => g j.val from funext fun j => h j.val j.isLt]
theorem va_P.upd {D : va_G} {ws : va_W} {H : Heap} {k a : Nat} {x y : va_E} (h : va_P D vwCl ws H) (hk : ws[k]? = some (a, x)) (hxy : va_at D vwCl (a, x) H → va_at D vwCl (a, y) H) : va_P D vwCl (ws.set k (a, y)) H := by
  intro j q hj
  by_cases e : j = k
  · subst e
    rw [List.getElem?_set_self (List.getElem?_eq_some_iff.mp hk).1] at hj
    cases hj
    exact hxy (h j _ hk)
  · rw [List.getElem?_set_ne (fun z => e z.symm)] at hj
    exact h j q hj
theorem zk2_sumI {l : List Value} (h : zk2 l = true) : (l.map fun v => v.category).sum = l.length := by
  have e := zk2_sum id h
  have e2 : l.map (zv id) = l := by
    have e3 : zv id = fun v => v := by
      funext v
      cases v <;> rfl
    rw [e3, List.map_id']
  rw [e2] at e
  exact e
section zRN
variable {G : zG} {M : zM} {pc : Nat} {loc : List (Nat × Value)} {st : List Value} {ws : va_W} {cells slots : Nat} {Q : zQN}
theorem RN_iconst (q : Nat) {n : Int} {v : Int32} (hd : decode M.2.1 pc = .ok (.iconst n, 1)) (hq : pc + 1 = q) (hv : Int32.ofInt n = v) (k : RN G M q loc (.int v :: st) ws cells slots Q) : RN G M pc loc (st) ws cells slots Q := by
  subst hq
  intro p l e s m args below meth c D A K C hf H locs ls hP hD hS hl
  exact lv_iconst C.1 C.2.1 hd hv (k p l e s m args below meth c D A K C hf H locs ls hP hD hS hl)
theorem RN_bipush (q : Nat) {n : Int} {v : Int32} (hd : decode M.2.1 pc = .ok (.bipush n, 2)) (hq : pc + 2 = q) (hv : (Int8.ofInt n).toInt32 = v) (k : RN G M q loc (.int v :: st) ws cells slots Q) : RN G M pc loc (st) ws cells slots Q := by
  subst hq
  intro p l e s m args below meth c D A K C hf H locs ls hP hD hS hl
  exact lv_bipush C.1 C.2.1 hd hv (k p l e s m args below meth c D A K C hf H locs ls hP hD hS hl)
theorem RN_sipush (q : Nat) {n : Int} {v : Int32} (hd : decode M.2.1 pc = .ok (.sipush n, 3)) (hq : pc + 3 = q) (hv : (Int16.ofInt n).toInt32 = v) (k : RN G M q loc (.int v :: st) ws cells slots Q) : RN G M pc loc (st) ws cells slots Q := by
  subst hq
  intro p l e s m args below meth c D A K C hf H locs ls hP hD hS hl
  exact lv_sipush C.1 C.2.1 hd hv (k p l e s m args below meth c D A K C hf H locs ls hP hD hS hl)
theorem RN_dup (q : Nat) {v : Value} (hd : decode M.2.1 pc = .ok (.dup, 1)) (hq : pc + 1 = q) (hv : v.category = 1) (k : RN G M q loc (v :: v :: st) ws cells slots Q) : RN G M pc loc (v :: st) ws cells slots Q := by
  subst hq
  intro p l e s m args below meth c D A K C hf H locs ls hP hD hS hl
  exact lv_dup C.1 C.2.1 hd hv (k p l e s m args below meth c D A K C hf H locs ls hP hD hS hl)
theorem lv_get {ls : Array Slot} {n : Nat} {loc : List (Nat × Value)} {k : Nat} {v : Value} (hl : lv_has ls n loc) (h : zlk loc k = some v) : ls[k]? = some (.val v) := hl.2.2 (k, v) (zlk_mem h)
theorem RN_aload_n (q : Nat) {n : Fin 4} {x : Nat} (hd : decode M.2.1 pc = .ok (.aload_n n, 1)) (hq : pc + 1 = q) (hv : zlk loc n.val = some (.ref x)) (k : RN G M q loc (.ref x :: st) ws cells slots Q) : RN G M pc loc st ws cells slots Q := by
  subst hq
  intro p l e s m args below meth c D A K C hf H locs ls hP hD hS hl
  exact lv_aload_n C.1 C.2.1 hd rfl (lv_get hl hv) (k p l e s m args below meth c D A K C hf H locs ls hP hD hS hl)
theorem RN_iload_n (q : Nat) {n : Fin 4} {x : Int32} (hd : decode M.2.1 pc = .ok (.iload_n n, 1)) (hq : pc + 1 = q) (hv : zlk loc n.val = some (.int x)) (k : RN G M q loc (.int x :: st) ws cells slots Q) : RN G M pc loc st ws cells slots Q := by
  subst hq
  intro p l e s m args below meth c D A K C hf H locs ls hP hD hS hl
  exact lv_iload_n C.1 C.2.1 hd rfl (lv_get hl hv) (k p l e s m args below meth c D A K C hf H locs ls hP hD hS hl)
theorem lv_put {ls : Array Slot} {nL : Nat} {loc : List (Nat × Value)} {k : Nat} {v : Value} (hv : ∀ q ∈ loc, q.2.category = 1) (hl : lv_has ls nL ((k, v) :: loc.filter (fun q => !(q.1 == k) && !(q.1 + 1 == k && q.2.category == 2)))) : lv_has ls nL (zst loc k v) := by
  refine ⟨hl.1, hl.2.1, fun q hq => ?_⟩
  rcases zst_mem hq with rfl | ⟨h1, h2⟩
  · exact hl.2.2 _ List.mem_cons_self
  · refine hl.2.2 _ (List.mem_cons_of_mem _ (List.mem_filter.mpr ⟨h1, ?_⟩))
    have hc := hv q h1
    simp [h2, hc]
theorem RN_istore_n (q : Nat) {n : Fin 4} {x : Int32} (hd : decode M.2.1 pc = .ok (.istore_n n, 1)) (hq : pc + 1 = q) (hc : zk1 loc = true) (hn : n.val < M.2.2.1) {loc' : List (Nat × Value)} (hs : zst loc n.val (.int x) = loc') (k : RN G M q loc' st ws cells slots Q) : RN G M pc loc (.int x :: st) ws cells slots Q := by
  subst hq
  subst hs
  intro p l e s m args below meth c D A K C hf H locs ls hP hD hS hl
  exact lv_istore_n C.1 C.2.1 hd rfl hl hn rfl (fun ls' hl' => k p l e s m args below meth c D A K C hf H locs ls' hP hD hS (lv_put (zk1_spec hc) hl'))
theorem RN_astore_n (q : Nat) {n : Fin 4} {x : Nat} (hd : decode M.2.1 pc = .ok (.astore_n n, 1)) (hq : pc + 1 = q) (hc : zk1 loc = true) (hn : n.val < M.2.2.1) {loc' : List (Nat × Value)} (hs : zst loc n.val (.ref x) = loc') (k : RN G M q loc' st ws cells slots Q) : RN G M pc loc (.ref x :: st) ws cells slots Q := by
  subst hq
  subst hs
  intro p l e s m args below meth c D A K C hf H locs ls hP hD hS hl
  exact lv_astore_n C.1 C.2.1 hd rfl hl hn rfl (fun ls' hl' => k p l e s m args below meth c D A K C hf H locs ls' hP hD hS (lv_put (zk1_spec hc) hl'))
theorem RN_iinc (q : Nat) {n : Nat} {i : Int} {x v : Int32} (hd : decode M.2.1 pc = .ok (.iinc n i, 3)) (hq : pc + 3 = q) (hv : zlk loc n = some (.int x)) (hx : x + Int32.ofInt i = v) (hc : zk1 loc = true) (hn : n < M.2.2.1) {loc' : List (Nat × Value)} (hs : zst loc n (.int v) = loc') (k : RN G M q loc' st ws cells slots Q) : RN G M pc loc st ws cells slots Q := by
  subst hq
  subst hs
  intro p l e s m args below meth c D A K C hf H locs ls hP hD hS hl
  obtain ⟨j, hj⟩ := List.getElem?_of_mem (zlk_mem hv)
  exact lv_iinc C.1 C.2.1 hd hl hj hx hn rfl (fun ls' hl' => k p l e s m args below meth c D A K C hf H locs ls' hP hD hS (lv_put (zk1_spec hc) hl'))
theorem RN_goto (t : Nat) {off : Int} (hd : decode M.2.1 pc = .ok (.goto off, 3)) (ht : (pc : Int) + off = (t : Int)) (k : RN G M t loc st ws cells slots Q) : RN G M pc loc st ws cells slots Q := by
  intro p l e s m args below meth c D A K C hf H locs ls hP hD hS hl
  exact lv_goto C.1 C.2.1 hd ht (k p l e s m args below meth c D A K C hf H locs ls hP hD hS hl)
theorem RN_icmp_ge (q t : Nat) {x y : Int32} {off : Int} (hd : decode M.2.1 pc = .ok (.if_icmp .ge off, 3)) (hq : pc + 3 = q) (ht : (pc : Int) + off = (t : Int)) (kt : y ≤ x → RN G M t loc st ws cells slots Q) (kf : ¬ y ≤ x → RN G M q loc st ws cells slots Q) : RN G M pc loc (.int y :: .int x :: st) ws cells slots Q := by
  subst hq
  intro p l e s m args below meth c D A K C hf H locs ls hP hD hS hl
  exact lv_icmp_ge C.1 C.2.1 hd ht (fun hc => kt hc p l e s m args below meth c D A K C hf H locs ls hP hD hS hl) (fun hc => kf hc p l e s m args below meth c D A K C hf H locs ls hP hD hS hl)
theorem RN_get (q : Nat) {idx ci j i q0 : Nat} {fs : List Value} {v : Value} (hd : decode M.2.1 pc = .ok (.getfield idx, 3)) (hq : pc + 3 = q) (hF : zF M.1.cls idx ci j) (hg : ws[q0]? = some (i, .inr (ci, fs))) (hv : fs[j]? = some v) (k : RN G M q loc (v :: st) ws cells slots Q) : RN G M pc loc (.ref i :: st) ws cells slots Q := by
  subst hq
  obtain ⟨C1, T, N, ty, hc, hk, hin, hlk, -, -⟩ := hF
  intro p l e s m args below meth c D A K C hf H locs ls hP hD hS hl
  exact va_get C.1 C.2.1 C.2.2.2.2.1 hin C.2.2.2.1 C.2.2.2.2.2.1 hP q0 hg hc j hk (C.2.2.2.2.1 _ hlk) (fun _ h9 => h9) (v := v) hv hd (k p l e s m args below meth c D A K C hf H locs ls hP hD hS hl)
theorem RN_put (q : Nat) {idx ci j i q0 : Nat} {ty : FieldType} {fs : List Value} {v : Value} (hd : decode M.2.1 pc = .ok (.putfield idx, 3)) (hq : pc + 3 = q) (hF : zFw M.1.cls idx ci j ty) (hg : ws[q0]? = some (i, .inr (ci, fs))) (hn : narrow ty v = v) (hfit : fits ty v = true) (hlen : Nat.ble (j + 1) fs.length = true) {w2 : va_W} (he : ws.set q0 (i, .inr (ci, fs.set j v)) = w2) (k : RN G M q loc st w2 cells slots Q) : RN G M pc loc (v :: .ref i :: st) ws cells slots Q := by
  subst hq
  subst he
  obtain ⟨C1, T, N, tyf, hc, hk, hin, hlk, hty, hnm, hfin, hd1⟩ := hF
  intro p l e s m args below meth c D A K C hf H locs ls hP hD hS hl
  exact va_put C.1 C.2.1 C.2.2.2.2.1 hin tyf hty hnm C.2.2.2.1 C.2.2.2.2.2.1 hP hD hS q0 hg hc j hk (C.2.2.2.2.1 _ hlk) (fun _ h9 => h9) hfin (v := v) hd1 hn hfit (Nat.le_of_ble_eq_true hlen) hd (fun H1 locs1 hP1 hD1 hS1 => k p l e s m args below meth c D A K C hf H1 locs1 ls hP1 hD1 hS1 hl)
theorem RN_putF (q : Nat) {idx ci j i q0 : Nat} {ty : FieldType} {fs : List Value} {v : Value} (hd : decode M.2.1 pc = .ok (.putfield idx, 3)) (hq : pc + 3 = q) (hnm0 : M.1.name = "<init>") (hF : zFf M.1.cls idx ci j ty) (hg : ws[q0]? = some (i, .inr (ci, fs))) (hn : narrow ty v = v) (hfit : fits ty v = true) (hlen : Nat.ble (j + 1) fs.length = true) {w2 : va_W} (he : ws.set q0 (i, .inr (ci, fs.set j v)) = w2) (k : RN G M q loc st w2 cells slots Q) : RN G M pc loc (v :: .ref i :: st) ws cells slots Q := by
  subst hq
  subst he
  obtain ⟨C1, T, N, tyf, hc, hk, hin, hlk, hty, hnm, hfin, hdc, hd1⟩ := hF
  intro p l e s m args below meth c D A K C hf H locs ls hP hD hS hl
  exact va_putF C.1 C.2.1 C.2.2.2.2.1 hin tyf hty hnm C.2.2.2.1 C.2.2.2.2.2.1 hP hD hS q0 hg hc j hk (C.2.2.2.2.1 _ hlk) (fun _ h9 => h9) hfin (C.2.2.2.2.2.2.2.2 hnm0) hdc (v := v) hd1 hn hfit (Nat.le_of_ble_eq_true hlen) hd (fun H1 locs1 hP1 hD1 hS1 => k p l e s m args below meth c D A K C hf H1 locs1 ls hP1 hD1 hS1 hl)
theorem RN_new (q : Nat) {idx ci n : Nat} {fs : List Value} (hd : decode M.2.1 pc = .ok (.new idx, 3)) (hq : pc + 3 = q) (hN : zNw M.1.cls idx ci fs n) (hc1 : Nat.ble (cells + 1) M.2.2.2.2.cells = true) (hc2 : Nat.ble (slots + n) M.2.2.2.2.slots = true) (k : ∀ a : Nat, RN G M q loc (.ref a :: st) (ws ++ [(a, .inr (ci, fs))]) (cells + 1) (slots + n) Q) : RN G M pc loc st ws cells slots Q := by
  subst hq
  obtain ⟨C1, T, ty, hcl, hin, hty, hk1, hk2, hk3, hdef⟩ := hN
  intro p l e s m args below meth c D A K C hf H locs ls hP hD hS hl
  exact va_new C.1 C.2.1 C.2.2.2.2.1 hin ty hty C.2.2.2.1 (C.2.2.2.2.1 _ hk1) (C.2.2.2.2.1 _ hk2) (C.2.2.2.2.1 _ hk3) C.2.2.2.2.2.1 hP hD hS C.2.2.2.2.2.2.1 hcl hdef (Nat.le_of_ble_eq_true hc1) (Nat.le_of_ble_eq_true hc2) hd (fun a H1 hP1 hD1 hS1 => k a p l e s m args below meth c D A K C hf H1 locs ls hP1 hD1 hS1 hl)
theorem RN_newI (q : Nat) {n : Int32} {N : Nat} (hd : decode M.2.1 pc = .ok (.newarray .int, 2)) (hq : pc + 2 = q) (hw : Cond.arrayClass FieldType.int ∈ zAL) (hn : ¬ n < 0) (hN : n.toNatClampNeg = N) (hb : Nat.ble (N * 4) 536870912 = true) (hc1 : Nat.ble (cells + 1) M.2.2.2.2.cells = true) (hc2 : Nat.ble (slots + N) M.2.2.2.2.slots = true) (k : ∀ a : Nat, RN G M q loc (.ref a :: st) (ws ++ [(a, .inl (G.1, N, .inl (fun _ => 0)))]) (cells + 1) (slots + N) Q) : RN G M pc loc (.int n :: st) ws cells slots Q := by
  subst hq
  intro p l e s m args below meth c D A K C hf H locs ls hP hD hS hl
  refine va_newa (atype := .int) (ty := .int) (a0 := (N, .inl (fun _ => 0))) C.1 C.2.1 (C.2.2.2.2.1 _ hw) rfl C.2.2.2.2.2.1 hP hD hS C.2.2.2.2.2.2.1 (fun _ => rfl) hn hN (Nat.le_of_ble_eq_true hb) (Nat.le_of_ble_eq_true hc1) (Nat.le_of_ble_eq_true hc2) hd (fun a cA H1 hK1 hP1 hD1 hS1 => ?_)
  have e : cA = G.1 := vk_un hK1 0 rfl
  subst e
  exact k a p l e s m args below meth c D A K C hf H1 locs ls hP1 hD1 hS1 hl
theorem RN_newC (q : Nat) {n : Int32} {N : Nat} (hd : decode M.2.1 pc = .ok (.newarray .char, 2)) (hq : pc + 2 = q) (hw : Cond.arrayClass FieldType.char ∈ zAL) (hn : ¬ n < 0) (hN : n.toNatClampNeg = N) (hb : Nat.ble (N * 2) 536870912 = true) (hc1 : Nat.ble (cells + 1) M.2.2.2.2.cells = true) (hc2 : Nat.ble (slots + N) M.2.2.2.2.slots = true) (k : ∀ a : Nat, RN G M q loc (.ref a :: st) (ws ++ [(a, .inl (G.2.1, N, .inl (fun _ => 0)))]) (cells + 1) (slots + N) Q) : RN G M pc loc (.int n :: st) ws cells slots Q := by
  subst hq
  intro p l e s m args below meth c D A K C hf H locs ls hP hD hS hl
  refine va_newa (atype := .char) (ty := .char) (a0 := (N, .inl (fun _ => 0))) C.1 C.2.1 (C.2.2.2.2.1 _ hw) rfl C.2.2.2.2.2.1 hP hD hS C.2.2.2.2.2.2.1 (fun _ => rfl) hn hN (Nat.le_of_ble_eq_true hb) (Nat.le_of_ble_eq_true hc1) (Nat.le_of_ble_eq_true hc2) hd (fun a cA H1 hK1 hP1 hD1 hS1 => ?_)
  have e : cA = G.2.1 := vk_un hK1 1 rfl
  subst e
  exact k a p l e s m args below meth c D A K C hf H1 locs ls hP1 hD1 hS1 hl
theorem RN_newQ (q : Nat) {n : Int32} {idx N : Nat} (hd : decode M.2.1 pc = .ok (.anewarray idx, 3)) (hq : pc + 3 = q) (hw : Cond.classLink M.1.cls idx RX3 ∈ zAL) (hn : ¬ n < 0) (hN : n.toNatClampNeg = N) (hb : Nat.ble (N * 4) 536870912 = true) (hc1 : Nat.ble (cells + 1) M.2.2.2.2.cells = true) (hc2 : Nat.ble (slots + N) M.2.2.2.2.slots = true) (k : ∀ a : Nat, RN G M q loc (.ref a :: st) (ws ++ [(a, .inl (G.2.2.1, N, .inr (.inr (.inr (.inr (fun _ => none))))))]) (cells + 1) (slots + N) Q) : RN G M pc loc (.int n :: st) ws cells slots Q := by
  subst hq
  intro p l e s m args below meth c D A K C hf H locs ls hP hD hS hl
  refine va_newq C.1 C.2.1 C.2.2.2.1 (C.2.2.2.2.1 _ hw) C.2.2.2.2.2.2.2.1 C.2.2.2.2.2.1 hP hD hS C.2.2.2.2.2.2.1 hn hN (Nat.le_of_ble_eq_true hb) (Nat.le_of_ble_eq_true hc1) (Nat.le_of_ble_eq_true hc2) hd (fun a cA H1 hK1 hP1 hD1 hS1 => ?_)
  have e : cA = G.2.2.1 := vk_un hK1 2 rfl
  subst e
  exact k a p l e s m args below meth c D A K C hf H1 locs ls hP1 hD1 hS1 hl
theorem RN_aast (q : Nat) {a v n q0 qk : Nat} {vs : List Value} {f : Nat → Option Nat} {x : Int32} (hd : decode M.2.1 pc = .ok (.aastore, 1)) (hq : pc + 1 = q) (ha : ws[q0]? = some (a, .inl (G.2.2.1, n, .inr (.inr (.inr (.inr f)))))) (hv : ws[qk]? = some (v, .inr (3, vs))) (hx : vp_in x n) {w2 : va_W} (he : ws.set q0 (a, .inl (G.2.2.1, n, .inr (.inr (.inr (.inr (va_up f x.toNatClampNeg (some v))))))) = w2) (k : RN G M q loc st w2 cells slots Q) : RN G M pc loc (.ref v :: .int x :: .ref a :: st) ws cells slots Q := by
  subst hq
  subst he
  intro p l e s m args below meth c D A K C hf H locs ls hP hD hS hl
  exact va_astq (r := (RX3, TX3, 6)) C.1 C.2.1 C.2.2.2.2.2.1 hP hD hS q0 2 qk 3 ha rfl hv rfl hx hd (fun H1 locs1 hP1 hD1 hS1 => k p l e s m args below meth c D A K C hf H1 locs1 ls hP1 hD1 hS1 hl)
theorem RN_iast (q : Nat) {a n q0 : Nat} {f : Nat → Int32} {x v : Int32} (hd : decode M.2.1 pc = .ok (.iastore, 1)) (hq : pc + 1 = q) (ha : ws[q0]? = some (a, .inl (G.1, n, .inl f))) (hx : vp_in x n) {w2 : va_W} (he : ws.set q0 (a, .inl (G.1, n, .inl (upd f x.toNatClampNeg v))) = w2) (k : RN G M q loc st w2 cells slots Q) : RN G M pc loc (.int v :: .int x :: .ref a :: st) ws cells slots Q := by
  subst hq
  subst he
  intro p l e s m args below meth c D A K C hf H locs ls hP hD hS hl
  exact va_iast C.1 C.2.1 C.2.2.2.2.2.1 hP hD hS q0 0 ha rfl hx hd (fun H1 locs1 hP1 hD1 hS1 => k p l e s m args below meth c D A K C hf H1 locs1 ls hP1 hD1 hS1 hl)
theorem RN_obj (q : Nat) {idx a : Nat} (hd : decode M.2.1 pc = .ok (.invokespecial idx, 3)) (hq : pc + 3 = q) (hw : Cond.methodLink M.1.cls idx Lib.objectInit ∈ zAL ∧ Cond.instanceMethod Lib.objectInit ∈ zAL ∧ Cond.code Lib.objectInit ⟨#[0xb1]⟩ 1 none ∈ zAL) (hfr : Nat.ble 1 M.2.2.2.2.frames = true) (hst : zk2 st = true) (hrl : Nat.ble st.length 4 = true) (hlo : Nat.ble 24 M.2.2.2.2.locals = true) (k : RN G M q loc st ws cells slots Q) : RN G M pc loc (.ref a :: st) ws cells slots Q := by
  subst hq
  intro p l e s m args below meth c D A K C hf H locs ls hP hD hS hl
  have hs8 : 2 * (F0 m pc ls (.ref a :: st)).monitorRoom + (st.map fun v => v.category).sum ≤ 8 := lv_room (by rw [zk2_sumI hst]; exact Nat.le_trans (Nat.le_of_ble_eq_true hrl) (by decide))
  refine W.objInit C.1 C.2.1 C.2.2.2.1 (C.2.2.2.2.1 _ hw.1) (C.2.2.2.2.1 _ hw.2.1) (C.2.2.2.2.1 _ hw.2.2) rfl (hl.1.trans C.2.2.1.symm) rfl hd (Nat.le_of_ble_eq_true hfr) (Nat.le_trans (Nat.add_le_add_right hs8 12) (Nat.le_trans (by decide) (Nat.le_of_ble_eq_true hlo))) ?_
  exact k p l e s m args below meth c D A K C hf H locs ls hP hD hS hl
theorem RN_init (q : Nat) {M1 : zM} {idx b kp : Nat} {e0 : va_E} {wr : va_W} {P1 : va_W → Prop} (isR : List Nat) (hev : EvN G M1 b [(b, e0)] P1) (hd : decode M.2.1 pc = .ok (.invokespecial idx, 3)) (hq : pc + 3 = q) (hy : zYi M1) (hlk : Cond.methodLink M.1.cls idx M1.1 ∈ zAL) (hR : zRm M M1 = true) (hst : zk2 st = true) (hrl : Nat.ble st.length 8 = true) (hk1 : [kp].filterMap (fun i => ws[i]?) = [(b, e0)]) (hk2 : [kp].map (fun i => ws[i]?) = [(b, e0)].map some) (hwr : isR.map (fun i => ws[i]?) = wr.map some) (hnd : va_nd isR = true) (hdis : ∀ i ∈ isR, i ∉ [kp]) (hc1 : Nat.ble (cells + M1.2.2.2.2.cells) M.2.2.2.2.cells = true) (hc2 : Nat.ble (slots + M1.2.2.2.2.slots) M.2.2.2.2.slots = true) (k : ∀ w1 : va_W, P1 w1 → RN G M q loc st (wr ++ w1) (cells + M1.2.2.2.2.cells) (slots + M1.2.2.2.2.slots) Q) : RN G M pc loc (.ref b :: st) ws cells slots Q := by
  subst hq
  obtain ⟨hin, hi, hc, hd0, hnm, hret⟩ := hy
  intro p l e s m args below meth c D A K C hf H locs ls hP hD hS hl
  have hs8 : 2 * (F0 m pc ls (.ref b :: st)).monitorRoom + (st.map fun v => v.category).sum ≤ 8 := lv_room (by rw [zk2_sumI hst]; exact Nat.le_of_ble_eq_true hrl)
  have hPc := hP.sub (ws' := [(b, e0)]) [kp] hk1
  have hDc : va_D A [(b, e0)] := hD.sub (ws' := [(b, e0)]) [kp] rfl hk2
  have hFc := va_free (wc := [(b, e0)]) hD hS C.2.2.2.2.2.2.1 [kp] hk2
  have hcode : Cond.code M1.1 M1.2.1 M1.2.2.1 none ∈ zAL := hret ▸ hc
  have hgood : GoodIn zAL (Cond.code M1.1 M1.2.1 M1.2.2.1 none :: zAL) := by
    have := zws_good hc
    unfold zws at this
    rw [hret] at this
    exact this
  have hmet := hev l D H.size
  unfold zws at hmet
  rw [hret] at hmet
  intro T hT X
  obtain ⟨v, st₀, t, T', L, h0, X', hL, e1, e2, ⟨⟨w1, hv, hq1, hP1, hD1⟩, hz, hkk⟩, stp⟩ := va_runI (As := []) (rest := st) ⟨C.1, C.2.1, C.2.2.1, C.2.2.2.1, C.2.2.2.2.1⟩ hmet ⟨callB_of 0 C.2.2.2.2.1 hgood rfl rfl rfl (C.2.2.2.2.1 _ hi) (C.2.2.2.2.1 _ hlk) hd0 (zRm_spec hR), hnm, C.2.2.2.2.1 _ hin⟩ ⟨fun a U g mk qq => by obtain ⟨q0, q1, qP, qK, qD, qA⟩ := qq; exact ⟨q0, q1, qP, va_K.moved (u := U) (U := U.calling g mk a) (Vm.Alike.refl U.vm) qK, qD, va_AO.moved (u := U) (U := U.calling g mk a) (Vm.Alike.refl U.vm) qA⟩, fun U hU hW => ⟨rfl, by rw [hU], by rw [hU]; exact hPc, va_K.moved hW.alike C.2.2.2.2.2.1, hDc.weaken (fun _ _ _ _ => trivial), va_AO.moved hW.alike C.2.2.2.2.2.2.2.1⟩⟩ rfl rfl hl.1 rfl hs8 hd ⟨Nat.le_of_ble_eq_true hc1, Nat.le_of_ble_eq_true hc2⟩ T hT X
  cases hv
  rw [h0] at hz hkk
  obtain ⟨hP2, hD2⟩ := va_join (H1 := T'.heap) hP hD [kp] isR hk2 hwr hnd hdis (fun qq g1 g2 => by rw [e1]; exact hkk qq g1 g2) hFc (by rw [e1]; exact hP1) hD1
  obtain ⟨t2, a1, b1⟩ := k w1 hq1 p l e s m args below meth c D A K C hf T'.heap (locs ++ L) ls hP2 hD2
    ⟨Nat.le_trans hS.1 (by rw [e1]; exact hz), fun qq g1 g2 => by rw [e1, hkk qq (Nat.lt_of_lt_of_le g1 hS.1) (fun z => g2 (hFc qq z))]; exact hS.2.1 qq g1 g2, fun qq hqq => by
      rcases List.mem_append.mp hqq with h | h
      · exact hS.2.2 qq h
      · exact hFc _ (hL qq h)⟩ hl T' rfl X'
  exact ⟨t2, stp t2 a1, b1⟩
theorem RN_ws {w2 : va_W} {c2 s2 : Nat} (he : ws = w2) (hc : cells = c2) (hs : slots = s2) (k : RN G M pc loc st w2 c2 s2 Q) : RN G M pc loc st ws cells slots Q := by
  subst he
  subst hc
  subst hs
  exact k
theorem RN_upd (kp : Nat) {a : Nat} {x y : va_E} (hk : ws[kp]? = some (a, x)) (hxy : ∀ (D : va_G) (H : Heap), va_at D vwCl (a, x) H → va_at D vwCl (a, y) H) {w2 : va_W} (he : ws.set kp (a, y) = w2) (k : RN G M pc loc st w2 cells slots Q) : RN G M pc loc st ws cells slots Q := by
  subst he
  intro p l e s m args below meth c D A K C hf H locs ls hP hD hS hl
  exact k p l e s m args below meth c D A K C hf H locs ls (hP.upd hk (hxy D H)) (hD.set hk) hS hl
theorem RN_stop (hQ : Q pc loc st ws cells slots) : RN G M pc loc st ws cells slots Q := by
  intro p l e s m args below meth c D A K C hf H locs ls hP hD hS hl
  exact hf pc loc st ws cells slots H locs ls hQ hP hD hS hl
end zRN
theorem at_q {cA : ClassId} {a n : Nat} {f g : Nat → Option Nat} (h : ∀ j : Nat, j < n → f j = g j) (D : va_G) (H : Heap) (hx : va_at D vwCl (a, .inl (cA, n, .inr (.inr (.inr (.inr f))))) H) : va_at D vwCl (a, .inl (cA, n, .inr (.inr (.inr (.inr g))))) H := by
  have hx : H[a]? = some (vp_cell cA (n, .inr (.inr (.inr (.inr f))))) := hx
  show H[a]? = some (vp_cell cA (n, .inr (.inr (.inr (.inr g)))))
  rw [hx, vp_cell_q, vp_cell_q, arrV_congr (fun j hj => by rw [h j hj])]
