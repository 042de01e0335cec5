/-! ## THE WALK OF A CONSTRUCTOR: a world that grows; its first cell is the new object -/
abbrev gi_R (f cells slots lo : Nat) : Room := { frames := f, cells := cells, slots := slots, locals := lo }
abbrev gi_A (q0 ci : Nat) (fs0 : List Value) (sz : Nat) : Nat → Prop := va_A [(q0, .inr (ci, fs0))] sz
def gi_Q (D : va_G) (cI : ClassId) (Wp : ClassId → (Nat → Nat) → va_W) (q0 : Nat) (A : Nat → Prop) : Array Value → State → Outcome → State → Prop := va_Qv (fun ad : Nat → Nat => ad 0 = q0) (fun ad t => va_P D vwCl (Wp cI ad) t.heap ∧ va_D A (Wp cI ad)) A
def gi_Pre (D : va_G) (cI : ClassId) (q0 ci : Nat) (fs0 : List Value) (sz : Nat) (U : State) : Prop := U.heap.size = sz ∧ va_P D vwCl [(q0, .inr (ci, fs0))] U.heap ∧ va_K D vwCl [(cI, .int)] U ∧ gw_N U
def gi_C (l : Launch) (y : MethodName) (cc : ByteArray) (f lo cells slots ci : Nat) (fs0 : List Value) (Wp : ClassId → (Nat → Nat) → va_W) : Prop :=
  ∀ (D : va_G) (cI : ClassId) (sz q0 : Nat), Met l y (gw_U y cc 1 none) (gi_R f cells slots lo) (va_Pc [.ref q0] (gi_Pre D cI q0 ci fs0 sz)) (gi_Q D cI Wp q0 (gi_A q0 ci fs0 sz)) cells slots (gi_A q0 ci fs0 sz)
def gi_OK (cc : ByteArray) (own : String) : gw_X → Prop
  | (p, e, s, m, args, below, meth, c, D, cI) => p.tables.exec = Jvm.exec ∧ c.code = cc ∧ c.maxLocals = 1 ∧ s.vm.findClass own = some m.cls ∧ (∀ w ∈ gw_W0, w.before args s = true) ∧ meth.sig.returnType = none ∧ meth.locks = false ∧ va_K D vwCl [(cI, .int)] s ∧ gw_N s ∧ meth.name = "<init>"
def gi_G (l : Launch) (cc : ByteArray) (own : String) (f lo cells slots q0 ci : Nat) (fs0 : List Value) (Wp : ClassId → (Nat → Nat) → va_W) (X : gw_X) (ws : ClassId → va_W) (kc ks pc : Nat) (st : List Value) : Prop :=
  match X with
  | (p, e, s, m, args, below, meth, c, D, cI) => gi_OK cc own (p, e, s, m, args, below, meth, c, D, cI) → ∀ (H : Heap) (locs : List Loc) (lsA : Array Slot), va_P D vwCl (ws cI) H → va_D (gi_A q0 ci fs0 s.heap.size) (ws cI) → va_S (gi_A q0 ci fs0 s.heap.size) s.heap H locs → gw_lok lsA 1 [some (.ref q0)] →
      W p l e (gi_R f cells slots lo) s m args below meth c H locs kc ks (MQ below (gi_Q D cI Wp q0 (gi_A q0 ci fs0 s.heap.size)) args s cells slots (gi_A q0 ci fs0 s.heap.size)) (F0 m pc lsA st)
theorem va_D1 {A : Nat → Prop} {x : Nat × va_E} (h : A x.1) : va_D A [x] := by
  refine ⟨fun i j p q hi hj _ => ?_, fun k q hk => ?_⟩
  · have h1 := (List.getElem?_eq_some_iff.mp hi).1
    have h2 := (List.getElem?_eq_some_iff.mp hj).1
    simp at h1 h2
    omega
  · have h1 := (List.getElem?_eq_some_iff.mp hk).1
    simp at h1
    subst h1
    simp at hk
    subst hk
    exact h
theorem gi_entry {l : Launch} {y : MethodName} {cc : ByteArray} {own : String} {f lo cells slots ci : Nat} {fs0 : List Value} {Wp : ClassId → (Nat → Nat) → va_W} (hy : plainName y.cls = true) (ho : y.cls = own) (hn : y.name = "<init>")
    (k : ∀ (X : gw_X) (q0 : Nat), gi_G l cc own f lo cells slots q0 ci fs0 Wp X (fun _ => [(q0, .inr (ci, fs0))]) 0 0 0 []) : gi_C l y cc f lo cells slots ci fs0 Wp := by
  intro D cI sz q0
  subst ho
  refine Met.ofW (cc := cc) (maxL := 1) (ret := none) hy rfl ?_
  intro p e s m args below meth c s₁ B hml hv
  obtain ⟨rfl, hsz, hP, hK, hN⟩ := hv
  subst hsz
  have hts := atoms_spec (ws := gw_U y cc 1 none) B.pre
  have hown : s.vm.findClass y.cls = some m.cls := findClass_of_methodNamed B.named
  have hin : meth.name = "<init>" := by rw [← hn]; exact (name_of_methodNamed B.named B.method).1
  have hD : va_D (gi_A q0 ci fs0 s.heap.size) [(q0, .inr (ci, fs0))] := va_D1 (Or.inl ⟨0, _, rfl⟩)
  have hl := gw_entl [.ref q0] (n := 1) (fun w hw => by simp at hw; subst hw; rfl) (Nat.le_of_ble_eq_true rfl) [some (.ref q0)] rfl
  rw [lg_entry_eq]
  exact k (p, e, s, m, [Value.ref q0].toArray, below, meth, c, D, cI) q0 ⟨B.exec, B.bytes, hml, hown, fun w hw => hts w (List.mem_cons_of_mem _ hw), B.returns, B.notSynchronized, hK, hN, hin⟩ s.heap [] _ hP hD va_S.rf hl
theorem gi_A.up {q0 ci sz : Nat} {fs0 : List Value} : ∀ q : Nat, sz ≤ q → gi_A q0 ci fs0 sz q := fun _ h => Or.inr h
/-- behind a constructor's call: the caller's cells, and what came -/
theorem gi_join {A0 : Nat → Prop} {D : va_G} {cl : List vw_C} {wr w1 : va_W} {x : Nat × va_E} {H H1 : Heap} (hP : va_P D cl (wr ++ [x]) H) (hD : va_D A0 (wr ++ [x])) (hk : ∀ q : Nat, q < H.size → ¬ va_A [x] H.size q → H1[q]? = H[q]?) (hF : ∀ q, va_A [x] H.size q → A0 q) (hP1 : va_P D cl w1 H1) (hD1 : va_D (va_A [x] H.size) w1) : va_P D cl (wr ++ w1) H1 ∧ va_D A0 (wr ++ w1) := by
  have gl : ∀ (k : Nat) (q : Nat × va_E), wr[k]? = some q → (wr ++ [x])[k]? = some q := fun k q hq => by rw [List.getElem?_append_left (List.getElem?_eq_some_iff.mp hq).1]; exact hq
  have gx : (wr ++ [x])[wr.length]? = some x := by simp
  have ap : ∀ (k : Nat) (q : Nat × va_E), wr[k]? = some q → q.1 < H.size ∧ ¬ va_A [x] H.size q.1 := by
    intro k q hq
    have hl := (hP k q (gl k q hq)).lt
    refine ⟨hl, fun h => ?_⟩
    rcases h with ⟨j, e, h⟩ | h
    · have hj := (List.getElem?_eq_some_iff.mp h).1
      simp at hj
      subst hj
      simp at h
      have := hD.1 k wr.length q x (gl k q hq) gx (by rw [h])
      have := (List.getElem?_eq_some_iff.mp hq).1
      omega
    · omega
  refine ⟨va_P.app (fun k q hq => (hP k q (gl k q hq)).kept (hk q.1 (ap k q hq).1 (ap k q hq).2)) hP1, va_D.app ⟨fun i j p q hi hj e => hD.1 i j p q (gl i p hi) (gl j q hj) e, fun k q hq => hD.2 k q (gl k q hq)⟩ (hD1.weaken (fun k q _ h => hF q.1 h)) (fun i j p q hi hj e => ?_)⟩
  exact (ap i p hi).2 (by rw [e]; exact hD1.2 j q hj)
section GIR
variable {l : Launch} {cc : ByteArray} {own : String} {f lo cells slots q0 ci : Nat} {fs0 : List Value} {Wp : ClassId → (Nat → Nat) → va_W} {X : gw_X} {ws : ClassId → va_W} {kc ks pc : Nat} {st : List Value}
theorem gi_aload (hdg : decode cc pc = .ok (.aload_n 0, 1)) (k : gi_G l cc own f lo cells slots q0 ci fs0 Wp X ws kc ks (pc + 1) (.ref q0 :: st)) : gi_G l cc own f lo cells slots q0 ci fs0 Wp X ws kc ks pc st := by
  obtain ⟨p, e, s, m, args, below, meth, c, D, cI⟩ := X
  intro ok H locs lsA hP hD hS hl
  exact lv_aload_n ok.1 ok.2.1 hdg rfl (hl.2.2 0 _ rfl).1 (k ok H locs lsA hP hD hS hl)
theorem gi_dup {x : Nat} (hdg : decode cc pc = .ok (.dup, 1)) (k : gi_G l cc own f lo cells slots q0 ci fs0 Wp X ws kc ks (pc + 1) (.ref x :: .ref x :: st)) : gi_G l cc own f lo cells slots q0 ci fs0 Wp X ws kc ks pc (.ref x :: st) := by
  obtain ⟨p, e, s, m, args, below, meth, c, D, cI⟩ := X
  intro ok H locs lsA hP hD hS hl
  exact lv_dup ok.1 ok.2.1 hdg rfl (k ok H locs lsA hP hD hS hl)
theorem gi_bipush {n : Int} {v : Int32} (hdg : decode cc pc = .ok (.bipush n, 2)) (hv : (Int8.ofInt n).toInt32 = v) (k : gi_G l cc own f lo cells slots q0 ci fs0 Wp X ws kc ks (pc + 2) (.int v :: st)) : gi_G l cc own f lo cells slots q0 ci fs0 Wp X ws kc ks pc st := by
  obtain ⟨p, e, s, m, args, below, meth, c, D, cI⟩ := X
  intro ok H locs lsA hP hD hS hl
  exact lv_bipush ok.1 ok.2.1 hdg hv (k ok H locs lsA hP hD hS hl)
theorem gi_iconst {n : Int} {v : Int32} (hdg : decode cc pc = .ok (.iconst n, 1)) (hv : Int32.ofInt n = v) (k : gi_G l cc own f lo cells slots q0 ci fs0 Wp X ws kc ks (pc + 1) (.int v :: st)) : gi_G l cc own f lo cells slots q0 ci fs0 Wp X ws kc ks pc st := by
  obtain ⟨p, e, s, m, args, below, meth, c, D, cI⟩ := X
  intro ok H locs lsA hP hD hS hl
  exact lv_iconst ok.1 ok.2.1 hdg hv (k ok H locs lsA hP hD hS hl)
theorem gi_obj {idx a : Nat} (hlk : Cond.methodLink own idx objectInit ∈ gw_W0) (hst : (st.map fun v => v.category).sum ≤ 4) (hR : 1 ≤ f ∧ 16 ≤ lo + 4) (hz : st = []) (hdg : decode cc pc = .ok (.invokespecial idx, 3)) (k : gi_G l cc own f lo cells slots q0 ci fs0 Wp X ws kc ks (pc + 3) st) : gi_G l cc own f lo cells slots q0 ci fs0 Wp X ws kc ks pc (.ref a :: st) := by
  obtain ⟨p, e, s, m, args, below, meth, c, D, cI⟩ := X
  intro ok H locs lsA hP hD hS hl
  subst hz
  refine W.objInit ok.1 ok.2.1 ok.2.2.2.1 (ok.2.2.2.2.1 _ hlk) (ok.2.2.2.2.1 _ wd_ainit) (ok.2.2.2.2.1 _ wd_acode) rfl (by rw [ok.2.2.1]; exact hl.1) rfl hdg hR.1 (by show 2 * 0 + 0 + 12 ≤ lo; omega) ?_
  exact k ok H locs lsA hP hD hS hl
theorem gi_new {index ci' N : Nat} {C : String} {T : u_T} {ty : Nat → FieldType} {fs : List Value} (hin : ∀ w ∈ u_ws C T N, w ∈ gw_W0) (hty : ∀ k, k < N → parseFieldDescriptor (T k).2.2.1 = some (ty k)) (hcl : Cond.classLink own index C ∈ gw_W0) (hinst : Cond.instantiable C N ∈ gw_W0) (hini : Cond.initialized C ∈ gw_W0) (hc : vwCl[ci']? = some (C, T, N)) (hfs : ∀ j, j < N → defaultValue (ty j) = vp_V fs j) (hcells : kc + 1 ≤ cells) (hslots : ks + N ≤ slots) (hdg : decode cc pc = .ok (.new index, 3))
    (k : ∀ q : Nat, gi_G l cc own f lo cells slots q0 ci fs0 Wp X (fun cI => ws cI ++ [(q, .inr (ci', fs))]) (kc + 1) (ks + N) (pc + 3) (.ref q :: st)) : gi_G l cc own f lo cells slots q0 ci fs0 Wp X ws kc ks pc st := by
  obtain ⟨p, e, s, m, args, below, meth, c, D, cI⟩ := X
  intro ok H locs lsA hP hD hS hl
  exact va_new ok.1 ok.2.1 ok.2.2.2.2.1 hin ty hty ok.2.2.2.1 (ok.2.2.2.2.1 _ hcl) (ok.2.2.2.2.1 _ hinst) (ok.2.2.2.2.1 _ hini) ok.2.2.2.2.2.2.2.1 hP hD hS gi_A.up hc hfs hcells hslots hdg (fun q H1 hP1 hD1 hS1 => k q ok H1 locs lsA hP1 hD1 hS1 hl)
theorem gi_newa {n : Int32} {N' : Nat} (hn : ¬ n < 0) (hN : n.toNatClampNeg = N') (hb : N' ≤ 1000) (hcells : kc + 1 ≤ cells) (hslots : ks + N' ≤ slots) (hdg : decode cc pc = .ok (.newarray .int, 2))
    (k : ∀ q : Nat, gi_G l cc own f lo cells slots q0 ci fs0 Wp X (fun cI => ws cI ++ [(q, .inl (cI, N', .inl (fun _ => 0)))]) (kc + 1) (ks + N') (pc + 2) (.ref q :: st)) : gi_G l cc own f lo cells slots q0 ci fs0 Wp X ws kc ks pc (.int n :: st) := by
  obtain ⟨p, e, s, m, args, below, meth, c, D, cI⟩ := X
  intro ok H locs lsA hP hD hS hl
  refine va_newa (atype := .int) (ty := .int) (a0 := (N', .inl (fun _ => 0))) ok.1 ok.2.1 (ok.2.2.2.2.1 _ wd_arrI) rfl ok.2.2.2.2.2.2.2.1 hP hD hS gi_A.up (fun cA => rfl) hn hN (by show N' * 4 ≤ 536870912; omega) hcells hslots hdg (fun q cA H1 hK1 hP1 hD1 hS1 => ?_)
  have h0 := (hK1.2 0 (cI, .int) rfl).2
  have h1 := (hK1.2 1 (cA, .int) rfl).2
  have e1 : cA = cI := Option.some.inj ((show s.vm.findClass _ = some cA from h1).symm.trans h0)
  subst e1
  exact k q ok H1 locs lsA hP1 hD1 hS1 hl
theorem gi_putF {k idx N : Nat} {C O nm ds : String} {T : u_T} {tyF : Nat → FieldType} {fs : List Value} {R : ClassId → va_W} {v : Value} {ty : FieldType} (hws : ∀ cI, ws cI = (q0, .inr (ci, fs)) :: R cI) (hc : vwCl[ci]? = some (C, T, N)) (hin : ∀ w ∈ u_ws C T N, w ∈ gw_W0) (hty : ∀ k, k < N → parseFieldDescriptor (T k).2.2.1 = some (tyF k)) (hnm : ∀ a, a < N → ∀ b, b < N → a ≠ b → (T a).2.1 ≠ (T b).2.1) (hk : k < N) (hT : T k = (O, nm, ds, true)) (hO : O = own) (hlink : Cond.fieldLink own idx O nm ds ∈ gw_W0) (hd : parseFieldDescriptor ds = some ty) (hn : narrow ty v = v) (hfit : fits ty v = true) (hl' : k < fs.length) (hdg : decode cc pc = .ok (.putfield idx, 3))
    (kk : gi_G l cc own f lo cells slots q0 ci fs0 Wp X (fun cI => (q0, .inr (ci, fs.set k v)) :: R cI) kc ks (pc + 3) st) : gi_G l cc own f lo cells slots q0 ci fs0 Wp X ws kc ks pc (v :: .ref q0 :: st) := by
  obtain ⟨p, e, s, m, args, below, meth, c, D, cI⟩ := X
  intro ok H locs lsA hP hD hS hl
  rw [hws cI] at hP hD
  refine va_putF (C := C) (T := T) (N := N) (ref := O) ok.1 ok.2.1 ok.2.2.2.2.1 hin tyF hty hnm ok.2.2.2.1 ok.2.2.2.2.2.2.2.1 hP hD hS 0 rfl hc k hk (by rw [hT]; exact ok.2.2.2.2.1 _ hlink) (by rw [hT]; exact fun _ h9 => h9) (by rw [hT]) ok.2.2.2.2.2.2.2.2.2 (by rw [hT]; exact hO) (by rw [hT]; exact hd) hn hfit hl' hdg (fun H1 locs1 hP1 hD1 hS1 => kk ok H1 locs1 lsA hP1 hD1 hS1 hl)
theorem gi_put {k idx N : Nat} {C O nm ds : String} {T : u_T} {tyF : Nat → FieldType} {fs : List Value} {R : ClassId → va_W} {v : Value} {ty : FieldType} (hws : ∀ cI, ws cI = (q0, .inr (ci, fs)) :: R cI) (hc : vwCl[ci]? = some (C, T, N)) (hin : ∀ w ∈ u_ws C T N, w ∈ gw_W0) (hty : ∀ k, k < N → parseFieldDescriptor (T k).2.2.1 = some (tyF k)) (hnm : ∀ a, a < N → ∀ b, b < N → a ≠ b → (T a).2.1 ≠ (T b).2.1) (hk : k < N) (hT : T k = (O, nm, ds, false)) (hlink : Cond.fieldLink own idx O nm ds ∈ gw_W0) (hd : parseFieldDescriptor ds = some ty) (hn : narrow ty v = v) (hfit : fits ty v = true) (hl' : k < fs.length) (hdg : decode cc pc = .ok (.putfield idx, 3))
    (kk : gi_G l cc own f lo cells slots q0 ci fs0 Wp X (fun cI => (q0, .inr (ci, fs.set k v)) :: R cI) kc ks (pc + 3) st) : gi_G l cc own f lo cells slots q0 ci fs0 Wp X ws kc ks pc (v :: .ref q0 :: st) := by
  obtain ⟨p, e, s, m, args, below, meth, c, D, cI⟩ := X
  intro ok H locs lsA hP hD hS hl
  rw [hws cI] at hP hD
  refine va_put (C := C) (T := T) (N := N) (ref := O) ok.1 ok.2.1 ok.2.2.2.2.1 hin tyF hty hnm ok.2.2.2.1 ok.2.2.2.2.2.2.2.1 hP hD hS 0 rfl hc k hk (by rw [hT]; exact ok.2.2.2.2.1 _ hlink) (by rw [hT]; exact fun _ h9 => h9) (by rw [hT]) (by rw [hT]; exact hd) hn hfit hl' hdg (fun H1 locs1 hP1 hD1 hS1 => kk ok H1 locs1 lsA hP1 hD1 hS1 hl)
theorem gi_getf {k idx N q : Nat} {C O nm ds : String} {fin : Bool} {T : u_T} {fs : List Value} {R : ClassId → va_W} (hws : ∀ cI, ws cI = (q0, .inr (ci, fs)) :: R cI) (hc : vwCl[ci]? = some (C, T, N)) (hin : ∀ w ∈ u_ws C T N, w ∈ gw_W0) (hk : k < N) (hT : T k = (O, nm, ds, fin)) (hlink : Cond.fieldLink own idx O nm ds ∈ gw_W0) (hv : fs[k]? = some (.ref q)) (hdg : decode cc pc = .ok (.getfield idx, 3))
    (kk : gi_G l cc own f lo cells slots q0 ci fs0 Wp X ws kc ks (pc + 3) (.ref q :: st)) : gi_G l cc own f lo cells slots q0 ci fs0 Wp X ws kc ks pc (.ref q0 :: st) := by
  obtain ⟨p, e, s, m, args, below, meth, c, D, cI⟩ := X
  intro ok H locs lsA hP hD hS hl
  refine va_get (C := C) (T := T) (N := N) (ref := O) ok.1 ok.2.1 ok.2.2.2.2.1 hin ok.2.2.2.1 ok.2.2.2.2.2.2.2.1 hP 0 (by rw [hws cI]; rfl) hc k hk (by rw [hT]; exact ok.2.2.2.2.1 _ hlink) (by rw [hT]; exact fun _ h9 => h9) hv hdg (kk ok H locs lsA hP hD hS hl)
theorem gi_iast {k n q : Nat} {i x : Int32} {g : Nat → Int32} (ha : ∀ cI, (ws cI)[k]? = some (q, .inl (cI, n, .inl g))) (hin : vp_in i n) (hdg : decode cc pc = .ok (.iastore, 1))
    (kk : gi_G l cc own f lo cells slots q0 ci fs0 Wp X (fun cI => (ws cI).set k (q, .inl (cI, n, .inl (upd g i.toNatClampNeg x)))) kc ks (pc + 1) st) : gi_G l cc own f lo cells slots q0 ci fs0 Wp X ws kc ks pc (.int x :: .int i :: .ref q :: st) := by
  obtain ⟨p, e, s, m, args, below, meth, c, D, cI⟩ := X
  intro ok H locs lsA hP hD hS hl
  refine va_iast ok.1 ok.2.1 ok.2.2.2.2.2.2.2.1 hP hD hS k 0 (ha cI) rfl hin hdg (fun H1 locs1 hP1 hD1 hS1 => kk ok H1 locs1 lsA hP1 hD1 hS1 hl)
theorem gi_N.same {u U : State} (hv : u.vm = U.vm) (h : gw_N u) : gw_N U := gw_N.same hv h
theorem gi_blind {D : va_G} {cI : ClassId} {q ci sz : Nat} {fs : List Value} : FrameBlind (va_Pc [.ref q] (gi_Pre D cI q ci fs sz)) :=
  fun a U g mk h => ⟨h.1, h.2.1, h.2.2.1, va_K.moved (u := U) (U := U.calling g mk a) (Vm.Alike.refl U.vm) h.2.2.2.1, gw_N.same (u := U) (U := U.calling g mk a) rfl h.2.2.2.2⟩
/-- a private constructor of a nest mate is called on the newest cell -/
theorem gi_call {idx q ci' yf ylo yc ys : Nat} {y : MethodName} {ycc : ByteArray} {host : String} {fs : List Value} {Wy : ClassId → (Nat → Nat) → va_W} {R : ClassId → va_W} (hws : ∀ cI, ws cI = R cI ++ [(q, .inr (ci', fs))]) (hC : gi_C l y ycc yf ylo yc ys ci' fs Wy) (hm : Cond.code y ycc 1 none ∈ gw_W0 ∧ Cond.instanceMethod y ∈ gw_W0 ∧ Cond.initialized y.cls ∈ gw_W0) (hd : y.name = "<init>" ∧ y.cls ≠ "java/lang/invoke/MethodHandle" ∧ y.cls ≠ "java/lang/invoke/VarHandle" ∧ (parseMethodDescriptor y.desc).map (fun d => d.parameters.length) = some 0) (hlk : Cond.methodLinkNest own idx y host ∈ gw_nest) (hR : yf + 1 ≤ f ∧ 8 + (1 + 11) + ylo ≤ lo) (hw8 : (st.map fun v => v.category).sum ≤ 8) (hcs : kc + yc ≤ cells ∧ ks + ys ≤ slots) (hdg : decode cc pc = .ok (.invokespecial idx, 3))
    (kk : ∀ ad : Nat → Nat, ad 0 = q → gi_G l cc own f lo cells slots q0 ci fs0 Wp X (fun cI => R cI ++ Wy cI ad) (kc + yc) (ks + ys) (pc + 3) st) : gi_G l cc own f lo cells slots q0 ci fs0 Wp X ws kc ks pc (.ref q :: st) := by
  obtain ⟨p, e, s, m, args, below, meth, c, D, cI⟩ := X
  intro ok H locs lsA hP hD hS hl
  rw [hws cI] at hP hD
  have hx : (R cI ++ [(q, .inr (ci', fs))])[(R cI).length]? = some (q, .inr (ci', fs)) := by simp
  have hP1 : va_P D vwCl [(q, .inr (ci', fs))] H := hP.sub [(R cI).length] (by simp)
  have hFc : ∀ z, gi_A q ci' fs H.size z → gi_A q0 ci fs0 s.heap.size z := va_free (wc := [(q, .inr (ci', fs))]) hD hS gi_A.up [(R cI).length] (by simp)
  have hGI : GoodIn gw_W0 (gw_U y ycc 1 none) := gw_giU hm.1
  refine va_callv (va_runIN (As := []) (rest := st) ⟨ok.1, ok.2.1, ok.2.2.1, ok.2.2.2.1, ok.2.2.2.2.1⟩ (hC D cI H.size q) ⟨va_cnB (host := host) 0 ok.2.2.2.2.1 hGI rfl rfl rfl (ok.2.2.2.2.2.2.2.2.1 _ hlk) (ok.2.2.2.2.1 _ hm.2.2) ⟨hd.2.1, hd.2.2.1, hd.2.2.2⟩ ⟨hR.1, hR.2⟩, hd.1, ok.2.2.2.2.1 _ hm.2.1⟩ ⟨gi_blind, fun U hU hW => ⟨rfl, by rw [hU], by rw [hU]; exact hP1, va_K.moved hW.alike ok.2.2.2.2.2.2.2.1, gw_N.warm hW ok.2.2.2.2.2.2.2.2.1⟩⟩ rfl rfl hl.1 rfl (gw_room hw8) hdg ⟨hcs.1, hcs.2⟩) hS (fun z _ h => hFc z h) hFc (fun ad t H1 locs1 ht hvm hw hB hz hk hS1 => ?_)
  obtain ⟨hPy, hDy⟩ := hB
  rw [ht] at hPy
  obtain ⟨hP2, hD2⟩ := gi_join hP hD hk hFc hPy hDy
  exact kk ad hw ok H1 locs1 lsA hP2 hD2 hS1 hl
theorem gi_ret {ad : Nat → Nat} (hws : ∀ cI, ws cI = Wp cI ad) (h0 : ad 0 = q0) (hkc : kc = cells) (hks : ks = slots) (hdg : decode cc pc = .ok (.return_, 1)) : gi_G l cc own f lo cells slots q0 ci fs0 Wp X ws kc ks pc [] := by
  obtain ⟨p, e, s, m, args, below, meth, c, D, cI⟩ := X
  intro ok H locs lsA hP hD hS hl
  subst hkc hks
  rw [hws cI] at hP hD
  exact W.vret ok.1 ok.2.1 ok.2.2.2.2.2.1 (fun t ht hW => ⟨⟨ad, rfl, h0, by rw [ht]; exact hP, hD⟩, hS.F ht⟩) hS.2.2 hdg ok.2.2.2.2.2.2.1
end GIR
