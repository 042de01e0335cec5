/-! THE WALK OVER A NAMED STATE. A state is gw_H: cell number, place, value. A world gw_W: how many cells, and what each cell is. -/
abbrev gw_H : Type := Nat → Nat → Int32
abbrev gw_L : Type := List (Option Value)
abbrev gw_W : Type := Nat × (ClassId → (Nat → Nat) → (Nat → Int32) → Nat → va_E)
abbrev gw_X : Type := Program × Env × State × MethodId × Array Value × List Frame × Method × Code × va_G × ClassId
def gw_ws (V : gw_W) (cI : ClassId) (ad : Nat → Nat) (h : gw_H) : va_W := (List.range V.1).map (fun c => (ad c, V.2 cI ad (h c) c))
def gw_st (h : gw_H) (c : Nat) (f : Nat → Int32) : gw_H := fun k => if k = c then f else h k
def gw_up (h : gw_H) (c i : Nat) (x : Int32) : gw_H := gw_st h c (upd (h c) i x)
abbrev gw_R (f lo : Nat) : Room := { frames := f, cells := 0, slots := 0, locals := lo }
def gw_A (N : Nat) (ad : Nat → Nat) (sz : Nat) : Nat → Prop := fun q => (∃ c, c < N ∧ q = ad c) ∨ sz ≤ q
theorem gw_get {V : gw_W} {cI : ClassId} {ad : Nat → Nat} {h : gw_H} {c : Nat} (hc : c < V.1) : (gw_ws V cI ad h)[c]? = some (ad c, V.2 cI ad (h c) c) := by
  simp [gw_ws, List.getElem?_range hc]
theorem gw_set {V : gw_W} {cI : ClassId} {ad : Nat → Nat} {h : gw_H} {c : Nat} (f : Nat → Int32) (hc : c < V.1) : (gw_ws V cI ad h).set c (ad c, V.2 cI ad f c) = gw_ws V cI ad (gw_st h c f) := by
  refine List.ext_getElem? fun i => ?_
  by_cases hi : i < V.1
  · rw [gw_get hi, List.getElem?_set]
    by_cases hci : c = i
    · subst hci
      simp [gw_ws, hi, gw_st]
    · rw [if_neg hci, gw_get hi]
      simp [gw_st, Ne.symm hci]
  · simp [gw_ws, hi]
    
theorem gw_len {V : gw_W} {cI : ClassId} {ad : Nat → Nat} {h : gw_H} : (gw_ws V cI ad h).length = V.1 := by simp [gw_ws]
theorem gw_mem {V : gw_W} {cI : ClassId} {ad : Nat → Nat} {h : gw_H} {k : Nat} {q : Nat × va_E} (hk : (gw_ws V cI ad h)[k]? = some q) : k < V.1 ∧ q = (ad k, V.2 cI ad (h k) k) := by
  have hl : k < V.1 := by
    have := (List.getElem?_eq_some_iff.mp hk).1
    rwa [gw_len] at this
  rw [gw_get hl] at hk
  exact ⟨hl, (Option.some.inj hk).symm⟩
theorem gw_D {V : gw_W} {cI : ClassId} {ad : Nat → Nat} {h : gw_H} (h' : gw_H) {A : Nat → Prop} (hD : va_D A (gw_ws V cI ad h)) : va_D A (gw_ws V cI ad h') := by
  refine ⟨fun i j p q hi hj hpq => ?_, fun k q hk => ?_⟩
  · obtain ⟨l1, rfl⟩ := gw_mem hi
    obtain ⟨l2, rfl⟩ := gw_mem hj
    exact hD.1 i j _ _ (gw_get l1) (gw_get l2) hpq
  · obtain ⟨l1, rfl⟩ := gw_mem hk
    exact hD.2 k (ad k, V.2 cI ad (h k) k) (gw_get l1)
theorem gw_Aeq {V : gw_W} {cI : ClassId} {ad : Nat → Nat} {h : gw_H} {sz : Nat} : va_A (gw_ws V cI ad h) sz = gw_A V.1 ad sz := by
  funext q
  apply propext
  constructor
  · rintro (⟨k, e, hk⟩ | hq)
    · obtain ⟨l1, h2⟩ := gw_mem hk
      exact Or.inl ⟨k, l1, congrArg Prod.fst h2⟩
    · exact Or.inr hq
  · rintro (⟨c, hc, rfl⟩ | hq)
    · exact Or.inl ⟨c, _, gw_get hc⟩
    · exact Or.inr hq
/-! locals by their places -/
def gw_lv (ls : gw_L) : List (Nat × Value) := ls.zipIdx.filterMap (fun q => q.1.map (fun v => (q.2, v)))
theorem gw_lvm {ls : gw_L} {j : Nat} {v : Value} : (j, v) ∈ gw_lv ls ↔ ls[j]? = some (some v) := by
  simp only [gw_lv, List.mem_filterMap, Prod.exists, Option.map_eq_some_iff, List.mk_mem_zipIdx_iff_getElem?]
  constructor
  · rintro ⟨a, b, h1, x, rfl, h2⟩
    cases h2
    exact h1
  · intro h
    exact ⟨_, _, h, v, rfl, rfl⟩
def gw_lok (lsA : Array Slot) (nL : Nat) (ls : gw_L) : Prop := lsA.size = nL ∧ lv_wf lsA ∧ ∀ (i : Nat) (v : Value), ls[i]? = some (some v) → lsA[i]? = some (.val v) ∧ v.category = 1
theorem gw_lok.has {lsA : Array Slot} {nL : Nat} {ls : gw_L} (h : gw_lok lsA nL ls) : lv_has lsA nL (gw_lv ls) := ⟨h.1, h.2.1, fun q hq => (h.2.2 q.1 q.2 (gw_lvm.mp hq)).1⟩
theorem gw_lok.put {lsA lsB : Array Slot} {nL i : Nat} {ls : gw_L} {v : Value} (h : gw_lok lsA nL ls) (hv : v.category = 1) (hb : lv_has lsB nL ((i, v) :: (gw_lv ls).filter (fun q => !(q.1 == i) && !(q.1 + 1 == i && q.2.category == 2)))) : gw_lok lsB nL (ls.set i (some v)) := by
  refine ⟨hb.1, hb.2.1, fun j w hj => ?_⟩
  by_cases hji : i = j
  · subst hji
    have hl : i < ls.length := by
      have := (List.getElem?_eq_some_iff.mp hj).1
      simpa using this
    rw [List.getElem?_set_self hl] at hj
    cases hj
    exact ⟨hb.2.2 (i, v) List.mem_cons_self, hv⟩
  · rw [List.getElem?_set_ne hji] at hj
    have hc := (h.2.2 j w hj).2
    refine ⟨hb.2.2 (j, w) (List.mem_cons_of_mem _ (List.mem_filter.mpr ⟨gw_lvm.mpr hj, ?_⟩)), hc⟩
    simp [hc, Ne.symm hji]
theorem gw_args : ∀ (vs : List Value) (k j : Nat) (v : Value), (∀ w ∈ vs, w.category = 1) → vs[j]? = some v → (k + j, v) ∈ lv_args k vs
  | [], _, _, _, _, h => by simp at h
  | w :: vs, k, 0, v, hc, h => by
    simp at h
    subst h
    simp [lv_args]
  | w :: vs, k, j + 1, v, hc, h => by
    have h1 := hc w List.mem_cons_self
    rw [lv_args, if_neg (by omega)]
    have := gw_args vs (k + 1) j v (fun x hx => hc x (List.mem_cons_of_mem _ hx)) (by simpa using h)
    exact List.mem_cons_of_mem _ (by rwa [show k + (j + 1) = k + 1 + j by omega])
theorem gw_entl (vs : List Value) {n : Nat} (hc : ∀ w ∈ vs, w.category = 1) (h : (lg_sl vs).length ≤ n) (ls : gw_L) (hls : vs.map some ++ List.replicate (n - vs.length) none = ls) : gw_lok ((lg_sl vs ++ List.replicate (n - (lg_sl vs).length) Slot.unset).toArray) n ls := by
  subst hls
  have H := lv_entry vs h
  refine ⟨H.1, H.2.1, fun i v hi => ?_⟩
  by_cases hl : i < vs.length
  · rw [List.getElem?_append_left (by simpa using hl), List.getElem?_map] at hi
    have hi2 : vs[i]? = some v := by
      cases hq : vs[i]? with
      | none => rw [hq] at hi; simp at hi
      | some w => rw [hq] at hi; simp at hi; rw [hi]
    have hm := gw_args vs 0 i v hc hi2
    rw [Nat.zero_add] at hm
    exact ⟨H.2.2 (i, v) hm, hc v (List.mem_of_getElem? hi2)⟩
  · rw [List.getElem?_append_right (by simpa using hl)] at hi
    have := List.mem_of_getElem? hi
    have := List.eq_of_mem_replicate this
    cases this
def gw_sub : gw_L → gw_L → Prop
  | [], _ => True
  | none :: a, _ :: b => gw_sub a b
  | none :: a, [] => gw_sub a []
  | some v :: a, some w :: b => v = w ∧ gw_sub a b
  | some _ :: _, _ => False
theorem gw_sub.z {b : gw_L} : gw_sub [] b := by unfold gw_sub; trivial
theorem gw_sub.n {a b : gw_L} {x : Option Value} (h : gw_sub a b) : gw_sub (none :: a) (x :: b) := by unfold gw_sub; exact h
theorem gw_sub.s {a b : gw_L} {v : Value} (h : gw_sub a b) : gw_sub (some v :: a) (some v :: b) := by unfold gw_sub; exact ⟨rfl, h⟩
theorem gw_sub.at : ∀ {a b : gw_L} (_ : gw_sub a b) {i : Nat} {v : Value}, a[i]? = some (some v) → b[i]? = some (some v)
  | [], _, _, i, v, h => by simp at h
  | none :: a, w :: b, hs, i, v, h => by
    cases i with
    | zero => simp at h
    | succ i => simpa using gw_sub.at (a := a) (b := b) hs (by simpa using h)
  | none :: a, [], hs, i, v, h => by
    cases i with
    | zero => simp at h
    | succ i =>
      have := gw_sub.at (a := a) (b := []) hs (i := i) (v := v) (by simpa using h)
      simp at this
  | some x :: a, some w :: b, hs, i, v, h => by
    cases i with
    | zero => simp at h; subst h; simp [hs.1]
    | succ i => simpa using gw_sub.at (a := a) (b := b) hs.2 (by simpa using h)
  | some x :: a, none :: b, hs, i, v, h => hs.elim
  | some x :: a, [], hs, i, v, h => hs.elim
/-! words that every contract asks: the law's own words; nest mates; strings -/
def gw_U (y : MethodName) (cc : ByteArray) (n : Nat) (ret : Option FieldType) : List Cond := .code y cc n ret :: gw_W0
theorem gw_goodU : GoodIn gw_W0 gw_W0 := fun w hw => ⟨hw, good_of_word (List.mem_filter.mp hw).2⟩
theorem gw_isNest.warm {w : Cond} {s U : State} (hn : gw_isNest w = true) (hW : s.WarmedH U.vm) (h : va_Nw w s) : va_Nw w U := by
  unfold gw_isNest at hn
  split at hn
  · exact va_Nw.warmF hW h
  · exact va_Nw.warmM hW h
  · cases hn
theorem gw_isNest.same {w : Cond} {u U : State} (hn : gw_isNest w = true) (hv : u.vm = U.vm) (h : va_Nw w u) : va_Nw w U := by
  unfold gw_isNest at hn
  split at hn
  · exact va_Nw.same rfl hv h
  · exact va_Nw.same rfl hv h
  · cases hn
def gw_N (U : State) : Prop := ∀ w ∈ gw_nest, va_Nw w U
theorem gw_N.warm {s U : State} (hW : s.WarmedH U.vm) (h : gw_N s) : gw_N U := fun w hw => gw_isNest.warm (List.mem_filter.mp hw).2 hW (h w hw)
theorem gw_N.same {u U : State} (hv : u.vm = U.vm) (h : gw_N u) : gw_N U := fun w hw => gw_isNest.same (List.mem_filter.mp hw).2 hv (h w hw)
/-! the two String constants, and String's static: they lie outside every world; their addresses are ad's at 1000 and 1010 on -/
def gw_len2 : List Nat := [6, 6]
def gw_byt2 : List (List Int32) := [[115, 108, 113, 99, 106, 104], [104, 119, 100, 116, 98, 121]]
def gw_S (ad : Nat → Nat) (A : Nat → Prop) (U : State) (H : Heap) : Prop := vk_S 2 gw_len2 gw_byt2 (fun i => ad (1000 + i)) (fun i => ad (1010 + i)) A U H ∧ vk_R "SongThatStays$Text" 34 "slqcjh" (ad (1000 + 0)) U ∧ vk_R "SongThatStays$Text" 36 "hwdtby" (ad (1000 + 1)) U ∧ va_Z "java/lang/String" "COMPACT_STRINGS" "Z" (.int 1) A U H
theorem gw_S.warm {ad : Nat → Nat} {A : Nat → Prop} {s U : State} {H : Heap} (hW : s.WarmedH U.vm) (h : gw_S ad A s H) : gw_S ad A U H :=
  ⟨h.1.moved hW.alike, vk_R.warm hW h.2.1, vk_R.warm hW h.2.2.1, h.2.2.2.moved hW.alike⟩
theorem gw_S.same {ad : Nat → Nat} {A : Nat → Prop} {u U : State} {H : Heap} (hv : u.vm = U.vm) (h : gw_S ad A u H) : gw_S ad A U H :=
  ⟨h.1.moved (hv ▸ Vm.Alike.refl u.vm), vk_R.same hv.symm h.2.1, vk_R.same hv.symm h.2.2.1, h.2.2.2.moved (hv ▸ Vm.Alike.refl u.vm)⟩
theorem gw_S.kept {ad : Nat → Nat} {A : Nat → Prop} {U : State} {H H1 : Heap} (h : gw_S ad A U H) (hq : ∀ a : Nat, a < H.size → ¬ A a → H1[a]? = H[a]?) : gw_S ad A U H1 :=
  ⟨h.1.kept hq, h.2.1, h.2.2.1, h.2.2.2.kept hq⟩
theorem gw_S.narrow {ad : Nat → Nat} {A B : Nat → Prop} {U : State} {H : Heap} (h : gw_S ad A U H) (hAB : ∀ q, B q → A q) : gw_S ad B U H :=
  ⟨h.1.narrow hAB, h.2.1, h.2.2.1, h.2.2.2.narrow hAB⟩
def gw_E (ad : Nat → Nat) (A : Nat → Prop) (U : State) (H : Heap) : Prop := gw_N U ∧ gw_S ad A U H
theorem gw_E.warm {ad : Nat → Nat} {A : Nat → Prop} {s U : State} {H : Heap} (hW : s.WarmedH U.vm) (h : gw_E ad A s H) : gw_E ad A U H := ⟨h.1.warm hW, h.2.warm hW⟩
theorem gw_E.same {ad : Nat → Nat} {A : Nat → Prop} {u U : State} {H : Heap} (hv : u.vm = U.vm) (h : gw_E ad A u H) : gw_E ad A U H := ⟨h.1.same hv, h.2.same hv⟩
theorem gw_E.kept {ad : Nat → Nat} {A : Nat → Prop} {U : State} {H H1 : Heap} (h : gw_E ad A U H) (hq : ∀ a : Nat, a < H.size → ¬ A a → H1[a]? = H[a]?) : gw_E ad A U H1 := ⟨h.1, h.2.kept hq⟩
theorem gw_E.narrow {ad : Nat → Nat} {A B : Nat → Prop} {U : State} {H : Heap} (h : gw_E ad A U H) (hAB : ∀ q, B q → A q) : gw_E ad B U H := ⟨h.1, h.2.narrow hAB⟩
/-! a contract over a world: its start and its end -/
def gw_Pre (V : gw_W) (ad : Nat → Nat) (D : va_G) (cI : ClassId) (h : gw_H) (sz : Nat) (U : State) : Prop :=
  U.heap.size = sz ∧ va_P D vwCl (gw_ws V cI ad h) U.heap ∧ va_K D vwCl [(cI, .int)] U ∧ va_D (fun _ => True) (gw_ws V cI ad h) ∧ gw_E ad (gw_A V.1 ad sz) U U.heap
def gw_B (V : gw_W) (ad : Nat → Nat) (D : va_G) (cI : ClassId) : gw_H → State → Prop := fun u t => va_P D vwCl (gw_ws V cI ad u) t.heap
def gw_Q (V : gw_W) (ad : Nat → Nat) (D : va_G) (cI : ClassId) (sz : Nat) (ret : Option FieldType) (Qp : Int32 → gw_H → Prop) : Array Value → State → Outcome → State → Prop :=
  match ret with
  | none => va_Qv (fun u => Qp 0 u) (gw_B V ad D cI) (gw_A V.1 ad sz)
  | some _ => va_Qi Qp (gw_B V ad D cI) (gw_A V.1 ad sz)
/-- the contract of a method that makes nothing: from the state h with the arguments av it returns, answer and new state are of Qp -/
def gw_C (l : Launch) (y : MethodName) (cc : ByteArray) (n : Nat) (ret : Option FieldType) (f lo : Nat) (V : gw_W) (ad : Nat → Nat) (av : List Value) (h : gw_H) (Qp : Int32 → gw_H → Prop) : Prop :=
  ∀ (D : va_G) (cI : ClassId) (sz : Nat), Met l y (gw_U y cc n ret) (gw_R f lo) (va_Pc av (gw_Pre V ad D cI h sz)) (gw_Q V ad D cI sz ret Qp) 0 0 (gw_A V.1 ad sz)
theorem gw_blind {V : gw_W} {ad : Nat → Nat} {D : va_G} {cI : ClassId} {h : gw_H} {sz : Nat} {av : List Value} : FrameBlind (va_Pc av (gw_Pre V ad D cI h sz)) :=
  fun a U g mk q => ⟨q.1, q.2.1, q.2.2.1, va_K.moved (u := U) (U := U.calling g mk a) (Vm.Alike.refl U.vm) q.2.2.2.1, q.2.2.2.2.1, gw_E.same (u := U) (U := U.calling g mk a) rfl q.2.2.2.2.2⟩
/-- what holds in the walk of one method -/
def gw_OK (l : Launch) (V : gw_W) (ad : Nat → Nat) (cc : ByteArray) (own : String) (nL : Nat) (ret : Option FieldType) : gw_X → Prop
  | (p, e, s, m, args, below, meth, c, D, cI) => p.tables.exec = Jvm.exec ∧ c.code = cc ∧ c.maxLocals = nL ∧ s.vm.findClass own = some m.cls ∧ (∀ w ∈ gw_W0, w.before args s = true) ∧ meth.sig.returnType = ret ∧ meth.locks = false ∧ va_K D vwCl [(cI, .int)] s ∧ gw_E ad (gw_A V.1 ad s.heap.size) s s.heap ∧ GoodIn gw_W0 gw_W0
def gw_G (l : Launch) (V : gw_W) (ad : Nat → Nat) (cc : ByteArray) (own : String) (nL : Nat) (ret : Option FieldType) (f lo : Nat) (Qp : Int32 → gw_H → Prop) (X : gw_X) (h : gw_H) (pc : Nat) (ls : gw_L) (st : List Value) : Prop :=
  match X with
  | (p, e, s, m, args, below, meth, c, D, cI) => gw_OK l V ad cc own nL ret (p, e, s, m, args, below, meth, c, D, cI) → ∀ (H : Heap) (locs : List Loc) (lsA : Array Slot), va_P D vwCl (gw_ws V cI ad h) H → va_D (gw_A V.1 ad s.heap.size) (gw_ws V cI ad h) → va_S (gw_A V.1 ad s.heap.size) s.heap H locs → gw_lok lsA nL ls →
      W p l e (gw_R f lo) s m args below meth c H locs 0 0 (MQ below (gw_Q V ad D cI s.heap.size ret Qp) args s 0 0 (gw_A V.1 ad s.heap.size)) (F0 m pc lsA st)
theorem gw_entry {l : Launch} {V : gw_W} {ad : Nat → Nat} {y : MethodName} {cc : ByteArray} {own : String} {n : Nat} {ret : Option FieldType} {f lo : Nat} {av : List Value} {h : gw_H} {Qp : Int32 → gw_H → Prop} (ls : gw_L) (hy : plainName y.cls = true) (ho : y.cls = own) (hcat0 : av.all (fun w => decide (w.category = 1)) = true) (hlen : (lg_sl av).length ≤ n) (hls : av.map some ++ List.replicate (n - av.length) none = ls)
    (k : ∀ X : gw_X, gw_G l V ad cc own n ret f lo Qp X h 0 ls []) : gw_C l y cc n ret f lo V ad av h Qp := by
  intro D cI sz
  subst ho
  have hcat : ∀ w ∈ av, w.category = 1 := fun w hw => of_decide_eq_true (List.all_eq_true.mp hcat0 w hw)
  refine Met.ofW (cc := cc) (maxL := n) (ret := ret) hy rfl ?_
  intro p e s m args below meth c s₁ B hml hv
  obtain ⟨rfl, hsz, hP, hK, hD0, hE⟩ := hv
  subst hsz
  have hts := atoms_spec (ws := gw_U y cc n ret) B.pre
  have hown : s.vm.findClass y.cls = some m.cls := findClass_of_methodNamed B.named
  have hD : va_D (gw_A V.1 ad s.heap.size) (gw_ws V cI ad h) := by
    have := hD0.self (sz := s.heap.size)
    rwa [gw_Aeq] at this
  have hl := gw_entl av hcat hlen ls hls
  rw [lg_entry_eq]
  exact k (p, e, s, m, av.toArray, below, meth, c, D, cI) ⟨B.exec, B.bytes, hml, hown, fun w hw => hts w (List.mem_cons_of_mem _ hw), B.returns, B.notSynchronized, hK, hE, gw_goodU⟩ s.heap [] _ hP hD va_S.rf hl
section GWR
variable {l : Launch} {V : gw_W} {ad : Nat → Nat} {cc : ByteArray} {own : String} {nL : Nat} {ret : Option FieldType} {f lo : Nat} {Qp : Int32 → gw_H → Prop} {X : gw_X} {h : gw_H} {pc : Nat} {ls : gw_L} {st : List Value}
/-- a row of the kit that keeps the heap -/
theorem gw_keep {pc' : Nat} {st' : List Value} (hr : ∀ (p : Program) (e : Env) (s : State) (m : MethodId) (args : Array Value) (below : List Frame) (meth : Method) (c : Code) (D : va_G) (cI : ClassId), gw_OK l V ad cc own nL ret (p, e, s, m, args, below, meth, c, D, cI) → ∀ (H : Heap) (locs : List Loc) (lsA : Array Slot) (Q : State → Prop), va_P D vwCl (gw_ws V cI ad h) H → gw_lok lsA nL ls → W p l e (gw_R f lo) s m args below meth c H locs 0 0 Q (F0 m pc' lsA st') → W p l e (gw_R f lo) s m args below meth c H locs 0 0 Q (F0 m pc lsA st))
    (k : gw_G l V ad cc own nL ret f lo Qp X h pc' ls st') : gw_G l V ad cc own nL ret f lo Qp X h pc ls st := by
  obtain ⟨p, e, s, m, args, below, meth, c, D, cI⟩ := X
  intro ok H locs lsA hP hD hS hl
  exact hr p e s m args below meth c D cI ok H locs lsA _ hP hl (k ok H locs lsA hP hD hS hl)
theorem gw_iconst {n : Int} {v : Int32} (hdg : decode cc pc = .ok (.iconst n, 1)) (hv : Int32.ofInt n = v) (k : gw_G l V ad cc own nL ret f lo Qp X h (pc + 1) ls (.int v :: st)) : gw_G l V ad cc own nL ret f lo Qp X h pc ls st :=
  gw_keep (fun _ _ _ _ _ _ _ _ _ _ ok _ _ _ _ _ _ w => lv_iconst ok.1 ok.2.1 hdg hv w) k
theorem gw_bipush {n : Int} {v : Int32} (hdg : decode cc pc = .ok (.bipush n, 2)) (hv : (Int8.ofInt n).toInt32 = v) (k : gw_G l V ad cc own nL ret f lo Qp X h (pc + 2) ls (.int v :: st)) : gw_G l V ad cc own nL ret f lo Qp X h pc ls st :=
  gw_keep (fun _ _ _ _ _ _ _ _ _ _ ok _ _ _ _ _ _ w => lv_bipush ok.1 ok.2.1 hdg hv w) k
theorem gw_sipush {n : Int} {v : Int32} (hdg : decode cc pc = .ok (.sipush n, 3)) (hv : (Int16.ofInt n).toInt32 = v) (k : gw_G l V ad cc own nL ret f lo Qp X h (pc + 3) ls (.int v :: st)) : gw_G l V ad cc own nL ret f lo Qp X h pc ls st :=
  gw_keep (fun _ _ _ _ _ _ _ _ _ _ ok _ _ _ _ _ _ w => lv_sipush ok.1 ok.2.1 hdg hv w) k
theorem gw_ldc {i : Nat} {v : Int32} (hdg : decode cc pc = .ok (.ldc i, 2)) (hw : Cond.constant own i v ∈ gw_W0) (k : gw_G l V ad cc own nL ret f lo Qp X h (pc + 2) ls (.int v :: st)) : gw_G l V ad cc own nL ret f lo Qp X h pc ls st :=
  gw_keep (fun _ _ _ _ _ _ _ _ _ _ ok _ _ _ _ _ _ w => lv_ldc ok.1 ok.2.1 ok.2.2.2.1 (ok.2.2.2.2.1 _ hw) hdg w) k
theorem gw_iload_n {k : Fin 4} {i : Nat} {x : Int32} (hdg : decode cc pc = .ok (.iload_n k, 1)) (hi : (k : Nat) = i) (hx : ls[i]? = some (some (.int x))) (kk : gw_G l V ad cc own nL ret f lo Qp X h (pc + 1) ls (.int x :: st)) : gw_G l V ad cc own nL ret f lo Qp X h pc ls st :=
  gw_keep (fun _ _ _ _ _ _ _ _ _ _ ok _ _ _ _ _ hl w => lv_iload_n ok.1 ok.2.1 hdg hi (hl.2.2 _ _ hx).1 w) kk
theorem gw_iload {i : Nat} {x : Int32} (hdg : decode cc pc = .ok (.iload i, 2)) (hx : ls[i]? = some (some (.int x))) (kk : gw_G l V ad cc own nL ret f lo Qp X h (pc + 2) ls (.int x :: st)) : gw_G l V ad cc own nL ret f lo Qp X h pc ls st :=
  gw_keep (fun _ _ _ _ _ _ _ _ _ _ ok _ _ _ _ _ hl w => lv_iload ok.1 ok.2.1 hdg (hl.2.2 _ _ hx).1 w) kk
theorem gw_aload_n {k : Fin 4} {i : Nat} {x : Nat} (hdg : decode cc pc = .ok (.aload_n k, 1)) (hi : (k : Nat) = i) (hx : ls[i]? = some (some (.ref x))) (kk : gw_G l V ad cc own nL ret f lo Qp X h (pc + 1) ls (.ref x :: st)) : gw_G l V ad cc own nL ret f lo Qp X h pc ls st :=
  gw_keep (fun _ _ _ _ _ _ _ _ _ _ ok _ _ _ _ _ hl w => lv_aload_n ok.1 ok.2.1 hdg hi (hl.2.2 _ _ hx).1 w) kk
theorem gw_iadd {x y : Int32} (hdg : decode cc pc = .ok (.iadd, 1)) (kk : gw_G l V ad cc own nL ret f lo Qp X h (pc + 1) ls (.int (x + y) :: st)) : gw_G l V ad cc own nL ret f lo Qp X h pc ls (.int y :: .int x :: st) :=
  gw_keep (fun _ _ _ _ _ _ _ _ _ _ ok _ _ _ _ _ _ w => lv_iadd ok.1 ok.2.1 hdg w) kk
theorem gw_isub {x y : Int32} (hdg : decode cc pc = .ok (.isub, 1)) (kk : gw_G l V ad cc own nL ret f lo Qp X h (pc + 1) ls (.int (x - y) :: st)) : gw_G l V ad cc own nL ret f lo Qp X h pc ls (.int y :: .int x :: st) :=
  gw_keep (fun _ _ _ _ _ _ _ _ _ _ ok _ _ _ _ _ _ w => lv_isub ok.1 ok.2.1 hdg w) kk
theorem gw_imul {x y : Int32} (hdg : decode cc pc = .ok (.imul, 1)) (kk : gw_G l V ad cc own nL ret f lo Qp X h (pc + 1) ls (.int (x * y) :: st)) : gw_G l V ad cc own nL ret f lo Qp X h pc ls (.int y :: .int x :: st) :=
  gw_keep (fun _ _ _ _ _ _ _ _ _ _ ok _ _ _ _ _ _ w => lv_imul ok.1 ok.2.1 hdg w) kk
theorem gw_iand {x y : Int32} (hdg : decode cc pc = .ok (.iand, 1)) (kk : gw_G l V ad cc own nL ret f lo Qp X h (pc + 1) ls (.int (x &&& y) :: st)) : gw_G l V ad cc own nL ret f lo Qp X h pc ls (.int y :: .int x :: st) :=
  gw_keep (fun _ _ _ _ _ _ _ _ _ _ ok _ _ _ _ _ _ w => lv_iand ok.1 ok.2.1 hdg w) kk
theorem gw_ior {x y : Int32} (hdg : decode cc pc = .ok (.ior, 1)) (kk : gw_G l V ad cc own nL ret f lo Qp X h (pc + 1) ls (.int (x ||| y) :: st)) : gw_G l V ad cc own nL ret f lo Qp X h pc ls (.int y :: .int x :: st) :=
  gw_keep (fun _ _ _ _ _ _ _ _ _ _ ok _ _ _ _ _ _ w => lv_ior ok.1 ok.2.1 hdg w) kk
theorem gw_ixor {x y : Int32} (hdg : decode cc pc = .ok (.ixor, 1)) (kk : gw_G l V ad cc own nL ret f lo Qp X h (pc + 1) ls (.int (x ^^^ y) :: st)) : gw_G l V ad cc own nL ret f lo Qp X h pc ls (.int y :: .int x :: st) :=
  gw_keep (fun _ _ _ _ _ _ _ _ _ _ ok _ _ _ _ _ _ w => lv_ixor ok.1 ok.2.1 hdg w) kk
theorem gw_ishl {x y : Int32} (hdg : decode cc pc = .ok (.ishl, 1)) (kk : gw_G l V ad cc own nL ret f lo Qp X h (pc + 1) ls (.int (x <<< (y &&& 31)) :: st)) : gw_G l V ad cc own nL ret f lo Qp X h pc ls (.int y :: .int x :: st) :=
  gw_keep (fun _ _ _ _ _ _ _ _ _ _ ok _ _ _ _ _ _ w => lv_ishl ok.1 ok.2.1 hdg w) kk
theorem gw_ishr {x y : Int32} (hdg : decode cc pc = .ok (.ishr, 1)) (kk : gw_G l V ad cc own nL ret f lo Qp X h (pc + 1) ls (.int (x >>> (y &&& 31)) :: st)) : gw_G l V ad cc own nL ret f lo Qp X h pc ls (.int y :: .int x :: st) :=
  gw_keep (fun _ _ _ _ _ _ _ _ _ _ ok _ _ _ _ _ _ w => lv_ishr ok.1 ok.2.1 hdg w) kk
theorem gw_idiv {x y : Int32} (hdg : decode cc pc = .ok (.idiv, 1)) (hne : ¬ y = 0) (kk : gw_G l V ad cc own nL ret f lo Qp X h (pc + 1) ls (.int (x / y) :: st)) : gw_G l V ad cc own nL ret f lo Qp X h pc ls (.int y :: .int x :: st) :=
  gw_keep (fun _ _ _ _ _ _ _ _ _ _ ok _ _ _ _ _ _ w => lv_idiv ok.1 ok.2.1 hdg hne w) kk
theorem gw_irem {x y : Int32} (hdg : decode cc pc = .ok (.irem, 1)) (hne : ¬ y = 0) (kk : gw_G l V ad cc own nL ret f lo Qp X h (pc + 1) ls (.int (x - x / y * y) :: st)) : gw_G l V ad cc own nL ret f lo Qp X h pc ls (.int y :: .int x :: st) :=
  gw_keep (fun _ _ _ _ _ _ _ _ _ _ ok _ _ _ _ _ _ w => lv_irem ok.1 ok.2.1 hdg hne w) kk
theorem gw_ineg {x : Int32} (hdg : decode cc pc = .ok (.ineg, 1)) (kk : gw_G l V ad cc own nL ret f lo Qp X h (pc + 1) ls (.int (-x) :: st)) : gw_G l V ad cc own nL ret f lo Qp X h pc ls (.int x :: st) :=
  gw_keep (fun _ _ _ _ _ _ _ _ _ _ ok _ _ _ _ _ _ w => lv_ineg ok.1 ok.2.1 hdg w) kk
theorem gw_i2c {x v : Int32} (hdg : decode cc pc = .ok (.i2c, 1)) (hv : (x.toUInt32 % 65536).toInt32 = v) (kk : gw_G l V ad cc own nL ret f lo Qp X h (pc + 1) ls (.int v :: st)) : gw_G l V ad cc own nL ret f lo Qp X h pc ls (.int x :: st) :=
  gw_keep (fun _ _ _ _ _ _ _ _ _ _ ok _ _ _ _ _ _ w => lv_i2c ok.1 ok.2.1 hdg hv w) kk
theorem gw_dup {va : Value} (hdg : decode cc pc = .ok (.dup, 1)) (hva : va.category = 1) (kk : gw_G l V ad cc own nL ret f lo Qp X h (pc + 1) ls (va :: va :: st)) : gw_G l V ad cc own nL ret f lo Qp X h pc ls (va :: st) :=
  gw_keep (fun _ _ _ _ _ _ _ _ _ _ ok _ _ _ _ _ _ w => lv_dup ok.1 ok.2.1 hdg hva w) kk
theorem gw_pop {va : Value} (hdg : decode cc pc = .ok (.pop, 1)) (hva : va.category = 1) (kk : gw_G l V ad cc own nL ret f lo Qp X h (pc + 1) ls st) : gw_G l V ad cc own nL ret f lo Qp X h pc ls (va :: st) :=
  gw_keep (fun _ _ _ _ _ _ _ _ _ _ ok _ _ _ _ _ _ w => lv_pop ok.1 ok.2.1 hdg hva w) kk
theorem gw_dup2 {va vb : Value} (hdg : decode cc pc = .ok (.dup2, 1)) (hva : va.category = 1) (hvb : vb.category = 1) (kk : gw_G l V ad cc own nL ret f lo Qp X h (pc + 1) ls (va :: vb :: va :: vb :: st)) : gw_G l V ad cc own nL ret f lo Qp X h pc ls (va :: vb :: st) :=
  gw_keep (fun _ _ _ _ _ _ _ _ _ _ ok _ _ _ _ _ _ w => lv_dup2_11 ok.1 ok.2.1 hdg hva hvb w) kk
theorem gw_goto {off : Int} {tgt : Nat} (hdg : decode cc pc = .ok (.goto off, 3)) (ht : (pc : Int) + off = (tgt : Int)) (kk : gw_G l V ad cc own nL ret f lo Qp X h tgt ls st) : gw_G l V ad cc own nL ret f lo Qp X h pc ls st :=
  gw_keep (fun _ _ _ _ _ _ _ _ _ _ ok _ _ _ _ _ _ w => lv_goto ok.1 ok.2.1 hdg ht w) kk
end GWR
