/-! MY BASE: a method's context, its world, contracts of one form, and rows over them -/
theorem wL_gin : GoodIn wsL_law wsL_law := fun w h => ⟨h, good_of_word (List.all_eq_true.mp wL_good w h)⟩
theorem wL_code {c : Cond} (h : c ∈ wsL_law) : GoodIn wsL_law (c :: wsL_law) := fun w hw => (List.mem_cons.mp hw).elim (fun e => by rw [e]; exact wL_gin c h) (fun h => wL_gin w h)
/-- what isn't a steady word: the call of a nest mate's private method, the class of arrays of Worlds -/
def Nst (U : State) : Prop := va_Nw (.methodLinkNest RX10 66 yX11_isWeek RX11) U ∧ va_AO "LuckLinks$World" U
theorem Nst.warm {s U : State} (hW : s.WarmedH U.vm) (h : Nst s) : Nst U := ⟨va_Nw.warmM hW h.1, va_AO.moved hW.alike h.2⟩
theorem Nst.same {u U : State} (h : u.vm = U.vm) (hZ : Nst u) : Nst U := ⟨va_Nw.same rfl h hZ.1, va_AO.moved (by rw [← h]; exact Vm.Alike.refl _) hZ.2⟩
/-- the machine at a method of mine: code, words, known classes -/
def Cx (p : Program) (s : State) (m : MethodId) (args : Array Value) (c : Code) (cc : ByteArray) (nL : Nat) (own : String) (D : va_G) (tys : List (ClassId × FieldType)) : Prop :=
  p.tables.exec = Jvm.exec ∧ c.code = cc ∧ c.maxLocals = nL ∧ s.vm.findClass own = some m.cls ∧ (∀ w ∈ wsL_law, w.before args s = true) ∧ va_K D classes tys s ∧ Nst s
/-- the world: its cells, apart, in A; outside A all is as it was -/
def Wd (D : va_G) (A : Nat → Prop) (s : State) (ws : va_W) (H : Heap) (locs : List Loc) : Prop :=
  va_P D classes ws H ∧ va_D A ws ∧ va_S A s.heap H locs ∧ ∀ q, s.heap.size ≤ q → A q
def Pre (D : va_G) (tys : List (ClassId × FieldType)) (wc : va_W) (sz : Nat) : State → Prop := fun U =>
  U.heap.size = sz ∧ va_P D classes wc U.heap ∧ va_K D classes tys U ∧ va_D (fun _ => True) wc ∧ Nst U
def Aft (D : va_G) (A : Nat → Prop) (w1 : va_W) : State → Prop := fun t => va_P D classes w1 t.heap ∧ va_D A w1
theorem Pre.blind {D : va_G} {tys : List (ClassId × FieldType)} {wc : va_W} {sz : Nat} {av : List Value} : FrameBlind (va_Pc av (Pre D tys wc sz)) :=
  fun _ U _ _ q => ⟨q.1, q.2.1, q.2.2.1, va_K.moved (u := U) (Vm.Alike.refl U.vm) q.2.2.2.1, q.2.2.2.2.1, Nst.same (u := U) rfl q.2.2.2.2.2⟩
theorem Pre.of {D : va_G} {tys : List (ClassId × FieldType)} {wc : va_W} {s U : State} {H : Heap} {A : Nat → Prop} (hP : va_P D classes wc H) (hD : va_D A wc) (hK : va_K D classes tys s ∧ Nst s) (hU : U.heap = H) (hW : s.WarmedH U.vm) : Pre D tys wc H.size U :=
  ⟨by rw [hU], by rw [hU]; exact hP, va_K.moved hW.alike hK.1, hD.weaken (fun _ _ _ _ => trivial), hK.2.warm hW⟩
/-- contracts: an int (or boolean ..), a long, nothing -/
def CI (l : Launch) (D : va_G) (tys : List (ClassId × FieldType)) (y : MethodName) (cc : ByteArray) (maxL : Nat) (ret : Option FieldType) (rm : Room) (av : List Value) (wc : va_W) {S : Type} (post : Int32 → S → Prop) (w1 : S → va_W) : Prop :=
  ∀ sz : Nat, Met l y (.code y cc maxL ret :: wsL_law) rm (va_Pc av (Pre D tys wc sz)) (va_Qi post (fun u t => Aft D (va_A wc sz) (w1 u) t) (va_A wc sz)) rm.cells rm.slots (va_A wc sz)
def CL (l : Launch) (D : va_G) (tys : List (ClassId × FieldType)) (y : MethodName) (cc : ByteArray) (maxL : Nat) (rm : Room) (av : List Value) (wc : va_W) {S : Type} (post : Int64 → S → Prop) (w1 : S → va_W) : Prop :=
  ∀ sz : Nat, Met l y (.code y cc maxL (some .long) :: wsL_law) rm (va_Pc av (Pre D tys wc sz)) (va_Ql post (fun u t => Aft D (va_A wc sz) (w1 u) t) (va_A wc sz)) rm.cells rm.slots (va_A wc sz)
def CV (l : Launch) (D : va_G) (tys : List (ClassId × FieldType)) (y : MethodName) (cc : ByteArray) (maxL : Nat) (rm : Room) (av : List Value) (wc : va_W) {S : Type} (post : S → Prop) (w1 : S → va_W) : Prop :=
  ∀ sz : Nat, Met l y (.code y cc maxL none :: wsL_law) rm (va_Pc av (Pre D tys wc sz)) (va_Qv post (fun u t => Aft D (va_A wc sz) (w1 u) t) (va_A wc sz)) rm.cells rm.slots (va_A wc sz)
theorem body_of {l : Launch} {D : va_G} {tys : List (ClassId × FieldType)} {y : MethodName} {cc : ByteArray} {maxL : Nat} {ret : Option FieldType} {rm : Room} {av : List Value} {wc : va_W} {own : String} {sz : Nat} {Qc : (Nat → Prop) → Array Value → State → Outcome → State → Prop} (hy : plainName y.cls = true) (hown : y.cls = own) (hlen : (lg_sl av).length ≤ maxL)
    (body : ∀ (p : Program) (e : Env) (s : State) (m : MethodId) (below : List Frame) (meth : Method) (c : Code) (A : Nat → Prop) (ls : Array Slot), Cx p s m av.toArray c cc maxL own D tys → meth.sig.returnType = ret → meth.locks = false → meth.name = y.name → Wd D A s wc s.heap [] → lv_has ls maxL (lv_args 0 av) →
      W p l e rm s m av.toArray below meth c s.heap [] 0 0 (MQ below (Qc A) av.toArray s rm.cells rm.slots A) (F0 m 0 ls [])) :
    Met l y (.code y cc maxL ret :: wsL_law) rm (va_Pc av (Pre D tys wc sz)) (Qc (va_A wc sz)) rm.cells rm.slots (va_A wc sz) := by
  refine Met.ofW (cc := cc) (maxL := maxL) (ret := ret) hy rfl ?_
  intro p e s m args below meth c s₁ B hml hv
  obtain ⟨rfl, hsz, hP, hK, hD0, hN⟩ := hv
  have hts := atoms_spec (ws := .code y cc maxL ret :: wsL_law) B.pre
  have ho : s.vm.findClass own = some m.cls := by rw [← hown]; exact findClass_of_methodNamed B.named
  subst hsz
  rw [lg_entry_eq]
  exact body p e s m below meth c _ _ ⟨B.exec, B.bytes, hml, ho, fun w h => hts w (List.mem_cons_of_mem _ h), hK, hN⟩ B.returns B.notSynchronized (name_of_methodNamed B.named B.method).1
    ⟨hP, hD0.self, va_S.rf, fun q h => Or.inr h⟩ (lv_entry av hlen)
theorem i_lt {x y : Int32} (h : x < y) : x.toInt < y.toInt := Int32.lt_iff_toInt_lt.mp h
theorem i_le {x y : Int32} (h : x ≤ y) : x.toInt ≤ y.toInt := Int32.le_iff_toInt_le.mp h
theorem i_nlt {x y : Int32} (h : ¬ x < y) : y.toInt ≤ x.toInt := by
  have h2 := mt Int32.lt_iff_toInt_lt.mpr h
  omega
theorem i_nle {x y : Int32} (h : ¬ x ≤ y) : y.toInt < x.toInt := by
  have h2 := mt Int32.le_iff_toInt_le.mpr h
  omega
theorem i_eq {x y : Int32} (h : x = y) : x.toInt = y.toInt := by rw [h]
theorem i_ne {x y : Int32} (h : ¬ x = y) : x.toInt ≠ y.toInt := fun h2 => h (Int32.toInt_inj.mp h2)
theorem i_nat {x : Int32} (h : 0 ≤ x.toInt) : x = nI x.toInt.toNat := by
  apply Int32.toInt_inj.mp
  have h2 := Int32.toInt_lt x
  rw [nI_toInt (by omega)]
  omega
theorem i_ex {x : Int32} (n : Nat) (h0 : 0 ≤ x.toInt) (h1 : x.toInt < n) : ∃ j : Nat, j < n ∧ x = nI j := ⟨x.toInt.toNat, by omega, i_nat h0⟩
theorem x_sub {D : va_G} {A : Nat → Prop} {s : State} {ws ws' : va_W} {H : Heap} {locs : List Loc} (X : Wd D A s ws H locs) (is : List Nat) (hnd : va_nd is = true) (hs : is.map (fun i => ws[i]?) = ws'.map some) : Wd D A s ws' H locs :=
  ⟨X.1.sub is (by
    have := congrArg (List.filterMap id) hs
    simpa [List.filterMap_map, Function.comp_def] using this), X.2.1.sub is hnd hs, X.2.2⟩
theorem arr_eq (cA : ClassId) (n : Nat) {f g : Nat → Int32} (h : ∀ j, j < n → f j = g j) : vp_cell cA (n, .inl f) = vp_cell cA (n, .inl g) := by
  rw [vp_cell_i, vp_cell_i]
  unfold arrV
  congr 1
  congr 1
  funext j
  show Value.int (f j.val) = Value.int (g j.val)
  rw [h j.val j.isLt]
theorem arr_eql (cA : ClassId) (n : Nat) {f g : Nat → Int64} (h : ∀ j, j < n → f j = g j) : vp_cell cA (n, .inr (.inl f)) = vp_cell cA (n, .inr (.inl g)) := by
  rw [vp_cell_l, vp_cell_l]
  unfold arrV
  congr 1
  congr 1
  funext j
  show Value.long (f j.val) = Value.long (g j.val)
  rw [h j.val j.isLt]
theorem x_cng {D : va_G} {A : Nat → Prop} {s : State} {ws : va_W} {H : Heap} {locs : List Loc} (X : Wd D A s ws H locs) (q0 : Nat) {a : Nat} {cA : ClassId} {x y : vp_A} (ha : ws[q0]? = some (a, .inl (cA, x))) (h : vp_cell cA x = vp_cell cA y) : Wd D A s (ws.set q0 (a, .inl (cA, y))) H locs :=
  ⟨X.1.set X.2.1 ha (by show H[a]? = some (vp_cell cA y); rw [← h]; exact X.1 q0 _ ha) (fun _ _ => rfl), X.2.1.set ha, X.2.2⟩
section ROWS
variable {p : Program} {l : Launch} {e : Env} {R : Room} {s : State} {m : MethodId} {args : Array Value} {below : List Frame} {meth : Method} {c : Code} {H : Heap} {locs : List Loc} {cells slots : Nat} {Q : State → Prop}
variable {cc : ByteArray} {pc nL : Nat} {ls : Array Slot} {rest : List Value} {D : va_G} {A : Nat → Prop} {a : Nat} {tys : List (ClassId × FieldType)} {ws : va_W} {own : String}
theorem x_eqi {x y : Int32} (h : x = y) (k : W p l e R s m args below meth c H locs cells slots Q (F0 m pc ls (.int y :: rest))) : W p l e R s m args below meth c H locs cells slots Q (F0 m pc ls (.int x :: rest)) := h ▸ k
theorem x_eql {x y : Int64} (h : x = y) (k : W p l e R s m args below meth c H locs cells slots Q (F0 m pc ls (.long y :: rest))) : W p l e R s m args below meth c H locs cells slots Q (F0 m pc ls (.long x :: rest)) := h ▸ k
theorem x_get (C : Cx p s m args c cc nL own D tys) (X : Wd D A s ws H locs) (q0 : Nat) {ci : Nat} {fs : List Value} (he : ws[q0]? = some (a, .inr (ci, fs))) {Cn : String} {T : u_T} {N : Nat} (hc : classes[ci]? = some (Cn, T, N)) (k : Nat) (hk : k < N) {index : Nat} {f d : String} (hw : Cond.fieldLink own index (T k).1 f d ∈ wsL_law) (hf : (T k).2.1 = f) (hd : (T k).2.2.1 = d) {v : Value} (hv : fs[k]? = some v) (hdg : decode cc pc = .ok (.getfield index, 3))
    (kk : W p l e R s m args below meth c H locs cells slots Q (F0 m (pc + 3) ls (v :: rest))) : W p l e R s m args below meth c H locs cells slots Q (F0 m pc ls (.ref a :: rest)) := by
  subst hf; subst hd
  exact va_get C.1 C.2.1 C.2.2.2.2.1 (cls_in ci _ hc) C.2.2.2.1 C.2.2.2.2.2.1 X.1 q0 he hc k hk (C.2.2.2.2.1 _ hw) (fun _ h => h) hv hdg kk
theorem x_put (C : Cx p s m args c cc nL own D tys) (X : Wd D A s ws H locs) (q0 : Nat) {ci : Nat} {fs : List Value} (he : ws[q0]? = some (a, .inr (ci, fs))) {Cn : String} {T : u_T} {N : Nat} (hc : classes[ci]? = some (Cn, T, N)) (k : Nat) (hk : k < N) {index : Nat} {f d : String} (hw : Cond.fieldLink own index (T k).1 f d ∈ wsL_law) (hf : (T k).2.1 = f) (hd : (T k).2.2.1 = d) (hfin : (T k).2.2.2 = false) {ty : FieldType} {v : Value} (hty : parseFieldDescriptor (T k).2.2.1 = some ty) (hn : narrow ty v = v) (hfit : fits ty v = true) (hl : k < fs.length) (hdg : decode cc pc = .ok (.putfield index, 3))
    (kk : ∀ (H1 : Heap) (locs1 : List Loc), Wd D A s (ws.set q0 (a, .inr (ci, fs.set k v))) H1 locs1 → W p l e R s m args below meth c H1 locs1 cells slots Q (F0 m (pc + 3) ls rest)) : W p l e R s m args below meth c H locs cells slots Q (F0 m pc ls (v :: .ref a :: rest)) := by
  subst hf; subst hd
  obtain ⟨ty0, h0⟩ := cls_ty ci _ hc
  exact va_put C.1 C.2.1 C.2.2.2.2.1 (cls_in ci _ hc) ty0 h0 (cls_nm ci _ hc) C.2.2.2.1 C.2.2.2.2.2.1 X.1 X.2.1 X.2.2.1 q0 he hc k hk (C.2.2.2.2.1 _ hw) (fun _ h => h) hfin hty hn hfit hl hdg (fun H1 L1 a1 a2 a3 => kk H1 L1 ⟨a1, a2, a3, X.2.2.2⟩)
theorem x_putF (C : Cx p s m args c cc nL own D tys) (X : Wd D A s ws H locs) (q0 : Nat) {ci : Nat} {fs : List Value} (he : ws[q0]? = some (a, .inr (ci, fs))) {Cn : String} {T : u_T} {N : Nat} (hc : classes[ci]? = some (Cn, T, N)) (k : Nat) (hk : k < N) {index : Nat} {f d : String} (hw : Cond.fieldLink own index (T k).1 f d ∈ wsL_law) (hf : (T k).2.1 = f) (hd : (T k).2.2.1 = d) (hfin : (T k).2.2.2 = true) (hin2 : meth.name = "<init>") (hdecl : (T k).1 = own) {ty : FieldType} {v : Value} (hty : parseFieldDescriptor (T k).2.2.1 = some ty) (hn : narrow ty v = v) (hfit : fits ty v = true) (hl : k < fs.length) (hdg : decode cc pc = .ok (.putfield index, 3))
    (kk : ∀ (H1 : Heap) (locs1 : List Loc), Wd D A s (ws.set q0 (a, .inr (ci, fs.set k v))) H1 locs1 → W p l e R s m args below meth c H1 locs1 cells slots Q (F0 m (pc + 3) ls rest)) : W p l e R s m args below meth c H locs cells slots Q (F0 m pc ls (v :: .ref a :: rest)) := by
  subst hf; subst hd
  obtain ⟨ty0, h0⟩ := cls_ty ci _ hc
  exact va_putF C.1 C.2.1 C.2.2.2.2.1 (cls_in ci _ hc) ty0 h0 (cls_nm ci _ hc) C.2.2.2.1 C.2.2.2.2.2.1 X.1 X.2.1 X.2.2.1 q0 he hc k hk (C.2.2.2.2.1 _ hw) (fun _ h => h) hfin hin2 hdecl hty hn hfit hl hdg (fun H1 L1 a1 a2 a3 => kk H1 L1 ⟨a1, a2, a3, X.2.2.2⟩)
theorem x_new (C : Cx p s m args c cc nL own D tys) (X : Wd D A s ws H locs) {Cn : String} {T : u_T} {N ci index : Nat} (hc : classes[ci]? = some (Cn, T, N)) (ty : Nat → FieldType) (hty : ∀ k, k < N → parseFieldDescriptor (T k).2.2.1 = some (ty k)) (hw1 : Cond.classLink own index Cn ∈ wsL_law) (hw2 : Cond.instantiable Cn N ∈ wsL_law) (hw3 : Cond.initialized Cn ∈ wsL_law) {fs : List Value} (hfs : ∀ j, j < N → defaultValue (ty j) = vp_V fs j) (hcells : cells + 1 ≤ R.cells) (hslots : slots + N ≤ R.slots) (hdg : decode cc pc = .ok (.new index, 3))
    (kk : ∀ (q : Nat) (H1 : Heap), Wd D A s (ws ++ [(q, .inr (ci, fs))]) H1 locs → W p l e R s m args below meth c H1 locs (cells + 1) (slots + N) Q (F0 m (pc + 3) ls (.ref q :: rest))) : W p l e R s m args below meth c H locs cells slots Q (F0 m pc ls rest) :=
  va_new C.1 C.2.1 C.2.2.2.2.1 (cls_in ci _ hc) ty hty C.2.2.2.1 (C.2.2.2.2.1 _ hw1) (C.2.2.2.2.1 _ hw2) (C.2.2.2.2.1 _ hw3) C.2.2.2.2.2.1 X.1 X.2.1 X.2.2.1 X.2.2.2 hc hfs hcells hslots hdg (fun q H1 a1 a2 a3 => kk q H1 ⟨a1, a2, a3, X.2.2.2⟩)
theorem x_newa (C : Cx p s m args c cc nL own D tys) (X : Wd D A s ws H locs) {atype : ArrayType} {ty : FieldType} (hty : newarray.typeOf atype = ty) (hw : Cond.arrayClass ty ∈ wsL_law) (t0 : Nat) {cI : ClassId} (ht : tys[t0]? = some (cI, ty)) (hprim : refKind ty = false)
    {n : Int32} {N' : Nat} {a0 : vp_A} (ha : ∀ cA : ClassId, vp_cell cA a0 = arrV cA N' (fun _ => defaultValue ty)) (hn : ¬ n < 0) (hN : n.toNatClampNeg = N') (hbytes : N' * componentBytes ty ≤ 536870912) (hcells : cells + 1 ≤ R.cells) (hslots : slots + N' ≤ R.slots) (hdg : decode cc pc = .ok (.newarray atype, 2))
    (kk : ∀ (q : Nat) (H1 : Heap), Wd D A s (ws ++ [(q, .inl (cI, a0))]) H1 locs → W p l e R s m args below meth c H1 locs (cells + 1) (slots + N') Q (F0 m (pc + 2) ls (.ref q :: rest))) : W p l e R s m args below meth c H locs cells slots Q (F0 m pc ls (.int n :: rest)) := by
  refine va_newa (ty := ty) C.1 C.2.1 (by rw [hty]; exact C.2.2.2.2.1 _ hw) hty C.2.2.2.2.2.1 X.1 X.2.1 X.2.2.1 X.2.2.2 ha hn hN hbytes hcells hslots hdg (fun q cA H1 hK1 a1 a2 a3 => ?_)
  have e1 := (hK1.2 tys.length (cA, ty) (by simp)).2
  have e0 := (C.2.2.2.2.2.1.2 t0 _ ht).2
  have ec : cA = cI := by
    cases ty <;> first | exact Option.some.inj (Eq.trans (Eq.symm e1) e0) | exact absurd hprim (by simp [refKind])
  subst ec
  exact kk q H1 ⟨a1, a2, a3, X.2.2.2⟩
theorem x_iald (C : Cx p s m args c cc nL own D tys) (X : Wd D A s ws H locs) (q0 t0 : Nat) {cA : ClassId} {n : Nat} {f : Nat → Int32} (ha : ws[q0]? = some (a, .inl (cA, n, .inl f))) (ht : tys[t0]? = some (cA, .int)) {i : Int32} {j : Nat} (hi : i.toNatClampNeg = j) (hin : vp_in i n) {v : Int32} (hv : f j = v) (hdg : decode cc pc = .ok (.iaload, 1))
    (kk : W p l e R s m args below meth c H locs cells slots Q (F0 m (pc + 1) ls (.int v :: rest))) : W p l e R s m args below meth c H locs cells slots Q (F0 m pc ls (.int i :: .ref a :: rest)) := by
  subst hv; subst hi
  exact va_iald C.1 C.2.1 C.2.2.2.2.2.1 X.1 q0 t0 ha ht hin hdg kk
theorem x_bald (C : Cx p s m args c cc nL own D tys) (X : Wd D A s ws H locs) (q0 t0 : Nat) {cA : ClassId} {n : Nat} {f : Nat → Int32} (ha : ws[q0]? = some (a, .inl (cA, n, .inl f))) (ht : tys[t0]? = some (cA, .byte)) {i : Int32} {j : Nat} (hi : i.toNatClampNeg = j) (hin : vp_in i n) {v : Int32} (hv : f j = v) (hdg : decode cc pc = .ok (.baload, 1))
    (kk : W p l e R s m args below meth c H locs cells slots Q (F0 m (pc + 1) ls (.int v :: rest))) : W p l e R s m args below meth c H locs cells slots Q (F0 m pc ls (.int i :: .ref a :: rest)) := by
  subst hv; subst hi
  exact va_bald C.1 C.2.1 C.2.2.2.2.2.1 X.1 q0 t0 ha ht hin hdg kk
theorem x_zald (C : Cx p s m args c cc nL own D tys) (X : Wd D A s ws H locs) (q0 t0 : Nat) {cA : ClassId} {n : Nat} {f : Nat → Int32} (ha : ws[q0]? = some (a, .inl (cA, n, .inl f))) (ht : tys[t0]? = some (cA, .boolean)) {i : Int32} {j : Nat} (hi : i.toNatClampNeg = j) (hin : vp_in i n) {v : Int32} (hv : f j = v) (hdg : decode cc pc = .ok (.baload, 1))
    (kk : W p l e R s m args below meth c H locs cells slots Q (F0 m (pc + 1) ls (.int v :: rest))) : W p l e R s m args below meth c H locs cells slots Q (F0 m pc ls (.int i :: .ref a :: rest)) := by
  subst hv; subst hi
  exact va_zald C.1 C.2.1 C.2.2.2.2.2.1 X.1 q0 t0 ha ht hin hdg kk
theorem x_lald (C : Cx p s m args c cc nL own D tys) (X : Wd D A s ws H locs) (q0 t0 : Nat) {cA : ClassId} {n : Nat} {f : Nat → Int64} (ha : ws[q0]? = some (a, .inl (cA, n, .inr (.inl f)))) (ht : tys[t0]? = some (cA, .long)) {i : Int32} {j : Nat} (hi : i.toNatClampNeg = j) (hin : vp_in i n) {v : Int64} (hv : f j = v) (hdg : decode cc pc = .ok (.laload, 1))
    (kk : W p l e R s m args below meth c H locs cells slots Q (F0 m (pc + 1) ls (.long v :: rest))) : W p l e R s m args below meth c H locs cells slots Q (F0 m pc ls (.int i :: .ref a :: rest)) := by
  subst hv; subst hi
  exact va_lald C.1 C.2.1 C.2.2.2.2.2.1 X.1 q0 t0 ha ht hin hdg kk
theorem x_iast (C : Cx p s m args c cc nL own D tys) (X : Wd D A s ws H locs) (q0 t0 : Nat) {cA : ClassId} {n : Nat} {f : Nat → Int32} (ha : ws[q0]? = some (a, .inl (cA, n, .inl f))) (ht : tys[t0]? = some (cA, .int)) {i : Int32} {x : Int32} {j : Nat} (hi : i.toNatClampNeg = j) (hin : vp_in i n) (hdg : decode cc pc = .ok (.iastore, 1))
    (kk : ∀ (H1 : Heap) (locs1 : List Loc), Wd D A s (ws.set q0 (a, .inl (cA, n, .inl (upd f j x)))) H1 locs1 → W p l e R s m args below meth c H1 locs1 cells slots Q (F0 m (pc + 1) ls rest)) : W p l e R s m args below meth c H locs cells slots Q (F0 m pc ls (.int x :: .int i :: .ref a :: rest)) := by
  subst hi
  exact va_iast C.1 C.2.1 C.2.2.2.2.2.1 X.1 X.2.1 X.2.2.1 q0 t0 ha ht hin hdg (fun H1 L1 a1 a2 a3 => kk H1 L1 ⟨a1, a2, a3, X.2.2.2⟩)
theorem x_bast (C : Cx p s m args c cc nL own D tys) (X : Wd D A s ws H locs) (q0 t0 : Nat) {cA : ClassId} {n : Nat} {f : Nat → Int32} (ha : ws[q0]? = some (a, .inl (cA, n, .inl f))) (ht : tys[t0]? = some (cA, .byte)) {i : Int32} {x : Int32} {j : Nat} (hi : i.toNatClampNeg = j) (hin : vp_in i n) (hdg : decode cc pc = .ok (.bastore, 1))
    (kk : ∀ (H1 : Heap) (locs1 : List Loc), Wd D A s (ws.set q0 (a, .inl (cA, n, .inl (upd f j (vp_nar .byte x))))) H1 locs1 → W p l e R s m args below meth c H1 locs1 cells slots Q (F0 m (pc + 1) ls rest)) : W p l e R s m args below meth c H locs cells slots Q (F0 m pc ls (.int x :: .int i :: .ref a :: rest)) := by
  subst hi
  exact va_bast C.1 C.2.1 C.2.2.2.2.2.1 X.1 X.2.1 X.2.2.1 q0 t0 ha ht hin hdg (fun H1 L1 a1 a2 a3 => kk H1 L1 ⟨a1, a2, a3, X.2.2.2⟩)
theorem x_zast (C : Cx p s m args c cc nL own D tys) (X : Wd D A s ws H locs) (q0 t0 : Nat) {cA : ClassId} {n : Nat} {f : Nat → Int32} (ha : ws[q0]? = some (a, .inl (cA, n, .inl f))) (ht : tys[t0]? = some (cA, .boolean)) {i : Int32} {x : Int32} {j : Nat} (hi : i.toNatClampNeg = j) (hin : vp_in i n) (hdg : decode cc pc = .ok (.bastore, 1))
    (kk : ∀ (H1 : Heap) (locs1 : List Loc), Wd D A s (ws.set q0 (a, .inl (cA, n, .inl (upd f j (vp_nar .boolean x))))) H1 locs1 → W p l e R s m args below meth c H1 locs1 cells slots Q (F0 m (pc + 1) ls rest)) : W p l e R s m args below meth c H locs cells slots Q (F0 m pc ls (.int x :: .int i :: .ref a :: rest)) := by
  subst hi
  exact va_zast C.1 C.2.1 C.2.2.2.2.2.1 X.1 X.2.1 X.2.2.1 q0 t0 ha ht hin hdg (fun H1 L1 a1 a2 a3 => kk H1 L1 ⟨a1, a2, a3, X.2.2.2⟩)
theorem x_last (C : Cx p s m args c cc nL own D tys) (X : Wd D A s ws H locs) (q0 t0 : Nat) {cA : ClassId} {n : Nat} {f : Nat → Int64} (ha : ws[q0]? = some (a, .inl (cA, n, .inr (.inl f)))) (ht : tys[t0]? = some (cA, .long)) {i : Int32} {x : Int64} {j : Nat} (hi : i.toNatClampNeg = j) (hin : vp_in i n) (hdg : decode cc pc = .ok (.lastore, 1))
    (kk : ∀ (H1 : Heap) (locs1 : List Loc), Wd D A s (ws.set q0 (a, .inl (cA, n, .inr (.inl (vp_updL f j x))))) H1 locs1 → W p l e R s m args below meth c H1 locs1 cells slots Q (F0 m (pc + 1) ls rest)) : W p l e R s m args below meth c H locs cells slots Q (F0 m pc ls (.long x :: .int i :: .ref a :: rest)) := by
  subst hi
  exact va_last C.1 C.2.1 C.2.2.2.2.2.1 X.1 X.2.1 X.2.2.1 q0 t0 ha ht hin hdg (fun H1 L1 a1 a2 a3 => kk H1 L1 ⟨a1, a2, a3, X.2.2.2⟩)
theorem x_alen (C : Cx p s m args c cc nL own D tys) (X : Wd D A s ws H locs) (q0 t0 : Nat) {cA : ClassId} {x : vp_A} (ha : ws[q0]? = some (a, .inl (cA, x))) {ty : FieldType} (ht : tys[t0]? = some (cA, ty)) {v : Int32} (hv : Int32.ofNat x.1 = v) (hdg : decode cc pc = .ok (.arraylength, 1))
    (kk : W p l e R s m args below meth c H locs cells slots Q (F0 m (pc + 1) ls (.int v :: rest))) : W p l e R s m args below meth c H locs cells slots Q (F0 m pc ls (.ref a :: rest)) :=
  va_alen C.1 C.2.1 C.2.2.2.2.2.1 X.1 q0 t0 ha ht hv hdg kk
theorem x_objInit (C : Cx p s m args c cc nL own D tys) (hl : ls.size = nL) {idx : Nat} (hw1 : Cond.methodLink own idx objectInit ∈ wsL_law) (hw2 : Cond.instanceMethod objectInit ∈ wsL_law) (hw3 : Cond.code objectInit ⟨#[0xb1]⟩ 1 none ∈ wsL_law) (hdg : decode cc pc = .ok (.invokespecial idx, 3)) (hframes : 1 ≤ R.frames) (hlocals : (rest.map fun v => v.category).sum + 12 ≤ R.locals)
    (kk : W p l e R s m args below meth c H locs cells slots Q (F0 m (pc + 3) ls rest)) : W p l e R s m args below meth c H locs cells slots Q (F0 m pc ls (.ref a :: rest)) :=
  W.objInit C.1 C.2.1 C.2.2.2.1 (C.2.2.2.2.1 _ hw1) (C.2.2.2.2.1 _ hw2) (C.2.2.2.2.1 _ hw3) rfl (by rw [C.2.2.1]; exact hl) rfl hdg hframes (by show 2 * 0 + _ + 12 ≤ _; omega) kk
-- ends
theorem x_iret {S : Type} {post : Int32 → S → Prop} {w1 : S → va_W} {mc ms : Nat} (C : Cx p s m args c cc nL own D tys) (X : Wd D A s ws H locs) {ty : FieldType} (hr : meth.sig.returnType = some ty) (hlocks : meth.locks = false) {v : Int32} (hn : narrow ty (.int v) = .int v) (u : S) (is : List Nat) (hnd : va_nd is = true) (hs : is.map (fun i => ws[i]?) = (w1 u).map some) (hp : post v u) (hc : cells ≤ mc) (hsl : slots ≤ ms) (hdg : decode cc pc = .ok (.ireturn, 1)) :
    W p l e R s m args below meth c H locs cells slots (MQ below (va_Qi post (fun u t => Aft D A (w1 u) t) A) args s mc ms A) (F0 m pc ls [.int v]) := by
  refine W.widen (k := mc) (n := ms) hc hsl ?_
  have hP9 : va_P D classes (w1 u) H := X.1.sub is (by
    have := congrArg (List.filterMap id) hs
    simpa [List.filterMap_map, Function.comp_def] using this)
  exact W.zret C.1 C.2.1 hr hn (fun t ht hW => ⟨⟨v, u, rfl, hp, by rw [ht]; exact hP9, X.2.1.sub is hnd hs⟩, X.2.2.1.F ht⟩) X.2.2.1.2.2 hdg hlocks
theorem x_lret {S : Type} {post : Int64 → S → Prop} {w1 : S → va_W} {mc ms : Nat} (C : Cx p s m args c cc nL own D tys) (X : Wd D A s ws H locs) (hr : meth.sig.returnType = some .long) (hlocks : meth.locks = false) {v : Int64} (u : S) (is : List Nat) (hnd : va_nd is = true) (hs : is.map (fun i => ws[i]?) = (w1 u).map some) (hp : post v u) (hc : cells ≤ mc) (hsl : slots ≤ ms) (hdg : decode cc pc = .ok (.lreturn, 1)) :
    W p l e R s m args below meth c H locs cells slots (MQ below (va_Ql post (fun u t => Aft D A (w1 u) t) A) args s mc ms A) (F0 m pc ls [.long v]) := by
  refine W.widen (k := mc) (n := ms) hc hsl ?_
  have hP9 : va_P D classes (w1 u) H := X.1.sub is (by
    have := congrArg (List.filterMap id) hs
    simpa [List.filterMap_map, Function.comp_def] using this)
  exact W.lret C.1 C.2.1 hr (fun t ht hW => ⟨⟨v, u, rfl, hp, by rw [ht]; exact hP9, X.2.1.sub is hnd hs⟩, X.2.2.1.F ht⟩) X.2.2.1.2.2 hdg hlocks
theorem x_vret {S : Type} {post : S → Prop} {w1 : S → va_W} {mc ms : Nat} (C : Cx p s m args c cc nL own D tys) (X : Wd D A s ws H locs) (hr : meth.sig.returnType = none) (hlocks : meth.locks = false) (u : S) (is : List Nat) (hnd : va_nd is = true) (hs : is.map (fun i => ws[i]?) = (w1 u).map some) (hp : post u) (hc : cells ≤ mc) (hsl : slots ≤ ms) (hdg : decode cc pc = .ok (.return_, 1)) :
    W p l e R s m args below meth c H locs cells slots (MQ below (va_Qv post (fun u t => Aft D A (w1 u) t) A) args s mc ms A) (F0 m pc ls []) := by
  refine W.widen (k := mc) (n := ms) hc hsl ?_
  have hP9 : va_P D classes (w1 u) H := X.1.sub is (by
    have := congrArg (List.filterMap id) hs
    simpa [List.filterMap_map, Function.comp_def] using this)
  exact W.vret C.1 C.2.1 hr (fun t ht hW => ⟨⟨u, rfl, hp, by rw [ht]; exact hP9, X.2.1.sub is hnd hs⟩, X.2.2.1.F ht⟩) X.2.2.1.2.2 hdg hlocks
-- calls
variable {y : MethodName} {bytes : ByteArray} {maxL index n qb ci : Nat} {ret : Option FieldType} {rm : Room} {As st0 : List Value} {b : Addr} {Cn : String} {T : u_T} {N : Nat} {wc wr : va_W} {S : Type} {fs : List Value}
/-- what every call needs: the callee's cells and the rest, by their places -/
def Cut (ws wc wr : va_W) (isC isR : List Nat) : Prop := isC.map (fun i => ws[i]?) = wc.map some ∧ isR.map (fun i => ws[i]?) = wr.map some ∧ va_nd isC = true ∧ va_nd isR = true ∧ ∀ i ∈ isR, i ∉ isC
theorem sub_of {ws wc : va_W} {is : List Nat} (h : is.map (fun i => ws[i]?) = wc.map some) : is.filterMap (fun i => ws[i]?) = wc := by
  have := congrArg (List.filterMap id) h
  simpa [List.filterMap_map, Function.comp_def] using this
theorem cut_join {isC isR : List Nat} (X : Wd D A s ws H locs) (K : Cut ws wc wr isC isR) {H1 : Heap} {locs1 : List Loc} {w1 : va_W} {t : State} (ht : t.heap = H1) (hk : ∀ q : Nat, q < H.size → ¬ va_A wc H.size q → H1[q]? = H[q]?) (hB : Aft D (va_A wc H.size) w1 t) (hS : va_S A s.heap H1 locs1) : Wd D A s (wr ++ w1) H1 locs1 := by
  obtain ⟨hP1, hD1⟩ := hB
  rw [ht] at hP1
  have hF := va_free (wc := wc) X.2.1 X.2.2.1 X.2.2.2 isC K.1
  obtain ⟨a1, a2⟩ := va_join (wr := wr) (w1 := w1) X.1 X.2.1 isC isR K.1 K.2.1 K.2.2.2.1 K.2.2.2.2 hk hF hP1 hD1
  exact ⟨a1, a2, hS, X.2.2.2⟩
theorem x_cV {w1 : S → va_W} {post : Int32 → S → Prop} (C : Cx p s m args c cc nL own D tys) (X : Wd D A s ws H locs) (hl : ls.size = nL) (hM : CI l D tys y bytes maxL ret rm (.ref b :: As) wc post w1) (isC isR : List Nat) (K : Cut ws wc wr isC isR) (hb0 : wc[qb]? = some (b, .inr (ci, fs))) (hc : classes[ci]? = some (Cn, T, N))
    (hw1 : Cond.methodLink own index y ∈ wsL_law) (hw2 : Cond.instanceMethod y ∈ wsL_law) (hw3 : Cond.selects Cn y y ∈ wsL_law) (hw4 : Cond.initialized Cn ∈ wsL_law) (hw5 : Cond.code y bytes maxL ret ∈ wsL_law)
    (hd : y.cls = Cn ∧ y.cls ≠ "java/lang/invoke/MethodHandle" ∧ y.cls ≠ "java/lang/invoke/VarHandle" ∧ (parseMethodDescriptor y.desc).map (fun d => d.parameters.length) = some n) (hR : rm.frames + 1 ≤ R.frames ∧ 8 + (maxL + 11) + rm.locals ≤ R.locals)
    (hn : As.length = n) (hst : st0 = As.reverse ++ .ref b :: rest) (hroom : (rest.map fun v => v.category).sum ≤ 8) (hdg : decode cc pc = .ok (.invokevirtual index, 3)) (hf : cells + rm.cells ≤ R.cells ∧ slots + rm.slots ≤ R.slots)
    (kk : ∀ (r : Int32) (u : S) (H1 : Heap) (locs1 : List Loc), post r u → Wd D A s (wr ++ w1 u) H1 locs1 → W p l e R s m args below meth c H1 locs1 (cells + rm.cells) (slots + rm.slots) Q (F0 m (pc + 3) ls (.int r :: rest))) :
    W p l e R s m args below meth c H locs cells slots Q (F0 m pc ls st0) := by
  subst hst
  have hg : GoodIn wsL_law (wsV own index Cn y (.code y bytes maxL ret :: wsL_law)) := goodIn_app (fun w hw => wL_gin w (by simp only [List.mem_cons, List.not_mem_nil, or_false] at hw; rcases hw with h | h | h | h <;> rw [h] <;> assumption)) (wL_code hw5)
  have hPc := X.1.sub isC (sub_of K.1)
  have hDc := X.2.1.sub isC K.2.2.1 K.1
  have hF := va_free (wc := wc) X.2.1 X.2.2.1 X.2.2.2 isC K.1
  exact va_calli (va_runV ⟨C.1, C.2.1, C.2.2.1, C.2.2.2.1, C.2.2.2.2.1⟩ (hM H.size) (cwV n C.2.2.2.2.1 hg rfl rfl rfl hd hR) ⟨Pre.blind, va_recv C.2.2.2.2.2.1 hPc hc hb0, fun U hU hW => ⟨rfl, Pre.of hPc hDc C.2.2.2.2.2 hU hW⟩⟩ rfl hn hl rfl (lv_room hroom) hdg hf) X.2.2.1 (fun q _ h => hF q h) hF
    (fun r u t H1 locs1 ht hvm hw hB hz hk hS => kk r u H1 locs1 hw (cut_join X K ht hk hB hS))
theorem x_cVl {w1 : S → va_W} {post : Int64 → S → Prop} (C : Cx p s m args c cc nL own D tys) (X : Wd D A s ws H locs) (hl : ls.size = nL) (hM : CL l D tys y bytes maxL rm (.ref b :: As) wc post w1) (isC isR : List Nat) (K : Cut ws wc wr isC isR) (hb0 : wc[qb]? = some (b, .inr (ci, fs))) (hc : classes[ci]? = some (Cn, T, N))
    (hw1 : Cond.methodLink own index y ∈ wsL_law) (hw2 : Cond.instanceMethod y ∈ wsL_law) (hw3 : Cond.selects Cn y y ∈ wsL_law) (hw4 : Cond.initialized Cn ∈ wsL_law) (hw5 : Cond.code y bytes maxL (some .long) ∈ wsL_law)
    (hd : y.cls = Cn ∧ y.cls ≠ "java/lang/invoke/MethodHandle" ∧ y.cls ≠ "java/lang/invoke/VarHandle" ∧ (parseMethodDescriptor y.desc).map (fun d => d.parameters.length) = some n) (hR : rm.frames + 1 ≤ R.frames ∧ 8 + (maxL + 11) + rm.locals ≤ R.locals)
    (hn : As.length = n) (hst : st0 = As.reverse ++ .ref b :: rest) (hroom : (rest.map fun v => v.category).sum ≤ 8) (hdg : decode cc pc = .ok (.invokevirtual index, 3)) (hf : cells + rm.cells ≤ R.cells ∧ slots + rm.slots ≤ R.slots)
    (kk : ∀ (r : Int64) (u : S) (H1 : Heap) (locs1 : List Loc), post r u → Wd D A s (wr ++ w1 u) H1 locs1 → W p l e R s m args below meth c H1 locs1 (cells + rm.cells) (slots + rm.slots) Q (F0 m (pc + 3) ls (.long r :: rest))) :
    W p l e R s m args below meth c H locs cells slots Q (F0 m pc ls st0) := by
  subst hst
  have hg : GoodIn wsL_law (wsV own index Cn y (.code y bytes maxL (some .long) :: wsL_law)) := goodIn_app (fun w hw => wL_gin w (by simp only [List.mem_cons, List.not_mem_nil, or_false] at hw; rcases hw with h | h | h | h <;> rw [h] <;> assumption)) (wL_code hw5)
  have hPc := X.1.sub isC (sub_of K.1)
  have hDc := X.2.1.sub isC K.2.2.1 K.1
  have hF := va_free (wc := wc) X.2.1 X.2.2.1 X.2.2.2 isC K.1
  exact va_calll (va_runV ⟨C.1, C.2.1, C.2.2.1, C.2.2.2.1, C.2.2.2.2.1⟩ (hM H.size) (cwV n C.2.2.2.2.1 hg rfl rfl rfl hd hR) ⟨Pre.blind, va_recv C.2.2.2.2.2.1 hPc hc hb0, fun U hU hW => ⟨rfl, Pre.of hPc hDc C.2.2.2.2.2 hU hW⟩⟩ rfl hn hl rfl (lv_room hroom) hdg hf) X.2.2.1 (fun q _ h => hF q h) hF
    (fun r u t H1 locs1 ht hvm hw hB hz hk hS => kk r u H1 locs1 hw (cut_join X K ht hk hB hS))
theorem x_cVv {w1 : S → va_W} {post : S → Prop} (C : Cx p s m args c cc nL own D tys) (X : Wd D A s ws H locs) (hl : ls.size = nL) (hM : CV l D tys y bytes maxL rm (.ref b :: As) wc post w1) (isC isR : List Nat) (K : Cut ws wc wr isC isR) (hb0 : wc[qb]? = some (b, .inr (ci, fs))) (hc : classes[ci]? = some (Cn, T, N))
    (hw1 : Cond.methodLink own index y ∈ wsL_law) (hw2 : Cond.instanceMethod y ∈ wsL_law) (hw3 : Cond.selects Cn y y ∈ wsL_law) (hw4 : Cond.initialized Cn ∈ wsL_law) (hw5 : Cond.code y bytes maxL none ∈ wsL_law)
    (hd : y.cls = Cn ∧ y.cls ≠ "java/lang/invoke/MethodHandle" ∧ y.cls ≠ "java/lang/invoke/VarHandle" ∧ (parseMethodDescriptor y.desc).map (fun d => d.parameters.length) = some n) (hR : rm.frames + 1 ≤ R.frames ∧ 8 + (maxL + 11) + rm.locals ≤ R.locals)
    (hn : As.length = n) (hst : st0 = As.reverse ++ .ref b :: rest) (hroom : (rest.map fun v => v.category).sum ≤ 8) (hdg : decode cc pc = .ok (.invokevirtual index, 3)) (hf : cells + rm.cells ≤ R.cells ∧ slots + rm.slots ≤ R.slots)
    (kk : ∀ (u : S) (H1 : Heap) (locs1 : List Loc), post u → Wd D A s (wr ++ w1 u) H1 locs1 → W p l e R s m args below meth c H1 locs1 (cells + rm.cells) (slots + rm.slots) Q (F0 m (pc + 3) ls rest)) :
    W p l e R s m args below meth c H locs cells slots Q (F0 m pc ls st0) := by
  subst hst
  have hg : GoodIn wsL_law (wsV own index Cn y (.code y bytes maxL none :: wsL_law)) := goodIn_app (fun w hw => wL_gin w (by simp only [List.mem_cons, List.not_mem_nil, or_false] at hw; rcases hw with h | h | h | h <;> rw [h] <;> assumption)) (wL_code hw5)
  have hPc := X.1.sub isC (sub_of K.1)
  have hDc := X.2.1.sub isC K.2.2.1 K.1
  have hF := va_free (wc := wc) X.2.1 X.2.2.1 X.2.2.2 isC K.1
  exact va_callv (va_runV ⟨C.1, C.2.1, C.2.2.1, C.2.2.2.1, C.2.2.2.2.1⟩ (hM H.size) (cwV n C.2.2.2.2.1 hg rfl rfl rfl hd hR) ⟨Pre.blind, va_recv C.2.2.2.2.2.1 hPc hc hb0, fun U hU hW => ⟨rfl, Pre.of hPc hDc C.2.2.2.2.2 hU hW⟩⟩ rfl hn hl rfl (lv_room hroom) hdg hf) X.2.2.1 (fun q _ h => hF q h) hF
    (fun u t H1 locs1 ht hvm hw hB hz hk hS => kk u H1 locs1 hw (cut_join X K ht hk hB hS))
theorem x_cS {w1 : S → va_W} {post : Int32 → S → Prop} (C : Cx p s m args c cc nL own D tys) (X : Wd D A s ws H locs) (hl : ls.size = nL) (hM : CI l D tys y bytes maxL ret rm As wc post w1) (isC isR : List Nat) (K : Cut ws wc wr isC isR)
    (hw1 : Cond.methodLink own index y ∈ wsL_law) (hw2 : Cond.static y ∈ wsL_law) (hw4 : Cond.initialized y.cls ∈ wsL_law) (hw5 : Cond.code y bytes maxL ret ∈ wsL_law)
    (hd : y.cls ≠ "java/lang/invoke/MethodHandle" ∧ y.cls ≠ "java/lang/invoke/VarHandle" ∧ (parseMethodDescriptor y.desc).map (fun d => d.parameters.length) = some n) (hR : rm.frames + 1 ≤ R.frames ∧ 8 + (maxL + 11) + rm.locals ≤ R.locals)
    (hn : As.length = n) (hst : st0 = As.reverse ++ rest) (hroom : (rest.map fun v => v.category).sum ≤ 8) (hdg : decode cc pc = .ok (.invokestatic index, 3)) (hf : cells + rm.cells ≤ R.cells ∧ slots + rm.slots ≤ R.slots)
    (kk : ∀ (r : Int32) (u : S) (H1 : Heap) (locs1 : List Loc), post r u → Wd D A s (wr ++ w1 u) H1 locs1 → W p l e R s m args below meth c H1 locs1 (cells + rm.cells) (slots + rm.slots) Q (F0 m (pc + 3) ls (.int r :: rest))) :
    W p l e R s m args below meth c H locs cells slots Q (F0 m pc ls st0) := by
  subst hst
  have hg : GoodIn wsL_law (va_wsS own index y (.code y bytes maxL ret :: wsL_law)) := goodIn_app (fun w hw => wL_gin w (by simp only [List.mem_cons, List.not_mem_nil, or_false] at hw; rcases hw with h | h | h <;> rw [h] <;> assumption)) (wL_code hw5)
  have hPc := X.1.sub isC (sub_of K.1)
  have hDc := X.2.1.sub isC K.2.2.1 K.1
  have hF := va_free (wc := wc) X.2.1 X.2.2.1 X.2.2.2 isC K.1
  exact va_calli (va_runS ⟨C.1, C.2.1, C.2.2.1, C.2.2.2.1, C.2.2.2.2.1⟩ (hM H.size) (va_cwS n C.2.2.2.2.1 hg rfl rfl rfl hd hR) ⟨Pre.blind, fun U hU hW => ⟨rfl, Pre.of hPc hDc C.2.2.2.2.2 hU hW⟩⟩ rfl hn hl rfl (lv_room hroom) hdg hf) X.2.2.1 (fun q _ h => hF q h) hF
    (fun r u t H1 locs1 ht hvm hw hB hz hk hS => kk r u H1 locs1 hw (cut_join X K ht hk hB hS))
theorem x_cSl {w1 : S → va_W} {post : Int64 → S → Prop} (C : Cx p s m args c cc nL own D tys) (X : Wd D A s ws H locs) (hl : ls.size = nL) (hM : CL l D tys y bytes maxL rm As wc post w1) (isC isR : List Nat) (K : Cut ws wc wr isC isR)
    (hw1 : Cond.methodLink own index y ∈ wsL_law) (hw2 : Cond.static y ∈ wsL_law) (hw4 : Cond.initialized y.cls ∈ wsL_law) (hw5 : Cond.code y bytes maxL (some .long) ∈ wsL_law)
    (hd : y.cls ≠ "java/lang/invoke/MethodHandle" ∧ y.cls ≠ "java/lang/invoke/VarHandle" ∧ (parseMethodDescriptor y.desc).map (fun d => d.parameters.length) = some n) (hR : rm.frames + 1 ≤ R.frames ∧ 8 + (maxL + 11) + rm.locals ≤ R.locals)
    (hn : As.length = n) (hst : st0 = As.reverse ++ rest) (hroom : (rest.map fun v => v.category).sum ≤ 8) (hdg : decode cc pc = .ok (.invokestatic index, 3)) (hf : cells + rm.cells ≤ R.cells ∧ slots + rm.slots ≤ R.slots)
    (kk : ∀ (r : Int64) (u : S) (H1 : Heap) (locs1 : List Loc), post r u → Wd D A s (wr ++ w1 u) H1 locs1 → W p l e R s m args below meth c H1 locs1 (cells + rm.cells) (slots + rm.slots) Q (F0 m (pc + 3) ls (.long r :: rest))) :
    W p l e R s m args below meth c H locs cells slots Q (F0 m pc ls st0) := by
  subst hst
  have hg : GoodIn wsL_law (va_wsS own index y (.code y bytes maxL (some .long) :: wsL_law)) := goodIn_app (fun w hw => wL_gin w (by simp only [List.mem_cons, List.not_mem_nil, or_false] at hw; rcases hw with h | h | h <;> rw [h] <;> assumption)) (wL_code hw5)
  have hPc := X.1.sub isC (sub_of K.1)
  have hDc := X.2.1.sub isC K.2.2.1 K.1
  have hF := va_free (wc := wc) X.2.1 X.2.2.1 X.2.2.2 isC K.1
  exact va_calll (va_runS ⟨C.1, C.2.1, C.2.2.1, C.2.2.2.1, C.2.2.2.2.1⟩ (hM H.size) (va_cwS n C.2.2.2.2.1 hg rfl rfl rfl hd hR) ⟨Pre.blind, fun U hU hW => ⟨rfl, Pre.of hPc hDc C.2.2.2.2.2 hU hW⟩⟩ rfl hn hl rfl (lv_room hroom) hdg hf) X.2.2.1 (fun q _ h => hF q h) hF
    (fun r u t H1 locs1 ht hvm hw hB hz hk hS => kk r u H1 locs1 hw (cut_join X K ht hk hB hS))
theorem x_cSv {w1 : S → va_W} {post : S → Prop} (C : Cx p s m args c cc nL own D tys) (X : Wd D A s ws H locs) (hl : ls.size = nL) (hM : CV l D tys y bytes maxL rm As wc post w1) (isC isR : List Nat) (K : Cut ws wc wr isC isR)
    (hw1 : Cond.methodLink own index y ∈ wsL_law) (hw2 : Cond.static y ∈ wsL_law) (hw4 : Cond.initialized y.cls ∈ wsL_law) (hw5 : Cond.code y bytes maxL none ∈ wsL_law)
    (hd : y.cls ≠ "java/lang/invoke/MethodHandle" ∧ y.cls ≠ "java/lang/invoke/VarHandle" ∧ (parseMethodDescriptor y.desc).map (fun d => d.parameters.length) = some n) (hR : rm.frames + 1 ≤ R.frames ∧ 8 + (maxL + 11) + rm.locals ≤ R.locals)
    (hn : As.length = n) (hst : st0 = As.reverse ++ rest) (hroom : (rest.map fun v => v.category).sum ≤ 8) (hdg : decode cc pc = .ok (.invokestatic index, 3)) (hf : cells + rm.cells ≤ R.cells ∧ slots + rm.slots ≤ R.slots)
    (kk : ∀ (u : S) (H1 : Heap) (locs1 : List Loc), post u → Wd D A s (wr ++ w1 u) H1 locs1 → W p l e R s m args below meth c H1 locs1 (cells + rm.cells) (slots + rm.slots) Q (F0 m (pc + 3) ls rest)) :
    W p l e R s m args below meth c H locs cells slots Q (F0 m pc ls st0) := by
  subst hst
  have hg : GoodIn wsL_law (va_wsS own index y (.code y bytes maxL none :: wsL_law)) := goodIn_app (fun w hw => wL_gin w (by simp only [List.mem_cons, List.not_mem_nil, or_false] at hw; rcases hw with h | h | h <;> rw [h] <;> assumption)) (wL_code hw5)
  have hPc := X.1.sub isC (sub_of K.1)
  have hDc := X.2.1.sub isC K.2.2.1 K.1
  have hF := va_free (wc := wc) X.2.1 X.2.2.1 X.2.2.2 isC K.1
  exact va_callv (va_runS ⟨C.1, C.2.1, C.2.2.1, C.2.2.2.1, C.2.2.2.2.1⟩ (hM H.size) (va_cwS n C.2.2.2.2.1 hg rfl rfl rfl hd hR) ⟨Pre.blind, fun U hU hW => ⟨rfl, Pre.of hPc hDc C.2.2.2.2.2 hU hW⟩⟩ rfl hn hl rfl (lv_room hroom) hdg hf) X.2.2.1 (fun q _ h => hF q h) hF
    (fun u t H1 locs1 ht hvm hw hB hz hk hS => kk u H1 locs1 hw (cut_join X K ht hk hB hS))
theorem x_cI {w1 : S → va_W} {post : S → Prop} (C : Cx p s m args c cc nL own D tys) (X : Wd D A s ws H locs) (hl : ls.size = nL) (hM : CV l D tys y bytes maxL rm (.ref b :: As) wc post w1) (isC isR : List Nat) (K : Cut ws wc wr isC isR)
    (hw1 : Cond.methodLink own index y ∈ wsL_law) (hw2 : Cond.instanceMethod y ∈ wsL_law) (hw4 : Cond.initialized y.cls ∈ wsL_law) (hw5 : Cond.code y bytes maxL none ∈ wsL_law) (hy1 : y.name = "<init>")
    (hd : y.cls ≠ "java/lang/invoke/MethodHandle" ∧ y.cls ≠ "java/lang/invoke/VarHandle" ∧ (parseMethodDescriptor y.desc).map (fun d => d.parameters.length) = some n) (hR : rm.frames + 1 ≤ R.frames ∧ 8 + (maxL + 11) + rm.locals ≤ R.locals)
    (hn : As.length = n) (hst : st0 = As.reverse ++ .ref b :: rest) (hroom : (rest.map fun v => v.category).sum ≤ 8) (hdg : decode cc pc = .ok (.invokespecial index, 3)) (hf : cells + rm.cells ≤ R.cells ∧ slots + rm.slots ≤ R.slots)
    (kk : ∀ (u : S) (H1 : Heap) (locs1 : List Loc), post u → Wd D A s (wr ++ w1 u) H1 locs1 → W p l e R s m args below meth c H1 locs1 (cells + rm.cells) (slots + rm.slots) Q (F0 m (pc + 3) ls rest)) :
    W p l e R s m args below meth c H locs cells slots Q (F0 m pc ls st0) := by
  subst hst
  have hPc := X.1.sub isC (sub_of K.1)
  have hDc := X.2.1.sub isC K.2.2.1 K.1
  have hF := va_free (wc := wc) X.2.1 X.2.2.1 X.2.2.2 isC K.1
  exact va_callv (va_runI ⟨C.1, C.2.1, C.2.2.1, C.2.2.2.1, C.2.2.2.2.1⟩ (hM H.size) (cwI n C.2.2.2.2.1 (wL_code hw5) rfl rfl rfl (C.2.2.2.2.1 _ hw4) (C.2.2.2.2.1 _ hw1) (C.2.2.2.2.1 _ hw2) hy1 hd hR) ⟨Pre.blind, fun U hU hW => ⟨rfl, Pre.of hPc hDc C.2.2.2.2.2 hU hW⟩⟩ rfl hn hl rfl (lv_room hroom) hdg hf) X.2.2.1 (fun q _ h => hF q h) hF
    (fun u t H1 locs1 ht hvm hw hB hz hk hS => kk u H1 locs1 hw (cut_join X K ht hk hB hS))
theorem x_cN {w1 : S → va_W} {post : Int32 → S → Prop} (C : Cx p s m args c cc nL own D tys) (X : Wd D A s ws H locs) (hl : ls.size = nL) (hM : CI l D tys yX11_isWeek bytes maxL ret rm As wc post w1) (isC isR : List Nat) (K : Cut ws wc wr isC isR)
    (hw2 : Cond.static yX11_isWeek ∈ wsL_law) (hw4 : Cond.initialized RX11 ∈ wsL_law) (hw5 : Cond.code yX11_isWeek bytes maxL ret ∈ wsL_law) (ho : own = RX10)
    (hd : yX11_isWeek.cls ≠ "java/lang/invoke/MethodHandle" ∧ yX11_isWeek.cls ≠ "java/lang/invoke/VarHandle" ∧ (parseMethodDescriptor yX11_isWeek.desc).map (fun d => d.parameters.length) = some n) (hR : rm.frames + 1 ≤ R.frames ∧ 8 + (maxL + 11) + rm.locals ≤ R.locals)
    (hn : As.length = n) (hst : st0 = As.reverse ++ rest) (hroom : (rest.map fun v => v.category).sum ≤ 8) (hdg : decode cc pc = .ok (.invokestatic 66, 3)) (hf : cells + rm.cells ≤ R.cells ∧ slots + rm.slots ≤ R.slots)
    (kk : ∀ (r : Int32) (u : S) (H1 : Heap) (locs1 : List Loc), post r u → Wd D A s (wr ++ w1 u) H1 locs1 → W p l e R s m args below meth c H1 locs1 (cells + rm.cells) (slots + rm.slots) Q (F0 m (pc + 3) ls (.int r :: rest))) :
    W p l e R s m args below meth c H locs cells slots Q (F0 m pc ls st0) := by
  subst hst
  subst ho
  have hPc := X.1.sub isC (sub_of K.1)
  have hDc := X.2.1.sub isC K.2.2.1 K.1
  have hF := va_free (wc := wc) X.2.1 X.2.2.1 X.2.2.2 isC K.1
  exact va_calli (va_runSN ⟨C.1, C.2.1, C.2.2.1, C.2.2.2.1, C.2.2.2.2.1⟩ (hM H.size) ⟨va_cnB (host := RX11) n C.2.2.2.2.1 (wL_code hw5) rfl rfl rfl C.2.2.2.2.2.2.1 (C.2.2.2.2.1 _ hw4) hd hR, C.2.2.2.2.1 _ hw2, trivial⟩ ⟨Pre.blind, fun U hU hW => ⟨rfl, Pre.of hPc hDc C.2.2.2.2.2 hU hW⟩⟩ rfl hn hl rfl (lv_room hroom) hdg hf) X.2.2.1 (fun q _ h => hF q h) hF
    (fun r u t H1 locs1 ht hvm hw hB hz hk hS => kk r u H1 locs1 hw (cut_join X K ht hk hB hS))
theorem x_newq (C : Cx p s m args c cc nL own D tys) (X : Wd D A s ws H locs) {index : Nat} (hw : Cond.classLink own index RX10 ∈ wsL_law) (t0 : Nat) {cO : ClassId} (ht : tys[t0]? = some (cO, .object RX10)) {n : Int32} {N' : Nat} (hn : ¬ n < 0) (hN : n.toNatClampNeg = N') (hbytes : N' * 4 ≤ 536870912) (hcells : cells + 1 ≤ R.cells) (hslots : slots + N' ≤ R.slots) (hdg : decode cc pc = .ok (.anewarray index, 3))
    (kk : ∀ (q : Nat) (H1 : Heap), Wd D A s (ws ++ [(q, .inl (cO, N', .inr (.inr (.inr (.inr (fun _ => none))))))]) H1 locs → W p l e R s m args below meth c H1 locs (cells + 1) (slots + N') Q (F0 m (pc + 3) ls (.ref q :: rest))) : W p l e R s m args below meth c H locs cells slots Q (F0 m pc ls (.int n :: rest)) := by
  refine va_newq C.1 C.2.1 C.2.2.2.1 (C.2.2.2.2.1 _ hw) C.2.2.2.2.2.2.2 C.2.2.2.2.2.1 X.1 X.2.1 X.2.2.1 X.2.2.2 hn hN hbytes hcells hslots hdg (fun q cA H1 hK1 a1 a2 a3 => ?_)
  obtain ⟨_, _, -, -, -, e1⟩ := (hK1.2 tys.length (cA, .object RX10) (by simp)).2
  obtain ⟨_, _, -, -, -, e0⟩ := (C.2.2.2.2.2.1.2 t0 _ ht).2
  have ec : cA = cO := Option.some.inj (Eq.trans (Eq.symm e1) e0)
  subst ec
  exact kk q H1 ⟨a1, a2, a3, X.2.2.2⟩
theorem x_astq (C : Cx p s m args c cc nL own D tys) (X : Wd D A s ws H locs) (q0 t0 qk ci : Nat) {cA : ClassId} {r : vw_C} {n v : Nat} {vs : List Value} {f : Nat → Option Nat} (ha : ws[q0]? = some (a, .inl (cA, n, .inr (.inr (.inr (.inr f)))))) (ht : tys[t0]? = some (cA, .object r.1)) (hv : ws[qk]? = some (v, .inr (ci, vs))) (hc : classes[ci]? = some r) {i : Int32} {j : Nat} (hi : i.toNatClampNeg = j) (hin : vp_in i n) (hdg : decode cc pc = .ok (.aastore, 1))
    (kk : ∀ (H1 : Heap) (locs1 : List Loc), Wd D A s (ws.set q0 (a, .inl (cA, n, .inr (.inr (.inr (.inr (va_up f j (some v)))))))) H1 locs1 → W p l e R s m args below meth c H1 locs1 cells slots Q (F0 m (pc + 1) ls rest)) : W p l e R s m args below meth c H locs cells slots Q (F0 m pc ls (.ref v :: .int i :: .ref a :: rest)) := by
  subst hi
  exact va_astq C.1 C.2.1 C.2.2.2.2.2.1 X.1 X.2.1 X.2.2.1 q0 t0 qk ci ha ht hv hc hin hdg (fun H1 L1 a1 a2 a3 => kk H1 L1 ⟨a1, a2, a3, X.2.2.2⟩)
end ROWS
