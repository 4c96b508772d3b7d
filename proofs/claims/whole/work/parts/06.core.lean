/-- the state of a system whose cells are all made: its int fields by number, its rows by number and place -/
abbrev xS : Type := (Nat → Int32) × (Nat → Nat → Int32)
abbrev xT : Type := Program × Launch × Env × Room × State × MethodId × Array Value × List Frame × Method × Code
/-- D, the cells that may change, the world by the state, the rows' kinds, what else stays -/
abbrev xG : Type := va_G × (Nat → Prop) × (xS → va_W) × List (ClassId × FieldType) × (State → Prop)
def TB : List Cond := lw_tbl.filter goodWord
theorem TB_of {w : Cond} {i : Nat} (h : lw_tbl[i]? = some w) (g : goodWord w = true) : w ∈ TB := List.mem_filter.mpr ⟨List.mem_of_getElem? h, g⟩
theorem TB_good {w : Cond} (h : w ∈ TB) : (w.onTables && w.keeps) = true ∨ ∃ ty, w = .arrayClass ty := good_of_word (List.mem_filter.mp h).2
theorem TB_in {y : MethodName} {b : ByteArray} {n : Nat} {r : Option FieldType} (h : Cond.code y b n r ∈ TB) : GoodIn TB (Cond.code y b n r :: TB) := by
  intro w hw
  rcases List.mem_cons.mp hw with e | e
  · subst e; exact ⟨h, TB_good h⟩
  · exact ⟨e, TB_good e⟩
def xCl : List vw_C := [(RX0, TX0, 5), (RX1, TX1, 8), (RX2, TX2, 5), (RX3, TX3, 4), (RX4, TX4, 9), (RX5, TX5, 3), (RX6, TX6, 7), (RX7, TX7, 2), (RX8, TX8, 5), (RX9, TX9, 9), (RX10, TX10, 53)]
def xOk (G : xG) : Prop := (∀ σ : xS, va_D G.2.1 (G.2.2.1 σ)) ∧ (∀ s U : State, G.2.2.2.2 s → s.WarmedH U.vm → s.heap.size ≤ U.heap.size → (∀ q : Nat, q < s.heap.size → ¬ G.2.1 q → U.heap[q]? = s.heap[q]?) → G.2.2.2.2 U) ∧ (∀ s U : State, G.2.2.2.2 s → U.heap = s.heap → U.vm = s.vm → G.2.2.2.2 U)
def xc (C : xT) (G : xG) (own : String) (cc : ByteArray) (nL : Nat) (ret : Option FieldType) (rm : Room) : Prop :=
  C.1.tables.exec = Jvm.exec ∧ C.2.2.2.2.2.2.2.2.2.code = cc ∧ C.2.2.2.2.2.2.2.2.2.maxLocals = nL ∧ C.2.2.2.2.1.vm.findClass own = some C.2.2.2.2.2.1.cls ∧ (∀ w ∈ TB, w.before C.2.2.2.2.2.2.1 C.2.2.2.2.1 = true) ∧ va_K G.1 xCl G.2.2.2.1 C.2.2.2.2.1 ∧ G.2.2.2.2 C.2.2.2.2.1 ∧ C.2.2.2.2.2.2.2.2.1.locks = false ∧ C.2.2.2.2.2.2.2.2.1.sig.returnType = ret ∧ C.2.2.2.1 = rm ∧ xOk G
def xw (C : xT) (G : xG) (nL : Nat) (Q : State → Prop) (σ : xS) (pc : Nat) (lv : List (Nat × Value)) (st : List Value) : Prop :=
  ∀ (H : Heap) (locs : List Loc) (ls : Array Slot), va_P G.1 xCl (G.2.2.1 σ) H → va_S G.2.1 C.2.2.2.2.1.heap H locs → lv_has ls nL lv → W C.1 C.2.1 C.2.2.1 C.2.2.2.1 C.2.2.2.2.1 C.2.2.2.2.2.1 C.2.2.2.2.2.2.1 C.2.2.2.2.2.2.2.1 C.2.2.2.2.2.2.2.2.1 C.2.2.2.2.2.2.2.2.2 H locs 0 0 Q (F0 C.2.2.2.2.2.1 pc ls st)
def xP (G : xG) (av : List Value) (σ : xS) : Array Value → State → Prop := va_Pc av (fun U => va_P G.1 xCl (G.2.2.1 σ) U.heap ∧ va_K G.1 xCl G.2.2.2.1 U ∧ G.2.2.2.2 U)
def xQ (G : xG) (o : Option Value) (σ : xS) : Array Value → State → Outcome → State → Prop := fun _ st oc t => oc = .returned o ∧ va_P G.1 xCl (G.2.2.1 σ) t.heap ∧ va_F G.2.1 st t
def xMet (l : Launch) (G : xG) (y : MethodName) (bytes : ByteArray) (maxL : Nat) (ret : Option FieldType) (rm : Room) (av : List Value) (σ : xS) (o : Option Value) (σ' : xS) : Prop := Met l y (Cond.code y bytes maxL ret :: TB) rm (xP G av σ) (xQ G o σ') 0 0 G.2.1
def xq (C : xT) (G : xG) (o : Option Value) (σ : xS) : State → Prop := MQ C.2.2.2.2.2.2.2.1 (xQ G o σ) C.2.2.2.2.2.2.1 C.2.2.2.2.1 0 0 G.2.1
theorem x_met {l : Launch} {G : xG} {y : MethodName} {bytes : ByteArray} {maxL : Nat} {ret : Option FieldType} {rm : Room} {av : List Value} {σ : xS} {o : Option Value} {σ' : xS} {own : String} (hy : plainName y.cls = true) (hG : xOk G) (hown : y.cls = own) (hlen : (lg_sl av).length ≤ maxL)
    (body : ∀ C : xT, C.2.1 = l → xc C G own bytes maxL ret rm → xw C G maxL (xq C G o σ') σ 0 (lv_args 0 av) []) : xMet l G y bytes maxL ret rm av σ o σ' := by
  refine Met.ofW (cc := bytes) (maxL := maxL) (ret := ret) hy rfl ?_
  intro p e s m args below meth c s₁ B hml hv
  obtain ⟨rfl, hP, hK, hZ⟩ := hv
  have hts := atoms_spec (ws := Cond.code y bytes maxL ret :: TB) B.pre
  have h := body (p, l, e, rm, s, m, av.toArray, below, meth, c) rfl ⟨B.exec, B.bytes, hml, by rw [← hown]; exact findClass_of_methodNamed B.named, fun w h => hts w (List.mem_cons_of_mem _ h), hK, hZ, B.notSynchronized, B.returns, rfl, hG⟩
  rw [lg_entry_eq]
  exact h s.heap [] _ hP va_S.rf (lv_entry av hlen)
theorem x_lv {C : xT} {G : xG} {nL : Nat} {Q : State → Prop} {σ : xS} {pc : Nat} {lv lv' : List (Nat × Value)} {st : List Value} (ks : List Nat) (h : lv_pick lv ks = lv') (k : xw C G nL Q σ pc lv' st) : xw C G nL Q σ pc lv st := fun H locs ls h1 h2 h3 => k H locs ls h1 h2 (lv_sub h3 ks h)
/-- pure words: a value named; a guard; a call; a store -/
def bnd {α : Type} {β : Type} (e : α) (X : α → β) : β := X e
def xin (i : Int32) (n : Nat) : Bool := decide (¬ i < 0) && decide (i.toNatClampNeg < n)
theorem xin_in {i : Int32} {n : Nat} (h : xin i n = true) : vp_in i n := by
  simp only [xin, Bool.and_eq_true, decide_eq_true_eq] at h
  intro g
  rcases g with g | g
  · exact h.1 g
  · omega
def ald {α : Type} (σ : xS) (a n : Nat) (i : Int32) (X : Int32 → Option α) : Option α := if xin i n = true then X (σ.2 a i.toNatClampNeg) else none
def ast {α : Type} (σ : xS) (a n : Nat) (i : Int32) (v : Int32) (X : xS → Option α) : Option α := if xin i n = true then X (σ.1, va_up σ.2 a (upd (σ.2 a) i.toNatClampNeg v)) else none
def put {α : Type} (σ : xS) (k : Nat) (v : Int32) (X : xS → Option α) : Option α := X (va_up σ.1 k v, σ.2)
def cal {α : Type} (Y : Option (Int32 × xS)) (X : Int32 → xS → Option α) : Option α := match Y with
  | none => none
  | some z => X z.1 z.2
def gdz {α : Type} (y : Int32) (X : Option α) : Option α := if y = 0 then none else X
def gdb {α : Type} (v : Int32) (X : Option α) : Option α := if v &&& 1 = v then X else none
section XR
variable {C : xT} {G : xG} {own : String} {cc : ByteArray} {nL : Nat} {ret : Option FieldType} {rm : Room} {Q : State → Prop} {σ : xS} {pc pc' : Nat} {lv lv' : List (Nat × Value)} {st : List Value} {α : Type} {res : α}
theorem xr_iconst {n : Int} (v : Int32) (hC : xc C G own cc nL ret rm) (hd : decode cc pc = .ok (.iconst n, 1)) (hn : pc + 1 = pc') (hv : Int32.ofInt n = v) (k : xw C G nL Q σ pc' lv (.int v :: st)) : xw C G nL Q σ pc lv st := by
  obtain ⟨p, l, e, R, s, m, args, below, meth, c⟩ := C
  obtain ⟨hx, hb, hml, hown, hts, hK, hZ, hlk, hr, hR, hG⟩ := hC
  subst hn
  intro H locs ls h1 h2 h3
  exact lv_iconst hx hb hd hv (k H locs ls h1 h2 h3)
theorem xr_bipush {n : Int} (v : Int32) (hC : xc C G own cc nL ret rm) (hd : decode cc pc = .ok (.bipush n, 2)) (hn : pc + 2 = pc') (hv : (Int8.ofInt n).toInt32 = v) (k : xw C G nL Q σ pc' lv (.int v :: st)) : xw C G nL Q σ pc lv st := by
  obtain ⟨p, l, e, R, s, m, args, below, meth, c⟩ := C
  obtain ⟨hx, hb, hml, hown, hts, hK, hZ, hlk, hr, hR, hG⟩ := hC
  subst hn
  intro H locs ls h1 h2 h3
  exact lv_bipush hx hb hd hv (k H locs ls h1 h2 h3)
theorem xr_sipush {n : Int} (v : Int32) (hC : xc C G own cc nL ret rm) (hd : decode cc pc = .ok (.sipush n, 3)) (hn : pc + 3 = pc') (hv : (Int16.ofInt n).toInt32 = v) (k : xw C G nL Q σ pc' lv (.int v :: st)) : xw C G nL Q σ pc lv st := by
  obtain ⟨p, l, e, R, s, m, args, below, meth, c⟩ := C
  obtain ⟨hx, hb, hml, hown, hts, hK, hZ, hlk, hr, hR, hG⟩ := hC
  subst hn
  intro H locs ls h1 h2 h3
  exact lv_sipush hx hb hd hv (k H locs ls h1 h2 h3)
theorem xr_ldc {i : Nat} (v : Int32) (hC : xc C G own cc nL ret rm) (hd : decode cc pc = .ok (.ldc i, 2)) (hn : pc + 2 = pc') (hv : Cond.constant own i v ∈ TB) (k : xw C G nL Q σ pc' lv (.int v :: st)) : xw C G nL Q σ pc lv st := by
  obtain ⟨p, l, e, R, s, m, args, below, meth, c⟩ := C
  obtain ⟨hx, hb, hml, hown, hts, hK, hZ, hlk, hr, hR, hG⟩ := hC
  subst hn
  intro H locs ls h1 h2 h3
  exact lv_ldc hx hb hown (hts _ hv) hd (k H locs ls h1 h2 h3)
theorem xr_ldc_w {i : Nat} (v : Int32) (hC : xc C G own cc nL ret rm) (hd : decode cc pc = .ok (.ldc_w i, 3)) (hn : pc + 3 = pc') (hv : Cond.constant own i v ∈ TB) (k : xw C G nL Q σ pc' lv (.int v :: st)) : xw C G nL Q σ pc lv st := by
  obtain ⟨p, l, e, R, s, m, args, below, meth, c⟩ := C
  obtain ⟨hx, hb, hml, hown, hts, hK, hZ, hlk, hr, hR, hG⟩ := hC
  subst hn
  intro H locs ls h1 h2 h3
  exact lv_ldcw hx hb hown (hts _ hv) hd (k H locs ls h1 h2 h3)
theorem xr_iload_n {f : Fin 4} (q : Nat) {i : Nat} {x : Int32} (hC : xc C G own cc nL ret rm) (hd : decode cc pc = .ok (.iload_n f, 1)) (hn : pc + 1 = pc') (hi : (f : Nat) = i) (hl : lv[q]? = some (i, .int x)) (k : xw C G nL Q σ pc' lv (.int x :: st)) : xw C G nL Q σ pc lv st := by
  obtain ⟨p, l, e, R, s, m, args, below, meth, c⟩ := C
  obtain ⟨hx, hb, hml, hown, hts, hK, hZ, hlk, hr, hR, hG⟩ := hC
  subst hn
  intro H locs ls h1 h2 h3
  exact lv_iload_n hx hb hd hi (lv_at h3 q hl) (k H locs ls h1 h2 h3)
theorem xr_iload (q : Nat) {i : Nat} {x : Int32} (hC : xc C G own cc nL ret rm) (hd : decode cc pc = .ok (.iload i, 2)) (hn : pc + 2 = pc') (hl : lv[q]? = some (i, .int x)) (k : xw C G nL Q σ pc' lv (.int x :: st)) : xw C G nL Q σ pc lv st := by
  obtain ⟨p, l, e, R, s, m, args, below, meth, c⟩ := C
  obtain ⟨hx, hb, hml, hown, hts, hK, hZ, hlk, hr, hR, hG⟩ := hC
  subst hn
  intro H locs ls h1 h2 h3
  exact lv_iload hx hb hd (lv_at h3 q hl) (k H locs ls h1 h2 h3)
theorem xr_aload_n {f : Fin 4} (q : Nat) {i : Nat} {x : Nat} (hC : xc C G own cc nL ret rm) (hd : decode cc pc = .ok (.aload_n f, 1)) (hn : pc + 1 = pc') (hi : (f : Nat) = i) (hl : lv[q]? = some (i, .ref x)) (k : xw C G nL Q σ pc' lv (.ref x :: st)) : xw C G nL Q σ pc lv st := by
  obtain ⟨p, l, e, R, s, m, args, below, meth, c⟩ := C
  obtain ⟨hx, hb, hml, hown, hts, hK, hZ, hlk, hr, hR, hG⟩ := hC
  subst hn
  intro H locs ls h1 h2 h3
  exact lv_aload_n hx hb hd hi (lv_at h3 q hl) (k H locs ls h1 h2 h3)
theorem xr_aload (q : Nat) {i : Nat} {x : Nat} (hC : xc C G own cc nL ret rm) (hd : decode cc pc = .ok (.aload i, 2)) (hn : pc + 2 = pc') (hl : lv[q]? = some (i, .ref x)) (k : xw C G nL Q σ pc' lv (.ref x :: st)) : xw C G nL Q σ pc lv st := by
  obtain ⟨p, l, e, R, s, m, args, below, meth, c⟩ := C
  obtain ⟨hx, hb, hml, hown, hts, hK, hZ, hlk, hr, hR, hG⟩ := hC
  subst hn
  intro H locs ls h1 h2 h3
  exact lv_aload hx hb hd (lv_at h3 q hl) (k H locs ls h1 h2 h3)
theorem xr_istore_n {f : Fin 4} {i : Nat} {x : Int32} (hC : xc C G own cc nL ret rm) (hd : decode cc pc = .ok (.istore_n f, 1)) (hn : pc + 1 = pc') (hi : (f : Nat) = i) (hb0 : i < nL) (ks : List Nat) (hl : lv_pick ((i, Value.int x) :: lv.filter (fun q => !(q.1 == i) && !(q.1 + 1 == i && q.2.category == 2))) ks = lv') (k : xw C G nL Q σ pc' lv' st) : xw C G nL Q σ pc lv (.int x :: st) := by
  obtain ⟨p, l, e, R, s, m, args, below, meth, c⟩ := C
  obtain ⟨hx, hb, hml, hown, hts, hK, hZ, hlk, hr, hR, hG⟩ := hC
  subst hn
  intro H locs ls h1 h2 h3
  exact lv_istore_n hx hb hd hi h3 hb0 rfl (fun ls h3 => k H locs ls h1 h2 (lv_sub h3 ks hl))
theorem xr_istore {i : Nat} {x : Int32} (hC : xc C G own cc nL ret rm) (hd : decode cc pc = .ok (.istore i, 2)) (hn : pc + 2 = pc') (hb0 : i < nL) (ks : List Nat) (hl : lv_pick ((i, Value.int x) :: lv.filter (fun q => !(q.1 == i) && !(q.1 + 1 == i && q.2.category == 2))) ks = lv') (k : xw C G nL Q σ pc' lv' st) : xw C G nL Q σ pc lv (.int x :: st) := by
  obtain ⟨p, l, e, R, s, m, args, below, meth, c⟩ := C
  obtain ⟨hx, hb, hml, hown, hts, hK, hZ, hlk, hr, hR, hG⟩ := hC
  subst hn
  intro H locs ls h1 h2 h3
  exact lv_istore hx hb hd h3 hb0 rfl (fun ls h3 => k H locs ls h1 h2 (lv_sub h3 ks hl))
theorem xr_astore_n {f : Fin 4} {i : Nat} {x : Nat} (hC : xc C G own cc nL ret rm) (hd : decode cc pc = .ok (.astore_n f, 1)) (hn : pc + 1 = pc') (hi : (f : Nat) = i) (hb0 : i < nL) (ks : List Nat) (hl : lv_pick ((i, Value.ref x) :: lv.filter (fun q => !(q.1 == i) && !(q.1 + 1 == i && q.2.category == 2))) ks = lv') (k : xw C G nL Q σ pc' lv' st) : xw C G nL Q σ pc lv (.ref x :: st) := by
  obtain ⟨p, l, e, R, s, m, args, below, meth, c⟩ := C
  obtain ⟨hx, hb, hml, hown, hts, hK, hZ, hlk, hr, hR, hG⟩ := hC
  subst hn
  intro H locs ls h1 h2 h3
  exact lv_astore_n hx hb hd hi h3 hb0 rfl (fun ls h3 => k H locs ls h1 h2 (lv_sub h3 ks hl))
theorem xr_astore {i : Nat} {x : Nat} (hC : xc C G own cc nL ret rm) (hd : decode cc pc = .ok (.astore i, 2)) (hn : pc + 2 = pc') (hb0 : i < nL) (ks : List Nat) (hl : lv_pick ((i, Value.ref x) :: lv.filter (fun q => !(q.1 == i) && !(q.1 + 1 == i && q.2.category == 2))) ks = lv') (k : xw C G nL Q σ pc' lv' st) : xw C G nL Q σ pc lv (.ref x :: st) := by
  obtain ⟨p, l, e, R, s, m, args, below, meth, c⟩ := C
  obtain ⟨hx, hb, hml, hown, hts, hK, hZ, hlk, hr, hR, hG⟩ := hC
  subst hn
  intro H locs ls h1 h2 h3
  exact lv_astore hx hb hd h3 hb0 rfl (fun ls h3 => k H locs ls h1 h2 (lv_sub h3 ks hl))
theorem xr_istoreb_n {f : Fin 4} {i : Nat} {x : Int32} {X : Int32 → Option α} (hC : xc C G own cc nL ret rm) (hd : decode cc pc = .ok (.istore_n f, 1)) (hn : pc + 1 = pc') (hf : bnd x X = some res) (hi : (f : Nat) = i) (hb0 : i < nL) (ks : List Nat) (lw : Int32 → List (Nat × Value)) (hl : ∀ x : Int32, lv_pick ((i, Value.int x) :: lv.filter (fun q => !(q.1 == i) && !(q.1 + 1 == i && q.2.category == 2))) ks = lw x) (k : ∀ x : Int32, X x = some res → xw C G nL Q σ pc' (lw x) st) : xw C G nL Q σ pc lv (.int x :: st) := by
  obtain ⟨p, l, e, R, s, m, args, below, meth, c⟩ := C
  obtain ⟨hx, hb, hml, hown, hts, hK, hZ, hlk, hr, hR, hG⟩ := hC
  subst hn
  intro H locs ls h1 h2 h3
  exact lv_istore_n hx hb hd hi h3 hb0 rfl (fun ls h3 => k x hf H locs ls h1 h2 (lv_sub h3 ks (hl x)))
theorem xr_istoreb {i : Nat} {x : Int32} {X : Int32 → Option α} (hC : xc C G own cc nL ret rm) (hd : decode cc pc = .ok (.istore i, 2)) (hn : pc + 2 = pc') (hf : bnd x X = some res) (hb0 : i < nL) (ks : List Nat) (lw : Int32 → List (Nat × Value)) (hl : ∀ x : Int32, lv_pick ((i, Value.int x) :: lv.filter (fun q => !(q.1 == i) && !(q.1 + 1 == i && q.2.category == 2))) ks = lw x) (k : ∀ x : Int32, X x = some res → xw C G nL Q σ pc' (lw x) st) : xw C G nL Q σ pc lv (.int x :: st) := by
  obtain ⟨p, l, e, R, s, m, args, below, meth, c⟩ := C
  obtain ⟨hx, hb, hml, hown, hts, hK, hZ, hlk, hr, hR, hG⟩ := hC
  subst hn
  intro H locs ls h1 h2 h3
  exact lv_istore hx hb hd h3 hb0 rfl (fun ls h3 => k x hf H locs ls h1 h2 (lv_sub h3 ks (hl x)))
theorem xr_iinc {i : Nat} {n : Int} {x : Int32} {X : Int32 → Option α} (hC : xc C G own cc nL ret rm) (hd : decode cc pc = .ok (.iinc i n, 3)) (hn : pc + 3 = pc') (v : Int32) (hv : x + Int32.ofInt n = v) (hf : bnd v X = some res) (q : Nat) (hq : lv[q]? = some (i, .int x)) (hb0 : i < nL) (ks : List Nat) (lw : Int32 → List (Nat × Value)) (hl : ∀ x : Int32, lv_pick ((i, Value.int x) :: lv.filter (fun q => !(q.1 == i) && !(q.1 + 1 == i && q.2.category == 2))) ks = lw x) (k : ∀ x : Int32, X x = some res → xw C G nL Q σ pc' (lw x) st) : xw C G nL Q σ pc lv st := by
  obtain ⟨p, l, e, R, s, m, args, below, meth, c⟩ := C
  obtain ⟨hx, hb, hml, hown, hts, hK, hZ, hlk, hr, hR, hG⟩ := hC
  subst hn
  intro H locs ls h1 h2 h3
  exact lv_iinc hx hb hd h3 hq hv hb0 rfl (fun ls h3 => k v hf H locs ls h1 h2 (lv_sub h3 ks (hl v)))
theorem xr_iadd {x y : Int32} (hC : xc C G own cc nL ret rm) (hd : decode cc pc = .ok (.iadd, 1)) (hn : pc + 1 = pc')  (k : xw C G nL Q σ pc' lv (.int (x + y) :: st)) : xw C G nL Q σ pc lv (.int y :: .int x :: st) := by
  obtain ⟨p, l, e, R, s, m, args, below, meth, c⟩ := C
  obtain ⟨hx, hb, hml, hown, hts, hK, hZ, hlk, hr, hR, hG⟩ := hC
  subst hn
  intro H locs ls h1 h2 h3
  exact lv_iadd hx hb hd (k H locs ls h1 h2 h3)
theorem xr_isub {x y : Int32} (hC : xc C G own cc nL ret rm) (hd : decode cc pc = .ok (.isub, 1)) (hn : pc + 1 = pc')  (k : xw C G nL Q σ pc' lv (.int (x - y) :: st)) : xw C G nL Q σ pc lv (.int y :: .int x :: st) := by
  obtain ⟨p, l, e, R, s, m, args, below, meth, c⟩ := C
  obtain ⟨hx, hb, hml, hown, hts, hK, hZ, hlk, hr, hR, hG⟩ := hC
  subst hn
  intro H locs ls h1 h2 h3
  exact lv_isub hx hb hd (k H locs ls h1 h2 h3)
theorem xr_imul {x y : Int32} (hC : xc C G own cc nL ret rm) (hd : decode cc pc = .ok (.imul, 1)) (hn : pc + 1 = pc')  (k : xw C G nL Q σ pc' lv (.int (x * y) :: st)) : xw C G nL Q σ pc lv (.int y :: .int x :: st) := by
  obtain ⟨p, l, e, R, s, m, args, below, meth, c⟩ := C
  obtain ⟨hx, hb, hml, hown, hts, hK, hZ, hlk, hr, hR, hG⟩ := hC
  subst hn
  intro H locs ls h1 h2 h3
  exact lv_imul hx hb hd (k H locs ls h1 h2 h3)
theorem xr_iand {x y : Int32} (hC : xc C G own cc nL ret rm) (hd : decode cc pc = .ok (.iand, 1)) (hn : pc + 1 = pc')  (k : xw C G nL Q σ pc' lv (.int (x &&& y) :: st)) : xw C G nL Q σ pc lv (.int y :: .int x :: st) := by
  obtain ⟨p, l, e, R, s, m, args, below, meth, c⟩ := C
  obtain ⟨hx, hb, hml, hown, hts, hK, hZ, hlk, hr, hR, hG⟩ := hC
  subst hn
  intro H locs ls h1 h2 h3
  exact lv_iand hx hb hd (k H locs ls h1 h2 h3)
theorem xr_ior {x y : Int32} (hC : xc C G own cc nL ret rm) (hd : decode cc pc = .ok (.ior, 1)) (hn : pc + 1 = pc')  (k : xw C G nL Q σ pc' lv (.int (x ||| y) :: st)) : xw C G nL Q σ pc lv (.int y :: .int x :: st) := by
  obtain ⟨p, l, e, R, s, m, args, below, meth, c⟩ := C
  obtain ⟨hx, hb, hml, hown, hts, hK, hZ, hlk, hr, hR, hG⟩ := hC
  subst hn
  intro H locs ls h1 h2 h3
  exact lv_ior hx hb hd (k H locs ls h1 h2 h3)
theorem xr_ixor {x y : Int32} (hC : xc C G own cc nL ret rm) (hd : decode cc pc = .ok (.ixor, 1)) (hn : pc + 1 = pc')  (k : xw C G nL Q σ pc' lv (.int (x ^^^ y) :: st)) : xw C G nL Q σ pc lv (.int y :: .int x :: st) := by
  obtain ⟨p, l, e, R, s, m, args, below, meth, c⟩ := C
  obtain ⟨hx, hb, hml, hown, hts, hK, hZ, hlk, hr, hR, hG⟩ := hC
  subst hn
  intro H locs ls h1 h2 h3
  exact lv_ixor hx hb hd (k H locs ls h1 h2 h3)
theorem xr_ishl {x y : Int32} (hC : xc C G own cc nL ret rm) (hd : decode cc pc = .ok (.ishl, 1)) (hn : pc + 1 = pc')  (k : xw C G nL Q σ pc' lv (.int (x <<< (y &&& 31)) :: st)) : xw C G nL Q σ pc lv (.int y :: .int x :: st) := by
  obtain ⟨p, l, e, R, s, m, args, below, meth, c⟩ := C
  obtain ⟨hx, hb, hml, hown, hts, hK, hZ, hlk, hr, hR, hG⟩ := hC
  subst hn
  intro H locs ls h1 h2 h3
  exact lv_ishl hx hb hd (k H locs ls h1 h2 h3)
theorem xr_ishr {x y : Int32} (hC : xc C G own cc nL ret rm) (hd : decode cc pc = .ok (.ishr, 1)) (hn : pc + 1 = pc')  (k : xw C G nL Q σ pc' lv (.int (x >>> (y &&& 31)) :: st)) : xw C G nL Q σ pc lv (.int y :: .int x :: st) := by
  obtain ⟨p, l, e, R, s, m, args, below, meth, c⟩ := C
  obtain ⟨hx, hb, hml, hown, hts, hK, hZ, hlk, hr, hR, hG⟩ := hC
  subst hn
  intro H locs ls h1 h2 h3
  exact lv_ishr hx hb hd (k H locs ls h1 h2 h3)
theorem xr_iushr {x y : Int32} (hC : xc C G own cc nL ret rm) (hd : decode cc pc = .ok (.iushr, 1)) (hn : pc + 1 = pc')  (k : xw C G nL Q σ pc' lv (.int ((x.toUInt32 >>> (y.toUInt32 &&& Int32.toUInt32 31)).toInt32) :: st)) : xw C G nL Q σ pc lv (.int y :: .int x :: st) := by
  obtain ⟨p, l, e, R, s, m, args, below, meth, c⟩ := C
  obtain ⟨hx, hb, hml, hown, hts, hK, hZ, hlk, hr, hR, hG⟩ := hC
  subst hn
  intro H locs ls h1 h2 h3
  exact lv_iushr hx hb hd rfl (k H locs ls h1 h2 h3)
theorem xr_ineg {x : Int32} (hC : xc C G own cc nL ret rm) (hd : decode cc pc = .ok (.ineg, 1)) (hn : pc + 1 = pc')  (k : xw C G nL Q σ pc' lv (.int (-x) :: st)) : xw C G nL Q σ pc lv (.int x :: st) := by
  obtain ⟨p, l, e, R, s, m, args, below, meth, c⟩ := C
  obtain ⟨hx, hb, hml, hown, hts, hK, hZ, hlk, hr, hR, hG⟩ := hC
  subst hn
  intro H locs ls h1 h2 h3
  exact lv_ineg hx hb hd (k H locs ls h1 h2 h3)
theorem xr_i2c {x : Int32} (hC : xc C G own cc nL ret rm) (hd : decode cc pc = .ok (.i2c, 1)) (hn : pc + 1 = pc')  (k : xw C G nL Q σ pc' lv (.int ((x.toUInt32 % 65536).toInt32) :: st)) : xw C G nL Q σ pc lv (.int x :: st) := by
  obtain ⟨p, l, e, R, s, m, args, below, meth, c⟩ := C
  obtain ⟨hx, hb, hml, hown, hts, hK, hZ, hlk, hr, hR, hG⟩ := hC
  subst hn
  intro H locs ls h1 h2 h3
  exact lv_i2c hx hb hd rfl (k H locs ls h1 h2 h3)
theorem xr_idiv {x y : Int32} {X : Option α} (hC : xc C G own cc nL ret rm) (hd : decode cc pc = .ok (.idiv, 1)) (hn : pc + 1 = pc') (hf : gdz y X = some res) (k : X = some res → xw C G nL Q σ pc' lv (.int (x / y) :: st)) : xw C G nL Q σ pc lv (.int y :: .int x :: st) := by
  obtain ⟨p, l, e, R, s, m, args, below, meth, c⟩ := C
  obtain ⟨hx, hb, hml, hown, hts, hK, hZ, hlk, hr, hR, hG⟩ := hC
  subst hn
  intro H locs ls h1 h2 h3
  by_cases h0 : y = 0
  · rw [gdz, if_pos h0] at hf; cases hf
  · rw [gdz, if_neg h0] at hf
    exact lv_idiv hx hb hd h0 (k hf H locs ls h1 h2 h3)
theorem xr_irem {x y : Int32} {X : Option α} (hC : xc C G own cc nL ret rm) (hd : decode cc pc = .ok (.irem, 1)) (hn : pc + 1 = pc') (hf : gdz y X = some res) (k : X = some res → xw C G nL Q σ pc' lv (.int (x - x / y * y) :: st)) : xw C G nL Q σ pc lv (.int y :: .int x :: st) := by
  obtain ⟨p, l, e, R, s, m, args, below, meth, c⟩ := C
  obtain ⟨hx, hb, hml, hown, hts, hK, hZ, hlk, hr, hR, hG⟩ := hC
  subst hn
  intro H locs ls h1 h2 h3
  by_cases h0 : y = 0
  · rw [gdz, if_pos h0] at hf; cases hf
  · rw [gdz, if_neg h0] at hf
    exact lv_irem hx hb hd h0 (k hf H locs ls h1 h2 h3)
theorem xr_dup {va : Value} (hC : xc C G own cc nL ret rm) (hd : decode cc pc = .ok (.dup, 1)) (hn : pc + 1 = pc') (hv : va.category = 1) (k : xw C G nL Q σ pc' lv (va :: va :: st)) : xw C G nL Q σ pc lv (va :: st) := by
  obtain ⟨p, l, e, R, s, m, args, below, meth, c⟩ := C
  obtain ⟨hx, hb, hml, hown, hts, hK, hZ, hlk, hr, hR, hG⟩ := hC
  subst hn
  intro H locs ls h1 h2 h3
  exact lv_dup hx hb hd hv (k H locs ls h1 h2 h3)
theorem xr_pop {va : Value} (hC : xc C G own cc nL ret rm) (hd : decode cc pc = .ok (.pop, 1)) (hn : pc + 1 = pc') (hv : va.category = 1) (k : xw C G nL Q σ pc' lv st) : xw C G nL Q σ pc lv (va :: st) := by
  obtain ⟨p, l, e, R, s, m, args, below, meth, c⟩ := C
  obtain ⟨hx, hb, hml, hown, hts, hK, hZ, hlk, hr, hR, hG⟩ := hC
  subst hn
  intro H locs ls h1 h2 h3
  exact lv_pop hx hb hd hv (k H locs ls h1 h2 h3)
theorem xr_dup2 {va vb : Value} (hC : xc C G own cc nL ret rm) (hd : decode cc pc = .ok (.dup2, 1)) (hn : pc + 1 = pc') (hv : va.category = 1) (hv2 : vb.category = 1) (k : xw C G nL Q σ pc' lv (va :: vb :: va :: vb :: st)) : xw C G nL Q σ pc lv (va :: vb :: st) := by
  obtain ⟨p, l, e, R, s, m, args, below, meth, c⟩ := C
  obtain ⟨hx, hb, hml, hown, hts, hK, hZ, hlk, hr, hR, hG⟩ := hC
  subst hn
  intro H locs ls h1 h2 h3
  exact lv_dup2_11 hx hb hd hv hv2 (k H locs ls h1 h2 h3)
theorem xr_top {x : Int32} {X : Int32 → Option α} (hf : bnd x X = some res) (k : ∀ x : Int32, X x = some res → xw C G nL Q σ pc lv (.int x :: st)) : xw C G nL Q σ pc lv (.int x :: st) := k x hf
theorem xr_nm {x : Int32} (k : ∀ x : Int32, xw C G nL Q σ pc lv (.int x :: st)) : xw C G nL Q σ pc lv (.int x :: st) := k x
theorem xr_icmp_eq {x y : Int32} {off : Int} {inst : Decidable (x = y)} {X Y : Option α} (tgt : Nat) (hC : xc C G own cc nL ret rm) (hd : decode cc pc = .ok (.if_icmp .eq off, 3)) (hn : pc + 3 = pc') (ht : (pc : Int) + off = (tgt : Int)) (hf : (if x = y then X else Y) = some res) (kt : X = some res → xw C G nL Q σ tgt lv st) (kf : Y = some res → xw C G nL Q σ pc' lv st) : xw C G nL Q σ pc lv (.int y :: .int x :: st) := by
  obtain ⟨p, l, e, R, s, m, args, below, meth, c⟩ := C
  obtain ⟨hx, hb, hml, hown, hts, hK, hZ, hlk, hr, hR, hG⟩ := hC
  subst hn
  intro H locs ls h1 h2 h3
  exact lv_icmp_eq hx hb hd ht (fun c => kt (by rw [if_pos c] at hf; exact hf) H locs ls h1 h2 h3) (fun c => kf (by rw [if_neg c] at hf; exact hf) H locs ls h1 h2 h3)
theorem xr_if_eq {x : Int32} {off : Int} {inst : Decidable (x = 0)} {X Y : Option α} (tgt : Nat) (hC : xc C G own cc nL ret rm) (hd : decode cc pc = .ok (.ifCond .eq off, 3)) (hn : pc + 3 = pc') (ht : (pc : Int) + off = (tgt : Int)) (hf : (if x = 0 then X else Y) = some res) (kt : X = some res → xw C G nL Q σ tgt lv st) (kf : Y = some res → xw C G nL Q σ pc' lv st) : xw C G nL Q σ pc lv (.int x :: st) := by
  obtain ⟨p, l, e, R, s, m, args, below, meth, c⟩ := C
  obtain ⟨hx, hb, hml, hown, hts, hK, hZ, hlk, hr, hR, hG⟩ := hC
  subst hn
  intro H locs ls h1 h2 h3
  exact lv_if_eq hx hb hd ht (fun c => kt (by rw [if_pos c] at hf; exact hf) H locs ls h1 h2 h3) (fun c => kf (by rw [if_neg c] at hf; exact hf) H locs ls h1 h2 h3)
theorem xr_icmp_ne {x y : Int32} {off : Int} {inst : Decidable (x = y)} {X Y : Option α} (tgt : Nat) (hC : xc C G own cc nL ret rm) (hd : decode cc pc = .ok (.if_icmp .ne off, 3)) (hn : pc + 3 = pc') (ht : (pc : Int) + off = (tgt : Int)) (hf : (if x = y then X else Y) = some res) (kt : Y = some res → xw C G nL Q σ tgt lv st) (kf : X = some res → xw C G nL Q σ pc' lv st) : xw C G nL Q σ pc lv (.int y :: .int x :: st) := by
  obtain ⟨p, l, e, R, s, m, args, below, meth, c⟩ := C
  obtain ⟨hx, hb, hml, hown, hts, hK, hZ, hlk, hr, hR, hG⟩ := hC
  subst hn
  intro H locs ls h1 h2 h3
  exact lv_icmp_ne hx hb hd ht (fun c => kt (by rw [if_neg c] at hf; exact hf) H locs ls h1 h2 h3) (fun c => kf (by rw [if_pos c] at hf; exact hf) H locs ls h1 h2 h3)
theorem xr_if_ne {x : Int32} {off : Int} {inst : Decidable (x = 0)} {X Y : Option α} (tgt : Nat) (hC : xc C G own cc nL ret rm) (hd : decode cc pc = .ok (.ifCond .ne off, 3)) (hn : pc + 3 = pc') (ht : (pc : Int) + off = (tgt : Int)) (hf : (if x = 0 then X else Y) = some res) (kt : Y = some res → xw C G nL Q σ tgt lv st) (kf : X = some res → xw C G nL Q σ pc' lv st) : xw C G nL Q σ pc lv (.int x :: st) := by
  obtain ⟨p, l, e, R, s, m, args, below, meth, c⟩ := C
  obtain ⟨hx, hb, hml, hown, hts, hK, hZ, hlk, hr, hR, hG⟩ := hC
  subst hn
  intro H locs ls h1 h2 h3
  exact lv_if_ne hx hb hd ht (fun c => kt (by rw [if_neg c] at hf; exact hf) H locs ls h1 h2 h3) (fun c => kf (by rw [if_pos c] at hf; exact hf) H locs ls h1 h2 h3)
theorem xr_icmp_lt {x y : Int32} {off : Int} {inst : Decidable (x < y)} {X Y : Option α} (tgt : Nat) (hC : xc C G own cc nL ret rm) (hd : decode cc pc = .ok (.if_icmp .lt off, 3)) (hn : pc + 3 = pc') (ht : (pc : Int) + off = (tgt : Int)) (hf : (if x < y then X else Y) = some res) (kt : X = some res → xw C G nL Q σ tgt lv st) (kf : Y = some res → xw C G nL Q σ pc' lv st) : xw C G nL Q σ pc lv (.int y :: .int x :: st) := by
  obtain ⟨p, l, e, R, s, m, args, below, meth, c⟩ := C
  obtain ⟨hx, hb, hml, hown, hts, hK, hZ, hlk, hr, hR, hG⟩ := hC
  subst hn
  intro H locs ls h1 h2 h3
  exact lv_icmp_lt hx hb hd ht (fun c => kt (by rw [if_pos c] at hf; exact hf) H locs ls h1 h2 h3) (fun c => kf (by rw [if_neg c] at hf; exact hf) H locs ls h1 h2 h3)
theorem xr_if_lt {x : Int32} {off : Int} {inst : Decidable (x < 0)} {X Y : Option α} (tgt : Nat) (hC : xc C G own cc nL ret rm) (hd : decode cc pc = .ok (.ifCond .lt off, 3)) (hn : pc + 3 = pc') (ht : (pc : Int) + off = (tgt : Int)) (hf : (if x < 0 then X else Y) = some res) (kt : X = some res → xw C G nL Q σ tgt lv st) (kf : Y = some res → xw C G nL Q σ pc' lv st) : xw C G nL Q σ pc lv (.int x :: st) := by
  obtain ⟨p, l, e, R, s, m, args, below, meth, c⟩ := C
  obtain ⟨hx, hb, hml, hown, hts, hK, hZ, hlk, hr, hR, hG⟩ := hC
  subst hn
  intro H locs ls h1 h2 h3
  exact lv_if_lt hx hb hd ht (fun c => kt (by rw [if_pos c] at hf; exact hf) H locs ls h1 h2 h3) (fun c => kf (by rw [if_neg c] at hf; exact hf) H locs ls h1 h2 h3)
theorem xr_icmp_ge {x y : Int32} {off : Int} {inst : Decidable (y ≤ x)} {X Y : Option α} (tgt : Nat) (hC : xc C G own cc nL ret rm) (hd : decode cc pc = .ok (.if_icmp .ge off, 3)) (hn : pc + 3 = pc') (ht : (pc : Int) + off = (tgt : Int)) (hf : (if y ≤ x then X else Y) = some res) (kt : X = some res → xw C G nL Q σ tgt lv st) (kf : Y = some res → xw C G nL Q σ pc' lv st) : xw C G nL Q σ pc lv (.int y :: .int x :: st) := by
  obtain ⟨p, l, e, R, s, m, args, below, meth, c⟩ := C
  obtain ⟨hx, hb, hml, hown, hts, hK, hZ, hlk, hr, hR, hG⟩ := hC
  subst hn
  intro H locs ls h1 h2 h3
  exact lv_icmp_ge hx hb hd ht (fun c => kt (by rw [if_pos c] at hf; exact hf) H locs ls h1 h2 h3) (fun c => kf (by rw [if_neg c] at hf; exact hf) H locs ls h1 h2 h3)
theorem xr_if_ge {x : Int32} {off : Int} {inst : Decidable (0 ≤ x)} {X Y : Option α} (tgt : Nat) (hC : xc C G own cc nL ret rm) (hd : decode cc pc = .ok (.ifCond .ge off, 3)) (hn : pc + 3 = pc') (ht : (pc : Int) + off = (tgt : Int)) (hf : (if 0 ≤ x then X else Y) = some res) (kt : X = some res → xw C G nL Q σ tgt lv st) (kf : Y = some res → xw C G nL Q σ pc' lv st) : xw C G nL Q σ pc lv (.int x :: st) := by
  obtain ⟨p, l, e, R, s, m, args, below, meth, c⟩ := C
  obtain ⟨hx, hb, hml, hown, hts, hK, hZ, hlk, hr, hR, hG⟩ := hC
  subst hn
  intro H locs ls h1 h2 h3
  exact lv_if_ge hx hb hd ht (fun c => kt (by rw [if_pos c] at hf; exact hf) H locs ls h1 h2 h3) (fun c => kf (by rw [if_neg c] at hf; exact hf) H locs ls h1 h2 h3)
theorem xr_icmp_gt {x y : Int32} {off : Int} {inst : Decidable (y < x)} {X Y : Option α} (tgt : Nat) (hC : xc C G own cc nL ret rm) (hd : decode cc pc = .ok (.if_icmp .gt off, 3)) (hn : pc + 3 = pc') (ht : (pc : Int) + off = (tgt : Int)) (hf : (if y < x then X else Y) = some res) (kt : X = some res → xw C G nL Q σ tgt lv st) (kf : Y = some res → xw C G nL Q σ pc' lv st) : xw C G nL Q σ pc lv (.int y :: .int x :: st) := by
  obtain ⟨p, l, e, R, s, m, args, below, meth, c⟩ := C
  obtain ⟨hx, hb, hml, hown, hts, hK, hZ, hlk, hr, hR, hG⟩ := hC
  subst hn
  intro H locs ls h1 h2 h3
  exact lv_icmp_gt hx hb hd ht (fun c => kt (by rw [if_pos c] at hf; exact hf) H locs ls h1 h2 h3) (fun c => kf (by rw [if_neg c] at hf; exact hf) H locs ls h1 h2 h3)
theorem xr_if_gt {x : Int32} {off : Int} {inst : Decidable (0 < x)} {X Y : Option α} (tgt : Nat) (hC : xc C G own cc nL ret rm) (hd : decode cc pc = .ok (.ifCond .gt off, 3)) (hn : pc + 3 = pc') (ht : (pc : Int) + off = (tgt : Int)) (hf : (if 0 < x then X else Y) = some res) (kt : X = some res → xw C G nL Q σ tgt lv st) (kf : Y = some res → xw C G nL Q σ pc' lv st) : xw C G nL Q σ pc lv (.int x :: st) := by
  obtain ⟨p, l, e, R, s, m, args, below, meth, c⟩ := C
  obtain ⟨hx, hb, hml, hown, hts, hK, hZ, hlk, hr, hR, hG⟩ := hC
  subst hn
  intro H locs ls h1 h2 h3
  exact lv_if_gt hx hb hd ht (fun c => kt (by rw [if_pos c] at hf; exact hf) H locs ls h1 h2 h3) (fun c => kf (by rw [if_neg c] at hf; exact hf) H locs ls h1 h2 h3)
theorem xr_icmp_le {x y : Int32} {off : Int} {inst : Decidable (x ≤ y)} {X Y : Option α} (tgt : Nat) (hC : xc C G own cc nL ret rm) (hd : decode cc pc = .ok (.if_icmp .le off, 3)) (hn : pc + 3 = pc') (ht : (pc : Int) + off = (tgt : Int)) (hf : (if x ≤ y then X else Y) = some res) (kt : X = some res → xw C G nL Q σ tgt lv st) (kf : Y = some res → xw C G nL Q σ pc' lv st) : xw C G nL Q σ pc lv (.int y :: .int x :: st) := by
  obtain ⟨p, l, e, R, s, m, args, below, meth, c⟩ := C
  obtain ⟨hx, hb, hml, hown, hts, hK, hZ, hlk, hr, hR, hG⟩ := hC
  subst hn
  intro H locs ls h1 h2 h3
  exact lv_icmp_le hx hb hd ht (fun c => kt (by rw [if_pos c] at hf; exact hf) H locs ls h1 h2 h3) (fun c => kf (by rw [if_neg c] at hf; exact hf) H locs ls h1 h2 h3)
theorem xr_if_le {x : Int32} {off : Int} {inst : Decidable (x ≤ 0)} {X Y : Option α} (tgt : Nat) (hC : xc C G own cc nL ret rm) (hd : decode cc pc = .ok (.ifCond .le off, 3)) (hn : pc + 3 = pc') (ht : (pc : Int) + off = (tgt : Int)) (hf : (if x ≤ 0 then X else Y) = some res) (kt : X = some res → xw C G nL Q σ tgt lv st) (kf : Y = some res → xw C G nL Q σ pc' lv st) : xw C G nL Q σ pc lv (.int x :: st) := by
  obtain ⟨p, l, e, R, s, m, args, below, meth, c⟩ := C
  obtain ⟨hx, hb, hml, hown, hts, hK, hZ, hlk, hr, hR, hG⟩ := hC
  subst hn
  intro H locs ls h1 h2 h3
  exact lv_if_le hx hb hd ht (fun c => kt (by rw [if_pos c] at hf; exact hf) H locs ls h1 h2 h3) (fun c => kf (by rw [if_neg c] at hf; exact hf) H locs ls h1 h2 h3)
theorem xr_goto {off : Int} (tgt : Nat) (hC : xc C G own cc nL ret rm) (hd : decode cc pc = .ok (.goto off, 3)) (ht : (pc : Int) + off = (tgt : Int)) (k : xw C G nL Q σ tgt lv st) : xw C G nL Q σ pc lv st := by
  obtain ⟨p, l, e, R, s, m, args, below, meth, c⟩ := C
  obtain ⟨hx, hb, hml, hown, hts, hK, hZ, hlk, hr, hR, hG⟩ := hC
  intro H locs ls h1 h2 h3
  exact lv_goto hx hb hd ht (k H locs ls h1 h2 h3)
theorem xr_tableOut {dflt lo hi : Int} {offs : Array Int} {len : Nat} {x : Int32} (tgt : Nat) (hC : xc C G own cc nL ret rm) (hd : decode cc pc = .ok (.tableswitch dflt lo hi offs, len)) (h : x.toInt < lo ∨ hi < x.toInt) (ht : (pc : Int) + dflt = (tgt : Int)) (k : xw C G nL Q σ tgt lv st) : xw C G nL Q σ pc lv (.int x :: st) := by
  obtain ⟨p, l, e, R, s, m, args, below, meth, c⟩ := C
  obtain ⟨hx, hb, hml, hown, hts, hK, hZ, hlk, hr, hR, hG⟩ := hC
  intro H locs ls h1 h2 h3
  exact lv_tableOut hx hb hd h ht (k H locs ls h1 h2 h3)
theorem xr_tableIn {dflt lo hi : Int} {offs : Array Int} {len : Nat} {x : Int32} {off : Int} (tgt : Nat) (hC : xc C G own cc nL ret rm) (hd : decode cc pc = .ok (.tableswitch dflt lo hi offs, len)) (g1 : ¬ x.toInt < lo) (g2 : ¬ hi < x.toInt) (ho : offs[(x.toInt - lo).toNat]? = some off) (ht : (pc : Int) + off = (tgt : Int)) (k : xw C G nL Q σ tgt lv st) : xw C G nL Q σ pc lv (.int x :: st) := by
  obtain ⟨p, l, e, R, s, m, args, below, meth, c⟩ := C
  obtain ⟨hx, hb, hml, hown, hts, hK, hZ, hlk, hr, hR, hG⟩ := hC
  intro H locs ls h1 h2 h3
  exact lv_tableIn hx hb hd g1 g2 ho ht (k H locs ls h1 h2 h3)
theorem xr_lookup {dflt : Int} {ps : Array (Int × Int)} {len : Nat} {x : Int32} {off : Int} (tgt : Nat) (hC : xc C G own cc nL ret rm) (hd : decode cc pc = .ok (.lookupswitch dflt ps, len)) (hp : (ps.toList.zip (ps.toList.drop 1)).all (fun (a, next) => a.1 < next.1) = true) (ho : Op.lookupswitch.offset ps.toList dflt x.toInt = off) (ht : (pc : Int) + off = (tgt : Int)) (k : xw C G nL Q σ tgt lv st) : xw C G nL Q σ pc lv (.int x :: st) := by
  obtain ⟨p, l, e, R, s, m, args, below, meth, c⟩ := C
  obtain ⟨hx, hb, hml, hown, hts, hK, hZ, hlk, hr, hR, hG⟩ := hC
  intro H locs ls h1 h2 h3
  exact lv_lookup hx hb hd hp ho ht (k H locs ls h1 h2 h3)
theorem xr_get {idx : Nat} {T : u_T} {N ci : Nat} {Cn : String} {a : Nat} {fs : List Value} (v : Value) (q0 kf : Nat) (hC : xc C G own cc nL ret rm) (hd : decode cc pc = .ok (.getfield idx, 3)) (hn : pc + 3 = pc') (he : (G.2.2.1 σ)[q0]? = some (a, .inr (ci, fs))) (hc : xCl[ci]? = some (Cn, T, N)) (hin : ∀ w ∈ u_ws Cn T N, w ∈ TB) (hk : kf < N) (hlink : Cond.fieldLink own idx (T kf).1 (T kf).2.1 (T kf).2.2.1 ∈ TB) (hv : fs[kf]? = some v) (k : xw C G nL Q σ pc' lv (v :: st)) : xw C G nL Q σ pc lv (.ref a :: st) := by
  obtain ⟨p, l, e, R, s, m, args, below, meth, c⟩ := C
  obtain ⟨hx, hb, hml, hown, hts, hK, hZ, hlk, hr, hR, hG⟩ := hC
  subst hn
  intro H locs ls h1 h2 h3
  exact va_get (C := Cn) (T := T) (N := N) hx hb hts hin hown hK h1 q0 he hc kf hk (hts _ hlink) (fun _ h9 => h9) hv hd (k H locs ls h1 h2 h3)
theorem xr_getN {idx : Nat} {T : u_T} {N ci : Nat} {Cn host : String} {a : Nat} {fs : List Value} (v : Value) (q0 kf : Nat) (hC : xc C G own cc nL ret rm) (hd : decode cc pc = .ok (.getfield idx, 3)) (hn : pc + 3 = pc') (he : (G.2.2.1 σ)[q0]? = some (a, .inr (ci, fs))) (hc : xCl[ci]? = some (Cn, T, N)) (hin : ∀ w ∈ u_ws Cn T N, w ∈ TB) (hk : kf < N) (hlink : ∀ s : State, G.2.2.2.2 s → va_Nw (Cond.fieldLinkNest own idx (T kf).1 (T kf).2.1 (T kf).2.2.1 host) s) (hv : fs[kf]? = some v) (k : xw C G nL Q σ pc' lv (v :: st)) : xw C G nL Q σ pc lv (.ref a :: st) := by
  obtain ⟨p, l, e, R, s, m, args, below, meth, c⟩ := C
  obtain ⟨hx, hb, hml, hown, hts, hK, hZ, hlk, hr, hR, hG⟩ := hC
  subst hn
  intro H locs ls h1 h2 h3
  exact va_getN (C := Cn) (T := T) (N := N) hx hb hts hin hown hK h1 q0 he hc kf hk (va_Nw.use rfl (hlink _ hZ)) (fun _ h9 => h9) hv hd (k H locs ls h1 h2 h3)
theorem xr_put {idx : Nat} {T : u_T} {N ci : Nat} {Cn : String} {a : Nat} {fs : List Value} {x : Int32} {X : xS → Option α} (q0 kf kn : Nat) (hC : xc C G own cc nL ret rm) (hd : decode cc pc = .ok (.putfield idx, 3)) (hn : pc + 3 = pc') (he : (G.2.2.1 σ)[q0]? = some (a, .inr (ci, fs))) (hc : xCl[ci]? = some (Cn, T, N)) (hin : ∀ w ∈ u_ws Cn T N, w ∈ TB) (ty0 : Nat → FieldType) (hty : ∀ k, k < N → parseFieldDescriptor (T k).2.2.1 = some (ty0 k)) (hnm : ∀ a, a < N → ∀ b, b < N → a ≠ b → (T a).2.1 ≠ (T b).2.1) (hk : kf < N) (hlink : Cond.fieldLink own idx (T kf).1 (T kf).2.1 (T kf).2.2.1 ∈ TB) (hfin : (T kf).2.2.2 = false) {ty : FieldType} (hdd : parseFieldDescriptor (T kf).2.2.1 = some ty) (hna : narrow ty (.int x) = .int x) (hfit : fits ty (.int x) = true) (hlen : kf < fs.length)
    (hset : (G.2.2.1 σ).set q0 (a, .inr (ci, fs.set kf (.int x))) = G.2.2.1 (va_up σ.1 kn x, σ.2)) (hf : put σ kn x X = some res) (k : ∀ σ' : xS, X σ' = some res → xw C G nL Q σ' pc' lv st) : xw C G nL Q σ pc lv (.int x :: .ref a :: st) := by
  obtain ⟨p, l, e, R, s, m, args, below, meth, c⟩ := C
  obtain ⟨hx, hb, hml, hown, hts, hK, hZ, hlk, hr, hR, hG⟩ := hC
  subst hn
  intro H locs ls h1 h2 h3
  refine va_put (C := Cn) (T := T) (N := N) hx hb hts hin ty0 hty hnm hown hK h1 (hG.1 σ) h2 q0 he hc kf hk (hts _ hlink) (fun _ h9 => h9) hfin hdd hna hfit hlen hd (fun H1 locs1 g1 g2 g3 => ?_)
  rw [hset] at g1
  exact k _ hf H1 locs1 ls g1 g3 h3
theorem xr_iald {a an n : Nat} {cA : ClassId} {i : Int32} {X : Int32 → Option α} (q0 t0 : Nat) (hC : xc C G own cc nL ret rm) (hd : decode cc pc = .ok (.iaload, 1)) (hn : pc + 1 = pc') (ha : (G.2.2.1 σ)[q0]? = some (a, .inl (cA, n, .inl (σ.2 an)))) (ht : G.2.2.2.1[t0]? = some (cA, .int)) (hf : ald σ an n i X = some res) (k : ∀ x : Int32, X x = some res → xw C G nL Q σ pc' lv (.int x :: st)) : xw C G nL Q σ pc lv (.int i :: .ref a :: st) := by
  obtain ⟨p, l, e, R, s, m, args, below, meth, c⟩ := C
  obtain ⟨hx, hb, hml, hown, hts, hK, hZ, hlk, hr, hR, hG⟩ := hC
  subst hn
  intro H locs ls h1 h2 h3
  by_cases h0 : xin i n = true
  · rw [ald, if_pos h0] at hf
    exact va_iald hx hb hK h1 q0 t0 ha ht (xin_in h0) hd (k _ hf H locs ls h1 h2 h3)
  · rw [ald, if_neg h0] at hf; cases hf
theorem xr_zald {a an n : Nat} {cA : ClassId} {i : Int32} {X : Int32 → Option α} (q0 t0 : Nat) (hC : xc C G own cc nL ret rm) (hd : decode cc pc = .ok (.baload, 1)) (hn : pc + 1 = pc') (ha : (G.2.2.1 σ)[q0]? = some (a, .inl (cA, n, .inl (σ.2 an)))) (ht : G.2.2.2.1[t0]? = some (cA, .boolean)) (hf : ald σ an n i X = some res) (k : ∀ x : Int32, X x = some res → xw C G nL Q σ pc' lv (.int x :: st)) : xw C G nL Q σ pc lv (.int i :: .ref a :: st) := by
  obtain ⟨p, l, e, R, s, m, args, below, meth, c⟩ := C
  obtain ⟨hx, hb, hml, hown, hts, hK, hZ, hlk, hr, hR, hG⟩ := hC
  subst hn
  intro H locs ls h1 h2 h3
  by_cases h0 : xin i n = true
  · rw [ald, if_pos h0] at hf
    exact va_zald hx hb hK h1 q0 t0 ha ht (xin_in h0) hd (k _ hf H locs ls h1 h2 h3)
  · rw [ald, if_neg h0] at hf; cases hf
theorem xr_cald {a an n : Nat} {cA : ClassId} {i : Int32} {X : Int32 → Option α} (q0 t0 : Nat) (hC : xc C G own cc nL ret rm) (hd : decode cc pc = .ok (.caload, 1)) (hn : pc + 1 = pc') (ha : (G.2.2.1 σ)[q0]? = some (a, .inl (cA, n, .inl (σ.2 an)))) (ht : G.2.2.2.1[t0]? = some (cA, .char)) (hf : ald σ an n i X = some res) (k : ∀ x : Int32, X x = some res → xw C G nL Q σ pc' lv (.int x :: st)) : xw C G nL Q σ pc lv (.int i :: .ref a :: st) := by
  obtain ⟨p, l, e, R, s, m, args, below, meth, c⟩ := C
  obtain ⟨hx, hb, hml, hown, hts, hK, hZ, hlk, hr, hR, hG⟩ := hC
  subst hn
  intro H locs ls h1 h2 h3
  by_cases h0 : xin i n = true
  · rw [ald, if_pos h0] at hf
    exact va_cald hx hb hK h1 q0 t0 ha ht (xin_in h0) hd (k _ hf H locs ls h1 h2 h3)
  · rw [ald, if_neg h0] at hf; cases hf
theorem xr_iast {a an n : Nat} {cA : ClassId} {i x : Int32} {X : xS → Option α} (q0 t0 : Nat) (hC : xc C G own cc nL ret rm) (hd : decode cc pc = .ok (.iastore, 1)) (hn : pc + 1 = pc') (ha : (G.2.2.1 σ)[q0]? = some (a, .inl (cA, n, .inl (σ.2 an)))) (ht : G.2.2.2.1[t0]? = some (cA, .int)) (hset : ∀ f : Nat → Int32, (G.2.2.1 σ).set q0 (a, .inl (cA, n, .inl f)) = G.2.2.1 (σ.1, va_up σ.2 an f)) (hf : ast σ an n i x X = some res) (k : ∀ σ' : xS, X σ' = some res → xw C G nL Q σ' pc' lv st) : xw C G nL Q σ pc lv (.int x :: .int i :: .ref a :: st) := by
  obtain ⟨p, l, e, R, s, m, args, below, meth, c⟩ := C
  obtain ⟨hx, hb, hml, hown, hts, hK, hZ, hlk, hr, hR, hG⟩ := hC
  subst hn
  intro H locs ls h1 h2 h3
  by_cases h0 : xin i n = true
  · rw [ast, if_pos h0] at hf
    refine va_iast hx hb hK h1 (hG.1 σ) h2 q0 t0 ha ht (xin_in h0) hd (fun H1 locs1 g1 g2 g3 => ?_)
    rw [hset] at g1
    exact k _ hf H1 locs1 ls g1 g3 h3
  · rw [ast, if_neg h0] at hf; cases hf
theorem xr_zast {a an n : Nat} {cA : ClassId} {i x : Int32} {X : xS → Option α} (q0 t0 : Nat) (hC : xc C G own cc nL ret rm) (hd : decode cc pc = .ok (.bastore, 1)) (hn : pc + 1 = pc') (ha : (G.2.2.1 σ)[q0]? = some (a, .inl (cA, n, .inl (σ.2 an)))) (ht : G.2.2.2.1[t0]? = some (cA, .boolean)) (hset : ∀ f : Nat → Int32, (G.2.2.1 σ).set q0 (a, .inl (cA, n, .inl f)) = G.2.2.1 (σ.1, va_up σ.2 an f)) (hf : ast σ an n i (vp_nar .boolean x) X = some res) (k : ∀ σ' : xS, X σ' = some res → xw C G nL Q σ' pc' lv st) : xw C G nL Q σ pc lv (.int x :: .int i :: .ref a :: st) := by
  obtain ⟨p, l, e, R, s, m, args, below, meth, c⟩ := C
  obtain ⟨hx, hb, hml, hown, hts, hK, hZ, hlk, hr, hR, hG⟩ := hC
  subst hn
  intro H locs ls h1 h2 h3
  by_cases h0 : xin i n = true
  · rw [ast, if_pos h0] at hf
    refine va_zast hx hb hK h1 (hG.1 σ) h2 q0 t0 ha ht (xin_in h0) hd (fun H1 locs1 g1 g2 g3 => ?_)
    rw [hset] at g1
    exact k _ hf H1 locs1 ls g1 g3 h3
  · rw [ast, if_neg h0] at hf; cases hf
theorem xr_alen {a : Nat} {cA : ClassId} {y : vp_A} {ty : FieldType} (v : Int32) (q0 t0 : Nat) (hC : xc C G own cc nL ret rm) (hd : decode cc pc = .ok (.arraylength, 1)) (hn : pc + 1 = pc') (ha : (G.2.2.1 σ)[q0]? = some (a, .inl (cA, y))) (ht : G.2.2.2.1[t0]? = some (cA, ty)) (hv : Int32.ofNat y.1 = v) (k : xw C G nL Q σ pc' lv (.int v :: st)) : xw C G nL Q σ pc lv (.ref a :: st) := by
  obtain ⟨p, l, e, R, s, m, args, below, meth, c⟩ := C
  obtain ⟨hx, hb, hml, hown, hts, hK, hZ, hlk, hr, hR, hG⟩ := hC
  subst hn
  intro H locs ls h1 h2 h3
  exact va_alen hx hb hK h1 q0 t0 ha ht hv hd (k H locs ls h1 h2 h3)
theorem xr_ireturn {v r : Int32} {σ' : xS} (hC : xc C G own cc nL (some .int) rm) (hd : decode cc pc = .ok (.ireturn, 1)) (hf : some (v, σ) = some (r, σ')) : xw C G nL (xq C G (some (.int r)) σ') σ pc lv [.int v] := by
  obtain ⟨p, l, e, R, s, m, args, below, meth, c⟩ := C
  obtain ⟨hx, hb, hml, hown, hts, hK, hZ, hlk, hr, hR, hG⟩ := hC
  obtain ⟨rfl, rfl⟩ := Prod.mk.inj (Option.some.inj hf)
  intro H locs ls h1 h2 h3
  exact W.iret hx hb hr (fun t ht hW => ⟨rfl, by rw [ht]; exact h1, h2.F ht⟩) h2.2.2 hd hlk
theorem xr_zreturn {v r : Int32} {σ' : xS} {ty : FieldType} (hC : xc C G own cc nL (some ty) rm) (hd : decode cc pc = .ok (.ireturn, 1)) (hz : narrow ty (.int v) = .int v) (hf : some (v, σ) = some (r, σ')) : xw C G nL (xq C G (some (.int r)) σ') σ pc lv [.int v] := by
  obtain ⟨p, l, e, R, s, m, args, below, meth, c⟩ := C
  obtain ⟨hx, hb, hml, hown, hts, hK, hZ, hlk, hr, hR, hG⟩ := hC
  obtain ⟨rfl, rfl⟩ := Prod.mk.inj (Option.some.inj hf)
  intro H locs ls h1 h2 h3
  exact W.zret hx hb hr hz (fun t ht hW => ⟨rfl, by rw [ht]; exact h1, h2.F ht⟩) h2.2.2 hd hlk
theorem xr_breturn {v r : Int32} {σ' : xS} (hC : xc C G own cc nL (some .boolean) rm) (hd : decode cc pc = .ok (.ireturn, 1)) (hf : gdb v (some (v, σ)) = some (r, σ')) : xw C G nL (xq C G (some (.int r)) σ') σ pc lv [.int v] := by
  by_cases h : v &&& 1 = v
  · rw [gdb, if_pos h] at hf
    exact xr_zreturn hC hd (by simp only [narrow]; rw [h]) hf
  · rw [gdb, if_neg h] at hf; cases hf
theorem xr_return {v r : Int32} {σ' : xS} (hC : xc C G own cc nL none rm) (hd : decode cc pc = .ok (.return_, 1)) (hf : some (v, σ) = some (r, σ')) : xw C G nL (xq C G none σ') σ pc lv [] := by
  obtain ⟨p, l, e, R, s, m, args, below, meth, c⟩ := C
  obtain ⟨hx, hb, hml, hown, hts, hK, hZ, hlk, hr, hR, hG⟩ := hC
  obtain ⟨rfl, rfl⟩ := Prod.mk.inj (Option.some.inj hf)
  intro H locs ls h1 h2 h3
  exact W.vret hx hb hr (fun t ht hW => ⟨rfl, by rw [ht]; exact h1, h2.F ht⟩) h2.2.2 hd hlk
end XR

section XC
variable {p : Program} {l : Launch} {e : Env} {R : Room} {s : State} {m : MethodId} {args : Array Value} {below : List Frame} {meth : Method} {c : Code} {H : Heap} {locs : List Loc} {Q : State → Prop} {G : xG} {pc : Nat} {ls : Array Slot} {stk st : List Value}
theorem x_run {o : Option Value} {σ' : xS} {a : Array Value} (hr : va_Run p l e R s m args below meth c H locs 0 0 0 0 (F0 m pc ls stk) st (xQ G o σ' a) G.2.1) (hS : va_S G.2.1 s.heap H locs)
    (k : ∀ (H1 : Heap) (locs1 : List Loc), va_P G.1 xCl (G.2.2.1 σ') H1 → va_S G.2.1 s.heap H1 locs1 → W p l e R s m args below meth c H1 locs1 0 0 Q (F0 m (pc + 3) ls (o.toList ++ st))) : W p l e R s m args below meth c H locs 0 0 Q (F0 m pc ls stk) := by
  intro T hT X
  obtain ⟨v, st₀, t, T', L, h0, X', hL, e1, e2, ⟨hv, hp, hz, hk⟩, sg⟩ := hr T hT X
  cases hv
  rw [h0] at hz hk
  obtain ⟨t2, a1, b1⟩ := k T'.heap (locs ++ L) (by rw [e1]; exact hp)
    ⟨Nat.le_trans hS.1 (by rw [e1]; exact hz), fun q h1 h2 => by rw [e1, hk q (Nat.lt_of_lt_of_le h1 hS.1) h2]; exact hS.2.1 q h1 h2, fun q hq => by
      rcases List.mem_append.mp hq with h | h
      · exact hS.2.2 q h
      · exact hL q h⟩ T' rfl X'
  exact ⟨t2, sg t2 a1, b1⟩
theorem x_blind {av : List Value} {σ : xS} (hG : xOk G) : FrameBlind (xP G av σ) := by
  intro a U g mk h
  obtain ⟨h0, h1, h2, h3⟩ := h
  exact ⟨h0, h1, va_K.moved (u := U) (U := U.calling g mk a) (Vm.Alike.refl U.vm) h2, hG.2.2 U _ h3 rfl rfl⟩
theorem x_pre {av : List Value} {σ : xS} (hG : xOk G) (hK : va_K G.1 xCl G.2.2.2.1 s) (hZ : G.2.2.2.2 s) (hP : va_P G.1 xCl (G.2.2.1 σ) H) (hS : va_S G.2.1 s.heap H locs) : ∀ U : State, U.heap = H → s.WarmedH U.vm → xP G av σ av.toArray U := by
  intro U hU hW
  subst hU
  exact ⟨rfl, hP, va_K.moved hW.alike hK, hG.2.1 s U hZ hW hS.1 hS.2.1⟩
end XC
/-- what a call site's tables say, for a method of an object -/
def xLk (own : String) (idx : Nat) (Cn : String) (y : MethodName) (bytes : ByteArray) (maxL : Nat) (rety : Option FieldType) (n : Nat) : Prop :=
  (y.cls = Cn ∧ y.cls ≠ "java/lang/invoke/MethodHandle" ∧ y.cls ≠ "java/lang/invoke/VarHandle" ∧ (parseMethodDescriptor y.desc).map (fun d => d.parameters.length) = some n) ∧ Cond.code y bytes maxL rety ∈ TB ∧ Cond.methodLink own idx y ∈ TB ∧ Cond.instanceMethod y ∈ TB ∧ Cond.selects Cn y y ∈ TB ∧ Cond.initialized Cn ∈ TB
def xLs (own : String) (idx : Nat) (y : MethodName) (bytes : ByteArray) (maxL : Nat) (rety : Option FieldType) (n : Nat) : Prop :=
  (y.cls ≠ "java/lang/invoke/MethodHandle" ∧ y.cls ≠ "java/lang/invoke/VarHandle" ∧ (parseMethodDescriptor y.desc).map (fun d => d.parameters.length) = some n) ∧ Cond.code y bytes maxL rety ∈ TB ∧ Cond.methodLink own idx y ∈ TB ∧ Cond.static y ∈ TB ∧ Cond.initialized y.cls ∈ TB
section XV
variable {C : xT} {G : xG} {own : String} {cc : ByteArray} {nL : Nat} {ret : Option FieldType} {rm : Room} {Q : State → Prop} {σ : xS} {pc pc' : Nat} {lv : List (Nat × Value)} {st stk : List Value} {α : Type} {res : α}
  {idx : Nat} {Cn : String} {y : MethodName} {bytes : ByteArray} {maxL n : Nat} {rety : Option FieldType} {rmy : Room} {b : Nat} {ci : Nat} {T : u_T} {N : Nat} {fs : List Value}
theorem x_callV {o : Option Value} {σ' : xS} (As : List Value) (q0 : Nat) (hC : xc C G own cc nL ret rm) (hd : decode cc pc = .ok (.invokevirtual idx, 3)) (hn : pc + 3 = pc') (hL : xLk own idx Cn y bytes maxL rety n) (he : (G.2.2.1 σ)[q0]? = some (b, .inr (ci, fs))) (hc : xCl[ci]? = some (Cn, T, N)) (hlen : As.length = n) (hrc : rmy.cells = 0) (hrs : rmy.slots = 0) (hroom : rmy.frames + 1 ≤ rm.frames ∧ 8 + (maxL + 11) + rmy.locals ≤ rm.locals) (hst : stk = As.reverse ++ .ref b :: st) (hcat : (st.map fun v => v.category).sum ≤ 8)
    (hM : xMet C.2.1 G y bytes maxL rety rmy (.ref b :: As) σ o σ') (k : xw C G nL Q σ' pc' lv (o.toList ++ st)) : xw C G nL Q σ pc lv stk := by
  obtain ⟨p, l, e, R, s, m, args, below, meth, c⟩ := C
  obtain ⟨hx, hb, hml, hown, hts, hK, hZ, hlk, hr, hR, hG⟩ := hC
  obtain ⟨hy, w1, w2, w3, w4, w5⟩ := hL
  dsimp only at hR
  subst hn; subst hR; subst hst
  intro H locs ls h1 h2 h3
  refine x_run (va_runV (As := As) (rest := st) (cc := cc) (nL := nL) ⟨hx, hb, hml, hown, hts⟩ hM ⟨callB_of n hts (TB_in w1) rfl hrc hrs (by rw [hy.1]; exact hts _ w5) (hts _ w2) hy.2 hroom, hts _ w3, hts _ w4⟩ ⟨x_blind hG, va_recv hK h1 hc he, x_pre hG hK hZ h1 h2⟩ rfl hlen h3.1 rfl (lv_room hcat) hd ⟨Nat.zero_le _, Nat.zero_le _⟩) h2 (fun H1 locs1 g1 g2 => k H1 locs1 ls g1 g2 h3)
theorem x_callS {o : Option Value} {σ' : xS} (As : List Value) (hC : xc C G own cc nL ret rm) (hd : decode cc pc = .ok (.invokestatic idx, 3)) (hn : pc + 3 = pc') (hL : xLs own idx y bytes maxL rety n) (hlen : As.length = n) (hrc : rmy.cells = 0) (hrs : rmy.slots = 0) (hroom : rmy.frames + 1 ≤ rm.frames ∧ 8 + (maxL + 11) + rmy.locals ≤ rm.locals) (hst : stk = As.reverse ++ st) (hcat : (st.map fun v => v.category).sum ≤ 8)
    (hM : xMet C.2.1 G y bytes maxL rety rmy As σ o σ') (k : xw C G nL Q σ' pc' lv (o.toList ++ st)) : xw C G nL Q σ pc lv stk := by
  obtain ⟨p, l, e, R, s, m, args, below, meth, c⟩ := C
  obtain ⟨hx, hb, hml, hown, hts, hK, hZ, hlk, hr, hR, hG⟩ := hC
  obtain ⟨hy, w1, w2, w3, w5⟩ := hL
  dsimp only at hR
  subst hn; subst hR; subst hst
  intro H locs ls h1 h2 h3
  refine x_run (va_runS (As := As) (rest := st) (cc := cc) (nL := nL) ⟨hx, hb, hml, hown, hts⟩ hM ⟨callB_of n hts (TB_in w1) rfl hrc hrs (hts _ w5) (hts _ w2) hy hroom, hts _ w3⟩ ⟨x_blind hG, x_pre hG hK hZ h1 h2⟩ rfl hlen h3.1 rfl (lv_room hcat) hd ⟨Nat.zero_le _, Nat.zero_le _⟩) h2 (fun H1 locs1 g1 g2 => k H1 locs1 ls g1 g2 h3)
theorem xr_callV {Y : Option (Int32 × xS)} {X : Int32 → xS → Option α} (As : List Value) (q0 : Nat) (hC : xc C G own cc nL ret rm) (hd : decode cc pc = .ok (.invokevirtual idx, 3)) (hn : pc + 3 = pc') (hL : xLk own idx Cn y bytes maxL rety n) (he : (G.2.2.1 σ)[q0]? = some (b, .inr (ci, fs))) (hc : xCl[ci]? = some (Cn, T, N)) (hlen : As.length = n) (hrc : rmy.cells = 0) (hrs : rmy.slots = 0) (hroom : rmy.frames + 1 ≤ rm.frames ∧ 8 + (maxL + 11) + rmy.locals ≤ rm.locals) (hst : stk = As.reverse ++ .ref b :: st) (hcat : (st.map fun v => v.category).sum ≤ 8) (hf : cal Y X = some res)
    (hM : ∀ r σ', Y = some (r, σ') → xMet C.2.1 G y bytes maxL rety rmy (.ref b :: As) σ (some (.int r)) σ') (k : ∀ r σ', X r σ' = some res → xw C G nL Q σ' pc' lv (.int r :: st)) : xw C G nL Q σ pc lv stk := by
  cases hY : Y with
  | none => rw [hY] at hf; cases hf
  | some z =>
    obtain ⟨r, σ'⟩ := z
    rw [hY] at hf
    exact x_callV As q0 hC hd hn hL he hc hlen hrc hrs hroom hst hcat (hM r σ' hY) (k r σ' hf)
theorem xr_callVv {Y : Option (Int32 × xS)} {X : Int32 → xS → Option α} (As : List Value) (q0 : Nat) (hC : xc C G own cc nL ret rm) (hd : decode cc pc = .ok (.invokevirtual idx, 3)) (hn : pc + 3 = pc') (hL : xLk own idx Cn y bytes maxL rety n) (he : (G.2.2.1 σ)[q0]? = some (b, .inr (ci, fs))) (hc : xCl[ci]? = some (Cn, T, N)) (hlen : As.length = n) (hrc : rmy.cells = 0) (hrs : rmy.slots = 0) (hroom : rmy.frames + 1 ≤ rm.frames ∧ 8 + (maxL + 11) + rmy.locals ≤ rm.locals) (hst : stk = As.reverse ++ .ref b :: st) (hcat : (st.map fun v => v.category).sum ≤ 8) (hf : cal Y X = some res)
    (hM : ∀ r σ', Y = some (r, σ') → xMet C.2.1 G y bytes maxL rety rmy (.ref b :: As) σ none σ') (k : ∀ r σ', X r σ' = some res → xw C G nL Q σ' pc' lv st) : xw C G nL Q σ pc lv stk := by
  cases hY : Y with
  | none => rw [hY] at hf; cases hf
  | some z =>
    obtain ⟨r, σ'⟩ := z
    rw [hY] at hf
    exact x_callV As q0 hC hd hn hL he hc hlen hrc hrs hroom hst hcat (hM r σ' hY) (k r σ' hf)
theorem xr_callS {Y : Option (Int32 × xS)} {X : Int32 → xS → Option α} (As : List Value) (hC : xc C G own cc nL ret rm) (hd : decode cc pc = .ok (.invokestatic idx, 3)) (hn : pc + 3 = pc') (hL : xLs own idx y bytes maxL rety n) (hlen : As.length = n) (hrc : rmy.cells = 0) (hrs : rmy.slots = 0) (hroom : rmy.frames + 1 ≤ rm.frames ∧ 8 + (maxL + 11) + rmy.locals ≤ rm.locals) (hst : stk = As.reverse ++ st) (hcat : (st.map fun v => v.category).sum ≤ 8) (hf : cal Y X = some res)
    (hM : ∀ r σ', Y = some (r, σ') → xMet C.2.1 G y bytes maxL rety rmy As σ (some (.int r)) σ') (k : ∀ r σ', X r σ' = some res → xw C G nL Q σ' pc' lv (.int r :: st)) : xw C G nL Q σ pc lv stk := by
  cases hY : Y with
  | none => rw [hY] at hf; cases hf
  | some z =>
    obtain ⟨r, σ'⟩ := z
    rw [hY] at hf
    exact x_callS As hC hd hn hL hlen hrc hrs hroom hst hcat (hM r σ' hY) (k r σ' hf)
theorem xr_callSv {Y : Option (Int32 × xS)} {X : Int32 → xS → Option α} (As : List Value) (hC : xc C G own cc nL ret rm) (hd : decode cc pc = .ok (.invokestatic idx, 3)) (hn : pc + 3 = pc') (hL : xLs own idx y bytes maxL rety n) (hlen : As.length = n) (hrc : rmy.cells = 0) (hrs : rmy.slots = 0) (hroom : rmy.frames + 1 ≤ rm.frames ∧ 8 + (maxL + 11) + rmy.locals ≤ rm.locals) (hst : stk = As.reverse ++ st) (hcat : (st.map fun v => v.category).sum ≤ 8) (hf : cal Y X = some res)
    (hM : ∀ r σ', Y = some (r, σ') → xMet C.2.1 G y bytes maxL rety rmy As σ none σ') (k : ∀ r σ', X r σ' = some res → xw C G nL Q σ' pc' lv st) : xw C G nL Q σ pc lv stk := by
  cases hY : Y with
  | none => rw [hY] at hf; cases hf
  | some z =>
    obtain ⟨r, σ'⟩ := z
    rw [hY] at hf
    exact x_callS As hC hd hn hL hlen hrc hrs hroom hst hcat (hM r σ' hY) (k r σ' hf)

theorem xr_mmax {x y : Int32} (hC : xc C G own cc nL ret rm) (hd : decode cc pc = .ok (.invokestatic idx, 3)) (hn : pc + 3 = pc') (hL : Cond.methodLink own idx Lib.Math.max.name ∈ TB ∧ Cond.static Lib.Math.max.name ∈ TB ∧ Cond.initialized "java/lang/Math" ∈ TB ∧ Cond.code Lib.Math.max.name Lib.Math.max.code 2 (some .int) ∈ TB) (hfr : 1 ≤ rm.frames) (hlo : (st.map fun v => v.category).sum + 13 ≤ rm.locals) (k : xw C G nL Q σ pc' lv (.int (if x < y then y else x) :: st)) : xw C G nL Q σ pc lv (.int y :: .int x :: st) := by
  obtain ⟨p, l, e, R, s, m, args, below, meth, c⟩ := C
  obtain ⟨hx, hb, hml, hown, hts, hK, hZ, hlk, hr, hR, hG⟩ := hC
  dsimp only at hR
  subst hn; subst hR
  intro H locs ls h1 h2 h3
  exact va_mmax hx hb (hml.trans h3.1.symm) hown (hts _ hL.1) (hts _ hL.2.1) (hts _ hL.2.2.1) (hts _ hL.2.2.2) hfr hlo (Nat.zero_le _) (Nat.zero_le _) hd (k H locs ls h1 h2 h3)
theorem xr_mmin {x y : Int32} (hC : xc C G own cc nL ret rm) (hd : decode cc pc = .ok (.invokestatic idx, 3)) (hn : pc + 3 = pc') (hL : Cond.methodLink own idx Lib.Math.min.name ∈ TB ∧ Cond.static Lib.Math.min.name ∈ TB ∧ Cond.initialized "java/lang/Math" ∈ TB ∧ Cond.code Lib.Math.min.name Lib.Math.min.code 2 (some .int) ∈ TB) (hfr : 1 ≤ rm.frames) (hlo : (st.map fun v => v.category).sum + 13 ≤ rm.locals) (k : xw C G nL Q σ pc' lv (.int (if y < x then y else x) :: st)) : xw C G nL Q σ pc lv (.int y :: .int x :: st) := by
  obtain ⟨p, l, e, R, s, m, args, below, meth, c⟩ := C
  obtain ⟨hx, hb, hml, hown, hts, hK, hZ, hlk, hr, hR, hG⟩ := hC
  dsimp only at hR
  subst hn; subst hR
  intro H locs ls h1 h2 h3
  exact va_mmin hx hb (hml.trans h3.1.symm) hown (hts _ hL.1) (hts _ hL.2.1) (hts _ hL.2.2.1) (hts _ hL.2.2.2) hfr hlo (Nat.zero_le _) (Nat.zero_le _) hd (k H locs ls h1 h2 h3)
theorem xr_mabs {x : Int32} (hC : xc C G own cc nL ret rm) (hd : decode cc pc = .ok (.invokestatic idx, 3)) (hn : pc + 3 = pc') (hL : Cond.methodLink own idx Lib.Math.abs.name ∈ TB ∧ Cond.static Lib.Math.abs.name ∈ TB ∧ Cond.initialized "java/lang/Math" ∈ TB ∧ Cond.code Lib.Math.abs.name Lib.Math.abs.code 1 (some .int) ∈ TB) (hfr : 1 ≤ rm.frames) (hlo : (st.map fun v => v.category).sum + 13 ≤ rm.locals) (k : xw C G nL Q σ pc' lv (.int (if 0 ≤ x then x else 0 - x) :: st)) : xw C G nL Q σ pc lv (.int x :: st) := by
  obtain ⟨p, l, e, R, s, m, args, below, meth, c⟩ := C
  obtain ⟨hx, hb, hml, hown, hts, hK, hZ, hlk, hr, hR, hG⟩ := hC
  dsimp only at hR
  subst hn; subst hR
  intro H locs ls h1 h2 h3
  exact va_mabs hx hb (hml.trans h3.1.symm) hown (hts _ hL.1) (hts _ hL.2.1) (hts _ hL.2.2.1) (hts _ hL.2.2.2) hfr hlo (Nat.zero_le _) (Nat.zero_le _) hd (k H locs ls h1 h2 h3)
end XV
