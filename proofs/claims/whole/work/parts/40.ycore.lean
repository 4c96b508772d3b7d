/-- rows of ints, of truths, of signs -/
abbrev y3 : Type := ClassId × ClassId × ClassId
def yT (c : y3) : List (ClassId × FieldType) := [(c.1, .int), (c.2.1, .boolean), (c.2.2, .char)]
def yw (C : xT) (D : va_G) (A : Nat → Prop) (nL : Nat) (Q : State → Prop) (ce sl : Nat) (ws : va_W) (pc : Nat) (lv : List (Nat × Value)) (st : List Value) : Prop :=
  ∀ (H : Heap) (locs : List Loc) (ls : Array Slot), va_P D xCl ws H → va_D A ws → va_S A C.2.2.2.2.1.heap H locs → lv_has ls nL lv → W C.1 C.2.1 C.2.2.1 C.2.2.2.1 C.2.2.2.2.1 C.2.2.2.2.2.1 C.2.2.2.2.2.2.1 C.2.2.2.2.2.2.2.1 C.2.2.2.2.2.2.2.2.1 C.2.2.2.2.2.2.2.2.2 H locs ce sl Q (F0 C.2.2.2.2.2.1 pc ls st)
def yc (C : xT) (D : va_G) (A : Nat → Prop) (t : y3) (own : String) (cc : ByteArray) (nL : Nat) (ret : Option FieldType) (rm : Room) : Prop :=
  C.1.tables.exec = Jvm.exec ∧ C.2.2.2.2.2.2.2.2.2.code = cc ∧ C.2.2.2.2.2.2.2.2.2.maxLocals = nL ∧ C.2.2.2.2.1.vm.findClass own = some C.2.2.2.2.2.1.cls ∧ (∀ w ∈ TB, w.before C.2.2.2.2.2.2.1 C.2.2.2.2.1 = true) ∧ va_K D xCl (yT t) C.2.2.2.2.1 ∧ (∀ q : Nat, C.2.2.2.2.1.heap.size ≤ q → A q) ∧ C.2.2.2.2.2.2.2.2.1.locks = false ∧ C.2.2.2.2.2.2.2.2.1.sig.returnType = ret ∧ C.2.2.2.1 = rm
def yP (D : va_G) (t : y3) (Z : State → Prop) (av : List Value) (ws : va_W) (sz : Nat) : Array Value → State → Prop := va_Pc av (fun U => U.heap.size = sz ∧ va_P D xCl ws U.heap ∧ va_K D xCl (yT t) U ∧ va_D (fun _ => True) ws ∧ Z U)
def yQ (D : va_G) (A : Nat → Prop) (post : va_W → Prop) : Array Value → State → Outcome → State → Prop := fun _ st oc t => oc = .returned none ∧ (∃ w, post w ∧ va_P D xCl w t.heap ∧ va_D A w) ∧ va_F A st t
def yMet (l : Launch) (D : va_G) (t : y3) (Z : State → Prop) (y : MethodName) (bytes : ByteArray) (maxL : Nat) (rm : Room) (av : List Value) (ws : va_W) (sz : Nat) (post : va_W → Prop) (mc ms : Nat) : Prop := Met l y (Cond.code y bytes maxL none :: TB) rm (yP D t Z av ws sz) (yQ D (va_A ws sz) post) mc ms (va_A ws sz)
def yq (C : xT) (D : va_G) (A : Nat → Prop) (post : va_W → Prop) (mc ms : Nat) : State → Prop := MQ C.2.2.2.2.2.2.2.1 (yQ D A post) C.2.2.2.2.2.2.1 C.2.2.2.2.1 mc ms A
theorem y_met {l : Launch} {D : va_G} {t : y3} {Z : State → Prop} {y : MethodName} {bytes : ByteArray} {maxL : Nat} {rm : Room} {av : List Value} {ws : va_W} {sz : Nat} {post : va_W → Prop} {mc ms : Nat} {own : String} (hy : plainName y.cls = true) (hnm : y.name = "<init>") (hown : y.cls = own) (hlen : (lg_sl av).length ≤ maxL)
    (body : ∀ (C : xT) (A : Nat → Prop), C.2.1 = l → yc C D A t own bytes maxL none rm → C.2.2.2.2.2.2.2.2.1.name = "<init>" → Z C.2.2.2.2.1 → yw C D A maxL (yq C D A post mc ms) 0 0 ws 0 (lv_args 0 av) []) : yMet l D t Z y bytes maxL rm av ws sz post mc ms := by
  refine Met.ofW (cc := bytes) (maxL := maxL) (ret := none) hy rfl ?_
  intro p e s m args below meth c s₁ B hml hv
  obtain ⟨rfl, hsz, hP, hK, hD0, hZ⟩ := hv
  subst hsz
  have hts := atoms_spec (ws := Cond.code y bytes maxL none :: TB) B.pre
  have hD := hD0.self (sz := s.heap.size)
  have h := body (p, l, e, rm, s, m, av.toArray, below, meth, c) (va_A ws s.heap.size) rfl ⟨B.exec, B.bytes, hml, by rw [← hown]; exact findClass_of_methodNamed B.named, fun w h => hts w (List.mem_cons_of_mem _ h), hK, fun q h => Or.inr h, B.notSynchronized, B.returns, rfl⟩ ((name_of_methodNamed B.named B.method).1.trans hnm) hZ
  rw [lg_entry_eq]
  exact h s.heap [] _ hP hD va_S.rf (lv_entry av hlen)
section YR
variable {C : xT} {D : va_G} {A : Nat → Prop} {t : y3} {own : String} {cc : ByteArray} {nL : Nat} {ret : Option FieldType} {rm : Room} {Q : State → Prop} {ce sl : Nat} {ws : va_W} {pc pc' : Nat} {lv lv' : List (Nat × Value)} {st : List Value}
theorem yr_iconst {n : Int} (v : Int32) (hC : yc C D A t own cc nL ret rm) (hd : decode cc pc = .ok (.iconst n, 1)) (hn : pc + 1 = pc') (hv : Int32.ofInt n = v) (k : yw C D A nL Q ce sl ws pc' lv (.int v :: st)) : yw C D A nL Q ce sl ws pc lv st := by
  obtain ⟨p, l, e, R, s, m, args, below, meth, c⟩ := C
  obtain ⟨hx, hb, hml, hown, hts, hK, hA, hlk, hr, hR⟩ := hC
  subst hn
  intro H locs ls h1 hD h2 h3
  exact lv_iconst hx hb hd hv (k H locs ls h1 hD h2 h3)
theorem yr_bipush {n : Int} (v : Int32) (hC : yc C D A t own cc nL ret rm) (hd : decode cc pc = .ok (.bipush n, 2)) (hn : pc + 2 = pc') (hv : (Int8.ofInt n).toInt32 = v) (k : yw C D A nL Q ce sl ws pc' lv (.int v :: st)) : yw C D A nL Q ce sl ws pc lv st := by
  obtain ⟨p, l, e, R, s, m, args, below, meth, c⟩ := C
  obtain ⟨hx, hb, hml, hown, hts, hK, hA, hlk, hr, hR⟩ := hC
  subst hn
  intro H locs ls h1 hD h2 h3
  exact lv_bipush hx hb hd hv (k H locs ls h1 hD h2 h3)
theorem yr_sipush {n : Int} (v : Int32) (hC : yc C D A t own cc nL ret rm) (hd : decode cc pc = .ok (.sipush n, 3)) (hn : pc + 3 = pc') (hv : (Int16.ofInt n).toInt32 = v) (k : yw C D A nL Q ce sl ws pc' lv (.int v :: st)) : yw C D A nL Q ce sl ws pc lv st := by
  obtain ⟨p, l, e, R, s, m, args, below, meth, c⟩ := C
  obtain ⟨hx, hb, hml, hown, hts, hK, hA, hlk, hr, hR⟩ := hC
  subst hn
  intro H locs ls h1 hD h2 h3
  exact lv_sipush hx hb hd hv (k H locs ls h1 hD h2 h3)
theorem yr_aload_n {f : Fin 4} (q : Nat) {i : Nat} {x : Nat} (hC : yc C D A t own cc nL ret rm) (hd : decode cc pc = .ok (.aload_n f, 1)) (hn : pc + 1 = pc') (hi : (f : Nat) = i) (hl : lv[q]? = some (i, .ref x)) (k : yw C D A nL Q ce sl ws pc' lv (.ref x :: st)) : yw C D A nL Q ce sl ws pc lv st := by
  obtain ⟨p, l, e, R, s, m, args, below, meth, c⟩ := C
  obtain ⟨hx, hb, hml, hown, hts, hK, hA, hlk, hr, hR⟩ := hC
  subst hn
  intro H locs ls h1 hD h2 h3
  exact lv_aload_n hx hb hd hi (lv_at h3 q hl) (k H locs ls h1 hD h2 h3)
theorem yr_dup {va : Value} (hC : yc C D A t own cc nL ret rm) (hd : decode cc pc = .ok (.dup, 1)) (hn : pc + 1 = pc') (hv : va.category = 1) (k : yw C D A nL Q ce sl ws pc' lv (va :: va :: st)) : yw C D A nL Q ce sl ws pc lv (va :: st) := by
  obtain ⟨p, l, e, R, s, m, args, below, meth, c⟩ := C
  obtain ⟨hx, hb, hml, hown, hts, hK, hA, hlk, hr, hR⟩ := hC
  subst hn
  intro H locs ls h1 hD h2 h3
  exact lv_dup hx hb hd hv (k H locs ls h1 hD h2 h3)
theorem yr_astore_n {f : Fin 4} {i : Nat} {x : Nat} (hC : yc C D A t own cc nL ret rm) (hd : decode cc pc = .ok (.astore_n f, 1)) (hn : pc + 1 = pc') (hi : (f : Nat) = i) (hb0 : i < nL) (ks : List Nat) (hl : lv_pick ((i, Value.ref x) :: lv.filter (fun q => !(q.1 == i) && !(q.1 + 1 == i && q.2.category == 2))) ks = lv') (k : yw C D A nL Q ce sl ws pc' lv' st) : yw C D A nL Q ce sl ws pc lv (.ref x :: st) := by
  obtain ⟨p, l, e, R, s, m, args, below, meth, c⟩ := C
  obtain ⟨hx, hb, hml, hown, hts, hK, hA, hlk, hr, hR⟩ := hC
  subst hn
  intro H locs ls h1 hD h2 h3
  exact lv_astore_n hx hb hd hi h3 hb0 rfl (fun ls h3 => k H locs ls h1 hD h2 (lv_sub h3 ks hl))
theorem yr_obj {idx : Nat} {x : Nat} (hC : yc C D A t own cc nL ret rm) (hd : decode cc pc = .ok (.invokespecial idx, 3)) (hn : pc + 3 = pc') (hL : Cond.methodLink own idx Lib.objectInit ∈ TB) (hfr : 1 ≤ rm.frames) (hlo : (st.map fun v => v.category).sum + 12 ≤ rm.locals) (k : yw C D A nL Q ce sl ws pc' lv st) : yw C D A nL Q ce sl ws pc lv (.ref x :: st) := by
  obtain ⟨p, l, e, R, s, m, args, below, meth, c⟩ := C
  obtain ⟨hx, hb, hml, hown, hts, hK, hA, hlk, hr, hR⟩ := hC
  subst hn
  intro H locs ls h1 hD h2 h3
  dsimp only at hR
  subst hR
  exact W.objInit hx hb hown (hts _ hL) (hts _ (TB_of (i := 84) (by decide +kernel) rfl)) (hts _ (TB_of (i := 85) (by decide +kernel) rfl)) rfl (h3.1.trans hml.symm) rfl hd hfr (by show 2 * 0 + _ + 12 ≤ R.locals; omega) (k H locs ls h1 hD h2 h3)
theorem yr_newa {atype : ArrayType} {ty : FieldType} {n : Int32} {cA : ClassId} (N t0 : Nat) (hC : yc C D A t own cc nL ret rm) (hd : decode cc pc = .ok (.newarray atype, 2)) (hn : pc + 2 = pc') (hty : newarray.typeOf atype = ty) (hT : (yT t)[t0]? = some (cA, ty)) (hp : ty = .int ∨ ty = .boolean ∨ ty = .char) (hw : Cond.arrayClass ty ∈ TB) (hnn : ¬ n < 0) (hN : n.toNatClampNeg = N) (hbytes : N * componentBytes ty ≤ 536870912) (hce : ce + 1 ≤ rm.cells) (hsl : sl + N ≤ rm.slots) (k : ∀ q : Nat, yw C D A nL Q (ce + 1) (sl + N) (ws ++ [(q, .inl (cA, N, .inl (fun _ => 0)))]) pc' lv (.ref q :: st)) : yw C D A nL Q ce sl ws pc lv (.int n :: st) := by
  obtain ⟨p, l, e, R, s, m, args, below, meth, c⟩ := C
  obtain ⟨hx, hb, hml, hown, hts, hK, hA, hlk, hr, hR⟩ := hC
  subst hn
  intro H locs ls h1 hD h2 h3
  dsimp only at hR
  subst hR; subst hty
  refine va_newa (a0 := (N, .inl (fun _ => 0))) hx hb (hts _ hw) rfl hK h1 hD h2 hA (fun cA => by rw [vp_cell_i]; rcases hp with e | e | e <;> rw [e] <;> rfl) hnn hN hbytes hce hsl hd (fun q cA' H1 gK gP gD gS => ?_)
  have e1 := (hK.2 t0 _ hT).2
  have e2 := (gK.2 (yT t).length (cA', newarray.typeOf atype) (by simp)).2
  have e3 : cA' = cA := by
    rcases hp with e | e | e <;> rw [e] at e1 e2 <;> exact Option.some.inj (e2.symm.trans e1)
  subst e3
  exact k q H1 locs ls gP gD gS h3
theorem yr_putF {idx : Nat} {T : u_T} {N ci : Nat} {Cn : String} {a : Nat} {fs : List Value} {ty : FieldType} {x : Nat} {ws' : va_W} (q0 kf : Nat) (hC : yc C D A t own cc nL ret rm) (hd : decode cc pc = .ok (.putfield idx, 3)) (hn : pc + 3 = pc') (hin2 : C.2.2.2.2.2.2.2.2.1.name = "<init>") (he : ws[q0]? = some (a, .inr (ci, fs))) (hc : xCl[ci]? = some (Cn, T, N)) (hin : ∀ w ∈ u_ws Cn T N, w ∈ TB) (ty0 : Nat → FieldType) (hty : ∀ k, k < N → parseFieldDescriptor (T k).2.2.1 = some (ty0 k)) (hnm : ∀ a, a < N → ∀ b, b < N → a ≠ b → (T a).2.1 ≠ (T b).2.1) (hk : kf < N) (hlink : Cond.fieldLink own idx (T kf).1 (T kf).2.1 (T kf).2.2.1 ∈ TB) (hfin : (T kf).2.2.2 = true) (hdecl : (T kf).1 = own) (hdd : parseFieldDescriptor (T kf).2.2.1 = some ty) (hna : narrow ty (.ref x) = .ref x) (hfit : fits ty (.ref x) = true) (hlen : kf < fs.length) (hw : ws.set q0 (a, .inr (ci, fs.set kf (.ref x))) = ws') (k : yw C D A nL Q ce sl ws' pc' lv st) : yw C D A nL Q ce sl ws pc lv (.ref x :: .ref a :: st) := by
  obtain ⟨p, l, e, R, s, m, args, below, meth, c⟩ := C
  obtain ⟨hx, hb, hml, hown, hts, hK, hA, hlk, hr, hR⟩ := hC
  subst hn
  intro H locs ls h1 hD h2 h3
  subst hw
  exact va_putF (C := Cn) (T := T) (N := N) hx hb hts hin ty0 hty hnm hown hK h1 hD h2 q0 he hc kf hk (hts _ hlink) (fun _ h9 => h9) hfin hin2 hdecl hdd hna hfit hlen hd (fun H1 locs1 g1 g2 g3 => k H1 locs1 ls g1 g2 g3 h3)
theorem yr_put {idx : Nat} {T : u_T} {N ci : Nat} {Cn : String} {a : Nat} {fs : List Value} {ty : FieldType} {x : Int32} {ws' : va_W} (q0 kf : Nat) (hC : yc C D A t own cc nL ret rm) (hd : decode cc pc = .ok (.putfield idx, 3)) (hn : pc + 3 = pc') (he : ws[q0]? = some (a, .inr (ci, fs))) (hc : xCl[ci]? = some (Cn, T, N)) (hin : ∀ w ∈ u_ws Cn T N, w ∈ TB) (ty0 : Nat → FieldType) (hty : ∀ k, k < N → parseFieldDescriptor (T k).2.2.1 = some (ty0 k)) (hnm : ∀ a, a < N → ∀ b, b < N → a ≠ b → (T a).2.1 ≠ (T b).2.1) (hk : kf < N) (hlink : Cond.fieldLink own idx (T kf).1 (T kf).2.1 (T kf).2.2.1 ∈ TB) (hfin : (T kf).2.2.2 = false) (hdd : parseFieldDescriptor (T kf).2.2.1 = some ty) (hna : narrow ty (.int x) = .int x) (hfit : fits ty (.int x) = true) (hlen : kf < fs.length) (hw : ws.set q0 (a, .inr (ci, fs.set kf (.int x))) = ws') (k : yw C D A nL Q ce sl ws' pc' lv st) : yw C D A nL Q ce sl ws pc lv (.int x :: .ref a :: st) := by
  obtain ⟨p, l, e, R, s, m, args, below, meth, c⟩ := C
  obtain ⟨hx, hb, hml, hown, hts, hK, hA, hlk, hr, hR⟩ := hC
  subst hn
  intro H locs ls h1 hD h2 h3
  subst hw
  exact va_put (C := Cn) (T := T) (N := N) hx hb hts hin ty0 hty hnm hown hK h1 hD h2 q0 he hc kf hk (hts _ hlink) (fun _ h9 => h9) hfin hdd hna hfit hlen hd (fun H1 locs1 g1 g2 g3 => k H1 locs1 ls g1 g2 g3 h3)
theorem yr_get {idx : Nat} {T : u_T} {N ci : Nat} {Cn : String} {a : Nat} {fs : List Value} (v : Value) (q0 kf : Nat) (hC : yc C D A t own cc nL ret rm) (hd : decode cc pc = .ok (.getfield idx, 3)) (hn : pc + 3 = pc') (he : ws[q0]? = some (a, .inr (ci, fs))) (hc : xCl[ci]? = some (Cn, T, N)) (hin : ∀ w ∈ u_ws Cn T N, w ∈ TB) (hk : kf < N) (hlink : Cond.fieldLink own idx (T kf).1 (T kf).2.1 (T kf).2.2.1 ∈ TB) (hv : fs[kf]? = some v) (k : yw C D A nL Q ce sl ws pc' lv (v :: st)) : yw C D A nL Q ce sl ws pc lv (.ref a :: st) := by
  obtain ⟨p, l, e, R, s, m, args, below, meth, c⟩ := C
  obtain ⟨hx, hb, hml, hown, hts, hK, hA, hlk, hr, hR⟩ := hC
  subst hn
  intro H locs ls h1 hD h2 h3
  exact va_get (C := Cn) (T := T) (N := N) hx hb hts hin hown hK h1 q0 he hc kf hk (hts _ hlink) (fun _ h9 => h9) hv hd (k H locs ls h1 hD h2 h3)
theorem yr_new {idx : Nat} {T : u_T} {N ci : Nat} {Cn : String} {fs : List Value} (ty : Nat → FieldType) (hC : yc C D A t own cc nL ret rm) (hd : decode cc pc = .ok (.new idx, 3)) (hn : pc + 3 = pc') (hc : xCl[ci]? = some (Cn, T, N)) (hin : ∀ w ∈ u_ws Cn T N, w ∈ TB) (hty : ∀ k, k < N → parseFieldDescriptor (T k).2.2.1 = some (ty k)) (hcl : Cond.classLink own idx Cn ∈ TB) (hinst : Cond.instantiable Cn N ∈ TB) (hini : Cond.initialized Cn ∈ TB) (hfs : ∀ j, j < N → defaultValue (ty j) = vp_V fs j) (hce : ce + 1 ≤ rm.cells) (hsl : sl + N ≤ rm.slots) (k : ∀ q : Nat, yw C D A nL Q (ce + 1) (sl + N) (ws ++ [(q, .inr (ci, fs))]) pc' lv (.ref q :: st)) : yw C D A nL Q ce sl ws pc lv st := by
  obtain ⟨p, l, e, R, s, m, args, below, meth, c⟩ := C
  obtain ⟨hx, hb, hml, hown, hts, hK, hA, hlk, hr, hR⟩ := hC
  subst hn
  intro H locs ls h1 hD h2 h3
  dsimp only at hR
  subst hR
  exact va_new (C := Cn) (T := T) (N := N) hx hb hts hin ty hty hown (hts _ hcl) (hts _ hinst) (hts _ hini) hK h1 hD h2 hA hc hfs hce hsl hd (fun q H1 g1 g2 g3 => k q H1 locs ls g1 g2 g3 h3)
theorem yr_cast {cA : ClassId} {n : Nat} {f g : Nat → Int32} {a : Nat} {i x : Int32} {ws' : va_W} (q0 : Nat) (hC : yc C D A t own cc nL ret rm) (hd : decode cc pc = .ok (.castore, 1)) (hn : pc + 1 = pc') (ha : ws[q0]? = some (a, .inl (cA, n, .inl f))) (hT : (yT t)[2]? = some (cA, .char)) (hi : vp_in i n) (hg : upd f i.toNatClampNeg (vp_nar .char x) = g) (hw : ws.set q0 (a, .inl (cA, n, .inl g)) = ws') (k : yw C D A nL Q ce sl ws' pc' lv st) : yw C D A nL Q ce sl ws pc lv (.int x :: .int i :: .ref a :: st) := by
  obtain ⟨p, l, e, R, s, m, args, below, meth, c⟩ := C
  obtain ⟨hx, hb, hml, hown, hts, hK, hA, hlk, hr, hR⟩ := hC
  subst hn
  intro H locs ls h1 hD h2 h3
  subst hg; subst hw
  exact va_cast hx hb hK h1 hD h2 q0 2 ha hT hi hd (fun H1 locs1 g1 g2 g3 => k H1 locs1 ls g1 g2 g3 h3)
theorem yr_return {post : va_W → Prop} {mc ms : Nat} (hC : yc C D A t own cc nL none rm) (hd : decode cc pc = .ok (.return_, 1)) (hp : post ws) : yw C D A nL (yq C D A post mc ms) mc ms ws pc lv [] := by
  obtain ⟨p, l, e, R, s, m, args, below, meth, c⟩ := C
  obtain ⟨hx, hb, hml, hown, hts, hK, hA, hlk, hr, hR⟩ := hC
  intro H locs ls h1 hD h2 h3
  exact W.vret hx hb hr (fun t ht hW => ⟨rfl, ⟨ws, hp, by rw [ht]; exact h1, hD⟩, h2.F ht⟩) h2.2.2 hd hlk
theorem y_join {A0 : Nat → Prop} {cl : List vw_C} {wr wc w1 : va_W} {H H1 : Heap} (hP : va_P D cl (wr ++ wc) H) (hD : va_D A0 (wr ++ wc)) (hk : ∀ q : Nat, q < H.size → ¬ va_A wc H.size q → H1[q]? = H[q]?) (hF : ∀ q, va_A wc H.size q → A0 q) (hP1 : va_P D cl w1 H1) (hD1 : va_D (va_A wc H.size) w1) : va_P D cl (wr ++ w1) H1 ∧ va_D A0 (wr ++ w1) := by
  have at' : ∀ (k : Nat) (q : Nat × va_E), wr[k]? = some q → (wr ++ wc)[k]? = some q := fun k q h => by rw [List.getElem?_append_left (List.getElem?_eq_some_iff.mp h).1]; exact h
  have ac' : ∀ (k : Nat) (q : Nat × va_E), wc[k]? = some q → (wr ++ wc)[wr.length + k]? = some q := fun k q h => by rw [List.getElem?_append_right (by omega)]; rw [Nat.add_sub_cancel_left]; exact h
  have apart : ∀ (k : Nat) (q : Nat × va_E), wr[k]? = some q → q.1 < H.size ∧ ¬ va_A wc H.size q.1 := by
    intro k q hq
    have hl := (hP k q (at' k q hq)).lt
    refine ⟨hl, fun h => ?_⟩
    rcases h with ⟨k2, e, h⟩ | h
    · have hij := hD.1 k (wr.length + k2) q (q.1, e) (at' k q hq) (ac' k2 _ h) rfl
      have := (List.getElem?_eq_some_iff.mp hq).1
      omega
    · omega
  refine ⟨va_P.app (fun k q hq => ?_) hP1, va_D.app ⟨fun i j p q hi hj e => hD.1 i j p q (at' i p hi) (at' j q hj) e, fun k q hq => hD.2 k q (at' k q hq)⟩ (hD1.weaken (fun k q _ h => hF q.1 h)) (fun i j x y hx hy hxy => ?_)⟩
  · obtain ⟨g1, g2⟩ := apart k q hq
    exact (hP k q (at' k q hq)).kept (hk q.1 g1 g2)
  · exact (apart i x hx).2 (by rw [hxy]; exact hD1.2 j y hy)
end YR
section YC
variable {p : Program} {l : Launch} {e : Env} {R : Room} {s : State} {m : MethodId} {args : Array Value} {below : List Frame} {meth : Method} {c : Code} {H : Heap} {locs : List Loc} {Q : State → Prop} {D : va_G} {A : Nat → Prop} {pc ce sl mc ms : Nat} {ls : Array Slot} {stk st : List Value}
theorem y_run {wr wc : va_W} {post : va_W → Prop} {a : Array Value} (hr : va_Run p l e R s m args below meth c H locs ce sl mc ms (F0 m pc ls stk) st (yQ D (va_A wc H.size) post a) (va_A wc H.size)) (hP : va_P D xCl (wr ++ wc) H) (hD : va_D A (wr ++ wc)) (hS : va_S A s.heap H locs) (hA : ∀ q : Nat, s.heap.size ≤ q → A q)
    (k : ∀ (w1 : va_W) (H1 : Heap) (locs1 : List Loc), post w1 → va_P D xCl (wr ++ w1) H1 → va_D A (wr ++ w1) → va_S A s.heap H1 locs1 → W p l e R s m args below meth c H1 locs1 (ce + mc) (sl + ms) Q (F0 m (pc + 3) ls st)) : W p l e R s m args below meth c H locs ce sl Q (F0 m pc ls stk) := by
  have hF : ∀ q, va_A wc H.size q → A q := by
    intro q h
    rcases h with ⟨j, e, h⟩ | h
    · exact hD.2 (wr.length + j) (q, e) (by rw [List.getElem?_append_right (by omega), Nat.add_sub_cancel_left]; exact h)
    · exact hA q (Nat.le_trans hS.1 h)
  intro T hT X
  obtain ⟨v, st₀, t, T', L, h0, X', hL, e1, e2, ⟨hv, ⟨w1, hp, gP, gD⟩, hz, hk⟩, sg⟩ := hr T hT X
  cases hv
  rw [h0] at hz hk
  obtain ⟨j1, j2⟩ := y_join hP hD hk hF gP gD
  obtain ⟨t2, a1, b1⟩ := k w1 T'.heap (locs ++ L) hp (by rw [e1]; exact j1) j2
    ⟨Nat.le_trans hS.1 (by rw [e1]; exact hz), fun q h1 h2 => by rw [e1, hk q (Nat.lt_of_lt_of_le h1 hS.1) (fun z => h2 (hF q z))]; exact hS.2.1 q h1 h2, fun q hq => by
      rcases List.mem_append.mp hq with h | h
      · exact hS.2.2 q h
      · exact hF _ (hL q h)⟩ T' rfl X'
  exact ⟨t2, sg t2 a1, b1⟩
end YC
section YI
variable {C : xT} {D : va_G} {A : Nat → Prop} {t : y3} {own : String} {cc : ByteArray} {nL : Nat} {ret : Option FieldType} {rm : Room} {Q : State → Prop} {ce sl : Nat} {ws : va_W} {pc pc' : Nat} {lv lv' : List (Nat × Value)} {st stk : List Value}
/-- a maker is called on the newest cell -/
theorem yr_init {Z : State → Prop} {idx : Nat} {y : MethodName} {bytes : ByteArray} {maxL n mc ms : Nat} {rmy : Room} {b : Nat} {e0 : va_E} {post : va_W → Prop} (wr : va_W) (As : List Value) (hC : yc C D A t own cc nL ret rm) (hd : decode cc pc = .ok (.invokespecial idx, 3)) (hn : pc + 3 = pc')
    (hy : y.name = "<init>" ∧ y.cls ≠ "java/lang/invoke/MethodHandle" ∧ y.cls ≠ "java/lang/invoke/VarHandle" ∧ (parseMethodDescriptor y.desc).map (fun d => d.parameters.length) = some n) (w1 : Cond.code y bytes maxL none ∈ TB) (w2 : Cond.methodLink own idx y ∈ TB ∨ ∃ host, va_Nw (.methodLinkNest own idx y host) C.2.2.2.2.1) (w3 : Cond.instanceMethod y ∈ TB) (w4 : Cond.initialized y.cls ∈ TB)
    (hZ : Z C.2.2.2.2.1) (hZ1 : ∀ s U : State, Z s → U.vm = s.vm → Z U) (hZ2 : ∀ s U : State, Z s → s.WarmedH U.vm → Z U) (hws : ws = wr ++ [(b, e0)]) (hlen : As.length = n) (hrc : rmy.cells = mc) (hrs : rmy.slots = ms) (hroom : rmy.frames + 1 ≤ rm.frames ∧ 8 + (maxL + 11) + rmy.locals ≤ rm.locals) (hce : ce + mc ≤ rm.cells) (hsl : sl + ms ≤ rm.slots) (hst : stk = As.reverse ++ .ref b :: st) (hcat : (st.map fun v => v.category).sum ≤ 8)
    (hM : ∀ sz : Nat, yMet C.2.1 D t Z y bytes maxL rmy (.ref b :: As) [(b, e0)] sz post mc ms) (k : ∀ w1 : va_W, post w1 → yw C D A nL Q (ce + mc) (sl + ms) (wr ++ w1) pc' lv st) : yw C D A nL Q ce sl ws pc lv stk := by
  obtain ⟨p, l, e, R, s, m, args, below, meth, c⟩ := C
  obtain ⟨hx, hb, hml, hown, hts, hK, hA, hlk, hr, hR⟩ := hC
  dsimp only at hR
  subst hn; subst hR; subst hst; subst hws
  intro H locs ls h1 hD h2 h3
  have hPc : va_P D xCl [(b, e0)] H := fun k q hq => h1 (wr.length + k) q (by rw [List.getElem?_append_right (by omega), Nat.add_sub_cancel_left]; exact hq)
  have hDc : va_D (fun _ => True) [(b, e0)] := ⟨fun i j x z hi hj _ => by
    have a1 := (List.getElem?_eq_some_iff.mp hi).1
    have a2 := (List.getElem?_eq_some_iff.mp hj).1
    simp only [List.length_singleton] at a1 a2
    omega, fun _ _ _ => trivial⟩
  have hpre : PreS s H (yP D t Z (.ref b :: As) [(b, e0)] H.size) (.ref b :: As) := by
    refine ⟨fun a U g mk q => ?_, fun U hU hW => ⟨rfl, by rw [hU], by rw [hU]; exact hPc, va_K.moved hW.alike hK, hDc, hZ2 s U hZ hW⟩⟩
    obtain ⟨q0, q1, qP, qK, qD, qZ⟩ := q
    exact ⟨q0, q1, qP, va_K.moved (u := U) (U := U.calling g mk a) (Vm.Alike.refl U.vm) qK, qD, hZ1 U _ qZ rfl⟩
  rcases w2 with w2 | ⟨host, w2⟩
  · refine y_run (va_runI (As := As) (rest := st) (cc := cc) (nL := nL) ⟨hx, hb, hml, hown, hts⟩ (hM H.size) ⟨callB_of n hts (TB_in w1) rfl hrc hrs (hts _ w4) (hts _ w2) hy.2 hroom, hy.1, hts _ w3⟩ hpre rfl hlen h3.1 rfl (lv_room hcat) hd ⟨hce, hsl⟩) h1 hD h2 hA (fun w1 H1 locs1 g0 g1 g2 g3 => k w1 g0 H1 locs1 ls g1 g2 g3 h3)
  · refine y_run (va_runIN (As := As) (rest := st) (cc := cc) (nL := nL) ⟨hx, hb, hml, hown, hts⟩ (hM H.size) ⟨va_cnB n hts (TB_in w1) rfl hrc hrs w2 (hts _ w4) hy.2 hroom, hy.1, hts _ w3⟩ hpre rfl hlen h3.1 rfl (lv_room hcat) hd ⟨hce, hsl⟩) h1 hD h2 hA (fun w1 H1 locs1 g0 g1 g2 g3 => k w1 g0 H1 locs1 ls g1 g2 g3 h3)
end YI
