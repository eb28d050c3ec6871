/-! ===== the makers: worlds that grow ===== -/
theorem vm_re_id (v : Value) : vm_re id v = v := by cases v <;> rfl
theorem vm_map_id (vs : List Value) : vs.map (vm_re id) = vs := by
  have : vs.map (vm_re id) = vs.map id := List.map_congr_left (fun v _ => vm_re_id v)
  rw [this, List.map_id]
def nm_rm (D mc ms : Nat) : Room := { frames := D, cells := mc, slots := ms, locals := 64 * D }
def nm_K (G : va_G) (tc : ClassId × ClassId × ClassId) (U : State) : Prop := va_K G classes (vm_tys tc) U ∧ ∀ w ∈ vm_nt, va_Nw w U
theorem nm_K.warm {G : va_G} {tc : ClassId × ClassId × ClassId} {s U : State} (hW : s.WarmedH U.vm) (h : nm_K G tc s) : nm_K G tc U := ⟨va_K.moved hW.alike h.1, fun w hw => vm_Nw_warm hW hw (h.2 w hw)⟩
theorem nm_K.same {G : va_G} {tc : ClassId × ClassId × ClassId} {s U : State} (hv : U.vm = s.vm) (h : nm_K G tc s) : nm_K G tc U := by
  have ha : s.vm.Alike U.vm := by rw [hv]; exact Vm.Alike.refl _
  refine ⟨va_K.moved ha h.1, fun w hw => ?_⟩
  have h5 := h.2 w hw
  have h6 := (List.mem_filter.mp hw).2
  have ho : w.onTables = true := by cases w <;> first | rfl | (simp [vm_isN] at h6)
  exact va_Nw.same ho hv.symm h5
def nm_P (G : va_G) (tc : ClassId × ClassId × ClassId) (sz : Nat) (as : List Value) (ws : va_W) : Array Value → State → Prop := fun v U => v = as.toArray ∧ U.heap.size = sz ∧ va_P G classes ws U.heap ∧ va_D (fun _ => True) ws ∧ nm_K G tc U
def nm_Q (G : va_G) (A : Nat → Prop) (Q : va_W → Prop) : Array Value → State → Outcome → State → Prop := fun _ st o t => (∃ ws' : va_W, o = .returned none ∧ Q ws' ∧ va_P G classes ws' t.heap ∧ va_D A ws') ∧ va_F A st t
theorem nm_blind {G : va_G} {tc : ClassId × ClassId × ClassId} {sz : Nat} {as : List Value} {ws : va_W} : FrameBlind (nm_P G tc sz as ws) := by
  intro a U g mk ⟨h1, h2, h3, h4, h5⟩
  exact ⟨h1, h2, h3, h4, nm_K.same (s := U) rfl h5⟩
/-- maker M, called with as in ws, comes back with Q; mc new cells of ms fields -/
def NOk (l : Launch) (G : va_G) (tc : ClassId × ClassId × ClassId) (D mc ms : Nat) (M : MI) (as : List Value) (ws : va_W) (Q : va_W → Prop) : Prop := ∀ sz : Nat, Met l M.1 (vm_ws M) (nm_rm D mc ms) (nm_P G tc sz as ws) (nm_Q G (va_A ws sz) Q) mc ms (va_A ws sz)
def nm_C (G : va_G) (tc : ClassId × ClassId × ClassId) (p : Program) (s : State) (m : MethodId) (args : Array Value) (meth : Method) (c : Code) (M : MI) : Prop :=
  p.tables.exec = Jvm.exec ∧ c.code = M.2.1 ∧ meth.sig.returnType = M.2.2.2 ∧ c.maxLocals = M.2.2.1 ∧ s.vm.findClass M.1.cls = some m.cls ∧ (∀ w ∈ vm_gd, w.before args s = true) ∧ meth.locks = false ∧ meth.name = "<init>" ∧ nm_K G tc s
def NV (l : Launch) (G : va_G) (tc : ClassId × ClassId × ClassId) (M : MI) (D mc ms pc : Nat) (lv : List (Option Value)) (st : List Value) (ws : va_W) (kc ks : Nat) (Q : va_W → Prop) : Prop :=
  ∀ (p : Program) (e : Env) (s : State) (m : MethodId) (args : Array Value) (below : List Frame) (meth : Method) (c : Code) (A : Nat → Prop), nm_C G tc p s m args meth c M → (∀ q, s.heap.size ≤ q → A q) → ∀ (ls : Array Slot) (H : Heap) (locs : List Loc), vm_LH id ls M.2.2.1 lv → va_P G classes ws H → va_D A ws → va_S A s.heap H locs →
    W p l e (nm_rm D mc ms) s m args below meth c H locs kc ks (MQ below (nm_Q G A Q) args s mc ms A) (F0 m pc ls st)
section NR
variable {l : Launch} {G : va_G} {tc : ClassId × ClassId × ClassId} {M : MI} {D mc ms pc pc' kc ks : Nat} {lv : List (Option Value)} {st : List Value} {ws : va_W} {Q : va_W → Prop}
theorem n_enter {as : List Value} (hy : plainName M.1.cls = true) (hin : M.1.name = "<init>") (hlen : (vm_arg as).length ≤ M.2.2.1) (h : NV l G tc M D mc ms 0 (vm_arg as ++ List.replicate (M.2.2.1 - (vm_arg as).length) none) [] ws 0 0 Q) : NOk l G tc D mc ms M as ws Q := by
  intro sz
  refine Met.ofW (cc := M.2.1) (maxL := M.2.2.1) (ret := M.2.2.2) hy rfl ?_
  intro p e s m args below meth c s₁ B hml hv
  obtain ⟨rfl, hsz, hP, hD, hK⟩ := hv
  subst hsz
  have hts := atoms_spec (ws := vm_ws M) B.pre
  have hown : s.vm.findClass M.1.cls = some m.cls := findClass_of_methodNamed B.named
  have hnm : meth.name = "<init>" := (name_of_methodNamed B.named B.method).1.trans hin
  have hl := lv_entry (as.map (vm_re id)) (n := M.2.2.1) (by rw [vm_sl_len]; exact hlen)
  rw [vm_map_id] at hl
  rw [lg_entry_eq]
  refine h p e s m _ below meth c (va_A ws s.heap.size) ⟨B.exec, B.bytes, B.returns, hml, hown, fun w hw => hts w (List.mem_cons_of_mem _ hw), B.notSynchronized, hnm, hK⟩ (fun q hq => Or.inr hq) _ s.heap [] ⟨hl.1, hl.2.1, fun i v hi => ?_⟩ hP hD.self va_S.rf
  have hi2 : (vm_arg as)[i]? = some (some v) := by
    rw [List.getElem?_append] at hi
    split at hi
    · exact hi
    · rw [List.getElem?_replicate] at hi
      split at hi
      · cases hi
      · cases hi
  have h2 := vm_arg_in id as 0 i v hi2
  rw [vm_map_id] at h2
  have h3 := hl.2.2 (0 + i, vm_re id v) h2
  rw [Nat.zero_add] at h3
  exact h3
theorem n_aload {j : Fin 4} {i x : Nat} (hd : vm_at M.2.1 pc (.aload_n j) 1 pc' ∧ (j : Nat) = i) (hv : lv[i]? = some (some (.ref x))) (k : NV l G tc M D mc ms pc' lv (.ref x :: st) ws kc ks Q) : NV l G tc M D mc ms pc lv st ws kc ks Q := by
  obtain ⟨⟨hd, rfl⟩, hj⟩ := hd
  intro p e s m args below meth c A C hA ls H locs hl hP hD hS
  exact lv_aload_n C.1 C.2.1 hd hj (hl.2.2 i _ hv) (k p e s m args below meth c A C hA ls H locs hl hP hD hS)
theorem n_iconst {n : Int} {z : Int32} (hd : vm_at M.2.1 pc (.iconst n) 1 pc' ∧ Int32.ofInt n = z) (k : NV l G tc M D mc ms pc' lv (.int z :: st) ws kc ks Q) : NV l G tc M D mc ms pc lv st ws kc ks Q := by
  obtain ⟨⟨hd, rfl⟩, hz⟩ := hd
  intro p e s m args below meth c A C hA ls H locs hl hP hD hS
  exact lv_iconst C.1 C.2.1 hd hz (k p e s m args below meth c A C hA ls H locs hl hP hD hS)
theorem n_bipush {n : Int} {z : Int32} (hd : vm_at M.2.1 pc (.bipush n) 2 pc' ∧ (Int8.ofInt n).toInt32 = z) (k : NV l G tc M D mc ms pc' lv (.int z :: st) ws kc ks Q) : NV l G tc M D mc ms pc lv st ws kc ks Q := by
  obtain ⟨⟨hd, rfl⟩, hz⟩ := hd
  intro p e s m args below meth c A C hA ls H locs hl hP hD hS
  exact lv_bipush C.1 C.2.1 hd hz (k p e s m args below meth c A C hA ls H locs hl hP hD hS)
theorem n_sipush {n : Int} {z : Int32} (hd : vm_at M.2.1 pc (.sipush n) 3 pc' ∧ (Int16.ofInt n).toInt32 = z) (k : NV l G tc M D mc ms pc' lv (.int z :: st) ws kc ks Q) : NV l G tc M D mc ms pc lv st ws kc ks Q := by
  obtain ⟨⟨hd, rfl⟩, hz⟩ := hd
  intro p e s m args below meth c A C hA ls H locs hl hP hD hS
  exact lv_sipush C.1 C.2.1 hd hz (k p e s m args below meth c A C hA ls H locs hl hP hD hS)
theorem n_ldc {ix : Nat} {z : Int32} (hd : vm_at M.2.1 pc (.ldc ix) 2 pc') (hw : Cond.constant M.1.cls ix z ∈ lw_tbl) (k : NV l G tc M D mc ms pc' lv (.int z :: st) ws kc ks Q) : NV l G tc M D mc ms pc lv st ws kc ks Q := by
  obtain ⟨hd, rfl⟩ := hd
  intro p e s m args below meth c A C hA ls H locs hl hP hD hS
  exact lv_ldc C.1 C.2.1 C.2.2.2.2.1 (C.2.2.2.2.2.1 _ (vm_gd_in hw rfl)) hd (k p e s m args below meth c A C hA ls H locs hl hP hD hS)
theorem n_dup {x : Nat} (hd : vm_at M.2.1 pc .dup 1 pc') (k : NV l G tc M D mc ms pc' lv (.ref x :: .ref x :: st) ws kc ks Q) : NV l G tc M D mc ms pc lv (.ref x :: st) ws kc ks Q := by
  obtain ⟨hd, rfl⟩ := hd
  intro p e s m args below meth c A C hA ls H locs hl hP hD hS
  exact lv_dup C.1 C.2.1 hd rfl (k p e s m args below meth c A C hA ls H locs hl hP hD hS)
theorem n_obj {ix x : Nat} (hd : vm_at M.2.1 pc (.invokespecial ix) 3 pc') (hw : Cond.methodLink M.1.cls ix Lib.objectInit ∈ lw_tbl) (hi : Cond.instanceMethod Lib.objectInit ∈ lw_tbl) (hc : Cond.code Lib.objectInit ⟨#[0xb1]⟩ 1 none ∈ lw_tbl) (hD1 : 1 ≤ D) (hcat : (st.map fun v => v.category).sum ≤ 8) (k : NV l G tc M D mc ms pc' lv st ws kc ks Q) : NV l G tc M D mc ms pc lv (.ref x :: st) ws kc ks Q := by
  obtain ⟨hd, rfl⟩ := hd
  intro p e s m args below meth c A C hA ls H locs hl hP hD hS
  obtain ⟨hx, hb, hr, hml, hown, hts, hlocks, hnm, hK⟩ := id C
  refine W.objInit hx hb hown (hts _ (vm_gd_in hw rfl)) (hts _ (vm_gd_in hi rfl)) (hts _ (vm_gd_in hc rfl)) rfl (by rw [hml]; exact hl.1) rfl hd hD1 ?_ ?_
  · show 2 * 0 + (st.map fun v => v.category).sum + 12 ≤ 64 * D
    omega
  · exact W.eq (g2 := F0 m (pc + 3) ls st) rfl (k p e s m args below meth c A C hA ls H locs hl hP hD hS)
theorem n_getN {pre rest : va_W} {x : Nat × va_E} : (pre ++ x :: rest)[pre.length]? = some x := by
  rw [List.getElem?_append_right (Nat.le_refl _), Nat.sub_self]
  rfl
theorem n_setN {pre rest : va_W} {x y : Nat × va_E} : (pre ++ x :: rest).set pre.length y = pre ++ y :: rest := by
  rw [List.set_append_right _ _ (Nat.le_refl _), Nat.sub_self]
  rfl
theorem n_app {pre rest : va_W} {x z : Nat × va_E} : (pre ++ x :: rest) ++ [z] = pre ++ x :: (rest ++ [z]) := by
  rw [List.append_assoc]
  rfl
theorem n_put {pre rest : va_W} {a ci j ix : Nat} {fs : List Value} {v : Value} {Cn : String} {T : u_T} {N : Nat} {ty : Nat → FieldType} {fty : FieldType} (hd : vm_at M.2.1 pc (.putfield ix) 3 pc') (hcl : vm_clOK ci Cn T N ty) (hj : j < N) (hlk : Cond.fieldLink M.1.cls ix (T j).1 (T j).2.1 (T j).2.2.1 ∈ lw_tbl) (hft : ty j = fty) (hdecl : (T j).1 = M.1.cls) (hn : narrow fty v = v) (hfit : fits fty v = true) (hlen : j < fs.length)
    (k : NV l G tc M D mc ms pc' lv st (pre ++ (a, .inr (ci, fs.set j v)) :: rest) kc ks Q) : NV l G tc M D mc ms pc lv (v :: .ref a :: st) (pre ++ (a, .inr (ci, fs)) :: rest) kc ks Q := by
  obtain ⟨hd, rfl⟩ := hd
  intro p e s m args below meth c A C hA ls H locs hl hP hD hS
  obtain ⟨hx, hb, hr, hml, hown, hts, hlocks, hnm, hK, hNw⟩ := id C
  obtain ⟨hc, hN, hin, hty, hnms⟩ := hcl
  have hpd : parseFieldDescriptor (T j).2.2.1 = some fty := by rw [hty j hj, hft]
  have hg : (pre ++ (a, (.inr (ci, fs) : va_E)) :: rest)[pre.length]? = some (a, .inr (ci, fs)) := n_getN
  have kk : ∀ (H1 : Heap) (locs1 : List Loc), va_P G classes ((pre ++ (a, .inr (ci, fs)) :: rest).set pre.length (a, .inr (ci, fs.set j v))) H1 → va_D A ((pre ++ (a, .inr (ci, fs)) :: rest).set pre.length (a, .inr (ci, fs.set j v))) → va_S A s.heap H1 locs1 → W p l e (nm_rm D mc ms) s m args below meth c H1 locs1 kc ks (MQ below (nm_Q G A Q) args s mc ms A) (F0 m (pc + 3) ls st) := fun H1 locs1 h1 h2 h3 => by
    rw [n_setN] at h1 h2
    exact k p e s m args below meth c A C hA ls H1 locs1 hl h1 h2 h3
  cases hfin : (T j).2.2.2 with
  | true => exact va_putF hx hb hts hin ty hty hnms hown hK hP hD hS pre.length hg hc j hj (hts _ (vm_gd_in hlk rfl)) (fun _ h => h) hfin hnm hdecl hpd hn hfit hlen hd kk
  | false => exact va_put hx hb hts hin ty hty hnms hown hK hP hD hS pre.length hg hc j hj (hts _ (vm_gd_in hlk rfl)) (fun _ h => h) hfin hpd hn hfit hlen hd kk
theorem n_get {pre rest : va_W} {a ci j ix : Nat} {fs : List Value} {v : Value} {Cn : String} {T : u_T} {N : Nat} {ty : Nat → FieldType} (hd : vm_at M.2.1 pc (.getfield ix) 3 pc') (hcl : vm_clOK ci Cn T N ty) (hj : j < N) (hlk : Cond.fieldLink M.1.cls ix (T j).1 (T j).2.1 (T j).2.2.1 ∈ lw_tbl) (hv : fs[j]? = some v)
    (k : NV l G tc M D mc ms pc' lv (v :: st) (pre ++ (a, .inr (ci, fs)) :: rest) kc ks Q) : NV l G tc M D mc ms pc lv (.ref a :: st) (pre ++ (a, .inr (ci, fs)) :: rest) kc ks Q := by
  obtain ⟨hd, rfl⟩ := hd
  intro p e s m args below meth c A C hA ls H locs hl hP hD hS
  have kk := k p e s m args below meth c A C hA ls H locs hl hP hD hS
  obtain ⟨hx, hb, hr, hml, hown, hts, hlocks, hnm, hK, hNw⟩ := id C
  obtain ⟨hc, hN, hin, hty, hnms⟩ := hcl
  exact va_get hx hb hts hin hown hK hP pre.length n_getN hc j hj (hts _ (vm_gd_in hlk rfl)) (fun _ h => h) hv hd kk
theorem n_cA {s : State} {cA : ClassId} {ty : FieldType} {k : Nat} {c0 : ClassId} (hK : va_K G classes (vm_tys tc) s) (hk : (vm_tys tc)[k]? = some (c0, ty)) (hp : ty = .int ∨ ty = .long ∨ ty = .boolean) (h : va_RA s cA ty) : cA = c0 := by
  have h2 := (hK.2 k _ hk).2
  rcases hp with rfl | rfl | rfl
  · exact Option.some.inj (h.symm.trans h2)
  · exact Option.some.inj (h.symm.trans h2)
  · exact Option.some.inj (h.symm.trans h2)
theorem n_newI {n : Int32} {N : Nat} (hd : vm_at M.2.1 pc (.newarray .int) 2 pc') (hw : Cond.arrayClass .int ∈ lw_tbl) (hn : n = nI N) (hN : N ≤ 100000) (hkc : kc + 1 ≤ mc) (hks : ks + N ≤ ms) (k : ∀ q : Nat, NV l G tc M D mc ms pc' lv (.ref q :: st) (ws ++ [(q, .inl (tc.1, N, .inl (fun _ => 0)))]) (kc + 1) (ks + N) Q) : NV l G tc M D mc ms pc lv (.int n :: st) ws kc ks Q := by
  obtain ⟨hd, rfl⟩ := hd
  intro p e s m args below meth c A C hA ls H locs hl hP hD hS
  obtain ⟨hx, hb, hr, hml, hown, hts, hlocks, hnm, hK, hNw⟩ := id C
  subst hn
  refine va_newa (a0 := (N, .inl (fun _ => 0))) (atype := .int) (ty := .int) hx hb (hts _ (vm_gd_in hw rfl)) rfl hK hP hD hS hA (fun cA => rfl) (nI_pos (by omega)) (nI_clamp (by omega)) ?_ hkc hks hd (fun q cA H1 hK1 hP1 hD1 hS1 => ?_)
  · show N * 4 ≤ 536870912
    omega
  · have hce : cA = tc.1 := n_cA (k := 0) hK rfl (Or.inl rfl) ((hK1.2 3 (cA, .int) rfl).2)
    subst hce
    exact k q p e s m args below meth c A C hA ls H1 locs hl hP1 hD1 hS1
theorem n_newJ {n : Int32} {N : Nat} (hd : vm_at M.2.1 pc (.newarray .long) 2 pc') (hw : Cond.arrayClass .long ∈ lw_tbl) (hn : n = nI N) (hN : N ≤ 100000) (hkc : kc + 1 ≤ mc) (hks : ks + N ≤ ms) (k : ∀ q : Nat, NV l G tc M D mc ms pc' lv (.ref q :: st) (ws ++ [(q, .inl (tc.2.1, N, .inr (.inl (fun _ => 0))))]) (kc + 1) (ks + N) Q) : NV l G tc M D mc ms pc lv (.int n :: st) ws kc ks Q := by
  obtain ⟨hd, rfl⟩ := hd
  intro p e s m args below meth c A C hA ls H locs hl hP hD hS
  obtain ⟨hx, hb, hr, hml, hown, hts, hlocks, hnm, hK, hNw⟩ := id C
  subst hn
  refine va_newa (a0 := (N, .inr (.inl (fun _ => 0)))) (atype := .long) (ty := .long) hx hb (hts _ (vm_gd_in hw rfl)) rfl hK hP hD hS hA (fun cA => rfl) (nI_pos (by omega)) (nI_clamp (by omega)) ?_ hkc hks hd (fun q cA H1 hK1 hP1 hD1 hS1 => ?_)
  · show N * 8 ≤ 536870912
    omega
  · have hce : cA = tc.2.1 := n_cA (k := 1) hK rfl (Or.inr (Or.inl rfl)) ((hK1.2 3 (cA, .long) rfl).2)
    subst hce
    exact k q p e s m args below meth c A C hA ls H1 locs hl hP1 hD1 hS1
theorem n_newZ {n : Int32} {N : Nat} (hd : vm_at M.2.1 pc (.newarray .boolean) 2 pc') (hw : Cond.arrayClass .boolean ∈ lw_tbl) (hn : n = nI N) (hN : N ≤ 100000) (hkc : kc + 1 ≤ mc) (hks : ks + N ≤ ms) (k : ∀ q : Nat, NV l G tc M D mc ms pc' lv (.ref q :: st) (ws ++ [(q, .inl (tc.2.2, N, .inl (fun _ => 0)))]) (kc + 1) (ks + N) Q) : NV l G tc M D mc ms pc lv (.int n :: st) ws kc ks Q := by
  obtain ⟨hd, rfl⟩ := hd
  intro p e s m args below meth c A C hA ls H locs hl hP hD hS
  obtain ⟨hx, hb, hr, hml, hown, hts, hlocks, hnm, hK, hNw⟩ := id C
  subst hn
  refine va_newa (a0 := (N, .inl (fun _ => 0))) (atype := .boolean) (ty := .boolean) hx hb (hts _ (vm_gd_in hw rfl)) rfl hK hP hD hS hA (fun cA => rfl) (nI_pos (by omega)) (nI_clamp (by omega)) ?_ hkc hks hd (fun q cA H1 hK1 hP1 hD1 hS1 => ?_)
  · show N * 1 ≤ 536870912
    omega
  · have hce : cA = tc.2.2 := n_cA (k := 2) hK rfl (Or.inr (Or.inr rfl)) ((hK1.2 3 (cA, .boolean) rfl).2)
    subst hce
    exact k q p e s m args below meth c A C hA ls H1 locs hl hP1 hD1 hS1
theorem n_new {ix ci : Nat} {fs : List Value} {Cn : String} {T : u_T} {N : Nat} {ty : Nat → FieldType} (hd : vm_at M.2.1 pc (.new ix) 3 pc') (hcl : vm_clOK ci Cn T N ty) (hlk : Cond.classLink M.1.cls ix Cn ∈ lw_tbl) (hi : Cond.instantiable Cn N ∈ lw_tbl) (hini : Cond.initialized Cn ∈ lw_tbl) (hfs : ∀ j, j < N → defaultValue (ty j) = vp_V fs j) (hkc : kc + 1 ≤ mc) (hks : ks + N ≤ ms)
    (k : ∀ q : Nat, NV l G tc M D mc ms pc' lv (.ref q :: st) (ws ++ [(q, .inr (ci, fs))]) (kc + 1) (ks + N) Q) : NV l G tc M D mc ms pc lv st ws kc ks Q := by
  obtain ⟨hd, rfl⟩ := hd
  intro p e s m args below meth c A C hA ls H locs hl hP hD hS
  obtain ⟨hx, hb, hr, hml, hown, hts, hlocks, hnm, hK, hNw⟩ := id C
  obtain ⟨hc, hN, hin, hty, hnms⟩ := hcl
  exact va_new hx hb hts hin ty hty hown (hts _ (vm_gd_in hlk rfl)) (hts _ (vm_gd_in hi rfl)) (hts _ (vm_gd_in hini rfl)) hK hP hD hS hA hc hfs hkc hks hd (fun q H1 hP1 hD1 hS1 => k q p e s m args below meth c A C hA ls H1 locs hl hP1 hD1 hS1)
/-- behind a maker's call, in any frame -/
theorem nm_callK {p : Program} {e : Env} {R : Room} {s : State} {m : MethodId} {args : Array Value} {below : List Frame} {meth : Method} {c : Code} {H : Heap} {locs : List Loc} {cells slots mc' ms' : Nat} {Z : State → Prop} {A : Nat → Prop} {ls : Array Slot} {st0 rest : List Value} {a : Array Value} {Q' : va_W → Prop} (hr : va_Run p l e R s m args below meth c H locs cells slots mc' ms' (F0 m pc ls st0) rest (nm_Q G (va_A ws H.size) Q' a) (va_A ws H.size)) (hS : va_S A s.heap H locs) (hD : va_D A ws) (hA : ∀ q, s.heap.size ≤ q → A q)
    (kk : ∀ (ws' : va_W) (H1 : Heap) (locs1 : List Loc), Q' ws' → va_P G classes ws' H1 → va_D A ws' → va_S A s.heap H1 locs1 → W p l e R s m args below meth c H1 locs1 (cells + mc') (slots + ms') Z (F0 m (pc + 3) ls rest)) : W p l e R s m args below meth c H locs cells slots Z (F0 m pc ls st0) := by
  have hm : ∀ q, va_A ws H.size q → A q := fun q h => by
    rcases h with ⟨k, e, h⟩ | h
    · exact hD.2 k _ h
    · exact hA q (Nat.le_trans hS.1 h)
  intro T hT X
  obtain ⟨v, st₀, t, T', L, h0, X', hL, e1, e2, ⟨⟨ws', hv, hq, hP', hD'⟩, hz, hk⟩, st⟩ := hr T hT X
  cases hv
  rw [h0] at hz hk
  obtain ⟨t2, a1, b1⟩ := kk ws' T'.heap (locs ++ L) hq (by rw [e1]; exact hP') (hD'.weaken (fun k q _ h => hm _ h))
    ⟨Nat.le_trans hS.1 (by rw [e1]; exact hz), fun q h1 h2 => by rw [e1, hk q (Nat.lt_of_lt_of_le h1 hS.1) (fun z => h2 (hm q z))]; exact hS.2.1 q h1 h2, fun q hq => by
      rcases List.mem_append.mp hq with h | h
      · exact hS.2.2 q h
      · exact hm _ (hL q h)⟩ T' rfl X'
  exact ⟨t2, st t2 a1, b1⟩
def nm_MI (own : String) (ix : Nat) (M' : MI) (n : Nat) : Prop := vm_lk own ix M'.1 ∧ vm_cok M' n ∧ Cond.instanceMethod M'.1 ∈ lw_tbl ∧ M'.1.name = "<init>" ∧ M'.2.2.2 = none
/-- a maker's call, in any frame -/
theorem nm_goI {own : String} {ix D' n nL mc' ms' : Nat} {cc : ByteArray} {p : Program} {e : Env} {R : Room} {s : State} {m : MethodId} {args : Array Value} {below : List Frame} {meth : Method} {c : Code} {H : Heap} {locs : List Loc} {cells slots : Nat} {Z : State → Prop} {A : Nat → Prop} {ls : Array Slot} {as : List Value} {a : Nat} {M' : MI} {Q' : va_W → Prop}
    (hx : p.tables.exec = Jvm.exec) (hb : c.code = cc) (hml : c.maxLocals = nL) (hown : s.vm.findClass own = some m.cls) (hts : ∀ w ∈ vm_gd, w.before args s = true) (hK : nm_K G tc s) (hls : ls.size = nL) (hP : va_P G classes ws H) (hD : va_D A ws) (hS : va_S A s.heap H locs) (hA : ∀ q, s.heap.size ≤ q → A q) (hM : nm_MI own ix M' n) (hn : as.length = n) (hd : decode cc pc = .ok (.invokespecial ix, 3)) (hcat : (st.map fun v => v.category).sum ≤ 8) (hR : D' + 1 ≤ R.frames ∧ 64 * D' + 64 ≤ R.locals ∧ cells + mc' ≤ R.cells ∧ slots + ms' ≤ R.slots)
    (ho : NOk l G tc D' mc' ms' M' (.ref a :: as) ws Q')
    (kk : ∀ (ws' : va_W) (H1 : Heap) (locs1 : List Loc), Q' ws' → va_P G classes ws' H1 → va_D A ws' → va_S A s.heap H1 locs1 → W p l e R s m args below meth c H1 locs1 (cells + mc') (slots + ms') Z (F0 m (pc + 3) ls st)) : W p l e R s m args below meth c H locs cells slots Z (F0 m pc ls (as.reverse ++ .ref a :: st)) := by
  obtain ⟨hlk, ⟨hini, hcode, hnm, hml'⟩, hin, hname, hret⟩ := hM
  have hG := vm_gd_good hcode
  have hini' := hts _ (vm_gd_in hini rfl)
  have hin' := hts _ (vm_gd_in hin rfl)
  have hrm : (nm_rm D' mc' ms').frames + 1 ≤ R.frames ∧ 8 + (M'.2.2.1 + 11) + (nm_rm D' mc' ms').locals ≤ R.locals := ⟨hR.1, by show 8 + (M'.2.2.1 + 11) + 64 * D' ≤ R.locals; omega⟩
  have hw8 : 2 * (F0 m pc ls (as.reverse ++ .ref a :: st)).monitorRoom + (st.map fun v => v.category).sum ≤ 8 := lv_room hcat
  have hsw : vm_ws M' = Cond.code M'.1 M'.2.1 M'.2.2.1 none :: vm_gd := by unfold vm_ws; rw [hret]
  refine nm_callK (a := (Value.ref a :: as).toArray) ?_ hS hD hA kk
  rcases hlk with hlk | ⟨host, hlk⟩
  · exact va_runI (As := as) ⟨hx, hb, hml, hown, hts⟩ (ho H.size) ⟨callB_of n hts hG hsw rfl rfl hini' (hts _ (vm_gd_in hlk rfl)) hnm hrm, hname, hin'⟩ ⟨nm_blind, fun U hU hW => ⟨rfl, by rw [hU], by rw [hU]; exact hP, hD.weaken (fun _ _ _ _ => trivial), hK.warm hW⟩⟩ rfl hn hls rfl hw8 hd ⟨hR.2.2.1, hR.2.2.2⟩
  · exact va_runIN (As := as) ⟨hx, hb, hml, hown, hts⟩ (ho H.size) ⟨va_cnB n hts hG hsw rfl rfl (hK.2 _ (vm_nt_in hlk rfl)) hini' hnm hrm, hname, hin'⟩ ⟨nm_blind, fun U hU hW => ⟨rfl, by rw [hU], by rw [hU]; exact hP, hD.weaken (fun _ _ _ _ => trivial), hK.warm hW⟩⟩ rfl hn hls rfl hw8 hd ⟨hR.2.2.1, hR.2.2.2⟩
theorem n_call {ix D' n mc' ms' a : Nat} {M' : MI} {as : List Value} (hd : vm_at M.2.1 pc (.invokespecial ix) 3 pc') (hM : nm_MI M.1.cls ix M' n) (hn : as.length = n) (hcat : (st.map fun v => v.category).sum ≤ 8) (hDD : D' + 1 ≤ D) (hkc : kc + mc' ≤ mc) (hks : ks + ms' ≤ ms) (ho : NOk l G tc D' mc' ms' M' (.ref a :: as) ws (fun ws' => NV l G tc M D mc ms pc' lv st ws' (kc + mc') (ks + ms') Q)) : NV l G tc M D mc ms pc lv (as.reverse ++ .ref a :: st) ws kc ks Q := by
  obtain ⟨hd, rfl⟩ := hd
  intro p e s m args below meth c A C hA ls H locs hl hP hD hS
  obtain ⟨hx, hb, hr, hml, hown, hts, hlocks, hnm, hK⟩ := id C
  exact nm_goI hx hb hml hown hts hK hl.1 hP hD hS hA hM hn hd hcat ⟨hDD, by show 64 * D' + 64 ≤ 64 * D; omega, hkc, hks⟩ ho (fun ws' H1 locs1 hq hP1 hD1 hS1 => hq p e s m args below meth c A C hA ls H1 locs1 hl hP1 hD1 hS1)
theorem n_call0 {ix D' mc' ms' a : Nat} {M' : MI} (hd : vm_at M.2.1 pc (.invokespecial ix) 3 pc') (hM : nm_MI M.1.cls ix M' 0) (hcat : (st.map fun v => v.category).sum ≤ 8) (hDD : D' + 1 ≤ D) (hkc : kc + mc' ≤ mc) (hks : ks + ms' ≤ ms) (ho : NOk l G tc D' mc' ms' M' [.ref a] ws (fun ws' => NV l G tc M D mc ms pc' lv st ws' (kc + mc') (ks + ms') Q)) : NV l G tc M D mc ms pc lv (.ref a :: st) ws kc ks Q := n_call (as := []) hd hM rfl hcat hDD hkc hks ho
theorem n_call1 {ix D' mc' ms' a : Nat} {M' : MI} {v : Value} (hd : vm_at M.2.1 pc (.invokespecial ix) 3 pc') (hM : nm_MI M.1.cls ix M' 1) (hcat : (st.map fun v => v.category).sum ≤ 8) (hDD : D' + 1 ≤ D) (hkc : kc + mc' ≤ mc) (hks : ks + ms' ≤ ms) (ho : NOk l G tc D' mc' ms' M' [.ref a, v] ws (fun ws' => NV l G tc M D mc ms pc' lv st ws' (kc + mc') (ks + ms') Q)) : NV l G tc M D mc ms pc lv (v :: .ref a :: st) ws kc ks Q := n_call (as := [v]) hd hM rfl hcat hDD hkc hks ho
theorem n_return (hd : vm_at M.2.1 pc .return_ 1 pc') (hret : M.2.2.2 = none) (hkc : kc ≤ mc) (hks : ks ≤ ms) (hQ : Q ws) : NV l G tc M D mc ms pc lv [] ws kc ks Q := by
  obtain ⟨hd, rfl⟩ := hd
  intro p e s m args below meth c A C hA ls H locs hl hP hD hS
  obtain ⟨hx, hb, hr, hml, hown, hts, hlocks, hnm, hK⟩ := id C
  refine W.widen (k := mc) (n := ms) hkc hks ?_
  exact W.vret hx hb (by rw [hr, hret]) (fun t ht hW => ⟨⟨ws, rfl, hQ, by rw [ht]; exact hP, hD⟩, hS.F ht⟩) hS.2.2 hd hlocks
end NR
