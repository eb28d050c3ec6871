/-! THE CLAIM OUT OF ONE WALK OF THE LAW'S BODY. Your part is whole_start (and what it stands on); all else here is the same for every law, but numbers. -/
def R_law : String := "FewKeysLaw"
def lw_P (b : Addr) (xs : List Int32) (args : Array Value) (s : State) : Prop := args = #[.ref b] ∧ s.IntsAt b xs ∧ xs.length ≤ 2048 ∧ (Jvm.Cond.and given_1 narrow_1).before args s = true
def lw_Q (_ : Array Value) (s : State) (o : Outcome) (t : State) : Prop := o = .returned (some (.int 1)) ∧ Framed s o t [] 600000 7302250
def lw_Z (below : List Frame) (a : Array Value) (s : State) : State → Prop := fun t => ∃ o, t.status = .running ∧ Ended t below o ∧ lw_Q a s o t
/-- the law's own end, with 1 on the stack, nothing written that was there before, its room as the claim has it -/
theorem lw_ret {p : Program} {l : Launch} {e : Env} {s : State} {m : MethodId} {below : List Frame} {meth : Method} {c : Code} {b : Nat} (hx : p.tables.exec = Jvm.exec) (hb : c.code = code) (hr : meth.sig.returnType = ret) (hlocks : meth.locks = false) {pc : Nat} {H : Heap} {ls : Array Slot} (hdg : decode code pc = .ok (.ireturn, 1)) : W p l e room_1 s m #[Value.ref b] below meth c H [] 600000 7302250 (lw_Z below #[Value.ref b] s) (F0 m pc ls [.int 1]) := by
  intro T hT X
  obtain ⟨fs, hret, hrun, hended, hW, hframe⟩ := X.leave (v := some (.int 1)) (hlocks := hlocks) (fun h => by rw [hr] at h; cases h)
  have hmeth' : T.vm.method? m = some meth := X.method'
  refine ⟨T.setFrames fs, ?_, .returned (some (.int 1)), hrun, hended, rfl, ⟨_, rfl⟩, hW, hframe⟩
  jvm_step X.here [X.here.top, hx, hb, hdg, hmeth', hr, ret, narrow_b1]
  (try refine ⟨rfl, ?_⟩); (try refine ⟨rfl, ?_⟩)
  first | (intro acts; rw [hret _ acts rfl rfl rfl]) | rw [hret _ _ rfl rfl rfl]
  exact Steps.refl _
/-- what holds at the law's entry: the machine, the code, the tables' words (any of lw_tbl by 'hts w (by decide +kernel)'), the script of L ints xs at the cell b, what the Statement gives of the start (any of its parts by flat_of_before) -/
def lw_At (p : Program) (s : State) (m : MethodId) (meth : Method) (c : Code) (b L : Nat) (xs : Nat → Int32) : Prop :=
  p.tables.exec = Jvm.exec ∧ c.code = code ∧ meth.sig.returnType = ret ∧ c.maxLocals = 4 ∧ s.vm.findClass R_law = some m.cls ∧ (∀ w ∈ lw_tbl, w.before #[Value.ref b] s = true) ∧ va_X b L xs s s.heap ∧ b < s.heap.size ∧ meth.locks = false ∧ (Jvm.Cond.and given_1 narrow_1).before #[Value.ref b] s = true
/-! ===== the law: what stands at the head of its loop, its 28 kinds of step ===== -/
def lm_C (p : Program) (s : State) (m : MethodId) (meth : Method) (c : Code) (b L : Nat) (xs : Nat → Int32) (G : va_G) (ad : Nat → Nat) (tc : ClassId × ClassId × ClassId) : Prop := lw_At p s m meth c b L xs ∧ L ≤ 2048 ∧ vm_inj ad ∧ vm_St G ad tc s.heap.size s s.heap ∧ ∀ k : Nat, k < 60 → s.heap.size ≤ ad k
theorem lm_not {ad : Nat → Nat} {sz b : Nat} (h : ∀ k : Nat, k < 60 → sz ≤ ad k) (hb : b < sz) : ¬ vm_A ad sz b := by
  rintro (⟨k, hk, e⟩ | h2)
  · have := h k hk; omega
  · omega
theorem lm_hts {s : State} {args : Array Value} (h : ∀ w ∈ lw_tbl, w.before args s = true) : ∀ w ∈ vm_gd, w.before args s = true := fun w hw => h w (List.mem_filter.mp hw).1
section LM
variable {p : Program} {l : Launch} {e : Env} {s : State} {m : MethodId} {below : List Frame} {meth : Method} {c : Code} {b L : Nat} {xs : Nat → Int32} {G : va_G} {ad : Nat → Nat} {tc : ClassId × ClassId × ClassId} {H : Heap} {locs : List Loc} {σ : Wd} {ls : Array Slot} {i : Int32} {n : Nat}
theorem lm_in (k : Nat) (hi : i = nI n) (hn : n + 4 ≤ L) (hL : L ≤ 2048) (hk : k < 4) : vp_in (i + nI k) L := by
  rw [hi, nI_add]
  exact vp_in_nI (by omega) (by omega)
/-- feed -/
theorem lc_0 (C : lm_C p s m meth c b L xs G ad tc) (hi : i = nI n) (hn : n + 4 ≤ L) (hl : lv_has ls 4 [(0, .ref b), (1, .ref (ad 0)), (2, .ref (ad 44)), (3, .int i)]) (hP : va_P G classes (vm_cells ad tc σ) H) (hS : va_S (vm_A ad s.heap.size) s.heap H locs) (hI : Inv σ) (kk : ∀ (τ : Wd) (H1 : Heap) (locs1 : List Loc), Inv τ → va_P G classes (vm_cells ad tc τ) H1 → va_S (vm_A ad s.heap.size) s.heap H1 locs1 → W p l e room_1 s m #[Value.ref b] below meth c H1 locs1 60 446937 (lw_Z below #[Value.ref b] s) (F0 m 854 ls [])) : W p l e room_1 s m #[Value.ref b] below meth c H locs 60 446937 (lw_Z below #[Value.ref b] s) (F0 m 160 ls []) := by
  obtain ⟨⟨hx, hb, hr, hml, hown, hts, hX, hbl, hlocks, hgv⟩, hL, hinj, hSt, hge⟩ := id C
  have hbA := lm_not hge hbl
  refine lv_aload_n hx hb dL_law_160.1.1 rfl (lv_at hl 1 rfl) ?_
  refine lv_aload_n hx hb dL_law_161.1.1 rfl (lv_at hl 0 rfl) ?_
  refine lv_iload_n hx hb dL_law_162.1.1 rfl (lv_at hl 3 rfl) ?_
  refine lv_iconst (v := 1) hx hb dL_law_163.1.1 dL_law_163.2 ?_
  refine lv_iadd hx hb dL_law_164.1 ?_
  refine va_sld hx hb hX hbl hbA hS (lm_in 1 hi hn hL (by decide)) dL_law_165.1 ?_
  refine lv_aload_n hx hb dL_law_166.1.1 rfl (lv_at hl 0 rfl) ?_
  refine lv_iload_n hx hb dL_law_167.1.1 rfl (lv_at hl 3 rfl) ?_
  refine lv_iconst (v := 2) hx hb dL_law_168.1.1 dL_law_168.2 ?_
  refine lv_iadd hx hb dL_law_169.1 ?_
  refine va_sld hx hb hX hbl hbA hS (lm_in 2 hi hn hL (by decide)) dL_law_170.1 ?_
  refine lv_i2l hx hb dL_law_171.1 rfl ?_
  refine lv_bipush (v := 32) hx hb dL_law_172.1.1 dL_law_172.2 ?_
  refine lv_lshl hx hb dL_law_174.1 rfl ?_
  refine lv_aload_n hx hb dL_law_175.1.1 rfl (lv_at hl 0 rfl) ?_
  refine lv_iload_n hx hb dL_law_176.1.1 rfl (lv_at hl 3 rfl) ?_
  refine lv_iconst (v := 3) hx hb dL_law_177.1.1 dL_law_177.2 ?_
  refine lv_iadd hx hb dL_law_178.1 ?_
  refine va_sld hx hb hX hbl hbA hS (lm_in 3 hi hn hL (by decide)) dL_law_179.1 ?_
  refine lv_i2l hx hb dL_law_180.1 rfl ?_
  refine lv_ldc2 hx hb hown (hts _ ((by decide +kernel : Cond.constantLong RL 13 4294967295 ∈ lw_tbl))) dL_law_181.1 ?_
  refine lv_land hx hb dL_law_184.1 ?_
  refine lv_lor hx hb dL_law_185.1 ?_
  generalize hz : (((xs (i + 2).toNatClampNeg).toInt64 <<< ((32 : Int32).toInt64 &&& 63)) ||| ((xs (i + 3).toNatClampNeg).toInt64 &&& 4294967295)) = z
  refine vm_goV (M' := mX11_feed) (D := 30) (n := 2) (k := 0) (ci := 11) (σ := σ) (as := [.int (xs (i + 1).toNatClampNeg), .long z]) (st := []) hx hb hml hown (lm_hts hts) hinj rfl hSt hl.1 hP hS mv_RL_15 rfl rfl rfl dL_law_186.1 (Nat.le_of_ble_eq_true rfl) ⟨Nat.le_of_ble_eq_true rfl, Nat.le_of_ble_eq_true rfl, Nat.le_of_ble_eq_true rfl, Nat.le_of_ble_eq_true rfl⟩ (b_feed (xs (i + 1).toNatClampNeg) z σ hI) (fun r1 σ1 H1 locs1 hq1 hP1 hS1 => ?_)
  obtain ⟨w, rfl, hq1⟩ := hq1
  show W p l e room_1 s m #[Value.ref b] below meth c H1 locs1 60 446937 (lw_Z below #[Value.ref b] s) (F0 m 189 ls [.int w])
  refine lv_aload_n hx hb dL_law_189.1.1 rfl (lv_at hl 2 rfl) ?_
  refine lv_aload_n hx hb dL_law_190.1.1 rfl (lv_at hl 0 rfl) ?_
  refine lv_iload_n hx hb dL_law_191.1.1 rfl (lv_at hl 3 rfl) ?_
  refine lv_iconst (v := 1) hx hb dL_law_192.1.1 dL_law_192.2 ?_
  refine lv_iadd hx hb dL_law_193.1 ?_
  refine va_sld hx hb hX hbl hbA hS1 (lm_in 1 hi hn hL (by decide)) dL_law_194.1 ?_
  refine lv_aload_n hx hb dL_law_195.1.1 rfl (lv_at hl 0 rfl) ?_
  refine lv_iload_n hx hb dL_law_196.1.1 rfl (lv_at hl 3 rfl) ?_
  refine lv_iconst (v := 2) hx hb dL_law_197.1.1 dL_law_197.2 ?_
  refine lv_iadd hx hb dL_law_198.1 ?_
  refine va_sld hx hb hX hbl hbA hS1 (lm_in 2 hi hn hL (by decide)) dL_law_199.1 ?_
  refine lv_i2l hx hb dL_law_200.1 rfl ?_
  refine lv_bipush (v := 32) hx hb dL_law_201.1.1 dL_law_201.2 ?_
  refine lv_lshl hx hb dL_law_203.1 rfl ?_
  refine lv_aload_n hx hb dL_law_204.1.1 rfl (lv_at hl 0 rfl) ?_
  refine lv_iload_n hx hb dL_law_205.1.1 rfl (lv_at hl 3 rfl) ?_
  refine lv_iconst (v := 3) hx hb dL_law_206.1.1 dL_law_206.2 ?_
  refine lv_iadd hx hb dL_law_207.1 ?_
  refine va_sld hx hb hX hbl hbA hS1 (lm_in 3 hi hn hL (by decide)) dL_law_208.1 ?_
  refine lv_i2l hx hb dL_law_209.1 rfl ?_
  refine lv_ldc2 hx hb hown (hts _ ((by decide +kernel : Cond.constantLong RL 13 4294967295 ∈ lw_tbl))) dL_law_210.1 ?_
  refine lv_land hx hb dL_law_213.1 ?_
  refine lv_lor hx hb dL_law_214.1 ?_
  rw [hz]
  refine vm_goV (M' := mX12_feed) (D := 30) (n := 2) (k := 44) (ci := 12) (σ := σ1) (as := [.int (xs (i + 1).toNatClampNeg), .long z]) (st := [.int w]) hx hb hml hown (lm_hts hts) hinj rfl hSt hl.1 hP1 hS1 mv_RL_19 rfl rfl rfl dL_law_215.1 (Nat.le_of_ble_eq_true rfl) ⟨Nat.le_of_ble_eq_true rfl, Nat.le_of_ble_eq_true rfl, Nat.le_of_ble_eq_true rfl, Nat.le_of_ble_eq_true rfl⟩ hq1 (fun r2 σ2 H2 locs2 hq2 hP2 hS2 => ?_)
  obtain ⟨hv2, hI2⟩ := hq2
  subst hv2
  show W p l e room_1 s m #[Value.ref b] below meth c H2 locs2 60 446937 (lw_Z below #[Value.ref b] s) (F0 m 218 ls [.int w, .int w])
  refine lv_icmp_eq (tgt := 854) hx hb dL_law_218.1 dL_law_218.2.2 (fun _ => kk _ _ _ hI2 hP2 hS2) (fun c9 => absurd rfl c9)
/-- reckoner -/
theorem lc_1 (C : lm_C p s m meth c b L xs G ad tc) (hi : i = nI n) (hn : n + 4 ≤ L) (hl : lv_has ls 4 [(0, .ref b), (1, .ref (ad 0)), (2, .ref (ad 44)), (3, .int i)]) (hP : va_P G classes (vm_cells ad tc σ) H) (hS : va_S (vm_A ad s.heap.size) s.heap H locs) (hI : Inv σ) (kk : ∀ (τ : Wd) (H1 : Heap) (locs1 : List Loc), Inv τ → va_P G classes (vm_cells ad tc τ) H1 → va_S (vm_A ad s.heap.size) s.heap H1 locs1 → W p l e room_1 s m #[Value.ref b] below meth c H1 locs1 60 446937 (lw_Z below #[Value.ref b] s) (F0 m 854 ls [])) : W p l e room_1 s m #[Value.ref b] below meth c H locs 60 446937 (lw_Z below #[Value.ref b] s) (F0 m 223 ls []) := by
  obtain ⟨⟨hx, hb, hr, hml, hown, hts, hX, hbl, hlocks, hgv⟩, hL, hinj, hSt, hge⟩ := id C
  have hbA := lm_not hge hbl
  refine lv_aload_n hx hb dL_law_223.1.1 rfl (lv_at hl 1 rfl) ?_
  refine vm_goV (M' := mX11_reckoner) (D := 30) (n := 0) (k := 0) (ci := 11) (σ := σ) (as := []) (st := []) hx hb hml hown (lm_hts hts) hinj rfl hSt hl.1 hP hS mv_RL_20 rfl rfl rfl dL_law_224.1 (Nat.le_of_ble_eq_true rfl) ⟨Nat.le_of_ble_eq_true rfl, Nat.le_of_ble_eq_true rfl, Nat.le_of_ble_eq_true rfl, Nat.le_of_ble_eq_true rfl⟩ (b_reckoner  σ hI) (fun r1 σ1 H1 locs1 hq1 hP1 hS1 => ?_)
  obtain ⟨w, rfl, hq1⟩ := hq1
  show W p l e room_1 s m #[Value.ref b] below meth c H1 locs1 60 446937 (lw_Z below #[Value.ref b] s) (F0 m 227 ls [.int w])
  refine lv_aload_n hx hb dL_law_227.1.1 rfl (lv_at hl 2 rfl) ?_
  refine vm_goV (M' := mX12_reckoner) (D := 30) (n := 0) (k := 44) (ci := 12) (σ := σ1) (as := []) (st := [.int w]) hx hb hml hown (lm_hts hts) hinj rfl hSt hl.1 hP1 hS1 mv_RL_24 rfl rfl rfl dL_law_228.1 (Nat.le_of_ble_eq_true rfl) ⟨Nat.le_of_ble_eq_true rfl, Nat.le_of_ble_eq_true rfl, Nat.le_of_ble_eq_true rfl, Nat.le_of_ble_eq_true rfl⟩ hq1 (fun r2 σ2 H2 locs2 hq2 hP2 hS2 => ?_)
  obtain ⟨hv2, hI2⟩ := hq2
  subst hv2
  show W p l e room_1 s m #[Value.ref b] below meth c H2 locs2 60 446937 (lw_Z below #[Value.ref b] s) (F0 m 231 ls [.int w, .int w])
  refine lv_icmp_eq (tgt := 854) hx hb dL_law_231.1 dL_law_231.2.2 (fun _ => kk _ _ _ hI2 hP2 hS2) (fun c9 => absurd rfl c9)
/-- fault -/
theorem lc_2 (C : lm_C p s m meth c b L xs G ad tc) (hi : i = nI n) (hn : n + 4 ≤ L) (hl : lv_has ls 4 [(0, .ref b), (1, .ref (ad 0)), (2, .ref (ad 44)), (3, .int i)]) (hP : va_P G classes (vm_cells ad tc σ) H) (hS : va_S (vm_A ad s.heap.size) s.heap H locs) (hI : Inv σ) (kk : ∀ (τ : Wd) (H1 : Heap) (locs1 : List Loc), Inv τ → va_P G classes (vm_cells ad tc τ) H1 → va_S (vm_A ad s.heap.size) s.heap H1 locs1 → W p l e room_1 s m #[Value.ref b] below meth c H1 locs1 60 446937 (lw_Z below #[Value.ref b] s) (F0 m 854 ls [])) : W p l e room_1 s m #[Value.ref b] below meth c H locs 60 446937 (lw_Z below #[Value.ref b] s) (F0 m 236 ls []) := by
  obtain ⟨⟨hx, hb, hr, hml, hown, hts, hX, hbl, hlocks, hgv⟩, hL, hinj, hSt, hge⟩ := id C
  have hbA := lm_not hge hbl
  refine lv_aload_n hx hb dL_law_236.1.1 rfl (lv_at hl 1 rfl) ?_
  refine vm_goV (M' := mX11_fault) (D := 30) (n := 0) (k := 0) (ci := 11) (σ := σ) (as := []) (st := []) hx hb hml hown (lm_hts hts) hinj rfl hSt hl.1 hP hS mv_RL_25 rfl rfl rfl dL_law_237.1 (Nat.le_of_ble_eq_true rfl) ⟨Nat.le_of_ble_eq_true rfl, Nat.le_of_ble_eq_true rfl, Nat.le_of_ble_eq_true rfl, Nat.le_of_ble_eq_true rfl⟩ (b_fault  σ hI) (fun r1 σ1 H1 locs1 hq1 hP1 hS1 => ?_)
  obtain ⟨w, rfl, hq1⟩ := hq1
  show W p l e room_1 s m #[Value.ref b] below meth c H1 locs1 60 446937 (lw_Z below #[Value.ref b] s) (F0 m 240 ls [.int w])
  refine lv_aload_n hx hb dL_law_240.1.1 rfl (lv_at hl 2 rfl) ?_
  refine vm_goV (M' := mX12_fault) (D := 30) (n := 0) (k := 44) (ci := 12) (σ := σ1) (as := []) (st := [.int w]) hx hb hml hown (lm_hts hts) hinj rfl hSt hl.1 hP1 hS1 mv_RL_28 rfl rfl rfl dL_law_241.1 (Nat.le_of_ble_eq_true rfl) ⟨Nat.le_of_ble_eq_true rfl, Nat.le_of_ble_eq_true rfl, Nat.le_of_ble_eq_true rfl, Nat.le_of_ble_eq_true rfl⟩ hq1 (fun r2 σ2 H2 locs2 hq2 hP2 hS2 => ?_)
  obtain ⟨hv2, hI2⟩ := hq2
  subst hv2
  show W p l e room_1 s m #[Value.ref b] below meth c H2 locs2 60 446937 (lw_Z below #[Value.ref b] s) (F0 m 244 ls [.int w, .int w])
  refine lv_icmp_eq (tgt := 854) hx hb dL_law_244.1 dL_law_244.2.2 (fun _ => kk _ _ _ hI2 hP2 hS2) (fun c9 => absurd rfl c9)
/-- told -/
theorem lc_3 (C : lm_C p s m meth c b L xs G ad tc) (hi : i = nI n) (hn : n + 4 ≤ L) (hl : lv_has ls 4 [(0, .ref b), (1, .ref (ad 0)), (2, .ref (ad 44)), (3, .int i)]) (hP : va_P G classes (vm_cells ad tc σ) H) (hS : va_S (vm_A ad s.heap.size) s.heap H locs) (hI : Inv σ) (kk : ∀ (τ : Wd) (H1 : Heap) (locs1 : List Loc), Inv τ → va_P G classes (vm_cells ad tc τ) H1 → va_S (vm_A ad s.heap.size) s.heap H1 locs1 → W p l e room_1 s m #[Value.ref b] below meth c H1 locs1 60 446937 (lw_Z below #[Value.ref b] s) (F0 m 854 ls [])) : W p l e room_1 s m #[Value.ref b] below meth c H locs 60 446937 (lw_Z below #[Value.ref b] s) (F0 m 249 ls []) := by
  obtain ⟨⟨hx, hb, hr, hml, hown, hts, hX, hbl, hlocks, hgv⟩, hL, hinj, hSt, hge⟩ := id C
  have hbA := lm_not hge hbl
  refine lv_aload_n hx hb dL_law_249.1.1 rfl (lv_at hl 1 rfl) ?_
  refine lv_aload_n hx hb dL_law_250.1.1 rfl (lv_at hl 0 rfl) ?_
  refine lv_iload_n hx hb dL_law_251.1.1 rfl (lv_at hl 3 rfl) ?_
  refine lv_iconst (v := 1) hx hb dL_law_252.1.1 dL_law_252.2 ?_
  refine lv_iadd hx hb dL_law_253.1 ?_
  refine va_sld hx hb hX hbl hbA hS (lm_in 1 hi hn hL (by decide)) dL_law_254.1 ?_
  refine vm_goV (M' := mX11_told) (D := 30) (n := 1) (k := 0) (ci := 11) (σ := σ) (as := [.int (xs (i + 1).toNatClampNeg)]) (st := []) hx hb hml hown (lm_hts hts) hinj rfl hSt hl.1 hP hS mv_RL_29 rfl rfl rfl dL_law_255.1 (Nat.le_of_ble_eq_true rfl) ⟨Nat.le_of_ble_eq_true rfl, Nat.le_of_ble_eq_true rfl, Nat.le_of_ble_eq_true rfl, Nat.le_of_ble_eq_true rfl⟩ (b_told (xs (i + 1).toNatClampNeg) σ hI) (fun r1 σ1 H1 locs1 hq1 hP1 hS1 => ?_)
  obtain ⟨w, rfl, hq1⟩ := hq1
  show W p l e room_1 s m #[Value.ref b] below meth c H1 locs1 60 446937 (lw_Z below #[Value.ref b] s) (F0 m 258 ls [.int w])
  refine lv_aload_n hx hb dL_law_258.1.1 rfl (lv_at hl 2 rfl) ?_
  refine lv_aload_n hx hb dL_law_259.1.1 rfl (lv_at hl 0 rfl) ?_
  refine lv_iload_n hx hb dL_law_260.1.1 rfl (lv_at hl 3 rfl) ?_
  refine lv_iconst (v := 1) hx hb dL_law_261.1.1 dL_law_261.2 ?_
  refine lv_iadd hx hb dL_law_262.1 ?_
  refine va_sld hx hb hX hbl hbA hS1 (lm_in 1 hi hn hL (by decide)) dL_law_263.1 ?_
  refine vm_goV (M' := mX12_told) (D := 30) (n := 1) (k := 44) (ci := 12) (σ := σ1) (as := [.int (xs (i + 1).toNatClampNeg)]) (st := [.int w]) hx hb hml hown (lm_hts hts) hinj rfl hSt hl.1 hP1 hS1 mv_RL_33 rfl rfl rfl dL_law_264.1 (Nat.le_of_ble_eq_true rfl) ⟨Nat.le_of_ble_eq_true rfl, Nat.le_of_ble_eq_true rfl, Nat.le_of_ble_eq_true rfl, Nat.le_of_ble_eq_true rfl⟩ hq1 (fun r2 σ2 H2 locs2 hq2 hP2 hS2 => ?_)
  obtain ⟨hv2, hI2⟩ := hq2
  subst hv2
  show W p l e room_1 s m #[Value.ref b] below meth c H2 locs2 60 446937 (lw_Z below #[Value.ref b] s) (F0 m 267 ls [.int w, .int w])
  refine lv_icmp_eq (tgt := 854) hx hb dL_law_267.1 dL_law_267.2.2 (fun _ => kk _ _ _ hI2 hP2 hS2) (fun c9 => absurd rfl c9)
/-- key -/
theorem lc_4 (C : lm_C p s m meth c b L xs G ad tc) (hi : i = nI n) (hn : n + 4 ≤ L) (hl : lv_has ls 4 [(0, .ref b), (1, .ref (ad 0)), (2, .ref (ad 44)), (3, .int i)]) (hP : va_P G classes (vm_cells ad tc σ) H) (hS : va_S (vm_A ad s.heap.size) s.heap H locs) (hI : Inv σ) (kk : ∀ (τ : Wd) (H1 : Heap) (locs1 : List Loc), Inv τ → va_P G classes (vm_cells ad tc τ) H1 → va_S (vm_A ad s.heap.size) s.heap H1 locs1 → W p l e room_1 s m #[Value.ref b] below meth c H1 locs1 60 446937 (lw_Z below #[Value.ref b] s) (F0 m 854 ls [])) : W p l e room_1 s m #[Value.ref b] below meth c H locs 60 446937 (lw_Z below #[Value.ref b] s) (F0 m 272 ls []) := by
  obtain ⟨⟨hx, hb, hr, hml, hown, hts, hX, hbl, hlocks, hgv⟩, hL, hinj, hSt, hge⟩ := id C
  have hbA := lm_not hge hbl
  refine lv_aload_n hx hb dL_law_272.1.1 rfl (lv_at hl 1 rfl) ?_
  refine lv_aload_n hx hb dL_law_273.1.1 rfl (lv_at hl 0 rfl) ?_
  refine lv_iload_n hx hb dL_law_274.1.1 rfl (lv_at hl 3 rfl) ?_
  refine lv_iconst (v := 1) hx hb dL_law_275.1.1 dL_law_275.2 ?_
  refine lv_iadd hx hb dL_law_276.1 ?_
  refine va_sld hx hb hX hbl hbA hS (lm_in 1 hi hn hL (by decide)) dL_law_277.1 ?_
  refine lv_aload_n hx hb dL_law_278.1.1 rfl (lv_at hl 0 rfl) ?_
  refine lv_iload_n hx hb dL_law_279.1.1 rfl (lv_at hl 3 rfl) ?_
  refine lv_iconst (v := 2) hx hb dL_law_280.1.1 dL_law_280.2 ?_
  refine lv_iadd hx hb dL_law_281.1 ?_
  refine va_sld hx hb hX hbl hbA hS (lm_in 2 hi hn hL (by decide)) dL_law_282.1 ?_
  refine vm_goV (M' := mX11_key) (D := 30) (n := 2) (k := 0) (ci := 11) (σ := σ) (as := [.int (xs (i + 1).toNatClampNeg), .int (xs (i + 2).toNatClampNeg)]) (st := []) hx hb hml hown (lm_hts hts) hinj rfl hSt hl.1 hP hS mv_RL_34 rfl rfl rfl dL_law_283.1 (Nat.le_of_ble_eq_true rfl) ⟨Nat.le_of_ble_eq_true rfl, Nat.le_of_ble_eq_true rfl, Nat.le_of_ble_eq_true rfl, Nat.le_of_ble_eq_true rfl⟩ (b_key (xs (i + 1).toNatClampNeg) (xs (i + 2).toNatClampNeg) σ hI) (fun r1 σ1 H1 locs1 hq1 hP1 hS1 => ?_)
  obtain ⟨w, rfl, hq1⟩ := hq1
  show W p l e room_1 s m #[Value.ref b] below meth c H1 locs1 60 446937 (lw_Z below #[Value.ref b] s) (F0 m 286 ls [.int w])
  refine lv_aload_n hx hb dL_law_286.1.1 rfl (lv_at hl 2 rfl) ?_
  refine lv_aload_n hx hb dL_law_287.1.1 rfl (lv_at hl 0 rfl) ?_
  refine lv_iload_n hx hb dL_law_288.1.1 rfl (lv_at hl 3 rfl) ?_
  refine lv_iconst (v := 1) hx hb dL_law_289.1.1 dL_law_289.2 ?_
  refine lv_iadd hx hb dL_law_290.1 ?_
  refine va_sld hx hb hX hbl hbA hS1 (lm_in 1 hi hn hL (by decide)) dL_law_291.1 ?_
  refine lv_aload_n hx hb dL_law_292.1.1 rfl (lv_at hl 0 rfl) ?_
  refine lv_iload_n hx hb dL_law_293.1.1 rfl (lv_at hl 3 rfl) ?_
  refine lv_iconst (v := 2) hx hb dL_law_294.1.1 dL_law_294.2 ?_
  refine lv_iadd hx hb dL_law_295.1 ?_
  refine va_sld hx hb hX hbl hbA hS1 (lm_in 2 hi hn hL (by decide)) dL_law_296.1 ?_
  refine vm_goV (M' := mX12_key) (D := 30) (n := 2) (k := 44) (ci := 12) (σ := σ1) (as := [.int (xs (i + 1).toNatClampNeg), .int (xs (i + 2).toNatClampNeg)]) (st := [.int w]) hx hb hml hown (lm_hts hts) hinj rfl hSt hl.1 hP1 hS1 mv_RL_38 rfl rfl rfl dL_law_297.1 (Nat.le_of_ble_eq_true rfl) ⟨Nat.le_of_ble_eq_true rfl, Nat.le_of_ble_eq_true rfl, Nat.le_of_ble_eq_true rfl, Nat.le_of_ble_eq_true rfl⟩ hq1 (fun r2 σ2 H2 locs2 hq2 hP2 hS2 => ?_)
  obtain ⟨hv2, hI2⟩ := hq2
  subst hv2
  show W p l e room_1 s m #[Value.ref b] below meth c H2 locs2 60 446937 (lw_Z below #[Value.ref b] s) (F0 m 300 ls [.int w, .int w])
  refine lv_icmp_eq (tgt := 854) hx hb dL_law_300.1 dL_law_300.2.2 (fun _ => kk _ _ _ hI2 hP2 hS2) (fun c9 => absurd rfl c9)
/-- strike -/
theorem lc_5 (C : lm_C p s m meth c b L xs G ad tc) (hi : i = nI n) (hn : n + 4 ≤ L) (hl : lv_has ls 4 [(0, .ref b), (1, .ref (ad 0)), (2, .ref (ad 44)), (3, .int i)]) (hP : va_P G classes (vm_cells ad tc σ) H) (hS : va_S (vm_A ad s.heap.size) s.heap H locs) (hI : Inv σ) (kk : ∀ (τ : Wd) (H1 : Heap) (locs1 : List Loc), Inv τ → va_P G classes (vm_cells ad tc τ) H1 → va_S (vm_A ad s.heap.size) s.heap H1 locs1 → W p l e room_1 s m #[Value.ref b] below meth c H1 locs1 60 446937 (lw_Z below #[Value.ref b] s) (F0 m 854 ls [])) : W p l e room_1 s m #[Value.ref b] below meth c H locs 60 446937 (lw_Z below #[Value.ref b] s) (F0 m 305 ls []) := by
  obtain ⟨⟨hx, hb, hr, hml, hown, hts, hX, hbl, hlocks, hgv⟩, hL, hinj, hSt, hge⟩ := id C
  have hbA := lm_not hge hbl
  refine lv_aload_n hx hb dL_law_305.1.1 rfl (lv_at hl 1 rfl) ?_
  refine lv_aload_n hx hb dL_law_306.1.1 rfl (lv_at hl 0 rfl) ?_
  refine lv_iload_n hx hb dL_law_307.1.1 rfl (lv_at hl 3 rfl) ?_
  refine lv_iconst (v := 1) hx hb dL_law_308.1.1 dL_law_308.2 ?_
  refine lv_iadd hx hb dL_law_309.1 ?_
  refine va_sld hx hb hX hbl hbA hS (lm_in 1 hi hn hL (by decide)) dL_law_310.1 ?_
  refine vm_goV (M' := mX11_strike) (D := 30) (n := 1) (k := 0) (ci := 11) (σ := σ) (as := [.int (xs (i + 1).toNatClampNeg)]) (st := []) hx hb hml hown (lm_hts hts) hinj rfl hSt hl.1 hP hS mv_RL_39 rfl rfl rfl dL_law_311.1 (Nat.le_of_ble_eq_true rfl) ⟨Nat.le_of_ble_eq_true rfl, Nat.le_of_ble_eq_true rfl, Nat.le_of_ble_eq_true rfl, Nat.le_of_ble_eq_true rfl⟩ (b_strike (xs (i + 1).toNatClampNeg) σ hI) (fun r1 σ1 H1 locs1 hq1 hP1 hS1 => ?_)
  obtain ⟨w, rfl, hq1⟩ := hq1
  show W p l e room_1 s m #[Value.ref b] below meth c H1 locs1 60 446937 (lw_Z below #[Value.ref b] s) (F0 m 314 ls [.int w])
  refine lv_aload_n hx hb dL_law_314.1.1 rfl (lv_at hl 2 rfl) ?_
  refine lv_aload_n hx hb dL_law_315.1.1 rfl (lv_at hl 0 rfl) ?_
  refine lv_iload_n hx hb dL_law_316.1.1 rfl (lv_at hl 3 rfl) ?_
  refine lv_iconst (v := 1) hx hb dL_law_317.1.1 dL_law_317.2 ?_
  refine lv_iadd hx hb dL_law_318.1 ?_
  refine va_sld hx hb hX hbl hbA hS1 (lm_in 1 hi hn hL (by decide)) dL_law_319.1 ?_
  refine vm_goV (M' := mX12_strike) (D := 30) (n := 1) (k := 44) (ci := 12) (σ := σ1) (as := [.int (xs (i + 1).toNatClampNeg)]) (st := [.int w]) hx hb hml hown (lm_hts hts) hinj rfl hSt hl.1 hP1 hS1 mv_RL_42 rfl rfl rfl dL_law_320.1 (Nat.le_of_ble_eq_true rfl) ⟨Nat.le_of_ble_eq_true rfl, Nat.le_of_ble_eq_true rfl, Nat.le_of_ble_eq_true rfl, Nat.le_of_ble_eq_true rfl⟩ hq1 (fun r2 σ2 H2 locs2 hq2 hP2 hS2 => ?_)
  obtain ⟨hv2, hI2⟩ := hq2
  subst hv2
  show W p l e room_1 s m #[Value.ref b] below meth c H2 locs2 60 446937 (lw_Z below #[Value.ref b] s) (F0 m 323 ls [.int w, .int w])
  refine lv_icmp_eq (tgt := 854) hx hb dL_law_323.1 dL_law_323.2.2 (fun _ => kk _ _ _ hI2 hP2 hS2) (fun c9 => absurd rfl c9)
/-- begin -/
theorem lc_6 (C : lm_C p s m meth c b L xs G ad tc) (hi : i = nI n) (hn : n + 4 ≤ L) (hl : lv_has ls 4 [(0, .ref b), (1, .ref (ad 0)), (2, .ref (ad 44)), (3, .int i)]) (hP : va_P G classes (vm_cells ad tc σ) H) (hS : va_S (vm_A ad s.heap.size) s.heap H locs) (hI : Inv σ) (kk : ∀ (τ : Wd) (H1 : Heap) (locs1 : List Loc), Inv τ → va_P G classes (vm_cells ad tc τ) H1 → va_S (vm_A ad s.heap.size) s.heap H1 locs1 → W p l e room_1 s m #[Value.ref b] below meth c H1 locs1 60 446937 (lw_Z below #[Value.ref b] s) (F0 m 854 ls [])) : W p l e room_1 s m #[Value.ref b] below meth c H locs 60 446937 (lw_Z below #[Value.ref b] s) (F0 m 328 ls []) := by
  obtain ⟨⟨hx, hb, hr, hml, hown, hts, hX, hbl, hlocks, hgv⟩, hL, hinj, hSt, hge⟩ := id C
  have hbA := lm_not hge hbl
  refine lv_aload_n hx hb dL_law_328.1.1 rfl (lv_at hl 1 rfl) ?_
  refine vm_goV (M' := mX11_begin) (D := 30) (n := 0) (k := 0) (ci := 11) (σ := σ) (as := []) (st := []) hx hb hml hown (lm_hts hts) hinj rfl hSt hl.1 hP hS mv_RL_43 rfl rfl rfl dL_law_329.1 (Nat.le_of_ble_eq_true rfl) ⟨Nat.le_of_ble_eq_true rfl, Nat.le_of_ble_eq_true rfl, Nat.le_of_ble_eq_true rfl, Nat.le_of_ble_eq_true rfl⟩ (b_begin  σ hI) (fun r1 σ1 H1 locs1 hq1 hP1 hS1 => ?_)
  obtain ⟨w, rfl, hq1⟩ := hq1
  show W p l e room_1 s m #[Value.ref b] below meth c H1 locs1 60 446937 (lw_Z below #[Value.ref b] s) (F0 m 332 ls [.int w])
  refine lv_aload_n hx hb dL_law_332.1.1 rfl (lv_at hl 2 rfl) ?_
  refine vm_goV (M' := mX12_begin) (D := 30) (n := 0) (k := 44) (ci := 12) (σ := σ1) (as := []) (st := [.int w]) hx hb hml hown (lm_hts hts) hinj rfl hSt hl.1 hP1 hS1 mv_RL_46 rfl rfl rfl dL_law_333.1 (Nat.le_of_ble_eq_true rfl) ⟨Nat.le_of_ble_eq_true rfl, Nat.le_of_ble_eq_true rfl, Nat.le_of_ble_eq_true rfl, Nat.le_of_ble_eq_true rfl⟩ hq1 (fun r2 σ2 H2 locs2 hq2 hP2 hS2 => ?_)
  obtain ⟨hv2, hI2⟩ := hq2
  subst hv2
  show W p l e room_1 s m #[Value.ref b] below meth c H2 locs2 60 446937 (lw_Z below #[Value.ref b] s) (F0 m 336 ls [.int w, .int w])
  refine lv_icmp_eq (tgt := 854) hx hb dL_law_336.1 dL_law_336.2.2 (fun _ => kk _ _ _ hI2 hP2 hS2) (fun c9 => absurd rfl c9)
/-- fewest -/
theorem lc_7 (C : lm_C p s m meth c b L xs G ad tc) (hi : i = nI n) (hn : n + 4 ≤ L) (hl : lv_has ls 4 [(0, .ref b), (1, .ref (ad 0)), (2, .ref (ad 44)), (3, .int i)]) (hP : va_P G classes (vm_cells ad tc σ) H) (hS : va_S (vm_A ad s.heap.size) s.heap H locs) (hI : Inv σ) (kk : ∀ (τ : Wd) (H1 : Heap) (locs1 : List Loc), Inv τ → va_P G classes (vm_cells ad tc τ) H1 → va_S (vm_A ad s.heap.size) s.heap H1 locs1 → W p l e room_1 s m #[Value.ref b] below meth c H1 locs1 60 446937 (lw_Z below #[Value.ref b] s) (F0 m 854 ls [])) : W p l e room_1 s m #[Value.ref b] below meth c H locs 60 446937 (lw_Z below #[Value.ref b] s) (F0 m 341 ls []) := by
  obtain ⟨⟨hx, hb, hr, hml, hown, hts, hX, hbl, hlocks, hgv⟩, hL, hinj, hSt, hge⟩ := id C
  have hbA := lm_not hge hbl
  refine lv_aload_n hx hb dL_law_341.1.1 rfl (lv_at hl 1 rfl) ?_
  refine lv_aload_n hx hb dL_law_342.1.1 rfl (lv_at hl 0 rfl) ?_
  refine lv_iload_n hx hb dL_law_343.1.1 rfl (lv_at hl 3 rfl) ?_
  refine lv_iconst (v := 1) hx hb dL_law_344.1.1 dL_law_344.2 ?_
  refine lv_iadd hx hb dL_law_345.1 ?_
  refine va_sld hx hb hX hbl hbA hS (lm_in 1 hi hn hL (by decide)) dL_law_346.1 ?_
  refine vm_goV (M' := mX11_fewest) (D := 30) (n := 1) (k := 0) (ci := 11) (σ := σ) (as := [.int (xs (i + 1).toNatClampNeg)]) (st := []) hx hb hml hown (lm_hts hts) hinj rfl hSt hl.1 hP hS mv_RL_47 rfl rfl rfl dL_law_347.1 (Nat.le_of_ble_eq_true rfl) ⟨Nat.le_of_ble_eq_true rfl, Nat.le_of_ble_eq_true rfl, Nat.le_of_ble_eq_true rfl, Nat.le_of_ble_eq_true rfl⟩ (b_fewest (xs (i + 1).toNatClampNeg) σ hI) (fun r1 σ1 H1 locs1 hq1 hP1 hS1 => ?_)
  obtain ⟨w, rfl, hq1⟩ := hq1
  show W p l e room_1 s m #[Value.ref b] below meth c H1 locs1 60 446937 (lw_Z below #[Value.ref b] s) (F0 m 350 ls [.int w])
  refine lv_aload_n hx hb dL_law_350.1.1 rfl (lv_at hl 2 rfl) ?_
  refine lv_aload_n hx hb dL_law_351.1.1 rfl (lv_at hl 0 rfl) ?_
  refine lv_iload_n hx hb dL_law_352.1.1 rfl (lv_at hl 3 rfl) ?_
  refine lv_iconst (v := 1) hx hb dL_law_353.1.1 dL_law_353.2 ?_
  refine lv_iadd hx hb dL_law_354.1 ?_
  refine va_sld hx hb hX hbl hbA hS1 (lm_in 1 hi hn hL (by decide)) dL_law_355.1 ?_
  refine vm_goV (M' := mX12_fewest) (D := 30) (n := 1) (k := 44) (ci := 12) (σ := σ1) (as := [.int (xs (i + 1).toNatClampNeg)]) (st := [.int w]) hx hb hml hown (lm_hts hts) hinj rfl hSt hl.1 hP1 hS1 mv_RL_50 rfl rfl rfl dL_law_356.1 (Nat.le_of_ble_eq_true rfl) ⟨Nat.le_of_ble_eq_true rfl, Nat.le_of_ble_eq_true rfl, Nat.le_of_ble_eq_true rfl, Nat.le_of_ble_eq_true rfl⟩ hq1 (fun r2 σ2 H2 locs2 hq2 hP2 hS2 => ?_)
  obtain ⟨hv2, hI2⟩ := hq2
  subst hv2
  show W p l e room_1 s m #[Value.ref b] below meth c H2 locs2 60 446937 (lw_Z below #[Value.ref b] s) (F0 m 359 ls [.int w, .int w])
  refine lv_icmp_eq (tgt := 854) hx hb dL_law_359.1 dL_law_359.2.2 (fun _ => kk _ _ _ hI2 hP2 hS2) (fun c9 => absurd rfl c9)
/-- way -/
theorem lc_8 (C : lm_C p s m meth c b L xs G ad tc) (hi : i = nI n) (hn : n + 4 ≤ L) (hl : lv_has ls 4 [(0, .ref b), (1, .ref (ad 0)), (2, .ref (ad 44)), (3, .int i)]) (hP : va_P G classes (vm_cells ad tc σ) H) (hS : va_S (vm_A ad s.heap.size) s.heap H locs) (hI : Inv σ) (kk : ∀ (τ : Wd) (H1 : Heap) (locs1 : List Loc), Inv τ → va_P G classes (vm_cells ad tc τ) H1 → va_S (vm_A ad s.heap.size) s.heap H1 locs1 → W p l e room_1 s m #[Value.ref b] below meth c H1 locs1 60 446937 (lw_Z below #[Value.ref b] s) (F0 m 854 ls [])) : W p l e room_1 s m #[Value.ref b] below meth c H locs 60 446937 (lw_Z below #[Value.ref b] s) (F0 m 364 ls []) := by
  obtain ⟨⟨hx, hb, hr, hml, hown, hts, hX, hbl, hlocks, hgv⟩, hL, hinj, hSt, hge⟩ := id C
  have hbA := lm_not hge hbl
  refine lv_aload_n hx hb dL_law_364.1.1 rfl (lv_at hl 1 rfl) ?_
  refine lv_aload_n hx hb dL_law_365.1.1 rfl (lv_at hl 0 rfl) ?_
  refine lv_iload_n hx hb dL_law_366.1.1 rfl (lv_at hl 3 rfl) ?_
  refine lv_iconst (v := 1) hx hb dL_law_367.1.1 dL_law_367.2 ?_
  refine lv_iadd hx hb dL_law_368.1 ?_
  refine va_sld hx hb hX hbl hbA hS (lm_in 1 hi hn hL (by decide)) dL_law_369.1 ?_
  refine lv_aload_n hx hb dL_law_370.1.1 rfl (lv_at hl 0 rfl) ?_
  refine lv_iload_n hx hb dL_law_371.1.1 rfl (lv_at hl 3 rfl) ?_
  refine lv_iconst (v := 2) hx hb dL_law_372.1.1 dL_law_372.2 ?_
  refine lv_iadd hx hb dL_law_373.1 ?_
  refine va_sld hx hb hX hbl hbA hS (lm_in 2 hi hn hL (by decide)) dL_law_374.1 ?_
  refine vm_goV (M' := mX11_way) (D := 30) (n := 2) (k := 0) (ci := 11) (σ := σ) (as := [.int (xs (i + 1).toNatClampNeg), .int (xs (i + 2).toNatClampNeg)]) (st := []) hx hb hml hown (lm_hts hts) hinj rfl hSt hl.1 hP hS mv_RL_51 rfl rfl rfl dL_law_375.1 (Nat.le_of_ble_eq_true rfl) ⟨Nat.le_of_ble_eq_true rfl, Nat.le_of_ble_eq_true rfl, Nat.le_of_ble_eq_true rfl, Nat.le_of_ble_eq_true rfl⟩ (b_way (xs (i + 1).toNatClampNeg) (xs (i + 2).toNatClampNeg) σ hI) (fun r1 σ1 H1 locs1 hq1 hP1 hS1 => ?_)
  obtain ⟨w, rfl, hq1⟩ := hq1
  show W p l e room_1 s m #[Value.ref b] below meth c H1 locs1 60 446937 (lw_Z below #[Value.ref b] s) (F0 m 378 ls [.int w])
  refine lv_aload_n hx hb dL_law_378.1.1 rfl (lv_at hl 2 rfl) ?_
  refine lv_aload_n hx hb dL_law_379.1.1 rfl (lv_at hl 0 rfl) ?_
  refine lv_iload_n hx hb dL_law_380.1.1 rfl (lv_at hl 3 rfl) ?_
  refine lv_iconst (v := 1) hx hb dL_law_381.1.1 dL_law_381.2 ?_
  refine lv_iadd hx hb dL_law_382.1 ?_
  refine va_sld hx hb hX hbl hbA hS1 (lm_in 1 hi hn hL (by decide)) dL_law_383.1 ?_
  refine lv_aload_n hx hb dL_law_384.1.1 rfl (lv_at hl 0 rfl) ?_
  refine lv_iload_n hx hb dL_law_385.1.1 rfl (lv_at hl 3 rfl) ?_
  refine lv_iconst (v := 2) hx hb dL_law_386.1.1 dL_law_386.2 ?_
  refine lv_iadd hx hb dL_law_387.1 ?_
  refine va_sld hx hb hX hbl hbA hS1 (lm_in 2 hi hn hL (by decide)) dL_law_388.1 ?_
  refine vm_goV (M' := mX12_way) (D := 30) (n := 2) (k := 44) (ci := 12) (σ := σ1) (as := [.int (xs (i + 1).toNatClampNeg), .int (xs (i + 2).toNatClampNeg)]) (st := [.int w]) hx hb hml hown (lm_hts hts) hinj rfl hSt hl.1 hP1 hS1 mv_RL_54 rfl rfl rfl dL_law_389.1 (Nat.le_of_ble_eq_true rfl) ⟨Nat.le_of_ble_eq_true rfl, Nat.le_of_ble_eq_true rfl, Nat.le_of_ble_eq_true rfl, Nat.le_of_ble_eq_true rfl⟩ hq1 (fun r2 σ2 H2 locs2 hq2 hP2 hS2 => ?_)
  obtain ⟨hv2, hI2⟩ := hq2
  subst hv2
  show W p l e room_1 s m #[Value.ref b] below meth c H2 locs2 60 446937 (lw_Z below #[Value.ref b] s) (F0 m 392 ls [.int w, .int w])
  refine lv_icmp_eq (tgt := 854) hx hb dL_law_392.1 dL_law_392.2.2 (fun _ => kk _ _ _ hI2 hP2 hS2) (fun c9 => absurd rfl c9)
/-- least -/
theorem lc_9 (C : lm_C p s m meth c b L xs G ad tc) (hi : i = nI n) (hn : n + 4 ≤ L) (hl : lv_has ls 4 [(0, .ref b), (1, .ref (ad 0)), (2, .ref (ad 44)), (3, .int i)]) (hP : va_P G classes (vm_cells ad tc σ) H) (hS : va_S (vm_A ad s.heap.size) s.heap H locs) (hI : Inv σ) (kk : ∀ (τ : Wd) (H1 : Heap) (locs1 : List Loc), Inv τ → va_P G classes (vm_cells ad tc τ) H1 → va_S (vm_A ad s.heap.size) s.heap H1 locs1 → W p l e room_1 s m #[Value.ref b] below meth c H1 locs1 60 446937 (lw_Z below #[Value.ref b] s) (F0 m 854 ls [])) : W p l e room_1 s m #[Value.ref b] below meth c H locs 60 446937 (lw_Z below #[Value.ref b] s) (F0 m 397 ls []) := by
  obtain ⟨⟨hx, hb, hr, hml, hown, hts, hX, hbl, hlocks, hgv⟩, hL, hinj, hSt, hge⟩ := id C
  have hbA := lm_not hge hbl
  refine lv_aload_n hx hb dL_law_397.1.1 rfl (lv_at hl 1 rfl) ?_
  refine lv_aload_n hx hb dL_law_398.1.1 rfl (lv_at hl 0 rfl) ?_
  refine lv_iload_n hx hb dL_law_399.1.1 rfl (lv_at hl 3 rfl) ?_
  refine lv_iconst (v := 1) hx hb dL_law_400.1.1 dL_law_400.2 ?_
  refine lv_iadd hx hb dL_law_401.1 ?_
  refine va_sld hx hb hX hbl hbA hS (lm_in 1 hi hn hL (by decide)) dL_law_402.1 ?_
  refine vm_goV (M' := mX11_least) (D := 30) (n := 1) (k := 0) (ci := 11) (σ := σ) (as := [.int (xs (i + 1).toNatClampNeg)]) (st := []) hx hb hml hown (lm_hts hts) hinj rfl hSt hl.1 hP hS mv_RL_55 rfl rfl rfl dL_law_403.1 (Nat.le_of_ble_eq_true rfl) ⟨Nat.le_of_ble_eq_true rfl, Nat.le_of_ble_eq_true rfl, Nat.le_of_ble_eq_true rfl, Nat.le_of_ble_eq_true rfl⟩ (b_least (xs (i + 1).toNatClampNeg) σ hI) (fun r1 σ1 H1 locs1 hq1 hP1 hS1 => ?_)
  obtain ⟨w, rfl, hq1⟩ := hq1
  show W p l e room_1 s m #[Value.ref b] below meth c H1 locs1 60 446937 (lw_Z below #[Value.ref b] s) (F0 m 406 ls [.int w])
  refine lv_aload_n hx hb dL_law_406.1.1 rfl (lv_at hl 2 rfl) ?_
  refine lv_aload_n hx hb dL_law_407.1.1 rfl (lv_at hl 0 rfl) ?_
  refine lv_iload_n hx hb dL_law_408.1.1 rfl (lv_at hl 3 rfl) ?_
  refine lv_iconst (v := 1) hx hb dL_law_409.1.1 dL_law_409.2 ?_
  refine lv_iadd hx hb dL_law_410.1 ?_
  refine va_sld hx hb hX hbl hbA hS1 (lm_in 1 hi hn hL (by decide)) dL_law_411.1 ?_
  refine vm_goV (M' := mX12_least) (D := 30) (n := 1) (k := 44) (ci := 12) (σ := σ1) (as := [.int (xs (i + 1).toNatClampNeg)]) (st := [.int w]) hx hb hml hown (lm_hts hts) hinj rfl hSt hl.1 hP1 hS1 mv_RL_58 rfl rfl rfl dL_law_412.1 (Nat.le_of_ble_eq_true rfl) ⟨Nat.le_of_ble_eq_true rfl, Nat.le_of_ble_eq_true rfl, Nat.le_of_ble_eq_true rfl, Nat.le_of_ble_eq_true rfl⟩ hq1 (fun r2 σ2 H2 locs2 hq2 hP2 hS2 => ?_)
  obtain ⟨hv2, hI2⟩ := hq2
  subst hv2
  show W p l e room_1 s m #[Value.ref b] below meth c H2 locs2 60 446937 (lw_Z below #[Value.ref b] s) (F0 m 415 ls [.int w, .int w])
  refine lv_icmp_eq (tgt := 854) hx hb dL_law_415.1 dL_law_415.2.2 (fun _ => kk _ _ _ hI2 hP2 hS2) (fun c9 => absurd rfl c9)
/-- never -/
theorem lc_10 (C : lm_C p s m meth c b L xs G ad tc) (hi : i = nI n) (hn : n + 4 ≤ L) (hl : lv_has ls 4 [(0, .ref b), (1, .ref (ad 0)), (2, .ref (ad 44)), (3, .int i)]) (hP : va_P G classes (vm_cells ad tc σ) H) (hS : va_S (vm_A ad s.heap.size) s.heap H locs) (hI : Inv σ) (kk : ∀ (τ : Wd) (H1 : Heap) (locs1 : List Loc), Inv τ → va_P G classes (vm_cells ad tc τ) H1 → va_S (vm_A ad s.heap.size) s.heap H1 locs1 → W p l e room_1 s m #[Value.ref b] below meth c H1 locs1 60 446937 (lw_Z below #[Value.ref b] s) (F0 m 854 ls [])) : W p l e room_1 s m #[Value.ref b] below meth c H locs 60 446937 (lw_Z below #[Value.ref b] s) (F0 m 420 ls []) := by
  obtain ⟨⟨hx, hb, hr, hml, hown, hts, hX, hbl, hlocks, hgv⟩, hL, hinj, hSt, hge⟩ := id C
  have hbA := lm_not hge hbl
  refine lv_aload_n hx hb dL_law_420.1.1 rfl (lv_at hl 1 rfl) ?_
  refine lv_aload_n hx hb dL_law_421.1.1 rfl (lv_at hl 0 rfl) ?_
  refine lv_iload_n hx hb dL_law_422.1.1 rfl (lv_at hl 3 rfl) ?_
  refine lv_iconst (v := 1) hx hb dL_law_423.1.1 dL_law_423.2 ?_
  refine lv_iadd hx hb dL_law_424.1 ?_
  refine va_sld hx hb hX hbl hbA hS (lm_in 1 hi hn hL (by decide)) dL_law_425.1 ?_
  refine vm_goV (M' := mX11_never) (D := 30) (n := 1) (k := 0) (ci := 11) (σ := σ) (as := [.int (xs (i + 1).toNatClampNeg)]) (st := []) hx hb hml hown (lm_hts hts) hinj rfl hSt hl.1 hP hS mv_RL_59 rfl rfl rfl dL_law_426.1 (Nat.le_of_ble_eq_true rfl) ⟨Nat.le_of_ble_eq_true rfl, Nat.le_of_ble_eq_true rfl, Nat.le_of_ble_eq_true rfl, Nat.le_of_ble_eq_true rfl⟩ (b_never (xs (i + 1).toNatClampNeg) σ hI) (fun r1 σ1 H1 locs1 hq1 hP1 hS1 => ?_)
  obtain ⟨w, rfl, hq1⟩ := hq1
  show W p l e room_1 s m #[Value.ref b] below meth c H1 locs1 60 446937 (lw_Z below #[Value.ref b] s) (F0 m 429 ls [.int w])
  refine lv_aload_n hx hb dL_law_429.1.1 rfl (lv_at hl 2 rfl) ?_
  refine lv_aload_n hx hb dL_law_430.1.1 rfl (lv_at hl 0 rfl) ?_
  refine lv_iload_n hx hb dL_law_431.1.1 rfl (lv_at hl 3 rfl) ?_
  refine lv_iconst (v := 1) hx hb dL_law_432.1.1 dL_law_432.2 ?_
  refine lv_iadd hx hb dL_law_433.1 ?_
  refine va_sld hx hb hX hbl hbA hS1 (lm_in 1 hi hn hL (by decide)) dL_law_434.1 ?_
  refine vm_goV (M' := mX12_never) (D := 30) (n := 1) (k := 44) (ci := 12) (σ := σ1) (as := [.int (xs (i + 1).toNatClampNeg)]) (st := [.int w]) hx hb hml hown (lm_hts hts) hinj rfl hSt hl.1 hP1 hS1 mv_RL_62 rfl rfl rfl dL_law_435.1 (Nat.le_of_ble_eq_true rfl) ⟨Nat.le_of_ble_eq_true rfl, Nat.le_of_ble_eq_true rfl, Nat.le_of_ble_eq_true rfl, Nat.le_of_ble_eq_true rfl⟩ hq1 (fun r2 σ2 H2 locs2 hq2 hP2 hS2 => ?_)
  obtain ⟨hv2, hI2⟩ := hq2
  subst hv2
  show W p l e room_1 s m #[Value.ref b] below meth c H2 locs2 60 446937 (lw_Z below #[Value.ref b] s) (F0 m 438 ls [.int w, .int w])
  refine lv_icmp_eq (tgt := 854) hx hb dL_law_438.1 dL_law_438.2.2 (fun _ => kk _ _ _ hI2 hP2 hS2) (fun c9 => absurd rfl c9)
/-- farthest -/
theorem lc_11 (C : lm_C p s m meth c b L xs G ad tc) (hi : i = nI n) (hn : n + 4 ≤ L) (hl : lv_has ls 4 [(0, .ref b), (1, .ref (ad 0)), (2, .ref (ad 44)), (3, .int i)]) (hP : va_P G classes (vm_cells ad tc σ) H) (hS : va_S (vm_A ad s.heap.size) s.heap H locs) (hI : Inv σ) (kk : ∀ (τ : Wd) (H1 : Heap) (locs1 : List Loc), Inv τ → va_P G classes (vm_cells ad tc τ) H1 → va_S (vm_A ad s.heap.size) s.heap H1 locs1 → W p l e room_1 s m #[Value.ref b] below meth c H1 locs1 60 446937 (lw_Z below #[Value.ref b] s) (F0 m 854 ls [])) : W p l e room_1 s m #[Value.ref b] below meth c H locs 60 446937 (lw_Z below #[Value.ref b] s) (F0 m 443 ls []) := by
  obtain ⟨⟨hx, hb, hr, hml, hown, hts, hX, hbl, hlocks, hgv⟩, hL, hinj, hSt, hge⟩ := id C
  have hbA := lm_not hge hbl
  refine lv_aload_n hx hb dL_law_443.1.1 rfl (lv_at hl 1 rfl) ?_
  refine lv_aload_n hx hb dL_law_444.1.1 rfl (lv_at hl 0 rfl) ?_
  refine lv_iload_n hx hb dL_law_445.1.1 rfl (lv_at hl 3 rfl) ?_
  refine lv_iconst (v := 1) hx hb dL_law_446.1.1 dL_law_446.2 ?_
  refine lv_iadd hx hb dL_law_447.1 ?_
  refine va_sld hx hb hX hbl hbA hS (lm_in 1 hi hn hL (by decide)) dL_law_448.1 ?_
  refine vm_goV (M' := mX11_farthest) (D := 30) (n := 1) (k := 0) (ci := 11) (σ := σ) (as := [.int (xs (i + 1).toNatClampNeg)]) (st := []) hx hb hml hown (lm_hts hts) hinj rfl hSt hl.1 hP hS mv_RL_63 rfl rfl rfl dL_law_449.1 (Nat.le_of_ble_eq_true rfl) ⟨Nat.le_of_ble_eq_true rfl, Nat.le_of_ble_eq_true rfl, Nat.le_of_ble_eq_true rfl, Nat.le_of_ble_eq_true rfl⟩ (b_farthest (xs (i + 1).toNatClampNeg) σ hI) (fun r1 σ1 H1 locs1 hq1 hP1 hS1 => ?_)
  obtain ⟨w, rfl, hq1⟩ := hq1
  show W p l e room_1 s m #[Value.ref b] below meth c H1 locs1 60 446937 (lw_Z below #[Value.ref b] s) (F0 m 452 ls [.int w])
  refine lv_aload_n hx hb dL_law_452.1.1 rfl (lv_at hl 2 rfl) ?_
  refine lv_aload_n hx hb dL_law_453.1.1 rfl (lv_at hl 0 rfl) ?_
  refine lv_iload_n hx hb dL_law_454.1.1 rfl (lv_at hl 3 rfl) ?_
  refine lv_iconst (v := 1) hx hb dL_law_455.1.1 dL_law_455.2 ?_
  refine lv_iadd hx hb dL_law_456.1 ?_
  refine va_sld hx hb hX hbl hbA hS1 (lm_in 1 hi hn hL (by decide)) dL_law_457.1 ?_
  refine vm_goV (M' := mX12_farthest) (D := 30) (n := 1) (k := 44) (ci := 12) (σ := σ1) (as := [.int (xs (i + 1).toNatClampNeg)]) (st := [.int w]) hx hb hml hown (lm_hts hts) hinj rfl hSt hl.1 hP1 hS1 mv_RL_66 rfl rfl rfl dL_law_458.1 (Nat.le_of_ble_eq_true rfl) ⟨Nat.le_of_ble_eq_true rfl, Nat.le_of_ble_eq_true rfl, Nat.le_of_ble_eq_true rfl, Nat.le_of_ble_eq_true rfl⟩ hq1 (fun r2 σ2 H2 locs2 hq2 hP2 hS2 => ?_)
  obtain ⟨hv2, hI2⟩ := hq2
  subst hv2
  show W p l e room_1 s m #[Value.ref b] below meth c H2 locs2 60 446937 (lw_Z below #[Value.ref b] s) (F0 m 461 ls [.int w, .int w])
  refine lv_icmp_eq (tgt := 854) hx hb dL_law_461.1 dL_law_461.2.2 (fun _ => kk _ _ _ hI2 hP2 hS2) (fun c9 => absurd rfl c9)
/-- target -/
theorem lc_12 (C : lm_C p s m meth c b L xs G ad tc) (hi : i = nI n) (hn : n + 4 ≤ L) (hl : lv_has ls 4 [(0, .ref b), (1, .ref (ad 0)), (2, .ref (ad 44)), (3, .int i)]) (hP : va_P G classes (vm_cells ad tc σ) H) (hS : va_S (vm_A ad s.heap.size) s.heap H locs) (hI : Inv σ) (kk : ∀ (τ : Wd) (H1 : Heap) (locs1 : List Loc), Inv τ → va_P G classes (vm_cells ad tc τ) H1 → va_S (vm_A ad s.heap.size) s.heap H1 locs1 → W p l e room_1 s m #[Value.ref b] below meth c H1 locs1 60 446937 (lw_Z below #[Value.ref b] s) (F0 m 854 ls [])) : W p l e room_1 s m #[Value.ref b] below meth c H locs 60 446937 (lw_Z below #[Value.ref b] s) (F0 m 466 ls []) := by
  obtain ⟨⟨hx, hb, hr, hml, hown, hts, hX, hbl, hlocks, hgv⟩, hL, hinj, hSt, hge⟩ := id C
  have hbA := lm_not hge hbl
  refine lv_aload_n hx hb dL_law_466.1.1 rfl (lv_at hl 1 rfl) ?_
  refine lv_aload_n hx hb dL_law_467.1.1 rfl (lv_at hl 0 rfl) ?_
  refine lv_iload_n hx hb dL_law_468.1.1 rfl (lv_at hl 3 rfl) ?_
  refine lv_iconst (v := 1) hx hb dL_law_469.1.1 dL_law_469.2 ?_
  refine lv_iadd hx hb dL_law_470.1 ?_
  refine va_sld hx hb hX hbl hbA hS (lm_in 1 hi hn hL (by decide)) dL_law_471.1 ?_
  refine vm_goV (M' := mX11_target) (D := 30) (n := 1) (k := 0) (ci := 11) (σ := σ) (as := [.int (xs (i + 1).toNatClampNeg)]) (st := []) hx hb hml hown (lm_hts hts) hinj rfl hSt hl.1 hP hS mv_RL_67 rfl rfl rfl dL_law_472.1 (Nat.le_of_ble_eq_true rfl) ⟨Nat.le_of_ble_eq_true rfl, Nat.le_of_ble_eq_true rfl, Nat.le_of_ble_eq_true rfl, Nat.le_of_ble_eq_true rfl⟩ (b_target (xs (i + 1).toNatClampNeg) σ hI) (fun r1 σ1 H1 locs1 hq1 hP1 hS1 => ?_)
  obtain ⟨w, rfl, hq1⟩ := hq1
  show W p l e room_1 s m #[Value.ref b] below meth c H1 locs1 60 446937 (lw_Z below #[Value.ref b] s) (F0 m 475 ls [.int w])
  refine lv_aload_n hx hb dL_law_475.1.1 rfl (lv_at hl 2 rfl) ?_
  refine lv_aload_n hx hb dL_law_476.1.1 rfl (lv_at hl 0 rfl) ?_
  refine lv_iload_n hx hb dL_law_477.1.1 rfl (lv_at hl 3 rfl) ?_
  refine lv_iconst (v := 1) hx hb dL_law_478.1.1 dL_law_478.2 ?_
  refine lv_iadd hx hb dL_law_479.1 ?_
  refine va_sld hx hb hX hbl hbA hS1 (lm_in 1 hi hn hL (by decide)) dL_law_480.1 ?_
  refine vm_goV (M' := mX12_target) (D := 30) (n := 1) (k := 44) (ci := 12) (σ := σ1) (as := [.int (xs (i + 1).toNatClampNeg)]) (st := [.int w]) hx hb hml hown (lm_hts hts) hinj rfl hSt hl.1 hP1 hS1 mv_RL_70 rfl rfl rfl dL_law_481.1 (Nat.le_of_ble_eq_true rfl) ⟨Nat.le_of_ble_eq_true rfl, Nat.le_of_ble_eq_true rfl, Nat.le_of_ble_eq_true rfl, Nat.le_of_ble_eq_true rfl⟩ hq1 (fun r2 σ2 H2 locs2 hq2 hP2 hS2 => ?_)
  obtain ⟨hv2, hI2⟩ := hq2
  subst hv2
  show W p l e room_1 s m #[Value.ref b] below meth c H2 locs2 60 446937 (lw_Z below #[Value.ref b] s) (F0 m 484 ls [.int w, .int w])
  refine lv_icmp_eq (tgt := 854) hx hb dL_law_484.1 dL_law_484.2.2 (fun _ => kk _ _ _ hI2 hP2 hS2) (fun c9 => absurd rfl c9)
/-- targetAt -/
theorem lc_13 (C : lm_C p s m meth c b L xs G ad tc) (hi : i = nI n) (hn : n + 4 ≤ L) (hl : lv_has ls 4 [(0, .ref b), (1, .ref (ad 0)), (2, .ref (ad 44)), (3, .int i)]) (hP : va_P G classes (vm_cells ad tc σ) H) (hS : va_S (vm_A ad s.heap.size) s.heap H locs) (hI : Inv σ) (kk : ∀ (τ : Wd) (H1 : Heap) (locs1 : List Loc), Inv τ → va_P G classes (vm_cells ad tc τ) H1 → va_S (vm_A ad s.heap.size) s.heap H1 locs1 → W p l e room_1 s m #[Value.ref b] below meth c H1 locs1 60 446937 (lw_Z below #[Value.ref b] s) (F0 m 854 ls [])) : W p l e room_1 s m #[Value.ref b] below meth c H locs 60 446937 (lw_Z below #[Value.ref b] s) (F0 m 489 ls []) := by
  obtain ⟨⟨hx, hb, hr, hml, hown, hts, hX, hbl, hlocks, hgv⟩, hL, hinj, hSt, hge⟩ := id C
  have hbA := lm_not hge hbl
  refine lv_aload_n hx hb dL_law_489.1.1 rfl (lv_at hl 1 rfl) ?_
  refine lv_aload_n hx hb dL_law_490.1.1 rfl (lv_at hl 0 rfl) ?_
  refine lv_iload_n hx hb dL_law_491.1.1 rfl (lv_at hl 3 rfl) ?_
  refine lv_iconst (v := 1) hx hb dL_law_492.1.1 dL_law_492.2 ?_
  refine lv_iadd hx hb dL_law_493.1 ?_
  refine va_sld hx hb hX hbl hbA hS (lm_in 1 hi hn hL (by decide)) dL_law_494.1 ?_
  refine vm_goV (M' := mX11_targetAt) (D := 30) (n := 1) (k := 0) (ci := 11) (σ := σ) (as := [.int (xs (i + 1).toNatClampNeg)]) (st := []) hx hb hml hown (lm_hts hts) hinj rfl hSt hl.1 hP hS mv_RL_71 rfl rfl rfl dL_law_495.1 (Nat.le_of_ble_eq_true rfl) ⟨Nat.le_of_ble_eq_true rfl, Nat.le_of_ble_eq_true rfl, Nat.le_of_ble_eq_true rfl, Nat.le_of_ble_eq_true rfl⟩ (b_targetAt (xs (i + 1).toNatClampNeg) σ hI) (fun r1 σ1 H1 locs1 hq1 hP1 hS1 => ?_)
  obtain ⟨w, rfl, hq1⟩ := hq1
  show W p l e room_1 s m #[Value.ref b] below meth c H1 locs1 60 446937 (lw_Z below #[Value.ref b] s) (F0 m 498 ls [.int w])
  refine lv_aload_n hx hb dL_law_498.1.1 rfl (lv_at hl 2 rfl) ?_
  refine lv_aload_n hx hb dL_law_499.1.1 rfl (lv_at hl 0 rfl) ?_
  refine lv_iload_n hx hb dL_law_500.1.1 rfl (lv_at hl 3 rfl) ?_
  refine lv_iconst (v := 1) hx hb dL_law_501.1.1 dL_law_501.2 ?_
  refine lv_iadd hx hb dL_law_502.1 ?_
  refine va_sld hx hb hX hbl hbA hS1 (lm_in 1 hi hn hL (by decide)) dL_law_503.1 ?_
  refine vm_goV (M' := mX12_targetAt) (D := 30) (n := 1) (k := 44) (ci := 12) (σ := σ1) (as := [.int (xs (i + 1).toNatClampNeg)]) (st := [.int w]) hx hb hml hown (lm_hts hts) hinj rfl hSt hl.1 hP1 hS1 mv_RL_74 rfl rfl rfl dL_law_504.1 (Nat.le_of_ble_eq_true rfl) ⟨Nat.le_of_ble_eq_true rfl, Nat.le_of_ble_eq_true rfl, Nat.le_of_ble_eq_true rfl, Nat.le_of_ble_eq_true rfl⟩ hq1 (fun r2 σ2 H2 locs2 hq2 hP2 hS2 => ?_)
  obtain ⟨hv2, hI2⟩ := hq2
  subst hv2
  show W p l e room_1 s m #[Value.ref b] below meth c H2 locs2 60 446937 (lw_Z below #[Value.ref b] s) (F0 m 507 ls [.int w, .int w])
  refine lv_icmp_eq (tgt := 854) hx hb dL_law_507.1 dL_law_507.2.2 (fun _ => kk _ _ _ hI2 hP2 hS2) (fun c9 => absurd rfl c9)
/-- forget -/
theorem lc_14 (C : lm_C p s m meth c b L xs G ad tc) (hi : i = nI n) (hn : n + 4 ≤ L) (hl : lv_has ls 4 [(0, .ref b), (1, .ref (ad 0)), (2, .ref (ad 44)), (3, .int i)]) (hP : va_P G classes (vm_cells ad tc σ) H) (hS : va_S (vm_A ad s.heap.size) s.heap H locs) (hI : Inv σ) (kk : ∀ (τ : Wd) (H1 : Heap) (locs1 : List Loc), Inv τ → va_P G classes (vm_cells ad tc τ) H1 → va_S (vm_A ad s.heap.size) s.heap H1 locs1 → W p l e room_1 s m #[Value.ref b] below meth c H1 locs1 60 446937 (lw_Z below #[Value.ref b] s) (F0 m 854 ls [])) : W p l e room_1 s m #[Value.ref b] below meth c H locs 60 446937 (lw_Z below #[Value.ref b] s) (F0 m 512 ls []) := by
  obtain ⟨⟨hx, hb, hr, hml, hown, hts, hX, hbl, hlocks, hgv⟩, hL, hinj, hSt, hge⟩ := id C
  have hbA := lm_not hge hbl
  refine lv_aload_n hx hb dL_law_512.1.1 rfl (lv_at hl 1 rfl) ?_
  refine vm_goV (M' := mX11_forget) (D := 30) (n := 0) (k := 0) (ci := 11) (σ := σ) (as := []) (st := []) hx hb hml hown (lm_hts hts) hinj rfl hSt hl.1 hP hS mv_RL_75 rfl rfl rfl dL_law_513.1 (Nat.le_of_ble_eq_true rfl) ⟨Nat.le_of_ble_eq_true rfl, Nat.le_of_ble_eq_true rfl, Nat.le_of_ble_eq_true rfl, Nat.le_of_ble_eq_true rfl⟩ (b_forget  σ hI) (fun r1 σ1 H1 locs1 hq1 hP1 hS1 => ?_)
  obtain ⟨w, rfl, hq1⟩ := hq1
  show W p l e room_1 s m #[Value.ref b] below meth c H1 locs1 60 446937 (lw_Z below #[Value.ref b] s) (F0 m 516 ls [.int w])
  refine lv_aload_n hx hb dL_law_516.1.1 rfl (lv_at hl 2 rfl) ?_
  refine vm_goV (M' := mX12_forget) (D := 30) (n := 0) (k := 44) (ci := 12) (σ := σ1) (as := []) (st := [.int w]) hx hb hml hown (lm_hts hts) hinj rfl hSt hl.1 hP1 hS1 mv_RL_78 rfl rfl rfl dL_law_517.1 (Nat.le_of_ble_eq_true rfl) ⟨Nat.le_of_ble_eq_true rfl, Nat.le_of_ble_eq_true rfl, Nat.le_of_ble_eq_true rfl, Nat.le_of_ble_eq_true rfl⟩ hq1 (fun r2 σ2 H2 locs2 hq2 hP2 hS2 => ?_)
  obtain ⟨hv2, hI2⟩ := hq2
  subst hv2
  show W p l e room_1 s m #[Value.ref b] below meth c H2 locs2 60 446937 (lw_Z below #[Value.ref b] s) (F0 m 520 ls [.int w, .int w])
  refine lv_icmp_eq (tgt := 854) hx hb dL_law_520.1 dL_law_520.2.2 (fun _ => kk _ _ _ hI2 hP2 hS2) (fun c9 => absurd rfl c9)
/-- more -/
theorem lc_15 (C : lm_C p s m meth c b L xs G ad tc) (hi : i = nI n) (hn : n + 4 ≤ L) (hl : lv_has ls 4 [(0, .ref b), (1, .ref (ad 0)), (2, .ref (ad 44)), (3, .int i)]) (hP : va_P G classes (vm_cells ad tc σ) H) (hS : va_S (vm_A ad s.heap.size) s.heap H locs) (hI : Inv σ) (kk : ∀ (τ : Wd) (H1 : Heap) (locs1 : List Loc), Inv τ → va_P G classes (vm_cells ad tc τ) H1 → va_S (vm_A ad s.heap.size) s.heap H1 locs1 → W p l e room_1 s m #[Value.ref b] below meth c H1 locs1 60 446937 (lw_Z below #[Value.ref b] s) (F0 m 854 ls [])) : W p l e room_1 s m #[Value.ref b] below meth c H locs 60 446937 (lw_Z below #[Value.ref b] s) (F0 m 525 ls []) := by
  obtain ⟨⟨hx, hb, hr, hml, hown, hts, hX, hbl, hlocks, hgv⟩, hL, hinj, hSt, hge⟩ := id C
  have hbA := lm_not hge hbl
  refine lv_aload_n hx hb dL_law_525.1.1 rfl (lv_at hl 1 rfl) ?_
  refine lv_aload_n hx hb dL_law_526.1.1 rfl (lv_at hl 0 rfl) ?_
  refine lv_iload_n hx hb dL_law_527.1.1 rfl (lv_at hl 3 rfl) ?_
  refine lv_iconst (v := 1) hx hb dL_law_528.1.1 dL_law_528.2 ?_
  refine lv_iadd hx hb dL_law_529.1 ?_
  refine va_sld hx hb hX hbl hbA hS (lm_in 1 hi hn hL (by decide)) dL_law_530.1 ?_
  refine vm_goV (M' := mX11_more) (D := 30) (n := 1) (k := 0) (ci := 11) (σ := σ) (as := [.int (xs (i + 1).toNatClampNeg)]) (st := []) hx hb hml hown (lm_hts hts) hinj rfl hSt hl.1 hP hS mv_RL_79 rfl rfl rfl dL_law_531.1 (Nat.le_of_ble_eq_true rfl) ⟨Nat.le_of_ble_eq_true rfl, Nat.le_of_ble_eq_true rfl, Nat.le_of_ble_eq_true rfl, Nat.le_of_ble_eq_true rfl⟩ (b_more (xs (i + 1).toNatClampNeg) σ hI) (fun r1 σ1 H1 locs1 hq1 hP1 hS1 => ?_)
  obtain ⟨w, rfl, hq1⟩ := hq1
  show W p l e room_1 s m #[Value.ref b] below meth c H1 locs1 60 446937 (lw_Z below #[Value.ref b] s) (F0 m 534 ls [.int w])
  refine lv_aload_n hx hb dL_law_534.1.1 rfl (lv_at hl 2 rfl) ?_
  refine lv_aload_n hx hb dL_law_535.1.1 rfl (lv_at hl 0 rfl) ?_
  refine lv_iload_n hx hb dL_law_536.1.1 rfl (lv_at hl 3 rfl) ?_
  refine lv_iconst (v := 1) hx hb dL_law_537.1.1 dL_law_537.2 ?_
  refine lv_iadd hx hb dL_law_538.1 ?_
  refine va_sld hx hb hX hbl hbA hS1 (lm_in 1 hi hn hL (by decide)) dL_law_539.1 ?_
  refine vm_goV (M' := mX12_more) (D := 30) (n := 1) (k := 44) (ci := 12) (σ := σ1) (as := [.int (xs (i + 1).toNatClampNeg)]) (st := [.int w]) hx hb hml hown (lm_hts hts) hinj rfl hSt hl.1 hP1 hS1 mv_RL_82 rfl rfl rfl dL_law_540.1 (Nat.le_of_ble_eq_true rfl) ⟨Nat.le_of_ble_eq_true rfl, Nat.le_of_ble_eq_true rfl, Nat.le_of_ble_eq_true rfl, Nat.le_of_ble_eq_true rfl⟩ hq1 (fun r2 σ2 H2 locs2 hq2 hP2 hS2 => ?_)
  obtain ⟨hv2, hI2⟩ := hq2
  subst hv2
  show W p l e room_1 s m #[Value.ref b] below meth c H2 locs2 60 446937 (lw_Z below #[Value.ref b] s) (F0 m 543 ls [.int w, .int w])
  refine lv_icmp_eq (tgt := 854) hx hb dL_law_543.1 dL_law_543.2.2 (fun _ => kk _ _ _ hI2 hP2 hS2) (fun c9 => absurd rfl c9)
/-- list -/
theorem lc_16 (C : lm_C p s m meth c b L xs G ad tc) (hi : i = nI n) (hn : n + 4 ≤ L) (hl : lv_has ls 4 [(0, .ref b), (1, .ref (ad 0)), (2, .ref (ad 44)), (3, .int i)]) (hP : va_P G classes (vm_cells ad tc σ) H) (hS : va_S (vm_A ad s.heap.size) s.heap H locs) (hI : Inv σ) (kk : ∀ (τ : Wd) (H1 : Heap) (locs1 : List Loc), Inv τ → va_P G classes (vm_cells ad tc τ) H1 → va_S (vm_A ad s.heap.size) s.heap H1 locs1 → W p l e room_1 s m #[Value.ref b] below meth c H1 locs1 60 446937 (lw_Z below #[Value.ref b] s) (F0 m 854 ls [])) : W p l e room_1 s m #[Value.ref b] below meth c H locs 60 446937 (lw_Z below #[Value.ref b] s) (F0 m 548 ls []) := by
  obtain ⟨⟨hx, hb, hr, hml, hown, hts, hX, hbl, hlocks, hgv⟩, hL, hinj, hSt, hge⟩ := id C
  have hbA := lm_not hge hbl
  refine lv_aload_n hx hb dL_law_548.1.1 rfl (lv_at hl 1 rfl) ?_
  refine vm_goV (M' := mX11_list) (D := 30) (n := 0) (k := 0) (ci := 11) (σ := σ) (as := []) (st := []) hx hb hml hown (lm_hts hts) hinj rfl hSt hl.1 hP hS mv_RL_83 rfl rfl rfl dL_law_549.1 (Nat.le_of_ble_eq_true rfl) ⟨Nat.le_of_ble_eq_true rfl, Nat.le_of_ble_eq_true rfl, Nat.le_of_ble_eq_true rfl, Nat.le_of_ble_eq_true rfl⟩ (b_list  σ hI) (fun r1 σ1 H1 locs1 hq1 hP1 hS1 => ?_)
  obtain ⟨w, rfl, hq1⟩ := hq1
  show W p l e room_1 s m #[Value.ref b] below meth c H1 locs1 60 446937 (lw_Z below #[Value.ref b] s) (F0 m 552 ls [.int w])
  refine lv_aload_n hx hb dL_law_552.1.1 rfl (lv_at hl 2 rfl) ?_
  refine vm_goV (M' := mX12_list) (D := 30) (n := 0) (k := 44) (ci := 12) (σ := σ1) (as := []) (st := [.int w]) hx hb hml hown (lm_hts hts) hinj rfl hSt hl.1 hP1 hS1 mv_RL_86 rfl rfl rfl dL_law_553.1 (Nat.le_of_ble_eq_true rfl) ⟨Nat.le_of_ble_eq_true rfl, Nat.le_of_ble_eq_true rfl, Nat.le_of_ble_eq_true rfl, Nat.le_of_ble_eq_true rfl⟩ hq1 (fun r2 σ2 H2 locs2 hq2 hP2 hS2 => ?_)
  obtain ⟨hv2, hI2⟩ := hq2
  subst hv2
  show W p l e room_1 s m #[Value.ref b] below meth c H2 locs2 60 446937 (lw_Z below #[Value.ref b] s) (F0 m 556 ls [.int w, .int w])
  refine lv_icmp_eq (tgt := 854) hx hb dL_law_556.1 dL_law_556.2.2 (fun _ => kk _ _ _ hI2 hP2 hS2) (fun c9 => absurd rfl c9)
/-- quick -/
theorem lc_17 (C : lm_C p s m meth c b L xs G ad tc) (hi : i = nI n) (hn : n + 4 ≤ L) (hl : lv_has ls 4 [(0, .ref b), (1, .ref (ad 0)), (2, .ref (ad 44)), (3, .int i)]) (hP : va_P G classes (vm_cells ad tc σ) H) (hS : va_S (vm_A ad s.heap.size) s.heap H locs) (hI : Inv σ) (kk : ∀ (τ : Wd) (H1 : Heap) (locs1 : List Loc), Inv τ → va_P G classes (vm_cells ad tc τ) H1 → va_S (vm_A ad s.heap.size) s.heap H1 locs1 → W p l e room_1 s m #[Value.ref b] below meth c H1 locs1 60 446937 (lw_Z below #[Value.ref b] s) (F0 m 854 ls [])) : W p l e room_1 s m #[Value.ref b] below meth c H locs 60 446937 (lw_Z below #[Value.ref b] s) (F0 m 561 ls []) := by
  obtain ⟨⟨hx, hb, hr, hml, hown, hts, hX, hbl, hlocks, hgv⟩, hL, hinj, hSt, hge⟩ := id C
  have hbA := lm_not hge hbl
  refine lv_aload_n hx hb dL_law_561.1.1 rfl (lv_at hl 1 rfl) ?_
  refine lv_aload_n hx hb dL_law_562.1.1 rfl (lv_at hl 0 rfl) ?_
  refine lv_iload_n hx hb dL_law_563.1.1 rfl (lv_at hl 3 rfl) ?_
  refine lv_iconst (v := 1) hx hb dL_law_564.1.1 dL_law_564.2 ?_
  refine lv_iadd hx hb dL_law_565.1 ?_
  refine va_sld hx hb hX hbl hbA hS (lm_in 1 hi hn hL (by decide)) dL_law_566.1 ?_
  refine lv_aload_n hx hb dL_law_567.1.1 rfl (lv_at hl 0 rfl) ?_
  refine lv_iload_n hx hb dL_law_568.1.1 rfl (lv_at hl 3 rfl) ?_
  refine lv_iconst (v := 2) hx hb dL_law_569.1.1 dL_law_569.2 ?_
  refine lv_iadd hx hb dL_law_570.1 ?_
  refine va_sld hx hb hX hbl hbA hS (lm_in 2 hi hn hL (by decide)) dL_law_571.1 ?_
  refine vm_goV (M' := mX11_quick) (D := 30) (n := 2) (k := 0) (ci := 11) (σ := σ) (as := [.int (xs (i + 1).toNatClampNeg), .int (xs (i + 2).toNatClampNeg)]) (st := []) hx hb hml hown (lm_hts hts) hinj rfl hSt hl.1 hP hS mv_RL_87 rfl rfl rfl dL_law_572.1 (Nat.le_of_ble_eq_true rfl) ⟨Nat.le_of_ble_eq_true rfl, Nat.le_of_ble_eq_true rfl, Nat.le_of_ble_eq_true rfl, Nat.le_of_ble_eq_true rfl⟩ (b_quick (xs (i + 1).toNatClampNeg) (xs (i + 2).toNatClampNeg) σ hI) (fun r1 σ1 H1 locs1 hq1 hP1 hS1 => ?_)
  obtain ⟨w, rfl, hq1⟩ := hq1
  show W p l e room_1 s m #[Value.ref b] below meth c H1 locs1 60 446937 (lw_Z below #[Value.ref b] s) (F0 m 575 ls [.int w])
  refine lv_aload_n hx hb dL_law_575.1.1 rfl (lv_at hl 2 rfl) ?_
  refine lv_aload_n hx hb dL_law_576.1.1 rfl (lv_at hl 0 rfl) ?_
  refine lv_iload_n hx hb dL_law_577.1.1 rfl (lv_at hl 3 rfl) ?_
  refine lv_iconst (v := 1) hx hb dL_law_578.1.1 dL_law_578.2 ?_
  refine lv_iadd hx hb dL_law_579.1 ?_
  refine va_sld hx hb hX hbl hbA hS1 (lm_in 1 hi hn hL (by decide)) dL_law_580.1 ?_
  refine lv_aload_n hx hb dL_law_581.1.1 rfl (lv_at hl 0 rfl) ?_
  refine lv_iload_n hx hb dL_law_582.1.1 rfl (lv_at hl 3 rfl) ?_
  refine lv_iconst (v := 2) hx hb dL_law_583.1.1 dL_law_583.2 ?_
  refine lv_iadd hx hb dL_law_584.1 ?_
  refine va_sld hx hb hX hbl hbA hS1 (lm_in 2 hi hn hL (by decide)) dL_law_585.1 ?_
  refine vm_goV (M' := mX12_quick) (D := 30) (n := 2) (k := 44) (ci := 12) (σ := σ1) (as := [.int (xs (i + 1).toNatClampNeg), .int (xs (i + 2).toNatClampNeg)]) (st := [.int w]) hx hb hml hown (lm_hts hts) hinj rfl hSt hl.1 hP1 hS1 mv_RL_90 rfl rfl rfl dL_law_586.1 (Nat.le_of_ble_eq_true rfl) ⟨Nat.le_of_ble_eq_true rfl, Nat.le_of_ble_eq_true rfl, Nat.le_of_ble_eq_true rfl, Nat.le_of_ble_eq_true rfl⟩ hq1 (fun r2 σ2 H2 locs2 hq2 hP2 hS2 => ?_)
  obtain ⟨hv2, hI2⟩ := hq2
  subst hv2
  show W p l e room_1 s m #[Value.ref b] below meth c H2 locs2 60 446937 (lw_Z below #[Value.ref b] s) (F0 m 589 ls [.int w, .int w])
  refine lv_icmp_eq (tgt := 854) hx hb dL_law_589.1 dL_law_589.2.2 (fun _ => kk _ _ _ hI2 hP2 hS2) (fun c9 => absurd rfl c9)
/-- struck -/
theorem lc_18 (C : lm_C p s m meth c b L xs G ad tc) (hi : i = nI n) (hn : n + 4 ≤ L) (hl : lv_has ls 4 [(0, .ref b), (1, .ref (ad 0)), (2, .ref (ad 44)), (3, .int i)]) (hP : va_P G classes (vm_cells ad tc σ) H) (hS : va_S (vm_A ad s.heap.size) s.heap H locs) (hI : Inv σ) (kk : ∀ (τ : Wd) (H1 : Heap) (locs1 : List Loc), Inv τ → va_P G classes (vm_cells ad tc τ) H1 → va_S (vm_A ad s.heap.size) s.heap H1 locs1 → W p l e room_1 s m #[Value.ref b] below meth c H1 locs1 60 446937 (lw_Z below #[Value.ref b] s) (F0 m 854 ls [])) : W p l e room_1 s m #[Value.ref b] below meth c H locs 60 446937 (lw_Z below #[Value.ref b] s) (F0 m 594 ls []) := by
  obtain ⟨⟨hx, hb, hr, hml, hown, hts, hX, hbl, hlocks, hgv⟩, hL, hinj, hSt, hge⟩ := id C
  have hbA := lm_not hge hbl
  refine lv_aload_n hx hb dL_law_594.1.1 rfl (lv_at hl 1 rfl) ?_
  refine lv_aload_n hx hb dL_law_595.1.1 rfl (lv_at hl 0 rfl) ?_
  refine lv_iload_n hx hb dL_law_596.1.1 rfl (lv_at hl 3 rfl) ?_
  refine lv_iconst (v := 1) hx hb dL_law_597.1.1 dL_law_597.2 ?_
  refine lv_iadd hx hb dL_law_598.1 ?_
  refine va_sld hx hb hX hbl hbA hS (lm_in 1 hi hn hL (by decide)) dL_law_599.1 ?_
  refine lv_aload_n hx hb dL_law_600.1.1 rfl (lv_at hl 0 rfl) ?_
  refine lv_iload_n hx hb dL_law_601.1.1 rfl (lv_at hl 3 rfl) ?_
  refine lv_iconst (v := 2) hx hb dL_law_602.1.1 dL_law_602.2 ?_
  refine lv_iadd hx hb dL_law_603.1 ?_
  refine va_sld hx hb hX hbl hbA hS (lm_in 2 hi hn hL (by decide)) dL_law_604.1 ?_
  refine lv_aload_n hx hb dL_law_605.1.1 rfl (lv_at hl 0 rfl) ?_
  refine lv_iload_n hx hb dL_law_606.1.1 rfl (lv_at hl 3 rfl) ?_
  refine lv_iconst (v := 3) hx hb dL_law_607.1.1 dL_law_607.2 ?_
  refine lv_iadd hx hb dL_law_608.1 ?_
  refine va_sld hx hb hX hbl hbA hS (lm_in 3 hi hn hL (by decide)) dL_law_609.1 ?_
  refine vm_goV (M' := mX11_struck) (D := 30) (n := 3) (k := 0) (ci := 11) (σ := σ) (as := [.int (xs (i + 1).toNatClampNeg), .int (xs (i + 2).toNatClampNeg), .int (xs (i + 3).toNatClampNeg)]) (st := []) hx hb hml hown (lm_hts hts) hinj rfl hSt hl.1 hP hS mv_RL_91 rfl rfl rfl dL_law_610.1 (Nat.le_of_ble_eq_true rfl) ⟨Nat.le_of_ble_eq_true rfl, Nat.le_of_ble_eq_true rfl, Nat.le_of_ble_eq_true rfl, Nat.le_of_ble_eq_true rfl⟩ (b_struck (xs (i + 1).toNatClampNeg) (xs (i + 2).toNatClampNeg) (xs (i + 3).toNatClampNeg) σ hI) (fun r1 σ1 H1 locs1 hq1 hP1 hS1 => ?_)
  obtain ⟨w, rfl, hq1⟩ := hq1
  show W p l e room_1 s m #[Value.ref b] below meth c H1 locs1 60 446937 (lw_Z below #[Value.ref b] s) (F0 m 613 ls [.int w])
  refine lv_aload_n hx hb dL_law_613.1.1 rfl (lv_at hl 2 rfl) ?_
  refine lv_aload_n hx hb dL_law_614.1.1 rfl (lv_at hl 0 rfl) ?_
  refine lv_iload_n hx hb dL_law_615.1.1 rfl (lv_at hl 3 rfl) ?_
  refine lv_iconst (v := 1) hx hb dL_law_616.1.1 dL_law_616.2 ?_
  refine lv_iadd hx hb dL_law_617.1 ?_
  refine va_sld hx hb hX hbl hbA hS1 (lm_in 1 hi hn hL (by decide)) dL_law_618.1 ?_
  refine lv_aload_n hx hb dL_law_619.1.1 rfl (lv_at hl 0 rfl) ?_
  refine lv_iload_n hx hb dL_law_620.1.1 rfl (lv_at hl 3 rfl) ?_
  refine lv_iconst (v := 2) hx hb dL_law_621.1.1 dL_law_621.2 ?_
  refine lv_iadd hx hb dL_law_622.1 ?_
  refine va_sld hx hb hX hbl hbA hS1 (lm_in 2 hi hn hL (by decide)) dL_law_623.1 ?_
  refine lv_aload_n hx hb dL_law_624.1.1 rfl (lv_at hl 0 rfl) ?_
  refine lv_iload_n hx hb dL_law_625.1.1 rfl (lv_at hl 3 rfl) ?_
  refine lv_iconst (v := 3) hx hb dL_law_626.1.1 dL_law_626.2 ?_
  refine lv_iadd hx hb dL_law_627.1 ?_
  refine va_sld hx hb hX hbl hbA hS1 (lm_in 3 hi hn hL (by decide)) dL_law_628.1 ?_
  refine vm_goV (M' := mX12_struck) (D := 30) (n := 3) (k := 44) (ci := 12) (σ := σ1) (as := [.int (xs (i + 1).toNatClampNeg), .int (xs (i + 2).toNatClampNeg), .int (xs (i + 3).toNatClampNeg)]) (st := [.int w]) hx hb hml hown (lm_hts hts) hinj rfl hSt hl.1 hP1 hS1 mv_RL_95 rfl rfl rfl dL_law_629.1 (Nat.le_of_ble_eq_true rfl) ⟨Nat.le_of_ble_eq_true rfl, Nat.le_of_ble_eq_true rfl, Nat.le_of_ble_eq_true rfl, Nat.le_of_ble_eq_true rfl⟩ hq1 (fun r2 σ2 H2 locs2 hq2 hP2 hS2 => ?_)
  obtain ⟨hv2, hI2⟩ := hq2
  subst hv2
  show W p l e room_1 s m #[Value.ref b] below meth c H2 locs2 60 446937 (lw_Z below #[Value.ref b] s) (F0 m 632 ls [.int w, .int w])
  refine lv_icmp_eq (tgt := 854) hx hb dL_law_632.1 dL_law_632.2.2 (fun _ => kk _ _ _ hI2 hP2 hS2) (fun c9 => absurd rfl c9)
/-- lost -/
theorem lc_19 (C : lm_C p s m meth c b L xs G ad tc) (hi : i = nI n) (hn : n + 4 ≤ L) (hl : lv_has ls 4 [(0, .ref b), (1, .ref (ad 0)), (2, .ref (ad 44)), (3, .int i)]) (hP : va_P G classes (vm_cells ad tc σ) H) (hS : va_S (vm_A ad s.heap.size) s.heap H locs) (hI : Inv σ) (kk : ∀ (τ : Wd) (H1 : Heap) (locs1 : List Loc), Inv τ → va_P G classes (vm_cells ad tc τ) H1 → va_S (vm_A ad s.heap.size) s.heap H1 locs1 → W p l e room_1 s m #[Value.ref b] below meth c H1 locs1 60 446937 (lw_Z below #[Value.ref b] s) (F0 m 854 ls [])) : W p l e room_1 s m #[Value.ref b] below meth c H locs 60 446937 (lw_Z below #[Value.ref b] s) (F0 m 637 ls []) := by
  obtain ⟨⟨hx, hb, hr, hml, hown, hts, hX, hbl, hlocks, hgv⟩, hL, hinj, hSt, hge⟩ := id C
  have hbA := lm_not hge hbl
  refine lv_aload_n hx hb dL_law_637.1.1 rfl (lv_at hl 1 rfl) ?_
  refine lv_aload_n hx hb dL_law_638.1.1 rfl (lv_at hl 0 rfl) ?_
  refine lv_iload_n hx hb dL_law_639.1.1 rfl (lv_at hl 3 rfl) ?_
  refine lv_iconst (v := 1) hx hb dL_law_640.1.1 dL_law_640.2 ?_
  refine lv_iadd hx hb dL_law_641.1 ?_
  refine va_sld hx hb hX hbl hbA hS (lm_in 1 hi hn hL (by decide)) dL_law_642.1 ?_
  refine vm_goV (M' := mX11_lost) (D := 30) (n := 1) (k := 0) (ci := 11) (σ := σ) (as := [.int (xs (i + 1).toNatClampNeg)]) (st := []) hx hb hml hown (lm_hts hts) hinj rfl hSt hl.1 hP hS mv_RL_96 rfl rfl rfl dL_law_643.1 (Nat.le_of_ble_eq_true rfl) ⟨Nat.le_of_ble_eq_true rfl, Nat.le_of_ble_eq_true rfl, Nat.le_of_ble_eq_true rfl, Nat.le_of_ble_eq_true rfl⟩ (b_lost (xs (i + 1).toNatClampNeg) σ hI) (fun r1 σ1 H1 locs1 hq1 hP1 hS1 => ?_)
  obtain ⟨w, rfl, hq1⟩ := hq1
  show W p l e room_1 s m #[Value.ref b] below meth c H1 locs1 60 446937 (lw_Z below #[Value.ref b] s) (F0 m 646 ls [.int w])
  refine lv_aload_n hx hb dL_law_646.1.1 rfl (lv_at hl 2 rfl) ?_
  refine lv_aload_n hx hb dL_law_647.1.1 rfl (lv_at hl 0 rfl) ?_
  refine lv_iload_n hx hb dL_law_648.1.1 rfl (lv_at hl 3 rfl) ?_
  refine lv_iconst (v := 1) hx hb dL_law_649.1.1 dL_law_649.2 ?_
  refine lv_iadd hx hb dL_law_650.1 ?_
  refine va_sld hx hb hX hbl hbA hS1 (lm_in 1 hi hn hL (by decide)) dL_law_651.1 ?_
  refine vm_goV (M' := mX12_lost) (D := 30) (n := 1) (k := 44) (ci := 12) (σ := σ1) (as := [.int (xs (i + 1).toNatClampNeg)]) (st := [.int w]) hx hb hml hown (lm_hts hts) hinj rfl hSt hl.1 hP1 hS1 mv_RL_99 rfl rfl rfl dL_law_652.1 (Nat.le_of_ble_eq_true rfl) ⟨Nat.le_of_ble_eq_true rfl, Nat.le_of_ble_eq_true rfl, Nat.le_of_ble_eq_true rfl, Nat.le_of_ble_eq_true rfl⟩ hq1 (fun r2 σ2 H2 locs2 hq2 hP2 hS2 => ?_)
  obtain ⟨hv2, hI2⟩ := hq2
  subst hv2
  show W p l e room_1 s m #[Value.ref b] below meth c H2 locs2 60 446937 (lw_Z below #[Value.ref b] s) (F0 m 655 ls [.int w, .int w])
  refine lv_icmp_eq (tgt := 854) hx hb dL_law_655.1 dL_law_655.2.2 (fun _ => kk _ _ _ hI2 hP2 hS2) (fun c9 => absurd rfl c9)
/-- game -/
theorem lc_20 (C : lm_C p s m meth c b L xs G ad tc) (hi : i = nI n) (hn : n + 4 ≤ L) (hl : lv_has ls 4 [(0, .ref b), (1, .ref (ad 0)), (2, .ref (ad 44)), (3, .int i)]) (hP : va_P G classes (vm_cells ad tc σ) H) (hS : va_S (vm_A ad s.heap.size) s.heap H locs) (hI : Inv σ) (kk : ∀ (τ : Wd) (H1 : Heap) (locs1 : List Loc), Inv τ → va_P G classes (vm_cells ad tc τ) H1 → va_S (vm_A ad s.heap.size) s.heap H1 locs1 → W p l e room_1 s m #[Value.ref b] below meth c H1 locs1 60 446937 (lw_Z below #[Value.ref b] s) (F0 m 854 ls [])) : W p l e room_1 s m #[Value.ref b] below meth c H locs 60 446937 (lw_Z below #[Value.ref b] s) (F0 m 660 ls []) := by
  obtain ⟨⟨hx, hb, hr, hml, hown, hts, hX, hbl, hlocks, hgv⟩, hL, hinj, hSt, hge⟩ := id C
  have hbA := lm_not hge hbl
  refine lv_aload_n hx hb dL_law_660.1.1 rfl (lv_at hl 1 rfl) ?_
  refine lv_aload_n hx hb dL_law_661.1.1 rfl (lv_at hl 0 rfl) ?_
  refine lv_iload_n hx hb dL_law_662.1.1 rfl (lv_at hl 3 rfl) ?_
  refine lv_iconst (v := 1) hx hb dL_law_663.1.1 dL_law_663.2 ?_
  refine lv_iadd hx hb dL_law_664.1 ?_
  refine va_sld hx hb hX hbl hbA hS (lm_in 1 hi hn hL (by decide)) dL_law_665.1 ?_
  refine lv_aload_n hx hb dL_law_666.1.1 rfl (lv_at hl 0 rfl) ?_
  refine lv_iload_n hx hb dL_law_667.1.1 rfl (lv_at hl 3 rfl) ?_
  refine lv_iconst (v := 2) hx hb dL_law_668.1.1 dL_law_668.2 ?_
  refine lv_iadd hx hb dL_law_669.1 ?_
  refine va_sld hx hb hX hbl hbA hS (lm_in 2 hi hn hL (by decide)) dL_law_670.1 ?_
  refine lv_aload_n hx hb dL_law_671.1.1 rfl (lv_at hl 0 rfl) ?_
  refine lv_iload_n hx hb dL_law_672.1.1 rfl (lv_at hl 3 rfl) ?_
  refine lv_iconst (v := 3) hx hb dL_law_673.1.1 dL_law_673.2 ?_
  refine lv_iadd hx hb dL_law_674.1 ?_
  refine va_sld hx hb hX hbl hbA hS (lm_in 3 hi hn hL (by decide)) dL_law_675.1 ?_
  refine vm_goV (M' := mX11_game) (D := 30) (n := 3) (k := 0) (ci := 11) (σ := σ) (as := [.int (xs (i + 1).toNatClampNeg), .int (xs (i + 2).toNatClampNeg), .int (xs (i + 3).toNatClampNeg)]) (st := []) hx hb hml hown (lm_hts hts) hinj rfl hSt hl.1 hP hS mv_RL_100 rfl rfl rfl dL_law_676.1 (Nat.le_of_ble_eq_true rfl) ⟨Nat.le_of_ble_eq_true rfl, Nat.le_of_ble_eq_true rfl, Nat.le_of_ble_eq_true rfl, Nat.le_of_ble_eq_true rfl⟩ (b_game (xs (i + 1).toNatClampNeg) (xs (i + 2).toNatClampNeg) (xs (i + 3).toNatClampNeg) σ hI) (fun r1 σ1 H1 locs1 hq1 hP1 hS1 => ?_)
  obtain ⟨w, rfl, hq1⟩ := hq1
  show W p l e room_1 s m #[Value.ref b] below meth c H1 locs1 60 446937 (lw_Z below #[Value.ref b] s) (F0 m 679 ls [.int w])
  refine lv_aload_n hx hb dL_law_679.1.1 rfl (lv_at hl 2 rfl) ?_
  refine lv_aload_n hx hb dL_law_680.1.1 rfl (lv_at hl 0 rfl) ?_
  refine lv_iload_n hx hb dL_law_681.1.1 rfl (lv_at hl 3 rfl) ?_
  refine lv_iconst (v := 1) hx hb dL_law_682.1.1 dL_law_682.2 ?_
  refine lv_iadd hx hb dL_law_683.1 ?_
  refine va_sld hx hb hX hbl hbA hS1 (lm_in 1 hi hn hL (by decide)) dL_law_684.1 ?_
  refine lv_aload_n hx hb dL_law_685.1.1 rfl (lv_at hl 0 rfl) ?_
  refine lv_iload_n hx hb dL_law_686.1.1 rfl (lv_at hl 3 rfl) ?_
  refine lv_iconst (v := 2) hx hb dL_law_687.1.1 dL_law_687.2 ?_
  refine lv_iadd hx hb dL_law_688.1 ?_
  refine va_sld hx hb hX hbl hbA hS1 (lm_in 2 hi hn hL (by decide)) dL_law_689.1 ?_
  refine lv_aload_n hx hb dL_law_690.1.1 rfl (lv_at hl 0 rfl) ?_
  refine lv_iload_n hx hb dL_law_691.1.1 rfl (lv_at hl 3 rfl) ?_
  refine lv_iconst (v := 3) hx hb dL_law_692.1.1 dL_law_692.2 ?_
  refine lv_iadd hx hb dL_law_693.1 ?_
  refine va_sld hx hb hX hbl hbA hS1 (lm_in 3 hi hn hL (by decide)) dL_law_694.1 ?_
  refine vm_goV (M' := mX12_game) (D := 30) (n := 3) (k := 44) (ci := 12) (σ := σ1) (as := [.int (xs (i + 1).toNatClampNeg), .int (xs (i + 2).toNatClampNeg), .int (xs (i + 3).toNatClampNeg)]) (st := [.int w]) hx hb hml hown (lm_hts hts) hinj rfl hSt hl.1 hP1 hS1 mv_RL_103 rfl rfl rfl dL_law_695.1 (Nat.le_of_ble_eq_true rfl) ⟨Nat.le_of_ble_eq_true rfl, Nat.le_of_ble_eq_true rfl, Nat.le_of_ble_eq_true rfl, Nat.le_of_ble_eq_true rfl⟩ hq1 (fun r2 σ2 H2 locs2 hq2 hP2 hS2 => ?_)
  obtain ⟨hv2, hI2⟩ := hq2
  subst hv2
  show W p l e room_1 s m #[Value.ref b] below meth c H2 locs2 60 446937 (lw_Z below #[Value.ref b] s) (F0 m 698 ls [.int w, .int w])
  refine lv_icmp_eq (tgt := 854) hx hb dL_law_698.1 dL_law_698.2.2 (fun _ => kk _ _ _ hI2 hP2 hS2) (fun c9 => absurd rfl c9)
/-- write -/
theorem lc_21 (C : lm_C p s m meth c b L xs G ad tc) (hi : i = nI n) (hn : n + 4 ≤ L) (hl : lv_has ls 4 [(0, .ref b), (1, .ref (ad 0)), (2, .ref (ad 44)), (3, .int i)]) (hP : va_P G classes (vm_cells ad tc σ) H) (hS : va_S (vm_A ad s.heap.size) s.heap H locs) (hI : Inv σ) (kk : ∀ (τ : Wd) (H1 : Heap) (locs1 : List Loc), Inv τ → va_P G classes (vm_cells ad tc τ) H1 → va_S (vm_A ad s.heap.size) s.heap H1 locs1 → W p l e room_1 s m #[Value.ref b] below meth c H1 locs1 60 446937 (lw_Z below #[Value.ref b] s) (F0 m 854 ls [])) : W p l e room_1 s m #[Value.ref b] below meth c H locs 60 446937 (lw_Z below #[Value.ref b] s) (F0 m 703 ls []) := by
  obtain ⟨⟨hx, hb, hr, hml, hown, hts, hX, hbl, hlocks, hgv⟩, hL, hinj, hSt, hge⟩ := id C
  have hbA := lm_not hge hbl
  refine lv_aload_n hx hb dL_law_703.1.1 rfl (lv_at hl 1 rfl) ?_
  refine lv_aload_n hx hb dL_law_704.1.1 rfl (lv_at hl 0 rfl) ?_
  refine lv_iload_n hx hb dL_law_705.1.1 rfl (lv_at hl 3 rfl) ?_
  refine lv_iconst (v := 1) hx hb dL_law_706.1.1 dL_law_706.2 ?_
  refine lv_iadd hx hb dL_law_707.1 ?_
  refine va_sld hx hb hX hbl hbA hS (lm_in 1 hi hn hL (by decide)) dL_law_708.1 ?_
  refine lv_aload_n hx hb dL_law_709.1.1 rfl (lv_at hl 0 rfl) ?_
  refine lv_iload_n hx hb dL_law_710.1.1 rfl (lv_at hl 3 rfl) ?_
  refine lv_iconst (v := 2) hx hb dL_law_711.1.1 dL_law_711.2 ?_
  refine lv_iadd hx hb dL_law_712.1 ?_
  refine va_sld hx hb hX hbl hbA hS (lm_in 2 hi hn hL (by decide)) dL_law_713.1 ?_
  refine vm_goV (M' := mX11_write) (D := 30) (n := 2) (k := 0) (ci := 11) (σ := σ) (as := [.int (xs (i + 1).toNatClampNeg), .int (xs (i + 2).toNatClampNeg)]) (st := []) hx hb hml hown (lm_hts hts) hinj rfl hSt hl.1 hP hS mv_RL_104 rfl rfl rfl dL_law_714.1 (Nat.le_of_ble_eq_true rfl) ⟨Nat.le_of_ble_eq_true rfl, Nat.le_of_ble_eq_true rfl, Nat.le_of_ble_eq_true rfl, Nat.le_of_ble_eq_true rfl⟩ (b_write (xs (i + 1).toNatClampNeg) (xs (i + 2).toNatClampNeg) σ hI) (fun r1 σ1 H1 locs1 hq1 hP1 hS1 => ?_)
  obtain ⟨w, rfl, hq1⟩ := hq1
  show W p l e room_1 s m #[Value.ref b] below meth c H1 locs1 60 446937 (lw_Z below #[Value.ref b] s) (F0 m 717 ls [.int w])
  refine lv_aload_n hx hb dL_law_717.1.1 rfl (lv_at hl 2 rfl) ?_
  refine lv_aload_n hx hb dL_law_718.1.1 rfl (lv_at hl 0 rfl) ?_
  refine lv_iload_n hx hb dL_law_719.1.1 rfl (lv_at hl 3 rfl) ?_
  refine lv_iconst (v := 1) hx hb dL_law_720.1.1 dL_law_720.2 ?_
  refine lv_iadd hx hb dL_law_721.1 ?_
  refine va_sld hx hb hX hbl hbA hS1 (lm_in 1 hi hn hL (by decide)) dL_law_722.1 ?_
  refine lv_aload_n hx hb dL_law_723.1.1 rfl (lv_at hl 0 rfl) ?_
  refine lv_iload_n hx hb dL_law_724.1.1 rfl (lv_at hl 3 rfl) ?_
  refine lv_iconst (v := 2) hx hb dL_law_725.1.1 dL_law_725.2 ?_
  refine lv_iadd hx hb dL_law_726.1 ?_
  refine va_sld hx hb hX hbl hbA hS1 (lm_in 2 hi hn hL (by decide)) dL_law_727.1 ?_
  refine vm_goV (M' := mX12_write) (D := 30) (n := 2) (k := 44) (ci := 12) (σ := σ1) (as := [.int (xs (i + 1).toNatClampNeg), .int (xs (i + 2).toNatClampNeg)]) (st := [.int w]) hx hb hml hown (lm_hts hts) hinj rfl hSt hl.1 hP1 hS1 mv_RL_107 rfl rfl rfl dL_law_728.1 (Nat.le_of_ble_eq_true rfl) ⟨Nat.le_of_ble_eq_true rfl, Nat.le_of_ble_eq_true rfl, Nat.le_of_ble_eq_true rfl, Nat.le_of_ble_eq_true rfl⟩ hq1 (fun r2 σ2 H2 locs2 hq2 hP2 hS2 => ?_)
  obtain ⟨hv2, hI2⟩ := hq2
  subst hv2
  show W p l e room_1 s m #[Value.ref b] below meth c H2 locs2 60 446937 (lw_Z below #[Value.ref b] s) (F0 m 731 ls [.int w, .int w])
  refine lv_icmp_eq (tgt := 854) hx hb dL_law_731.1 dL_law_731.2.2 (fun _ => kk _ _ _ hI2 hP2 hS2) (fun c9 => absurd rfl c9)
/-- tear -/
theorem lc_22 (C : lm_C p s m meth c b L xs G ad tc) (hi : i = nI n) (hn : n + 4 ≤ L) (hl : lv_has ls 4 [(0, .ref b), (1, .ref (ad 0)), (2, .ref (ad 44)), (3, .int i)]) (hP : va_P G classes (vm_cells ad tc σ) H) (hS : va_S (vm_A ad s.heap.size) s.heap H locs) (hI : Inv σ) (kk : ∀ (τ : Wd) (H1 : Heap) (locs1 : List Loc), Inv τ → va_P G classes (vm_cells ad tc τ) H1 → va_S (vm_A ad s.heap.size) s.heap H1 locs1 → W p l e room_1 s m #[Value.ref b] below meth c H1 locs1 60 446937 (lw_Z below #[Value.ref b] s) (F0 m 854 ls [])) : W p l e room_1 s m #[Value.ref b] below meth c H locs 60 446937 (lw_Z below #[Value.ref b] s) (F0 m 736 ls []) := by
  obtain ⟨⟨hx, hb, hr, hml, hown, hts, hX, hbl, hlocks, hgv⟩, hL, hinj, hSt, hge⟩ := id C
  have hbA := lm_not hge hbl
  refine lv_aload_n hx hb dL_law_736.1.1 rfl (lv_at hl 1 rfl) ?_
  refine vm_goV (M' := mX11_tear) (D := 30) (n := 0) (k := 0) (ci := 11) (σ := σ) (as := []) (st := []) hx hb hml hown (lm_hts hts) hinj rfl hSt hl.1 hP hS mv_RL_108 rfl rfl rfl dL_law_737.1 (Nat.le_of_ble_eq_true rfl) ⟨Nat.le_of_ble_eq_true rfl, Nat.le_of_ble_eq_true rfl, Nat.le_of_ble_eq_true rfl, Nat.le_of_ble_eq_true rfl⟩ (b_tear  σ hI) (fun r1 σ1 H1 locs1 hq1 hP1 hS1 => ?_)
  obtain ⟨w, rfl, hq1⟩ := hq1
  show W p l e room_1 s m #[Value.ref b] below meth c H1 locs1 60 446937 (lw_Z below #[Value.ref b] s) (F0 m 740 ls [.int w])
  refine lv_aload_n hx hb dL_law_740.1.1 rfl (lv_at hl 2 rfl) ?_
  refine vm_goV (M' := mX12_tear) (D := 30) (n := 0) (k := 44) (ci := 12) (σ := σ1) (as := []) (st := [.int w]) hx hb hml hown (lm_hts hts) hinj rfl hSt hl.1 hP1 hS1 mv_RL_111 rfl rfl rfl dL_law_741.1 (Nat.le_of_ble_eq_true rfl) ⟨Nat.le_of_ble_eq_true rfl, Nat.le_of_ble_eq_true rfl, Nat.le_of_ble_eq_true rfl, Nat.le_of_ble_eq_true rfl⟩ hq1 (fun r2 σ2 H2 locs2 hq2 hP2 hS2 => ?_)
  obtain ⟨hv2, hI2⟩ := hq2
  subst hv2
  show W p l e room_1 s m #[Value.ref b] below meth c H2 locs2 60 446937 (lw_Z below #[Value.ref b] s) (F0 m 744 ls [.int w, .int w])
  refine lv_icmp_eq (tgt := 854) hx hb dL_law_744.1 dL_law_744.2.2 (fun _ => kk _ _ _ hI2 hP2 hS2) (fun c9 => absurd rfl c9)
/-- judge -/
theorem lc_23 (C : lm_C p s m meth c b L xs G ad tc) (hi : i = nI n) (hn : n + 4 ≤ L) (hl : lv_has ls 4 [(0, .ref b), (1, .ref (ad 0)), (2, .ref (ad 44)), (3, .int i)]) (hP : va_P G classes (vm_cells ad tc σ) H) (hS : va_S (vm_A ad s.heap.size) s.heap H locs) (hI : Inv σ) (kk : ∀ (τ : Wd) (H1 : Heap) (locs1 : List Loc), Inv τ → va_P G classes (vm_cells ad tc τ) H1 → va_S (vm_A ad s.heap.size) s.heap H1 locs1 → W p l e room_1 s m #[Value.ref b] below meth c H1 locs1 60 446937 (lw_Z below #[Value.ref b] s) (F0 m 854 ls [])) : W p l e room_1 s m #[Value.ref b] below meth c H locs 60 446937 (lw_Z below #[Value.ref b] s) (F0 m 749 ls []) := by
  obtain ⟨⟨hx, hb, hr, hml, hown, hts, hX, hbl, hlocks, hgv⟩, hL, hinj, hSt, hge⟩ := id C
  have hbA := lm_not hge hbl
  refine lv_aload_n hx hb dL_law_749.1.1 rfl (lv_at hl 1 rfl) ?_
  refine vm_goV (M' := mX11_judge) (D := 30) (n := 0) (k := 0) (ci := 11) (σ := σ) (as := []) (st := []) hx hb hml hown (lm_hts hts) hinj rfl hSt hl.1 hP hS mv_RL_112 rfl rfl rfl dL_law_750.1 (Nat.le_of_ble_eq_true rfl) ⟨Nat.le_of_ble_eq_true rfl, Nat.le_of_ble_eq_true rfl, Nat.le_of_ble_eq_true rfl, Nat.le_of_ble_eq_true rfl⟩ (b_judge  σ hI) (fun r1 σ1 H1 locs1 hq1 hP1 hS1 => ?_)
  obtain ⟨w, rfl, hq1⟩ := hq1
  show W p l e room_1 s m #[Value.ref b] below meth c H1 locs1 60 446937 (lw_Z below #[Value.ref b] s) (F0 m 753 ls [.int w])
  refine lv_aload_n hx hb dL_law_753.1.1 rfl (lv_at hl 2 rfl) ?_
  refine vm_goV (M' := mX12_judge) (D := 30) (n := 0) (k := 44) (ci := 12) (σ := σ1) (as := []) (st := [.int w]) hx hb hml hown (lm_hts hts) hinj rfl hSt hl.1 hP1 hS1 mv_RL_115 rfl rfl rfl dL_law_754.1 (Nat.le_of_ble_eq_true rfl) ⟨Nat.le_of_ble_eq_true rfl, Nat.le_of_ble_eq_true rfl, Nat.le_of_ble_eq_true rfl, Nat.le_of_ble_eq_true rfl⟩ hq1 (fun r2 σ2 H2 locs2 hq2 hP2 hS2 => ?_)
  obtain ⟨hv2, hI2⟩ := hq2
  subst hv2
  show W p l e room_1 s m #[Value.ref b] below meth c H2 locs2 60 446937 (lw_Z below #[Value.ref b] s) (F0 m 757 ls [.int w, .int w])
  refine lv_icmp_eq (tgt := 854) hx hb dL_law_757.1 dL_law_757.2.2 (fun _ => kk _ _ _ hI2 hP2 hS2) (fun c9 => absurd rfl c9)
/-- drift -/
theorem lc_24 (C : lm_C p s m meth c b L xs G ad tc) (hi : i = nI n) (hn : n + 4 ≤ L) (hl : lv_has ls 4 [(0, .ref b), (1, .ref (ad 0)), (2, .ref (ad 44)), (3, .int i)]) (hP : va_P G classes (vm_cells ad tc σ) H) (hS : va_S (vm_A ad s.heap.size) s.heap H locs) (hI : Inv σ) (kk : ∀ (τ : Wd) (H1 : Heap) (locs1 : List Loc), Inv τ → va_P G classes (vm_cells ad tc τ) H1 → va_S (vm_A ad s.heap.size) s.heap H1 locs1 → W p l e room_1 s m #[Value.ref b] below meth c H1 locs1 60 446937 (lw_Z below #[Value.ref b] s) (F0 m 854 ls [])) : W p l e room_1 s m #[Value.ref b] below meth c H locs 60 446937 (lw_Z below #[Value.ref b] s) (F0 m 762 ls []) := by
  obtain ⟨⟨hx, hb, hr, hml, hown, hts, hX, hbl, hlocks, hgv⟩, hL, hinj, hSt, hge⟩ := id C
  have hbA := lm_not hge hbl
  refine lv_aload_n hx hb dL_law_762.1.1 rfl (lv_at hl 1 rfl) ?_
  refine lv_aload_n hx hb dL_law_763.1.1 rfl (lv_at hl 0 rfl) ?_
  refine lv_iload_n hx hb dL_law_764.1.1 rfl (lv_at hl 3 rfl) ?_
  refine lv_iconst (v := 1) hx hb dL_law_765.1.1 dL_law_765.2 ?_
  refine lv_iadd hx hb dL_law_766.1 ?_
  refine va_sld hx hb hX hbl hbA hS (lm_in 1 hi hn hL (by decide)) dL_law_767.1 ?_
  refine vm_goV (M' := mX11_drift) (D := 30) (n := 1) (k := 0) (ci := 11) (σ := σ) (as := [.int (xs (i + 1).toNatClampNeg)]) (st := []) hx hb hml hown (lm_hts hts) hinj rfl hSt hl.1 hP hS mv_RL_116 rfl rfl rfl dL_law_768.1 (Nat.le_of_ble_eq_true rfl) ⟨Nat.le_of_ble_eq_true rfl, Nat.le_of_ble_eq_true rfl, Nat.le_of_ble_eq_true rfl, Nat.le_of_ble_eq_true rfl⟩ (b_drift (xs (i + 1).toNatClampNeg) σ hI) (fun r1 σ1 H1 locs1 hq1 hP1 hS1 => ?_)
  obtain ⟨w, rfl, hq1⟩ := hq1
  show W p l e room_1 s m #[Value.ref b] below meth c H1 locs1 60 446937 (lw_Z below #[Value.ref b] s) (F0 m 771 ls [.int w])
  refine lv_aload_n hx hb dL_law_771.1.1 rfl (lv_at hl 2 rfl) ?_
  refine lv_aload_n hx hb dL_law_772.1.1 rfl (lv_at hl 0 rfl) ?_
  refine lv_iload_n hx hb dL_law_773.1.1 rfl (lv_at hl 3 rfl) ?_
  refine lv_iconst (v := 1) hx hb dL_law_774.1.1 dL_law_774.2 ?_
  refine lv_iadd hx hb dL_law_775.1 ?_
  refine va_sld hx hb hX hbl hbA hS1 (lm_in 1 hi hn hL (by decide)) dL_law_776.1 ?_
  refine vm_goV (M' := mX12_drift) (D := 30) (n := 1) (k := 44) (ci := 12) (σ := σ1) (as := [.int (xs (i + 1).toNatClampNeg)]) (st := [.int w]) hx hb hml hown (lm_hts hts) hinj rfl hSt hl.1 hP1 hS1 mv_RL_119 rfl rfl rfl dL_law_777.1 (Nat.le_of_ble_eq_true rfl) ⟨Nat.le_of_ble_eq_true rfl, Nat.le_of_ble_eq_true rfl, Nat.le_of_ble_eq_true rfl, Nat.le_of_ble_eq_true rfl⟩ hq1 (fun r2 σ2 H2 locs2 hq2 hP2 hS2 => ?_)
  obtain ⟨hv2, hI2⟩ := hq2
  subst hv2
  show W p l e room_1 s m #[Value.ref b] below meth c H2 locs2 60 446937 (lw_Z below #[Value.ref b] s) (F0 m 780 ls [.int w, .int w])
  refine lv_icmp_eq (tgt := 854) hx hb dL_law_780.1 dL_law_780.2.2 (fun _ => kk _ _ _ hI2 hP2 hS2) (fun c9 => absurd rfl c9)
/-- seed -/
theorem lc_25 (C : lm_C p s m meth c b L xs G ad tc) (hi : i = nI n) (hn : n + 4 ≤ L) (hl : lv_has ls 4 [(0, .ref b), (1, .ref (ad 0)), (2, .ref (ad 44)), (3, .int i)]) (hP : va_P G classes (vm_cells ad tc σ) H) (hS : va_S (vm_A ad s.heap.size) s.heap H locs) (hI : Inv σ) (kk : ∀ (τ : Wd) (H1 : Heap) (locs1 : List Loc), Inv τ → va_P G classes (vm_cells ad tc τ) H1 → va_S (vm_A ad s.heap.size) s.heap H1 locs1 → W p l e room_1 s m #[Value.ref b] below meth c H1 locs1 60 446937 (lw_Z below #[Value.ref b] s) (F0 m 854 ls [])) : W p l e room_1 s m #[Value.ref b] below meth c H locs 60 446937 (lw_Z below #[Value.ref b] s) (F0 m 785 ls []) := by
  obtain ⟨⟨hx, hb, hr, hml, hown, hts, hX, hbl, hlocks, hgv⟩, hL, hinj, hSt, hge⟩ := id C
  have hbA := lm_not hge hbl
  refine lv_aload_n hx hb dL_law_785.1.1 rfl (lv_at hl 1 rfl) ?_
  refine lv_aload_n hx hb dL_law_786.1.1 rfl (lv_at hl 0 rfl) ?_
  refine lv_iload_n hx hb dL_law_787.1.1 rfl (lv_at hl 3 rfl) ?_
  refine lv_iconst (v := 1) hx hb dL_law_788.1.1 dL_law_788.2 ?_
  refine lv_iadd hx hb dL_law_789.1 ?_
  refine va_sld hx hb hX hbl hbA hS (lm_in 1 hi hn hL (by decide)) dL_law_790.1 ?_
  refine vm_goV (M' := mX11_seed) (D := 30) (n := 1) (k := 0) (ci := 11) (σ := σ) (as := [.int (xs (i + 1).toNatClampNeg)]) (st := []) hx hb hml hown (lm_hts hts) hinj rfl hSt hl.1 hP hS mv_RL_120 rfl rfl rfl dL_law_791.1 (Nat.le_of_ble_eq_true rfl) ⟨Nat.le_of_ble_eq_true rfl, Nat.le_of_ble_eq_true rfl, Nat.le_of_ble_eq_true rfl, Nat.le_of_ble_eq_true rfl⟩ (b_seed (xs (i + 1).toNatClampNeg) σ hI) (fun r1 σ1 H1 locs1 hq1 hP1 hS1 => ?_)
  obtain ⟨w, rfl, hq1⟩ := hq1
  show W p l e room_1 s m #[Value.ref b] below meth c H1 locs1 60 446937 (lw_Z below #[Value.ref b] s) (F0 m 794 ls [.int w])
  refine lv_aload_n hx hb dL_law_794.1.1 rfl (lv_at hl 2 rfl) ?_
  refine lv_aload_n hx hb dL_law_795.1.1 rfl (lv_at hl 0 rfl) ?_
  refine lv_iload_n hx hb dL_law_796.1.1 rfl (lv_at hl 3 rfl) ?_
  refine lv_iconst (v := 1) hx hb dL_law_797.1.1 dL_law_797.2 ?_
  refine lv_iadd hx hb dL_law_798.1 ?_
  refine va_sld hx hb hX hbl hbA hS1 (lm_in 1 hi hn hL (by decide)) dL_law_799.1 ?_
  refine vm_goV (M' := mX12_seed) (D := 30) (n := 1) (k := 44) (ci := 12) (σ := σ1) (as := [.int (xs (i + 1).toNatClampNeg)]) (st := [.int w]) hx hb hml hown (lm_hts hts) hinj rfl hSt hl.1 hP1 hS1 mv_RL_123 rfl rfl rfl dL_law_800.1 (Nat.le_of_ble_eq_true rfl) ⟨Nat.le_of_ble_eq_true rfl, Nat.le_of_ble_eq_true rfl, Nat.le_of_ble_eq_true rfl, Nat.le_of_ble_eq_true rfl⟩ hq1 (fun r2 σ2 H2 locs2 hq2 hP2 hS2 => ?_)
  obtain ⟨hv2, hI2⟩ := hq2
  subst hv2
  show W p l e room_1 s m #[Value.ref b] below meth c H2 locs2 60 446937 (lw_Z below #[Value.ref b] s) (F0 m 803 ls [.int w, .int w])
  refine lv_icmp_eq (tgt := 854) hx hb dL_law_803.1 dL_law_803.2.2 (fun _ => kk _ _ _ hI2 hP2 hS2) (fun c9 => absurd rfl c9)
/-- keep -/
theorem lc_26 (C : lm_C p s m meth c b L xs G ad tc) (hi : i = nI n) (hn : n + 4 ≤ L) (hl : lv_has ls 4 [(0, .ref b), (1, .ref (ad 0)), (2, .ref (ad 44)), (3, .int i)]) (hP : va_P G classes (vm_cells ad tc σ) H) (hS : va_S (vm_A ad s.heap.size) s.heap H locs) (hI : Inv σ) (kk : ∀ (τ : Wd) (H1 : Heap) (locs1 : List Loc), Inv τ → va_P G classes (vm_cells ad tc τ) H1 → va_S (vm_A ad s.heap.size) s.heap H1 locs1 → W p l e room_1 s m #[Value.ref b] below meth c H1 locs1 60 446937 (lw_Z below #[Value.ref b] s) (F0 m 854 ls [])) : W p l e room_1 s m #[Value.ref b] below meth c H locs 60 446937 (lw_Z below #[Value.ref b] s) (F0 m 808 ls []) := by
  obtain ⟨⟨hx, hb, hr, hml, hown, hts, hX, hbl, hlocks, hgv⟩, hL, hinj, hSt, hge⟩ := id C
  have hbA := lm_not hge hbl
  refine lv_aload_n hx hb dL_law_808.1.1 rfl (lv_at hl 1 rfl) ?_
  refine lv_aload_n hx hb dL_law_809.1.1 rfl (lv_at hl 0 rfl) ?_
  refine lv_iload_n hx hb dL_law_810.1.1 rfl (lv_at hl 3 rfl) ?_
  refine lv_iconst (v := 1) hx hb dL_law_811.1.1 dL_law_811.2 ?_
  refine lv_iadd hx hb dL_law_812.1 ?_
  refine va_sld hx hb hX hbl hbA hS (lm_in 1 hi hn hL (by decide)) dL_law_813.1 ?_
  refine vm_goV (M' := mX11_keep) (D := 30) (n := 1) (k := 0) (ci := 11) (σ := σ) (as := [.int (xs (i + 1).toNatClampNeg)]) (st := []) hx hb hml hown (lm_hts hts) hinj rfl hSt hl.1 hP hS mv_RL_124 rfl rfl rfl dL_law_814.1 (Nat.le_of_ble_eq_true rfl) ⟨Nat.le_of_ble_eq_true rfl, Nat.le_of_ble_eq_true rfl, Nat.le_of_ble_eq_true rfl, Nat.le_of_ble_eq_true rfl⟩ (b_keep (xs (i + 1).toNatClampNeg) σ hI) (fun r1 σ1 H1 locs1 hq1 hP1 hS1 => ?_)
  obtain ⟨w, rfl, hq1⟩ := hq1
  show W p l e room_1 s m #[Value.ref b] below meth c H1 locs1 60 446937 (lw_Z below #[Value.ref b] s) (F0 m 817 ls [.int w])
  refine lv_aload_n hx hb dL_law_817.1.1 rfl (lv_at hl 2 rfl) ?_
  refine lv_aload_n hx hb dL_law_818.1.1 rfl (lv_at hl 0 rfl) ?_
  refine lv_iload_n hx hb dL_law_819.1.1 rfl (lv_at hl 3 rfl) ?_
  refine lv_iconst (v := 1) hx hb dL_law_820.1.1 dL_law_820.2 ?_
  refine lv_iadd hx hb dL_law_821.1 ?_
  refine va_sld hx hb hX hbl hbA hS1 (lm_in 1 hi hn hL (by decide)) dL_law_822.1 ?_
  refine vm_goV (M' := mX12_keep) (D := 30) (n := 1) (k := 44) (ci := 12) (σ := σ1) (as := [.int (xs (i + 1).toNatClampNeg)]) (st := [.int w]) hx hb hml hown (lm_hts hts) hinj rfl hSt hl.1 hP1 hS1 mv_RL_127 rfl rfl rfl dL_law_823.1 (Nat.le_of_ble_eq_true rfl) ⟨Nat.le_of_ble_eq_true rfl, Nat.le_of_ble_eq_true rfl, Nat.le_of_ble_eq_true rfl, Nat.le_of_ble_eq_true rfl⟩ hq1 (fun r2 σ2 H2 locs2 hq2 hP2 hS2 => ?_)
  obtain ⟨hv2, hI2⟩ := hq2
  subst hv2
  show W p l e room_1 s m #[Value.ref b] below meth c H2 locs2 60 446937 (lw_Z below #[Value.ref b] s) (F0 m 826 ls [.int w, .int w])
  refine lv_icmp_eq (tgt := 854) hx hb dL_law_826.1 dL_law_826.2.2 (fun _ => kk _ _ _ hI2 hP2 hS2) (fun c9 => absurd rfl c9)
/-- goBack -/
theorem lc_27 (C : lm_C p s m meth c b L xs G ad tc) (hi : i = nI n) (hn : n + 4 ≤ L) (hl : lv_has ls 4 [(0, .ref b), (1, .ref (ad 0)), (2, .ref (ad 44)), (3, .int i)]) (hP : va_P G classes (vm_cells ad tc σ) H) (hS : va_S (vm_A ad s.heap.size) s.heap H locs) (hI : Inv σ) (kk : ∀ (τ : Wd) (H1 : Heap) (locs1 : List Loc), Inv τ → va_P G classes (vm_cells ad tc τ) H1 → va_S (vm_A ad s.heap.size) s.heap H1 locs1 → W p l e room_1 s m #[Value.ref b] below meth c H1 locs1 60 446937 (lw_Z below #[Value.ref b] s) (F0 m 854 ls [])) : W p l e room_1 s m #[Value.ref b] below meth c H locs 60 446937 (lw_Z below #[Value.ref b] s) (F0 m 831 ls []) := by
  obtain ⟨⟨hx, hb, hr, hml, hown, hts, hX, hbl, hlocks, hgv⟩, hL, hinj, hSt, hge⟩ := id C
  have hbA := lm_not hge hbl
  refine lv_aload_n hx hb dL_law_831.1.1 rfl (lv_at hl 1 rfl) ?_
  refine lv_aload_n hx hb dL_law_832.1.1 rfl (lv_at hl 0 rfl) ?_
  refine lv_iload_n hx hb dL_law_833.1.1 rfl (lv_at hl 3 rfl) ?_
  refine lv_iconst (v := 1) hx hb dL_law_834.1.1 dL_law_834.2 ?_
  refine lv_iadd hx hb dL_law_835.1 ?_
  refine va_sld hx hb hX hbl hbA hS (lm_in 1 hi hn hL (by decide)) dL_law_836.1 ?_
  refine vm_goV (M' := mX11_goBack) (D := 30) (n := 1) (k := 0) (ci := 11) (σ := σ) (as := [.int (xs (i + 1).toNatClampNeg)]) (st := []) hx hb hml hown (lm_hts hts) hinj rfl hSt hl.1 hP hS mv_RL_128 rfl rfl rfl dL_law_837.1 (Nat.le_of_ble_eq_true rfl) ⟨Nat.le_of_ble_eq_true rfl, Nat.le_of_ble_eq_true rfl, Nat.le_of_ble_eq_true rfl, Nat.le_of_ble_eq_true rfl⟩ (b_goBack (xs (i + 1).toNatClampNeg) σ hI) (fun r1 σ1 H1 locs1 hq1 hP1 hS1 => ?_)
  obtain ⟨w, rfl, hq1⟩ := hq1
  show W p l e room_1 s m #[Value.ref b] below meth c H1 locs1 60 446937 (lw_Z below #[Value.ref b] s) (F0 m 840 ls [.int w])
  refine lv_aload_n hx hb dL_law_840.1.1 rfl (lv_at hl 2 rfl) ?_
  refine lv_aload_n hx hb dL_law_841.1.1 rfl (lv_at hl 0 rfl) ?_
  refine lv_iload_n hx hb dL_law_842.1.1 rfl (lv_at hl 3 rfl) ?_
  refine lv_iconst (v := 1) hx hb dL_law_843.1.1 dL_law_843.2 ?_
  refine lv_iadd hx hb dL_law_844.1 ?_
  refine va_sld hx hb hX hbl hbA hS1 (lm_in 1 hi hn hL (by decide)) dL_law_845.1 ?_
  refine vm_goV (M' := mX12_goBack) (D := 30) (n := 1) (k := 44) (ci := 12) (σ := σ1) (as := [.int (xs (i + 1).toNatClampNeg)]) (st := [.int w]) hx hb hml hown (lm_hts hts) hinj rfl hSt hl.1 hP1 hS1 mv_RL_131 rfl rfl rfl dL_law_846.1 (Nat.le_of_ble_eq_true rfl) ⟨Nat.le_of_ble_eq_true rfl, Nat.le_of_ble_eq_true rfl, Nat.le_of_ble_eq_true rfl, Nat.le_of_ble_eq_true rfl⟩ hq1 (fun r2 σ2 H2 locs2 hq2 hP2 hS2 => ?_)
  obtain ⟨hv2, hI2⟩ := hq2
  subst hv2
  show W p l e room_1 s m #[Value.ref b] below meth c H2 locs2 60 446937 (lw_Z below #[Value.ref b] s) (F0 m 849 ls [.int w, .int w])
  refine lv_icmp_eq (tgt := 854) hx hb dL_law_849.1 dL_law_849.2.2 (fun _ => kk _ _ _ hI2 hP2 hS2) (fun c9 => absurd rfl c9)
end LM
