/-! ===== THE MACHINE SEEN FROM PLACES: objects and arrays have places 0 to 59, one layout ===== -/
/-- ints (fields and elements), longs, places that change; by place and number -/
abbrev Wd : Type := (Nat → Nat → Int32) × (Nat → Nat → Int64) × (Nat → Nat → Nat)
def vm_fts : List (List Nat) := [[2, 2, 0], [2, 3, 3, 0, 3, 3, 0], [2, 2, 2, 0, 0, 0], [0, 0], [2, 0, 0], [0, 0, 0, 0, 0, 2], [0, 0, 0, 0, 0, 2, 2, 2, 2], [2, 2, 2, 0, 0], [2, 2, 2, 2, 0, 0, 0, 0, 0, 0], [2, 0, 0, 0, 0, 0, 0, 0], [2, 2, 2, 0], [2, 3, 3, 2, 2, 2, 2, 2, 2, 2, 2, 2, 2, 2], [0, 0, 0, 0, 0, 2, 0, 2, 0, 0, 1, 0, 0, 0, 0, 0, 0, 0, 0, 0, 2, 0, 0, 0, 0, 0, 1, 0, 2, 0, 2, 2, 2, 2, 2, 2, 2, 2, 2, 2, 2]]
def vm_crs : List (List Nat) := [[1, 0, 0, 13, 15, 17, 19, 22, 26, 30, 33, 38, 39, 43], [2], [], [0, 0, 0, 0, 0, 4, 5, 6, 7], [], [], [], [], [0, 0, 0, 0, 0, 9, 10, 11, 12], [], [], [], [], [0, 0, 0, 0, 0, 14], [], [0, 0, 0, 0, 0, 16], [], [0, 0, 0, 0, 0, 18], [], [20, 21], [], [], [23, 24, 25], [], [], [], [22, 27, 28, 29], [], [], [], [22, 31, 32], [], [], [22], [], [], [], [], [22], [40, 41, 42], [], [], [], [], [0, 0, 0, 0, 0, 45, 0, 46, 0, 0, 0, 0, 0, 0, 0, 0, 0, 0, 0, 0, 47, 0, 0, 0, 0, 0, 0, 0, 48, 0, 49, 50, 51, 52, 53, 54, 55, 56, 57, 58, 59], [], [], [], [], [], [], [], [], [], [], [], [], [], [], []]
def vm_val (σ : Wd) (k ci j : Nat) : Value := match (vm_fts.getD ci []).getD j 0 with
  | 0 => .int (σ.1 k j)
  | 1 => .long (σ.2.1 k j)
  | 2 => .ref ((vm_crs.getD k []).getD j 0)
  | _ => .ref (σ.2.2 k j)
abbrev vm_lay : List (Nat × Nat) := [(0, 11), (0, 9), (1, 400), (0, 6), (1, 9), (1, 9), (1, 9), (1, 9), (0, 6), (1, 9), (1, 9), (1, 9), (1, 9), (0, 5), (1, 6), (0, 5), (1, 6), (0, 5), (1, 6), (0, 0), (1, 40), (1, 40), (0, 7), (2, 2048), (1, 60200), (1, 60200), (0, 8), (1, 100), (1, 100), (1, 100), (0, 2), (1, 100), (1, 8), (0, 1), (1, 602), (1, 602), (1, 602), (1, 602), (0, 4), (0, 10), (1, 40), (1, 40), (1, 8), (0, 3), (0, 12), (1, 36), (1, 400), (1, 32), (1, 6), (1, 80), (1, 18), (2, 2), (3, 2), (1, 80000), (1, 80000), (1, 80000), (1, 80000), (1, 100), (1, 100), (1, 100)]
def vm_re (ad : Nat → Nat) : Value → Value
  | .ref k => .ref (ad k)
  | .int x => .int x
  | .long x => .long x
  | .float x => .float x
  | .double x => .double x
  | .null => .null
  | .retAddr x => .retAddr x
theorem vm_re_cat (ad : Nat → Nat) (v : Value) : (vm_re ad v).category = v.category := by cases v <;> rfl
theorem vm_re_nar {ad : Nat → Nat} {ty : FieldType} {v : Value} (h : narrow ty v = v) : narrow ty (vm_re ad v) = vm_re ad v := by
  cases v with
  | ref a => cases ty <;> rfl
  | _ => exact h
theorem vm_re_fit {ad : Nat → Nat} {ty : FieldType} {v : Value} (h : fits ty v = true) : fits ty (vm_re ad v) = true := by
  cases v with
  | ref a => cases ty <;> first | rfl | exact h
  | _ => exact h
def vm_e (ad : Nat → Nat) (tc : ClassId × ClassId × ClassId) (σ : Wd) (k : Nat) (q : Nat × Nat) : va_E := match q.1 with
  | 0 => .inr (q.2, (List.range (vm_N q.2)).map (fun j => vm_re ad (vm_val σ k q.2 j)))
  | 1 => .inl (tc.1, q.2, .inl (σ.1 k))
  | 2 => .inl (tc.2.1, q.2, .inr (.inl (σ.2.1 k)))
  | _ => .inl (tc.2.2, q.2, .inl (σ.1 k))
def vm_cells (ad : Nat → Nat) (tc : ClassId × ClassId × ClassId) (σ : Wd) : va_W := (List.range 60).map (fun k => (ad k, vm_e ad tc σ k (vm_lay.getD k (9, 0))))
theorem vm_lay_lt {k : Nat} {q : Nat × Nat} (h : vm_lay[k]? = some q) : k < 60 := (List.getElem?_eq_some_iff.mp h).1
theorem vm_cells_get {ad : Nat → Nat} {tc : ClassId × ClassId × ClassId} {σ : Wd} {k : Nat} {q : Nat × Nat} (h : vm_lay[k]? = some q) : (vm_cells ad tc σ)[k]? = some (ad k, vm_e ad tc σ k q) := by
  have hk := vm_lay_lt h
  unfold vm_cells
  rw [List.getElem?_map, List.getElem?_range hk]
  simp only [Option.map_some, List.getD, h, Option.getD_some]
theorem vm_cells_at {ad : Nat → Nat} {tc : ClassId × ClassId × ClassId} {σ : Wd} {k : Nat} (hk : k < 60) : (vm_cells ad tc σ)[k]? = some (ad k, vm_e ad tc σ k (vm_lay.getD k (9, 0))) := by
  unfold vm_cells
  rw [List.getElem?_map, List.getElem?_range hk]
  rfl
theorem vm_cells_len {ad : Nat → Nat} {tc : ClassId × ClassId × ClassId} {σ : Wd} : (vm_cells ad tc σ).length = 60 := by
  unfold vm_cells
  rw [List.length_map, List.length_range]
theorem vm_cells_lt {ad : Nat → Nat} {tc : ClassId × ClassId × ClassId} {σ : Wd} {k : Nat} {q : Nat × va_E} (h : (vm_cells ad tc σ)[k]? = some q) : k < 60 ∧ q.1 = ad k := by
  have hk : k < 60 := by
    have := (List.getElem?_eq_some_iff.mp h).1
    rwa [vm_cells_len] at this
  rw [vm_cells_at hk] at h
  exact ⟨hk, by rw [← Option.some.inj h]⟩
theorem vm_cells_set {ad : Nat → Nat} {tc : ClassId × ClassId × ClassId} {σ σ' : Wd} {k : Nat} {q : Nat × Nat} (h : vm_lay[k]? = some q) (ho : ∀ (a : Nat) (q' : Nat × Nat), a ≠ k → vm_e ad tc σ' a q' = vm_e ad tc σ a q') : (vm_cells ad tc σ).set k (ad k, vm_e ad tc σ' k q) = vm_cells ad tc σ' := by
  apply List.ext_getElem?
  intro i
  rw [List.getElem?_set, vm_cells_len]
  by_cases hi : k = i
  · subst hi
    rw [if_pos rfl, if_pos (vm_lay_lt h), vm_cells_get h]
  · rw [if_neg hi]
    by_cases h60 : i < 60
    · rw [vm_cells_at h60, vm_cells_at h60, ho i _ (fun e => hi e.symm)]
    · rw [List.getElem?_eq_none (by rw [vm_cells_len]; omega), List.getElem?_eq_none (by rw [vm_cells_len]; omega)]
def vm_A (ad : Nat → Nat) (sz : Nat) : Nat → Prop := fun q => (∃ k : Nat, k < 60 ∧ q = ad k) ∨ sz ≤ q
theorem vm_A_mono {ad : Nat → Nat} {a b q : Nat} (h : a ≤ b) (hq : vm_A ad b q) : vm_A ad a q := by
  rcases hq with h1 | h1
  · exact Or.inl h1
  · exact Or.inr (Nat.le_trans h h1)
def vm_inj (ad : Nat → Nat) : Prop := ∀ i j : Nat, i < 60 → j < 60 → ad i = ad j → i = j
theorem vm_D {ad : Nat → Nat} {tc : ClassId × ClassId × ClassId} {σ : Wd} {sz : Nat} (h : vm_inj ad) : va_D (vm_A ad sz) (vm_cells ad tc σ) := by
  refine ⟨fun i j p q hp hq e => ?_, fun k q hk => ?_⟩
  · obtain ⟨h1, h2⟩ := vm_cells_lt hp
    obtain ⟨h3, h4⟩ := vm_cells_lt hq
    exact h i j h1 h3 (by rw [← h2, ← h4]; exact e)
  · obtain ⟨h1, h2⟩ := vm_cells_lt hk
    exact Or.inl ⟨k, h1, h2⟩
/-! words: those that every state keeps, and the nest's -/
def vm_isN : Cond → Bool
  | .fieldLinkNest .. => true
  | .methodLinkNest .. => true
  | _ => false
def vm_gd : List Cond := lw_tbl.filter goodWord
def vm_nt : List Cond := lw_tbl.filter vm_isN
theorem vm_gd_in {w : Cond} (h : w ∈ lw_tbl) (hg : goodWord w = true) : w ∈ vm_gd := List.mem_filter.mpr ⟨h, hg⟩
theorem vm_nt_in {w : Cond} (h : w ∈ lw_tbl) (hg : vm_isN w = true) : w ∈ vm_nt := List.mem_filter.mpr ⟨h, hg⟩
def vm_ws (M : MI) : List Cond := .code M.1 M.2.1 M.2.2.1 M.2.2.2 :: vm_gd
theorem vm_gd_good {M : MI} (h : Cond.code M.1 M.2.1 M.2.2.1 M.2.2.2 ∈ lw_tbl) : GoodIn vm_gd (vm_ws M) := by
  intro w hw
  rcases List.mem_cons.mp hw with e | h2
  · subst e
    have h1 := vm_gd_in h rfl
    exact ⟨h1, Or.inl rfl⟩
  · exact ⟨h2, good_of_word (List.mem_filter.mp h2).2⟩
def vm_rm (D : Nat) : Room := { frames := D, cells := 0, slots := 0, locals := 64 * D }
def vm_tys (tc : ClassId × ClassId × ClassId) : List (ClassId × FieldType) := [(tc.1, .int), (tc.2.1, .long), (tc.2.2, .boolean)]
def vm_sx : List Nat := [55, 65, 67, 113, 115, 117, 119, 121, 123, 125, 127]
def vm_tx : List String := ["dial", "round", "stop", "figure", "plus", "less", "times", "is", "clear", "now", "stuck"]
def vm_len : List Nat := [4, 5, 4, 6, 4, 4, 5, 2, 5, 3, 5]
def vm_byt : List (List Int32) := [[100, 105, 97, 108], [114, 111, 117, 110, 100], [115, 116, 111, 112], [102, 105, 103, 117, 114, 101], [112, 108, 117, 115], [108, 101, 115, 115], [116, 105, 109, 101, 115], [105, 115], [99, 108, 101, 97, 114], [110, 111, 119], [115, 116, 117, 99, 107]]
def vm_z1 (A : Nat → Prop) (U : State) (H : Heap) : Prop := va_Z "java/lang/String" "COMPACT_STRINGS" "Z" (.int 1) A U H
def vm_z2 (ad : Nat → Nat) (A : Nat → Prop) (U : State) (H : Heap) : Prop := va_Z "jdk/internal/util/Preconditions" "SIOOBE_FORMATTER" "Ljava/util/function/BiFunction;" .null A U H ∨ va_Z "jdk/internal/util/Preconditions" "SIOOBE_FORMATTER" "Ljava/util/function/BiFunction;" (.ref (ad 300)) A U H
def vm_str (ad : Nat → Nat) (A : Nat → Prop) (U : State) (H : Heap) : Prop := vk_S 11 vm_len vm_byt (fun i => ad (100 + i)) (fun i => ad (200 + i)) A U H ∧ (∀ i : Nat, i < 11 → vk_R "FewKeys$Text" (vm_sx.getD i 0) (vm_tx.getD i "") (ad (100 + i)) U) ∧ vm_z1 A U H ∧ vm_z2 ad A U H
theorem vm_z2.moved {ad : Nat → Nat} {A : Nat → Prop} {u U : State} {H : Heap} (hvm : u.vm.Alike U.vm) (h : vm_z2 ad A u H) : vm_z2 ad A U H := by
  rcases h with h | h
  · exact Or.inl (va_Z.moved hvm h)
  · exact Or.inr (va_Z.moved hvm h)
theorem vm_z2.kept {ad : Nat → Nat} {A B : Nat → Prop} {U : State} {H H1 : Heap} (h : vm_z2 ad A U H) (hq : ∀ a : Nat, a < H.size → ¬ A a → H1[a]? = H[a]?) (hAB : ∀ q, B q → A q) : vm_z2 ad B U H1 := by
  rcases h with h | h
  · exact Or.inl ((va_Z.kept h hq).narrow hAB)
  · exact Or.inr ((va_Z.kept h hq).narrow hAB)
/-- what the tables and the strings are, at a state -/
def vm_St (G : va_G) (ad : Nat → Nat) (tc : ClassId × ClassId × ClassId) (sz : Nat) (U : State) (H : Heap) : Prop := va_K G classes (vm_tys tc) U ∧ (∀ w ∈ vm_nt, va_Nw w U) ∧ vm_str ad (vm_A ad sz) U H
theorem vm_Nw_warm {s U : State} (hW : s.WarmedH U.vm) {w : Cond} (hw : w ∈ vm_nt) (h : va_Nw w s) : va_Nw w U := by
  have h2 := (List.mem_filter.mp hw).2
  cases w <;> first | exact absurd h2 (by decide) | exact va_Nw.warmF hW h | exact va_Nw.warmM hW h | (simp [vm_isN] at h2)
theorem vm_St.warm {G : va_G} {ad : Nat → Nat} {tc : ClassId × ClassId × ClassId} {sz sz' : Nat} {s U : State} {H0 H : Heap} (hW : s.WarmedH U.vm) (hle : sz ≤ sz') (hk : ∀ q : Nat, q < H0.size → ¬ vm_A ad sz q → H[q]? = H0[q]?) (h : vm_St G ad tc sz s H0) : vm_St G ad tc sz' U H := by
  obtain ⟨h1, h2, h3, h4, h5, h6⟩ := h
  exact ⟨va_K.moved hW.alike h1, fun w hw => vm_Nw_warm hW hw (h2 w hw), ((h3.moved hW.alike).kept hk).narrow (fun q hq => vm_A_mono hle hq), fun i hi => (h4 i hi).warm hW, (va_Z.kept (va_Z.moved hW.alike h5) hk).narrow (fun q hq => vm_A_mono hle hq), (h6.moved hW.alike).kept hk (fun q hq => vm_A_mono hle hq)⟩
theorem vm_St.same {G : va_G} {ad : Nat → Nat} {tc : ClassId × ClassId × ClassId} {sz : Nat} {s U : State} {H : Heap} (hv : U.vm = s.vm) (h : vm_St G ad tc sz s H) : vm_St G ad tc sz U H := by
  obtain ⟨h1, h2, h3, h4, h5, h6⟩ := h
  have ha : s.vm.Alike U.vm := by rw [hv]; exact Vm.Alike.refl _
  refine ⟨va_K.moved ha h1, fun w hw => ?_, h3.moved ha, fun i hi => (h4 i hi).same hv, va_Z.moved ha h5, h6.moved ha⟩
  have h5 := h2 w hw
  have h6 := (List.mem_filter.mp hw).2
  have ho : w.onTables = true := by cases w <;> first | rfl | (simp [vm_isN] at h6)
  exact va_Nw.same ho hv.symm h5
/-- a contract's start and end -/
def vm_P (G : va_G) (ad : Nat → Nat) (tc : ClassId × ClassId × ClassId) (sz : Nat) (as : List Value) (σ : Wd) : Array Value → State → Prop := fun v U => v = (as.map (vm_re ad)).toArray ∧ U.heap.size = sz ∧ va_P G classes (vm_cells ad tc σ) U.heap ∧ vm_St G ad tc sz U U.heap
def vm_Q (G : va_G) (ad : Nat → Nat) (tc : ClassId × ClassId × ClassId) (sz : Nat) (Q : Option Value → Wd → Prop) : Array Value → State → Outcome → State → Prop := fun _ st o t => (∃ (r : Option Value) (σ' : Wd), o = .returned (r.map (vm_re ad)) ∧ Q r σ' ∧ va_P G classes (vm_cells ad tc σ') t.heap) ∧ va_F (vm_A ad sz) st t
theorem vm_P_blind {G : va_G} {ad : Nat → Nat} {tc : ClassId × ClassId × ClassId} {sz : Nat} {as : List Value} {σ : Wd} : FrameBlind (vm_P G ad tc sz as σ) := by
  intro a U g mk ⟨h1, h2, h3, h4⟩
  exact ⟨h1, h2, h3, show vm_St G ad tc sz (U.calling g mk a) U.heap from vm_St.same (s := U) rfl h4⟩
/-- METHOD M, CALLED WITH as IN σ, COMES BACK WITH Q -/
def Ok (D : Nat) (M : MI) (as : List Value) (σ : Wd) (Q : Option Value → Wd → Prop) : Prop := ∀ (l : Launch) (G : va_G) (ad : Nat → Nat) (tc : ClassId × ClassId × ClassId) (sz : Nat), vm_inj ad → Met l M.1 (vm_ws M) (vm_rm D) (vm_P G ad tc sz as σ) (vm_Q G ad tc sz Q) 0 0 (vm_A ad sz)
def vm_LH (ad : Nat → Nat) (ls : Array Slot) (n : Nat) (lv : List (Option Value)) : Prop := ls.size = n ∧ lv_wf ls ∧ ∀ (i : Nat) (v : Value), lv[i]? = some (some v) → ls[i]? = some (.val (vm_re ad v))
def vm_C (p : Program) (s : State) (m : MethodId) (args : Array Value) (meth : Method) (c : Code) (G : va_G) (ad : Nat → Nat) (tc : ClassId × ClassId × ClassId) (sz : Nat) (M : MI) : Prop :=
  p.tables.exec = Jvm.exec ∧ c.code = M.2.1 ∧ meth.sig.returnType = M.2.2.2 ∧ c.maxLocals = M.2.2.1 ∧ s.vm.findClass M.1.cls = some m.cls ∧ (∀ w ∈ vm_gd, w.before args s = true) ∧ meth.locks = false ∧ vm_inj ad ∧ s.heap.size = sz ∧ vm_St G ad tc sz s s.heap
/-- FROM pc, WITH LOCALS lv AND STACK st, IN σ, THE METHOD COMES TO ITS END WITH Q -/
def V (M : MI) (D pc : Nat) (lv : List (Option Value)) (st : List Value) (σ : Wd) (Q : Option Value → Wd → Prop) : Prop :=
  ∀ (p : Program) (l : Launch) (e : Env) (s : State) (m : MethodId) (args : Array Value) (below : List Frame) (meth : Method) (c : Code) (G : va_G) (ad : Nat → Nat) (tc : ClassId × ClassId × ClassId) (sz : Nat),
    vm_C p s m args meth c G ad tc sz M → ∀ (ls : Array Slot) (H : Heap) (locs : List Loc), vm_LH ad ls M.2.2.1 lv → va_P G classes (vm_cells ad tc σ) H → va_S (vm_A ad sz) s.heap H locs →
    W p l e (vm_rm D) s m args below meth c H locs 0 0 (MQ below (vm_Q G ad tc sz Q) args s 0 0 (vm_A ad sz)) (F0 m pc ls (st.map (vm_re ad)))
abbrev vm_at (b : ByteArray) (pc : Nat) (i : Instr) (n pc' : Nat) : Prop := decode b pc = .ok (i, n) ∧ pc + n = pc'
abbrev vm_br (b : ByteArray) (pc : Nat) (i : Instr) (n pc' : Nat) (off : Int) (tgt : Nat) : Prop := decode b pc = .ok (i, n) ∧ pc + n = pc' ∧ (pc : Int) + off = (tgt : Int)
section VMR
variable {M : MI} {D pc pc' : Nat} {lv : List (Option Value)} {st : List Value} {σ : Wd} {Q : Option Value → Wd → Prop}
theorem v_iadd {x y : Int32} (hd : vm_at M.2.1 pc .iadd 1 pc') (k : V M D pc' lv (.int (x + y) :: st) σ Q) : V M D pc lv (.int y :: .int x :: st) σ Q := by
  obtain ⟨hd, rfl⟩ := hd
  intro p l e s m args below meth c G ad tc sz C ls H locs hl hP hS
  exact lv_iadd C.1 C.2.1 hd  (k p l e s m args below meth c G ad tc sz C ls H locs hl hP hS)
theorem v_isub {x y : Int32} (hd : vm_at M.2.1 pc .isub 1 pc') (k : V M D pc' lv (.int (x - y) :: st) σ Q) : V M D pc lv (.int y :: .int x :: st) σ Q := by
  obtain ⟨hd, rfl⟩ := hd
  intro p l e s m args below meth c G ad tc sz C ls H locs hl hP hS
  exact lv_isub C.1 C.2.1 hd  (k p l e s m args below meth c G ad tc sz C ls H locs hl hP hS)
theorem v_imul {x y : Int32} (hd : vm_at M.2.1 pc .imul 1 pc') (k : V M D pc' lv (.int (x * y) :: st) σ Q) : V M D pc lv (.int y :: .int x :: st) σ Q := by
  obtain ⟨hd, rfl⟩ := hd
  intro p l e s m args below meth c G ad tc sz C ls H locs hl hP hS
  exact lv_imul C.1 C.2.1 hd  (k p l e s m args below meth c G ad tc sz C ls H locs hl hP hS)
theorem v_iand {x y : Int32} (hd : vm_at M.2.1 pc .iand 1 pc') (k : V M D pc' lv (.int (x &&& y) :: st) σ Q) : V M D pc lv (.int y :: .int x :: st) σ Q := by
  obtain ⟨hd, rfl⟩ := hd
  intro p l e s m args below meth c G ad tc sz C ls H locs hl hP hS
  exact lv_iand C.1 C.2.1 hd  (k p l e s m args below meth c G ad tc sz C ls H locs hl hP hS)
theorem v_ior {x y : Int32} (hd : vm_at M.2.1 pc .ior 1 pc') (k : V M D pc' lv (.int (x ||| y) :: st) σ Q) : V M D pc lv (.int y :: .int x :: st) σ Q := by
  obtain ⟨hd, rfl⟩ := hd
  intro p l e s m args below meth c G ad tc sz C ls H locs hl hP hS
  exact lv_ior C.1 C.2.1 hd  (k p l e s m args below meth c G ad tc sz C ls H locs hl hP hS)
theorem v_ixor {x y : Int32} (hd : vm_at M.2.1 pc .ixor 1 pc') (k : V M D pc' lv (.int (x ^^^ y) :: st) σ Q) : V M D pc lv (.int y :: .int x :: st) σ Q := by
  obtain ⟨hd, rfl⟩ := hd
  intro p l e s m args below meth c G ad tc sz C ls H locs hl hP hS
  exact lv_ixor C.1 C.2.1 hd  (k p l e s m args below meth c G ad tc sz C ls H locs hl hP hS)
theorem v_ishl {x y : Int32} (hd : vm_at M.2.1 pc .ishl 1 pc') (k : V M D pc' lv (.int (x <<< (y &&& 31)) :: st) σ Q) : V M D pc lv (.int y :: .int x :: st) σ Q := by
  obtain ⟨hd, rfl⟩ := hd
  intro p l e s m args below meth c G ad tc sz C ls H locs hl hP hS
  exact lv_ishl C.1 C.2.1 hd  (k p l e s m args below meth c G ad tc sz C ls H locs hl hP hS)
theorem v_ishr {x y : Int32} (hd : vm_at M.2.1 pc .ishr 1 pc') (k : V M D pc' lv (.int (x >>> (y &&& 31)) :: st) σ Q) : V M D pc lv (.int y :: .int x :: st) σ Q := by
  obtain ⟨hd, rfl⟩ := hd
  intro p l e s m args below meth c G ad tc sz C ls H locs hl hP hS
  exact lv_ishr C.1 C.2.1 hd  (k p l e s m args below meth c G ad tc sz C ls H locs hl hP hS)
theorem v_iushr {x y : Int32} (hd : vm_at M.2.1 pc .iushr 1 pc') (k : V M D pc' lv (.int ((x.toUInt32 >>> (y.toUInt32 &&& Int32.toUInt32 31)).toInt32) :: st) σ Q) : V M D pc lv (.int y :: .int x :: st) σ Q := by
  obtain ⟨hd, rfl⟩ := hd
  intro p l e s m args below meth c G ad tc sz C ls H locs hl hP hS
  exact lv_iushr C.1 C.2.1 hd rfl (k p l e s m args below meth c G ad tc sz C ls H locs hl hP hS)
theorem v_idiv {x y : Int32} (hd : vm_at M.2.1 pc .idiv 1 pc') (hne : ¬ y = 0) (k : V M D pc' lv (.int (x / y) :: st) σ Q) : V M D pc lv (.int y :: .int x :: st) σ Q := by
  obtain ⟨hd, rfl⟩ := hd
  intro p l e s m args below meth c G ad tc sz C ls H locs hl hP hS
  exact lv_idiv C.1 C.2.1 hd hne (k p l e s m args below meth c G ad tc sz C ls H locs hl hP hS)
theorem v_irem {x y : Int32} (hd : vm_at M.2.1 pc .irem 1 pc') (hne : ¬ y = 0) (k : V M D pc' lv (.int (x - x / y * y) :: st) σ Q) : V M D pc lv (.int y :: .int x :: st) σ Q := by
  obtain ⟨hd, rfl⟩ := hd
  intro p l e s m args below meth c G ad tc sz C ls H locs hl hP hS
  exact lv_irem C.1 C.2.1 hd hne (k p l e s m args below meth c G ad tc sz C ls H locs hl hP hS)
theorem v_ladd {x y : Int64} (hd : vm_at M.2.1 pc .ladd 1 pc') (k : V M D pc' lv (.long (x + y) :: st) σ Q) : V M D pc lv (.long y :: .long x :: st) σ Q := by
  obtain ⟨hd, rfl⟩ := hd
  intro p l e s m args below meth c G ad tc sz C ls H locs hl hP hS
  exact lv_ladd C.1 C.2.1 hd  (k p l e s m args below meth c G ad tc sz C ls H locs hl hP hS)
theorem v_lsub {x y : Int64} (hd : vm_at M.2.1 pc .lsub 1 pc') (k : V M D pc' lv (.long (x - y) :: st) σ Q) : V M D pc lv (.long y :: .long x :: st) σ Q := by
  obtain ⟨hd, rfl⟩ := hd
  intro p l e s m args below meth c G ad tc sz C ls H locs hl hP hS
  exact lv_lsub C.1 C.2.1 hd  (k p l e s m args below meth c G ad tc sz C ls H locs hl hP hS)
theorem v_lmul {x y : Int64} (hd : vm_at M.2.1 pc .lmul 1 pc') (k : V M D pc' lv (.long (x * y) :: st) σ Q) : V M D pc lv (.long y :: .long x :: st) σ Q := by
  obtain ⟨hd, rfl⟩ := hd
  intro p l e s m args below meth c G ad tc sz C ls H locs hl hP hS
  exact lv_lmul C.1 C.2.1 hd  (k p l e s m args below meth c G ad tc sz C ls H locs hl hP hS)
theorem v_land {x y : Int64} (hd : vm_at M.2.1 pc .land 1 pc') (k : V M D pc' lv (.long (x &&& y) :: st) σ Q) : V M D pc lv (.long y :: .long x :: st) σ Q := by
  obtain ⟨hd, rfl⟩ := hd
  intro p l e s m args below meth c G ad tc sz C ls H locs hl hP hS
  exact lv_land C.1 C.2.1 hd  (k p l e s m args below meth c G ad tc sz C ls H locs hl hP hS)
theorem v_lor {x y : Int64} (hd : vm_at M.2.1 pc .lor 1 pc') (k : V M D pc' lv (.long (x ||| y) :: st) σ Q) : V M D pc lv (.long y :: .long x :: st) σ Q := by
  obtain ⟨hd, rfl⟩ := hd
  intro p l e s m args below meth c G ad tc sz C ls H locs hl hP hS
  exact lv_lor C.1 C.2.1 hd  (k p l e s m args below meth c G ad tc sz C ls H locs hl hP hS)
theorem v_ldiv {x y : Int64} (hd : vm_at M.2.1 pc .ldiv 1 pc') (hne : ¬ y = 0) (k : V M D pc' lv (.long (x / y) :: st) σ Q) : V M D pc lv (.long y :: .long x :: st) σ Q := by
  obtain ⟨hd, rfl⟩ := hd
  intro p l e s m args below meth c G ad tc sz C ls H locs hl hP hS
  exact lv_ldiv C.1 C.2.1 hd hne (k p l e s m args below meth c G ad tc sz C ls H locs hl hP hS)
theorem v_lrem {x y : Int64} (hd : vm_at M.2.1 pc .lrem 1 pc') (hne : ¬ y = 0) (k : V M D pc' lv (.long (x - x / y * y) :: st) σ Q) : V M D pc lv (.long y :: .long x :: st) σ Q := by
  obtain ⟨hd, rfl⟩ := hd
  intro p l e s m args below meth c G ad tc sz C ls H locs hl hP hS
  exact lv_lrem C.1 C.2.1 hd hne (k p l e s m args below meth c G ad tc sz C ls H locs hl hP hS)
theorem v_lushr {x : Int64} {y : Int32} (hd : vm_at M.2.1 pc .lushr 1 pc') (k : V M D pc' lv (.long ((x.toUInt64 >>> (y.toInt64.toUInt64 &&& Int64.toUInt64 63)).toInt64) :: st) σ Q) : V M D pc lv (.int y :: .long x :: st) σ Q := by
  obtain ⟨hd, rfl⟩ := hd
  intro p l e s m args below meth c G ad tc sz C ls H locs hl hP hS
  exact lv_lushr C.1 C.2.1 hd rfl (k p l e s m args below meth c G ad tc sz C ls H locs hl hP hS)
theorem v_lshl {x : Int64} {y : Int32} (hd : vm_at M.2.1 pc .lshl 1 pc') (k : V M D pc' lv (.long (x <<< (y.toInt64 &&& 63)) :: st) σ Q) : V M D pc lv (.int y :: .long x :: st) σ Q := by
  obtain ⟨hd, rfl⟩ := hd
  intro p l e s m args below meth c G ad tc sz C ls H locs hl hP hS
  exact lv_lshl C.1 C.2.1 hd rfl (k p l e s m args below meth c G ad tc sz C ls H locs hl hP hS)
theorem v_lshr {x : Int64} {y : Int32} (hd : vm_at M.2.1 pc .lshr 1 pc') (k : V M D pc' lv (.long (x >>> (y.toInt64 &&& 63)) :: st) σ Q) : V M D pc lv (.int y :: .long x :: st) σ Q := by
  obtain ⟨hd, rfl⟩ := hd
  intro p l e s m args below meth c G ad tc sz C ls H locs hl hP hS
  exact lv_lshr C.1 C.2.1 hd rfl (k p l e s m args below meth c G ad tc sz C ls H locs hl hP hS)
theorem v_lcmp {x y : Int64} (hd : vm_at M.2.1 pc .lcmp 1 pc') (k : V M D pc' lv (.int (lg_cmp x y) :: st) σ Q) : V M D pc lv (.long y :: .long x :: st) σ Q := by
  obtain ⟨hd, rfl⟩ := hd
  intro p l e s m args below meth c G ad tc sz C ls H locs hl hP hS
  exact W.lcmp C.1 C.2.1 hd  (k p l e s m args below meth c G ad tc sz C ls H locs hl hP hS)
theorem v_ineg {x : Int32} (hd : vm_at M.2.1 pc .ineg 1 pc') (k : V M D pc' lv (.int (-x) :: st) σ Q) : V M D pc lv (.int x :: st) σ Q := by
  obtain ⟨hd, rfl⟩ := hd
  intro p l e s m args below meth c G ad tc sz C ls H locs hl hP hS
  exact lv_ineg C.1 C.2.1 hd  (k p l e s m args below meth c G ad tc sz C ls H locs hl hP hS)
theorem v_i2l {x : Int32} (hd : vm_at M.2.1 pc .i2l 1 pc') (k : V M D pc' lv (.long x.toInt64 :: st) σ Q) : V M D pc lv (.int x :: st) σ Q := by
  obtain ⟨hd, rfl⟩ := hd
  intro p l e s m args below meth c G ad tc sz C ls H locs hl hP hS
  exact lv_i2l C.1 C.2.1 hd rfl (k p l e s m args below meth c G ad tc sz C ls H locs hl hP hS)
theorem v_l2i {x : Int64} (hd : vm_at M.2.1 pc .l2i 1 pc') (k : V M D pc' lv (.int x.toInt32 :: st) σ Q) : V M D pc lv (.long x :: st) σ Q := by
  obtain ⟨hd, rfl⟩ := hd
  intro p l e s m args below meth c G ad tc sz C ls H locs hl hP hS
  exact lv_l2i C.1 C.2.1 hd rfl (k p l e s m args below meth c G ad tc sz C ls H locs hl hP hS)
theorem v_i2c {x : Int32} (hd : vm_at M.2.1 pc .i2c 1 pc') (k : V M D pc' lv (.int ((x.toUInt32 % 65536).toInt32) :: st) σ Q) : V M D pc lv (.int x :: st) σ Q := by
  obtain ⟨hd, rfl⟩ := hd
  intro p l e s m args below meth c G ad tc sz C ls H locs hl hP hS
  exact lv_i2c C.1 C.2.1 hd rfl (k p l e s m args below meth c G ad tc sz C ls H locs hl hP hS)
theorem v_dup {v : Value} (hd : vm_at M.2.1 pc .dup 1 pc') (hc : v.category = 1) (k : V M D pc' lv (v :: v :: st) σ Q) : V M D pc lv (v :: st) σ Q := by
  obtain ⟨hd, rfl⟩ := hd
  intro p l e s m args below meth c G ad tc sz C ls H locs hl hP hS
  exact lv_dup C.1 C.2.1 hd (by rw [vm_re_cat]; exact hc) (k p l e s m args below meth c G ad tc sz C ls H locs hl hP hS)
theorem v_dup2 {v v' : Value} (hd : vm_at M.2.1 pc .dup2 1 pc') (hc : v.category = 1) (hc' : v'.category = 1) (k : V M D pc' lv (v :: v' :: v :: v' :: st) σ Q) : V M D pc lv (v :: v' :: st) σ Q := by
  obtain ⟨hd, rfl⟩ := hd
  intro p l e s m args below meth c G ad tc sz C ls H locs hl hP hS
  exact lv_dup2_11 C.1 C.2.1 hd (by rw [vm_re_cat]; exact hc) (by rw [vm_re_cat]; exact hc') (k p l e s m args below meth c G ad tc sz C ls H locs hl hP hS)
theorem v_pop {v : Value} (hd : vm_at M.2.1 pc .pop 1 pc') (hc : v.category = 1) (k : V M D pc' lv st σ Q) : V M D pc lv (v :: st) σ Q := by
  obtain ⟨hd, rfl⟩ := hd
  intro p l e s m args below meth c G ad tc sz C ls H locs hl hP hS
  exact lv_pop C.1 C.2.1 hd (by rw [vm_re_cat]; exact hc) (k p l e s m args below meth c G ad tc sz C ls H locs hl hP hS)
theorem v_iconst {n : Int} {z : Int32} (hd : vm_at M.2.1 pc (.iconst n) 1 pc' ∧ Int32.ofInt n = z) (k : V M D pc' lv (.int z :: st) σ Q) : V M D pc lv st σ Q := by
  obtain ⟨⟨hd, rfl⟩, hz⟩ := hd
  intro p l e s m args below meth c G ad tc sz C ls H locs hl hP hS
  exact lv_iconst C.1 C.2.1 hd hz (k p l e s m args below meth c G ad tc sz C ls H locs hl hP hS)
theorem v_bipush {n : Int} {z : Int32} (hd : vm_at M.2.1 pc (.bipush n) 2 pc' ∧ (Int8.ofInt n).toInt32 = z) (k : V M D pc' lv (.int z :: st) σ Q) : V M D pc lv st σ Q := by
  obtain ⟨⟨hd, rfl⟩, hz⟩ := hd
  intro p l e s m args below meth c G ad tc sz C ls H locs hl hP hS
  exact lv_bipush C.1 C.2.1 hd hz (k p l e s m args below meth c G ad tc sz C ls H locs hl hP hS)
theorem v_sipush {n : Int} {z : Int32} (hd : vm_at M.2.1 pc (.sipush n) 3 pc' ∧ (Int16.ofInt n).toInt32 = z) (k : V M D pc' lv (.int z :: st) σ Q) : V M D pc lv st σ Q := by
  obtain ⟨⟨hd, rfl⟩, hz⟩ := hd
  intro p l e s m args below meth c G ad tc sz C ls H locs hl hP hS
  exact lv_sipush C.1 C.2.1 hd hz (k p l e s m args below meth c G ad tc sz C ls H locs hl hP hS)
theorem v_lconst {n : Fin 2} {z : Int64} (hd : vm_at M.2.1 pc (.lconst n) 1 pc' ∧ Int64.ofNat (n : Nat) = z) (k : V M D pc' lv (.long z :: st) σ Q) : V M D pc lv st σ Q := by
  obtain ⟨⟨hd, rfl⟩, hz⟩ := hd
  intro p l e s m args below meth c G ad tc sz C ls H locs hl hP hS
  exact lv_lconst C.1 C.2.1 hd hz (k p l e s m args below meth c G ad tc sz C ls H locs hl hP hS)
theorem v_ldc {ix : Nat} {z : Int32} (hd : vm_at M.2.1 pc (.ldc ix) 2 pc') (hw : Cond.constant M.1.cls ix z ∈ lw_tbl) (k : V M D pc' lv (.int z :: st) σ Q) : V M D pc lv st σ Q := by
  obtain ⟨hd, rfl⟩ := hd
  intro p l e s m args below meth c G ad tc sz C ls H locs hl hP hS
  exact lv_ldc C.1 C.2.1 C.2.2.2.2.1 (C.2.2.2.2.2.1 _ (vm_gd_in hw rfl)) hd (k p l e s m args below meth c G ad tc sz C ls H locs hl hP hS)
theorem v_ldcw {ix : Nat} {z : Int32} (hd : vm_at M.2.1 pc (.ldc_w ix) 3 pc') (hw : Cond.constant M.1.cls ix z ∈ lw_tbl) (k : V M D pc' lv (.int z :: st) σ Q) : V M D pc lv st σ Q := by
  obtain ⟨hd, rfl⟩ := hd
  intro p l e s m args below meth c G ad tc sz C ls H locs hl hP hS
  exact lv_ldcw C.1 C.2.1 C.2.2.2.2.1 (C.2.2.2.2.2.1 _ (vm_gd_in hw rfl)) hd (k p l e s m args below meth c G ad tc sz C ls H locs hl hP hS)
theorem v_ldc2 {ix : Nat} {z : Int64} (hd : vm_at M.2.1 pc (.ldc2_w ix) 3 pc') (hw : Cond.constantLong M.1.cls ix z ∈ lw_tbl) (k : V M D pc' lv (.long z :: st) σ Q) : V M D pc lv st σ Q := by
  obtain ⟨hd, rfl⟩ := hd
  intro p l e s m args below meth c G ad tc sz C ls H locs hl hP hS
  exact lv_ldc2 C.1 C.2.1 C.2.2.2.2.1 (C.2.2.2.2.2.1 _ (vm_gd_in hw rfl)) hd (k p l e s m args below meth c G ad tc sz C ls H locs hl hP hS)
theorem v_null (hd : vm_at M.2.1 pc .aconst_null 1 pc') (k : V M D pc' lv (.null :: st) σ Q) : V M D pc lv st σ Q := by
  obtain ⟨hd, rfl⟩ := hd
  intro p l e s m args below meth c G ad tc sz C ls H locs hl hP hS
  exact lv_null C.1 C.2.1 hd (k p l e s m args below meth c G ad tc sz C ls H locs hl hP hS)
theorem v_iload {i : Nat} {x : Int32} (hd : vm_at M.2.1 pc (.iload i) 2 pc') (hv : lv[i]? = some (some (.int x))) (k : V M D pc' lv (.int x :: st) σ Q) : V M D pc lv st σ Q := by
  obtain ⟨hd, rfl⟩ := hd
  intro p l e s m args below meth c G ad tc sz C ls H locs hl hP hS
  exact lv_iload C.1 C.2.1 hd (hl.2.2 i _ hv) (k p l e s m args below meth c G ad tc sz C ls H locs hl hP hS)
theorem v_iload_n {j : Fin 4} {i : Nat} {x : Int32} (hd : vm_at M.2.1 pc (.iload_n j) 1 pc' ∧ (j : Nat) = i) (hv : lv[i]? = some (some (.int x))) (k : V M D pc' lv (.int x :: st) σ Q) : V M D pc lv st σ Q := by
  obtain ⟨⟨hd, rfl⟩, hj⟩ := hd
  intro p l e s m args below meth c G ad tc sz C ls H locs hl hP hS
  exact lv_iload_n C.1 C.2.1 hd hj (hl.2.2 i _ hv) (k p l e s m args below meth c G ad tc sz C ls H locs hl hP hS)
theorem v_lload {i : Nat} {x : Int64} (hd : vm_at M.2.1 pc (.lload i) 2 pc') (hv : lv[i]? = some (some (.long x))) (k : V M D pc' lv (.long x :: st) σ Q) : V M D pc lv st σ Q := by
  obtain ⟨hd, rfl⟩ := hd
  intro p l e s m args below meth c G ad tc sz C ls H locs hl hP hS
  exact lv_lload C.1 C.2.1 hd (hl.2.2 i _ hv) (k p l e s m args below meth c G ad tc sz C ls H locs hl hP hS)
theorem v_lload_n {j : Fin 4} {i : Nat} {x : Int64} (hd : vm_at M.2.1 pc (.lload_n j) 1 pc' ∧ (j : Nat) = i) (hv : lv[i]? = some (some (.long x))) (k : V M D pc' lv (.long x :: st) σ Q) : V M D pc lv st σ Q := by
  obtain ⟨⟨hd, rfl⟩, hj⟩ := hd
  intro p l e s m args below meth c G ad tc sz C ls H locs hl hP hS
  exact lv_lload_n C.1 C.2.1 hd hj (hl.2.2 i _ hv) (k p l e s m args below meth c G ad tc sz C ls H locs hl hP hS)
theorem v_aload {i : Nat} {x : Nat} (hd : vm_at M.2.1 pc (.aload i) 2 pc') (hv : lv[i]? = some (some (.ref x))) (k : V M D pc' lv (.ref x :: st) σ Q) : V M D pc lv st σ Q := by
  obtain ⟨hd, rfl⟩ := hd
  intro p l e s m args below meth c G ad tc sz C ls H locs hl hP hS
  exact lv_aload C.1 C.2.1 hd (hl.2.2 i _ hv) (k p l e s m args below meth c G ad tc sz C ls H locs hl hP hS)
theorem v_aload_n {j : Fin 4} {i : Nat} {x : Nat} (hd : vm_at M.2.1 pc (.aload_n j) 1 pc' ∧ (j : Nat) = i) (hv : lv[i]? = some (some (.ref x))) (k : V M D pc' lv (.ref x :: st) σ Q) : V M D pc lv st σ Q := by
  obtain ⟨⟨hd, rfl⟩, hj⟩ := hd
  intro p l e s m args below meth c G ad tc sz C ls H locs hl hP hS
  exact lv_aload_n C.1 C.2.1 hd hj (hl.2.2 i _ hv) (k p l e s m args below meth c G ad tc sz C ls H locs hl hP hS)
theorem v_aloadN {i : Nat} (hd : vm_at M.2.1 pc (.aload i) 2 pc') (hv : lv[i]? = some (some .null)) (k : V M D pc' lv (.null :: st) σ Q) : V M D pc lv st σ Q := by
  obtain ⟨hd, rfl⟩ := hd
  intro p l e s m args below meth c G ad tc sz C ls H locs hl hP hS
  exact lv_aloadN C.1 C.2.1 hd (hl.2.2 i _ hv) (k p l e s m args below meth c G ad tc sz C ls H locs hl hP hS)
theorem v_aload_nN {j : Fin 4} {i : Nat} (hd : vm_at M.2.1 pc (.aload_n j) 1 pc' ∧ (j : Nat) = i) (hv : lv[i]? = some (some .null)) (k : V M D pc' lv (.null :: st) σ Q) : V M D pc lv st σ Q := by
  obtain ⟨⟨hd, rfl⟩, hj⟩ := hd
  intro p l e s m args below meth c G ad tc sz C ls H locs hl hP hS
  exact lv_aload_nN C.1 C.2.1 hd hj (hl.2.2 i _ hv) (k p l e s m args below meth c G ad tc sz C ls H locs hl hP hS)
def vm_ok1 (lv : List (Option Value)) : Nat → Bool
  | 0 => true
  | j + 1 => match lv[j]? with
    | some (some v) => v.category != 2
    | _ => true
def vm_tl (ad : Nat → Nat) (lv : List (Option Value)) : List (Nat × Value) := (List.range lv.length).filterMap (fun i => (lv[i]?.join).map (fun v => (i, vm_re ad v)))
theorem vm_tl_in {ad : Nat → Nat} {lv : List (Option Value)} {i : Nat} {v : Value} (h : lv[i]? = some (some v)) : (i, vm_re ad v) ∈ vm_tl ad lv := by
  refine List.mem_filterMap.mpr ⟨i, List.mem_range.mpr (List.getElem?_eq_some_iff.mp h).1, ?_⟩
  rw [h]
  rfl
theorem vm_LH.has {ad : Nat → Nat} {ls : Array Slot} {n : Nat} {lv : List (Option Value)} (h : vm_LH ad ls n lv) : lv_has ls n (vm_tl ad lv) := by
  refine ⟨h.1, h.2.1, fun q hq => ?_⟩
  obtain ⟨i, hi, he⟩ := List.mem_filterMap.mp hq
  cases hv : lv[i]? with
  | none => rw [hv] at he; cases he
  | some o =>
    cases o with
    | none => rw [hv] at he; cases he
    | some v =>
      rw [hv] at he
      have e2 : (i, vm_re ad v) = q := Option.some.inj he
      rw [← e2]
      exact h.2.2 i v hv
theorem vm_LH.st1 {ad : Nat → Nat} {ls' : Array Slot} {n i : Nat} {lv : List (Option Value)} {v : Value} (hk : vm_ok1 lv i = true)
    (h : lv_has ls' n ((i, vm_re ad v) :: (vm_tl ad lv).filter (fun q => !(q.1 == i) && !(q.1 + 1 == i && q.2.category == 2)))) : vm_LH ad ls' n (lv.set i (some v)) := by
  refine ⟨h.1, h.2.1, fun j v' hj => ?_⟩
  rw [List.getElem?_set] at hj
  by_cases e : i = j
  · subst e
    rw [if_pos rfl] at hj
    split at hj
    · have e3 : v = v' := Option.some.inj (Option.some.inj hj)
      rw [← e3]
      exact h.2.2 (i, vm_re ad v) List.mem_cons_self
    · cases hj
  · rw [if_neg e] at hj
    refine h.2.2 (j, vm_re ad v') (List.mem_cons_of_mem _ (List.mem_filter.mpr ⟨vm_tl_in hj, ?_⟩))
    have h1 : (j == i) = false := by simpa using (fun q : j = i => e q.symm)
    by_cases e2 : j + 1 = i
    · subst e2
      have h3 : (v'.category != 2) = true := by
        have h9 : (match lv[j]? with
          | some (some v) => v.category != 2
          | _ => true) = true := hk
        rw [hj] at h9
        exact h9
      have h4 : (v'.category == 2) = false := by simpa using h3
      simp [vm_re_cat, h4]
    · have h5 : (j + 1 == i) = false := by simpa using e2
      simp [h1, h5]
theorem vm_LH.st2 {ad : Nat → Nat} {ls' : Array Slot} {n i : Nat} {lv : List (Option Value)} {v : Value} (hk : vm_ok1 lv i = true)
    (h : lv_has ls' n ((i, vm_re ad v) :: (vm_tl ad lv).filter (fun q => !(q.1 == i) && (!(q.1 == i + 1) && !(q.1 + 1 == i && q.2.category == 2))))) : vm_LH ad ls' n ((lv.set i (some v)).set (i + 1) none) := by
  refine ⟨h.1, h.2.1, fun j v' hj => ?_⟩
  rw [List.getElem?_set] at hj
  by_cases e0 : i + 1 = j
  · rw [if_pos e0] at hj
    split at hj
    · cases hj
    · cases hj
  rw [if_neg e0, List.getElem?_set] at hj
  by_cases e : i = j
  · subst e
    rw [if_pos rfl] at hj
    split at hj
    · have e3 : v = v' := Option.some.inj (Option.some.inj hj)
      rw [← e3]
      exact h.2.2 (i, vm_re ad v) List.mem_cons_self
    · cases hj
  · rw [if_neg e] at hj
    refine h.2.2 (j, vm_re ad v') (List.mem_cons_of_mem _ (List.mem_filter.mpr ⟨vm_tl_in hj, ?_⟩))
    have h1 : (j == i) = false := by simpa using (fun q : j = i => e q.symm)
    have h0 : (j == i + 1) = false := by simpa using (fun q : j = i + 1 => e0 q.symm)
    by_cases e2 : j + 1 = i
    · subst e2
      have h3 : (v'.category != 2) = true := by
        have h9 : (match lv[j]? with
          | some (some v) => v.category != 2
          | _ => true) = true := hk
        rw [hj] at h9
        exact h9
      have h4 : (v'.category == 2) = false := by simpa using h3
      simp [vm_re_cat, h4]
      omega
    · have h5 : (j + 1 == i) = false := by simpa using e2
      simp [h1, h5, h0]
theorem v_istore {i : Nat} {x : Int32} (hd : vm_at M.2.1 pc (.istore i) 2 pc') (hn : i < M.2.2.1) (hk : vm_ok1 lv i = true) (k : V M D pc' (lv.set i (some (.int x))) st σ Q) : V M D pc lv (.int x :: st) σ Q := by
  obtain ⟨hd, rfl⟩ := hd
  intro p l e s m args below meth c G ad tc sz C ls H locs hl hP hS
  exact lv_istore C.1 C.2.1 hd hl.has hn rfl (fun ls1 h1 => k p l e s m args below meth c G ad tc sz C ls1 H locs (vm_LH.st1 hk h1) hP hS)
theorem v_istore_n {j : Fin 4} {i : Nat} {x : Int32} (hd : vm_at M.2.1 pc (.istore_n j) 1 pc' ∧ (j : Nat) = i) (hn : i < M.2.2.1) (hk : vm_ok1 lv i = true) (k : V M D pc' (lv.set i (some (.int x))) st σ Q) : V M D pc lv (.int x :: st) σ Q := by
  obtain ⟨⟨hd, rfl⟩, hj⟩ := hd
  intro p l e s m args below meth c G ad tc sz C ls H locs hl hP hS
  exact lv_istore_n C.1 C.2.1 hd hj hl.has hn rfl (fun ls1 h1 => k p l e s m args below meth c G ad tc sz C ls1 H locs (vm_LH.st1 hk h1) hP hS)
theorem v_astore {i : Nat} {x : Nat} (hd : vm_at M.2.1 pc (.astore i) 2 pc') (hn : i < M.2.2.1) (hk : vm_ok1 lv i = true) (k : V M D pc' (lv.set i (some (.ref x))) st σ Q) : V M D pc lv (.ref x :: st) σ Q := by
  obtain ⟨hd, rfl⟩ := hd
  intro p l e s m args below meth c G ad tc sz C ls H locs hl hP hS
  exact lv_astore C.1 C.2.1 hd hl.has hn rfl (fun ls1 h1 => k p l e s m args below meth c G ad tc sz C ls1 H locs (vm_LH.st1 hk h1) hP hS)
theorem v_astore_n {j : Fin 4} {i : Nat} {x : Nat} (hd : vm_at M.2.1 pc (.astore_n j) 1 pc' ∧ (j : Nat) = i) (hn : i < M.2.2.1) (hk : vm_ok1 lv i = true) (k : V M D pc' (lv.set i (some (.ref x))) st σ Q) : V M D pc lv (.ref x :: st) σ Q := by
  obtain ⟨⟨hd, rfl⟩, hj⟩ := hd
  intro p l e s m args below meth c G ad tc sz C ls H locs hl hP hS
  exact lv_astore_n C.1 C.2.1 hd hj hl.has hn rfl (fun ls1 h1 => k p l e s m args below meth c G ad tc sz C ls1 H locs (vm_LH.st1 hk h1) hP hS)
theorem v_lstore {i : Nat} {x : Int64} (hd : vm_at M.2.1 pc (.lstore i) 2 pc') (hn : i + 1 < M.2.2.1) (hk : vm_ok1 lv i = true) (k : V M D pc' ((lv.set i (some (.long x))).set (i + 1) none) st σ Q) : V M D pc lv (.long x :: st) σ Q := by
  obtain ⟨hd, rfl⟩ := hd
  intro p l e s m args below meth c G ad tc sz C ls H locs hl hP hS
  exact lv_lstore C.1 C.2.1 hd hl.has hn rfl (fun ls1 h1 => k p l e s m args below meth c G ad tc sz C ls1 H locs (vm_LH.st2 hk h1) hP hS)
theorem v_lstore_n {j : Fin 4} {i : Nat} {x : Int64} (hd : vm_at M.2.1 pc (.lstore_n j) 1 pc' ∧ (j : Nat) = i) (hn : i + 1 < M.2.2.1) (hk : vm_ok1 lv i = true) (k : V M D pc' ((lv.set i (some (.long x))).set (i + 1) none) st σ Q) : V M D pc lv (.long x :: st) σ Q := by
  obtain ⟨⟨hd, rfl⟩, hj⟩ := hd
  intro p l e s m args below meth c G ad tc sz C ls H locs hl hP hS
  exact lv_lstore_n C.1 C.2.1 hd hj hl.has hn rfl (fun ls1 h1 => k p l e s m args below meth c G ad tc sz C ls1 H locs (vm_LH.st2 hk h1) hP hS)
theorem v_astore_nN {j : Fin 4} {i : Nat} (hd : vm_at M.2.1 pc (.astore_n j) 1 pc' ∧ (j : Nat) = i) (hn : i < M.2.2.1) (hk : vm_ok1 lv i = true) (k : V M D pc' (lv.set i (some .null)) st σ Q) : V M D pc lv (.null :: st) σ Q := by
  obtain ⟨⟨hd, rfl⟩, hj⟩ := hd
  intro p l e s m args below meth c G ad tc sz C ls H locs hl hP hS
  exact lv_astore_nN C.1 C.2.1 hd hj hl.has hn rfl (fun ls1 h1 => k p l e s m args below meth c G ad tc sz C ls1 H locs (vm_LH.st1 hk h1) hP hS)
theorem v_iinc {i : Nat} {n : Int} {x z : Int32} (hd : vm_at M.2.1 pc (.iinc i n) 3 pc' ∧ Int32.ofInt n = z) (hv : lv[i]? = some (some (.int x))) (hn : i < M.2.2.1) (hk : vm_ok1 lv i = true) (k : V M D pc' (lv.set i (some (.int (x + z)))) st σ Q) : V M D pc lv st σ Q := by
  obtain ⟨⟨hd, rfl⟩, rfl⟩ := hd
  intro p l e s m args below meth c G ad tc sz C ls H locs hl hP hS
  obtain ⟨q, hq⟩ := List.getElem?_of_mem (vm_tl_in (ad := ad) hv)
  exact lv_iinc C.1 C.2.1 hd hl.has hq rfl hn rfl (fun ls1 h1 => k p l e s m args below meth c G ad tc sz C ls1 H locs (vm_LH.st1 hk h1) hP hS)
theorem v_if_eq {x : Int32} {off : Int} {tgt : Nat} (hd : vm_br M.2.1 pc (.ifCond .eq off) 3 pc' off tgt) (kt : x = 0 → V M D tgt lv st σ Q) (kf : ¬ x = 0 → V M D pc' lv st σ Q) : V M D pc lv (.int x :: st) σ Q := by
  obtain ⟨hd, rfl, ht⟩ := hd
  intro p l e s m args below meth c G ad tc sz C ls H locs hl hP hS
  exact lv_if_eq C.1 C.2.1 hd ht (fun h => kt h p l e s m args below meth c G ad tc sz C ls H locs hl hP hS) (fun h => kf h p l e s m args below meth c G ad tc sz C ls H locs hl hP hS)
theorem v_icmp_eq {x y : Int32} {off : Int} {tgt : Nat} (hd : vm_br M.2.1 pc (.if_icmp .eq off) 3 pc' off tgt) (kt : x = y → V M D tgt lv st σ Q) (kf : ¬ x = y → V M D pc' lv st σ Q) : V M D pc lv (.int y :: .int x :: st) σ Q := by
  obtain ⟨hd, rfl, ht⟩ := hd
  intro p l e s m args below meth c G ad tc sz C ls H locs hl hP hS
  exact lv_icmp_eq C.1 C.2.1 hd ht (fun h => kt h p l e s m args below meth c G ad tc sz C ls H locs hl hP hS) (fun h => kf h p l e s m args below meth c G ad tc sz C ls H locs hl hP hS)
theorem v_if_ne {x : Int32} {off : Int} {tgt : Nat} (hd : vm_br M.2.1 pc (.ifCond .ne off) 3 pc' off tgt) (kt : ¬ x = 0 → V M D tgt lv st σ Q) (kf : x = 0 → V M D pc' lv st σ Q) : V M D pc lv (.int x :: st) σ Q := by
  obtain ⟨hd, rfl, ht⟩ := hd
  intro p l e s m args below meth c G ad tc sz C ls H locs hl hP hS
  exact lv_if_ne C.1 C.2.1 hd ht (fun h => kt h p l e s m args below meth c G ad tc sz C ls H locs hl hP hS) (fun h => kf h p l e s m args below meth c G ad tc sz C ls H locs hl hP hS)
theorem v_icmp_ne {x y : Int32} {off : Int} {tgt : Nat} (hd : vm_br M.2.1 pc (.if_icmp .ne off) 3 pc' off tgt) (kt : ¬ x = y → V M D tgt lv st σ Q) (kf : x = y → V M D pc' lv st σ Q) : V M D pc lv (.int y :: .int x :: st) σ Q := by
  obtain ⟨hd, rfl, ht⟩ := hd
  intro p l e s m args below meth c G ad tc sz C ls H locs hl hP hS
  exact lv_icmp_ne C.1 C.2.1 hd ht (fun h => kt h p l e s m args below meth c G ad tc sz C ls H locs hl hP hS) (fun h => kf h p l e s m args below meth c G ad tc sz C ls H locs hl hP hS)
theorem v_if_lt {x : Int32} {off : Int} {tgt : Nat} (hd : vm_br M.2.1 pc (.ifCond .lt off) 3 pc' off tgt) (kt : x < 0 → V M D tgt lv st σ Q) (kf : ¬ x < 0 → V M D pc' lv st σ Q) : V M D pc lv (.int x :: st) σ Q := by
  obtain ⟨hd, rfl, ht⟩ := hd
  intro p l e s m args below meth c G ad tc sz C ls H locs hl hP hS
  exact lv_if_lt C.1 C.2.1 hd ht (fun h => kt h p l e s m args below meth c G ad tc sz C ls H locs hl hP hS) (fun h => kf h p l e s m args below meth c G ad tc sz C ls H locs hl hP hS)
theorem v_icmp_lt {x y : Int32} {off : Int} {tgt : Nat} (hd : vm_br M.2.1 pc (.if_icmp .lt off) 3 pc' off tgt) (kt : x < y → V M D tgt lv st σ Q) (kf : ¬ x < y → V M D pc' lv st σ Q) : V M D pc lv (.int y :: .int x :: st) σ Q := by
  obtain ⟨hd, rfl, ht⟩ := hd
  intro p l e s m args below meth c G ad tc sz C ls H locs hl hP hS
  exact lv_icmp_lt C.1 C.2.1 hd ht (fun h => kt h p l e s m args below meth c G ad tc sz C ls H locs hl hP hS) (fun h => kf h p l e s m args below meth c G ad tc sz C ls H locs hl hP hS)
theorem v_if_ge {x : Int32} {off : Int} {tgt : Nat} (hd : vm_br M.2.1 pc (.ifCond .ge off) 3 pc' off tgt) (kt : 0 ≤ x → V M D tgt lv st σ Q) (kf : ¬ 0 ≤ x → V M D pc' lv st σ Q) : V M D pc lv (.int x :: st) σ Q := by
  obtain ⟨hd, rfl, ht⟩ := hd
  intro p l e s m args below meth c G ad tc sz C ls H locs hl hP hS
  exact lv_if_ge C.1 C.2.1 hd ht (fun h => kt h p l e s m args below meth c G ad tc sz C ls H locs hl hP hS) (fun h => kf h p l e s m args below meth c G ad tc sz C ls H locs hl hP hS)
theorem v_icmp_ge {x y : Int32} {off : Int} {tgt : Nat} (hd : vm_br M.2.1 pc (.if_icmp .ge off) 3 pc' off tgt) (kt : y ≤ x → V M D tgt lv st σ Q) (kf : ¬ y ≤ x → V M D pc' lv st σ Q) : V M D pc lv (.int y :: .int x :: st) σ Q := by
  obtain ⟨hd, rfl, ht⟩ := hd
  intro p l e s m args below meth c G ad tc sz C ls H locs hl hP hS
  exact lv_icmp_ge C.1 C.2.1 hd ht (fun h => kt h p l e s m args below meth c G ad tc sz C ls H locs hl hP hS) (fun h => kf h p l e s m args below meth c G ad tc sz C ls H locs hl hP hS)
theorem v_if_gt {x : Int32} {off : Int} {tgt : Nat} (hd : vm_br M.2.1 pc (.ifCond .gt off) 3 pc' off tgt) (kt : 0 < x → V M D tgt lv st σ Q) (kf : ¬ 0 < x → V M D pc' lv st σ Q) : V M D pc lv (.int x :: st) σ Q := by
  obtain ⟨hd, rfl, ht⟩ := hd
  intro p l e s m args below meth c G ad tc sz C ls H locs hl hP hS
  exact lv_if_gt C.1 C.2.1 hd ht (fun h => kt h p l e s m args below meth c G ad tc sz C ls H locs hl hP hS) (fun h => kf h p l e s m args below meth c G ad tc sz C ls H locs hl hP hS)
theorem v_icmp_gt {x y : Int32} {off : Int} {tgt : Nat} (hd : vm_br M.2.1 pc (.if_icmp .gt off) 3 pc' off tgt) (kt : y < x → V M D tgt lv st σ Q) (kf : ¬ y < x → V M D pc' lv st σ Q) : V M D pc lv (.int y :: .int x :: st) σ Q := by
  obtain ⟨hd, rfl, ht⟩ := hd
  intro p l e s m args below meth c G ad tc sz C ls H locs hl hP hS
  exact lv_icmp_gt C.1 C.2.1 hd ht (fun h => kt h p l e s m args below meth c G ad tc sz C ls H locs hl hP hS) (fun h => kf h p l e s m args below meth c G ad tc sz C ls H locs hl hP hS)
theorem v_if_le {x : Int32} {off : Int} {tgt : Nat} (hd : vm_br M.2.1 pc (.ifCond .le off) 3 pc' off tgt) (kt : x ≤ 0 → V M D tgt lv st σ Q) (kf : ¬ x ≤ 0 → V M D pc' lv st σ Q) : V M D pc lv (.int x :: st) σ Q := by
  obtain ⟨hd, rfl, ht⟩ := hd
  intro p l e s m args below meth c G ad tc sz C ls H locs hl hP hS
  exact lv_if_le C.1 C.2.1 hd ht (fun h => kt h p l e s m args below meth c G ad tc sz C ls H locs hl hP hS) (fun h => kf h p l e s m args below meth c G ad tc sz C ls H locs hl hP hS)
theorem v_icmp_le {x y : Int32} {off : Int} {tgt : Nat} (hd : vm_br M.2.1 pc (.if_icmp .le off) 3 pc' off tgt) (kt : x ≤ y → V M D tgt lv st σ Q) (kf : ¬ x ≤ y → V M D pc' lv st σ Q) : V M D pc lv (.int y :: .int x :: st) σ Q := by
  obtain ⟨hd, rfl, ht⟩ := hd
  intro p l e s m args below meth c G ad tc sz C ls H locs hl hP hS
  exact lv_icmp_le C.1 C.2.1 hd ht (fun h => kt h p l e s m args below meth c G ad tc sz C ls H locs hl hP hS) (fun h => kf h p l e s m args below meth c G ad tc sz C ls H locs hl hP hS)
theorem v_goto {off : Int} {tgt : Nat} (hd : vm_br M.2.1 pc (.goto off) 3 pc' off tgt) (k : V M D tgt lv st σ Q) : V M D pc lv st σ Q := by
  obtain ⟨hd, rfl, ht⟩ := hd
  intro p l e s m args below meth c G ad tc sz C ls H locs hl hP hS
  exact lv_goto C.1 C.2.1 hd ht (k p l e s m args below meth c G ad tc sz C ls H locs hl hP hS)
theorem v_ifnonnull {x : Nat} {off : Int} {tgt : Nat} (hd : vm_br M.2.1 pc (.ifnonnull off) 3 pc' off tgt) (k : V M D tgt lv st σ Q) : V M D pc lv (.ref x :: st) σ Q := by
  obtain ⟨hd, rfl, ht⟩ := hd
  intro p l e s m args below meth c G ad tc sz C ls H locs hl hP hS
  exact lv_ifnonnull C.1 C.2.1 hd ht (k p l e s m args below meth c G ad tc sz C ls H locs hl hP hS)
theorem v_ifnonnullN {off : Int} {tgt : Nat} (hd : vm_br M.2.1 pc (.ifnonnull off) 3 pc' off tgt) (k : V M D pc' lv st σ Q) : V M D pc lv (.null :: st) σ Q := by
  obtain ⟨hd, rfl, ht⟩ := hd
  intro p l e s m args below meth c G ad tc sz C ls H locs hl hP hS
  exact lv_ifnonnullN C.1 C.2.1 hd (k p l e s m args below meth c G ad tc sz C ls H locs hl hP hS)
theorem v_tableOut {dflt lo hi : Int} {offs : Array Int} {len tgt : Nat} {x : Int32} (hd : decode M.2.1 pc = .ok (.tableswitch dflt lo hi offs, len)) (h : x.toInt < lo ∨ hi < x.toInt) (ht : (pc : Int) + dflt = (tgt : Int)) (k : V M D tgt lv st σ Q) : V M D pc lv (.int x :: st) σ Q := by
  intro p l e s m args below meth c G ad tc sz C ls H locs hl hP hS
  exact lv_tableOut C.1 C.2.1 hd h ht (k p l e s m args below meth c G ad tc sz C ls H locs hl hP hS)
theorem v_tableIn {dflt lo hi : Int} {offs : Array Int} {len tgt : Nat} {x : Int32} {off : Int} (hd : decode M.2.1 pc = .ok (.tableswitch dflt lo hi offs, len)) (h1 : ¬ x.toInt < lo) (h2 : ¬ hi < x.toInt) (ho : offs[(x.toInt - lo).toNat]? = some off) (ht : (pc : Int) + off = (tgt : Int)) (k : V M D tgt lv st σ Q) : V M D pc lv (.int x :: st) σ Q := by
  intro p l e s m args below meth c G ad tc sz C ls H locs hl hP hS
  exact lv_tableIn C.1 C.2.1 hd h1 h2 ho ht (k p l e s m args below meth c G ad tc sz C ls H locs hl hP hS)
end VMR
