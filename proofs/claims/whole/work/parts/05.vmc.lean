/-! calls -/
def vm_lk (own : String) (ix : Nat) (y : MethodName) : Prop := Cond.methodLink own ix y ∈ lw_tbl ∨ ∃ host : String, Cond.methodLinkNest own ix y host ∈ lw_tbl
def vm_cok (M : MI) (n : Nat) : Prop := Cond.initialized M.1.cls ∈ lw_tbl ∧ Cond.code M.1 M.2.1 M.2.2.1 M.2.2.2 ∈ lw_tbl ∧ (M.1.cls ≠ "java/lang/invoke/MethodHandle" ∧ M.1.cls ≠ "java/lang/invoke/VarHandle" ∧ (parseMethodDescriptor M.1.desc).map (fun d => d.parameters.length) = some n) ∧ M.2.2.1 ≤ 45
def vm_MV (own : String) (ix : Nat) (M : MI) (n : Nat) : Prop := vm_lk own ix M.1 ∧ vm_cok M n ∧ Cond.instanceMethod M.1 ∈ lw_tbl ∧ Cond.selects M.1.cls M.1 M.1 ∈ lw_tbl
def vm_MS (own : String) (ix : Nat) (M : MI) (n : Nat) : Prop := vm_lk own ix M.1 ∧ vm_cok M n ∧ Cond.static M.1 ∈ lw_tbl
theorem vm_map_cat (ad : Nat → Nat) (st : List Value) : ((st.map (vm_re ad)).map fun v => v.category) = st.map fun v => v.category := by
  rw [List.map_map]
  exact List.map_congr_left fun v _ => vm_re_cat ad v
section VMK
variable {p : Program} {l : Launch} {e : Env} {R : Room} {s : State} {m : MethodId} {args : Array Value} {below : List Frame} {meth : Method} {c : Code} {H : Heap} {locs : List Loc} {cells slots : Nat} {Z : State → Prop} {G : va_G} {ad : Nat → Nat} {tc : ClassId × ClassId × ClassId} {sz : Nat}
theorem vm_callK {pc : Nat} {ls : Array Slot} {st0 rest : List Value} {a : Array Value} {Q' : Option Value → Wd → Prop} (hr : va_Run p l e R s m args below meth c H locs cells slots 0 0 (F0 m pc ls st0) rest (vm_Q G ad tc H.size Q' a) (vm_A ad H.size)) (hS : va_S (vm_A ad sz) s.heap H locs) (hsz : s.heap.size = sz)
    (kk : ∀ (r : Option Value) (σ' : Wd) (H1 : Heap) (locs1 : List Loc), Q' r σ' → va_P G classes (vm_cells ad tc σ') H1 → va_S (vm_A ad sz) s.heap H1 locs1 → W p l e R s m args below meth c H1 locs1 cells slots Z (F0 m (pc + 3) ls ((r.map (vm_re ad)).toList ++ rest))) : W p l e R s m args below meth c H locs cells slots Z (F0 m pc ls st0) := by
  have hm : ∀ q, vm_A ad H.size q → vm_A ad sz q := fun q h => vm_A_mono (by rw [← hsz]; exact hS.1) h
  intro T hT X
  obtain ⟨v, st₀, t, T', L, h0, X', hL, e1, e2, ⟨⟨r, σ', hv, hq, hP'⟩, hz, hk⟩, st⟩ := hr T hT X
  cases hv
  rw [h0] at hz hk
  obtain ⟨t2, a1, b1⟩ := kk r σ' T'.heap (locs ++ L) hq (by rw [e1]; exact hP')
    ⟨Nat.le_trans hS.1 (by rw [e1]; exact hz), fun q h1 h2 => by rw [e1, hk q (Nat.lt_of_lt_of_le h1 hS.1) (fun z => h2 (hm q z))]; exact hS.2.1 q h1 h2, fun q hq => by
      rcases List.mem_append.mp hq with h | h
      · exact hS.2.2 q h
      · exact hm _ (hL q h)⟩ T' rfl X'
  exact ⟨t2, st t2 a1, b1⟩
/-- the callee's start out of the caller's world -/
theorem vm_P_of {as : List Value} {σ : Wd} (hP : va_P G classes (vm_cells ad tc σ) H) (hS : va_S (vm_A ad sz) s.heap H locs) (hsz : s.heap.size = sz) (hSt : vm_St G ad tc sz s s.heap) : ∀ U : State, U.heap = H → s.WarmedH U.vm → vm_P G ad tc H.size as σ (as.map (vm_re ad)).toArray U := by
  intro U hU hW
  refine ⟨rfl, by rw [hU], by rw [hU]; exact hP, ?_⟩
  rw [hU]
  exact hSt.warm hW (by rw [← hsz]; exact hS.1) (fun q h1 h2 => hS.2.1 q h1 h2)
/-- a call at a place of any frame: static -/
theorem vm_goS {own : String} {ix D n pc nL : Nat} {cc : ByteArray} {M' : MI} {as st : List Value} {σ : Wd} {ls : Array Slot} {Q' : Option Value → Wd → Prop} (hx : p.tables.exec = Jvm.exec) (hb : c.code = cc) (hml : c.maxLocals = nL) (hown : s.vm.findClass own = some m.cls) (hts : ∀ w ∈ vm_gd, w.before args s = true) (hinj : vm_inj ad) (hsz : s.heap.size = sz) (hSt : vm_St G ad tc sz s s.heap)
    (hls : ls.size = nL) (hP : va_P G classes (vm_cells ad tc σ) H) (hS : va_S (vm_A ad sz) s.heap H locs) (hM : vm_MS own ix M' n) (hn : as.length = n) (hd : decode cc pc = .ok (.invokestatic ix, 3)) (hcat : (st.map fun v => v.category).sum ≤ 8) (hR : D + 1 ≤ R.frames ∧ 64 * D + 64 ≤ R.locals ∧ cells ≤ R.cells ∧ slots ≤ R.slots) (ho : Ok D M' as σ Q')
    (kk : ∀ (r : Option Value) (σ' : Wd) (H1 : Heap) (locs1 : List Loc), Q' r σ' → va_P G classes (vm_cells ad tc σ') H1 → va_S (vm_A ad sz) s.heap H1 locs1 → W p l e R s m args below meth c H1 locs1 cells slots Z (F0 m (pc + 3) ls ((r.map (vm_re ad)).toList ++ st.map (vm_re ad)))) :
    W p l e R s m args below meth c H locs cells slots Z (F0 m pc ls ((as.reverse ++ st).map (vm_re ad))) := by
  obtain ⟨hlk, ⟨hini, hcode, hnm, hml'⟩, hst⟩ := hM
  have hG := vm_gd_good hcode
  have hini' := hts _ (vm_gd_in hini rfl)
  have hst' := hts _ (vm_gd_in hst rfl)
  have hrm : (vm_rm D).frames + 1 ≤ R.frames ∧ 8 + (M'.2.2.1 + 11) + (vm_rm D).locals ≤ R.locals := ⟨hR.1, by show 8 + (M'.2.2.1 + 11) + 64 * D ≤ R.locals; omega⟩
  have hw8 : 2 * (F0 m pc ls ((as.reverse ++ st).map (vm_re ad))).monitorRoom + ((st.map (vm_re ad)).map fun v => v.category).sum ≤ 8 := lv_room (by rw [vm_map_cat]; exact hcat)
  have hstk : (as.reverse ++ st).map (vm_re ad) = (as.map (vm_re ad)).reverse ++ st.map (vm_re ad) := by rw [List.map_append, List.map_reverse]
  refine vm_callK (a := (as.map (vm_re ad)).toArray) ?_ hS hsz kk
  rcases hlk with hlk | ⟨host, hlk⟩
  · exact va_runS (As := as.map (vm_re ad)) ⟨hx, hb, hml, hown, hts⟩ (ho l G ad tc H.size hinj) ⟨callB_of n hts hG rfl rfl rfl hini' (hts _ (vm_gd_in hlk rfl)) hnm hrm, hst'⟩ ⟨vm_P_blind, vm_P_of hP hS hsz hSt⟩ rfl (by rw [List.length_map]; exact hn) hls hstk hw8 hd ⟨hR.2.2.1, hR.2.2.2⟩
  · exact va_runSN (As := as.map (vm_re ad)) ⟨hx, hb, hml, hown, hts⟩ (ho l G ad tc H.size hinj) ⟨va_cnB n hts hG rfl rfl rfl (hSt.2.1 _ (vm_nt_in hlk rfl)) hini' hnm hrm, hst', trivial⟩ ⟨vm_P_blind, vm_P_of hP hS hsz hSt⟩ rfl (by rw [List.length_map]; exact hn) hls hstk hw8 hd ⟨hR.2.2.1, hR.2.2.2⟩
theorem vm_goV {own : String} {ix D n pc nL k ci : Nat} {cc : ByteArray} {M' : MI} {as st : List Value} {σ : Wd} {ls : Array Slot} {Q' : Option Value → Wd → Prop} (hx : p.tables.exec = Jvm.exec) (hb : c.code = cc) (hml : c.maxLocals = nL) (hown : s.vm.findClass own = some m.cls) (hts : ∀ w ∈ vm_gd, w.before args s = true) (hinj : vm_inj ad) (hsz : s.heap.size = sz) (hSt : vm_St G ad tc sz s s.heap)
    (hls : ls.size = nL) (hP : va_P G classes (vm_cells ad tc σ) H) (hS : va_S (vm_A ad sz) s.heap H locs) (hM : vm_MV own ix M' n) (hn : as.length = n) (hk : vm_lay[k]? = some (0, ci)) (hci : (classes[ci]?).map (fun q => q.1) = some M'.1.cls) (hd : decode cc pc = .ok (.invokevirtual ix, 3)) (hcat : (st.map fun v => v.category).sum ≤ 8) (hR : D + 1 ≤ R.frames ∧ 64 * D + 64 ≤ R.locals ∧ cells ≤ R.cells ∧ slots ≤ R.slots) (ho : Ok D M' (.ref k :: as) σ Q')
    (kk : ∀ (r : Option Value) (σ' : Wd) (H1 : Heap) (locs1 : List Loc), Q' r σ' → va_P G classes (vm_cells ad tc σ') H1 → va_S (vm_A ad sz) s.heap H1 locs1 → W p l e R s m args below meth c H1 locs1 cells slots Z (F0 m (pc + 3) ls ((r.map (vm_re ad)).toList ++ st.map (vm_re ad)))) :
    W p l e R s m args below meth c H locs cells slots Z (F0 m pc ls ((as.reverse ++ .ref k :: st).map (vm_re ad))) := by
  obtain ⟨hlk, ⟨hini, hcode, hnm, hml'⟩, hin, hsel⟩ := hM
  have hG := vm_gd_good hcode
  have hini' := hts _ (vm_gd_in hini rfl)
  have hin' := hts _ (vm_gd_in hin rfl)
  have hsel' := hts _ (vm_gd_in hsel rfl)
  have hrm : (vm_rm D).frames + 1 ≤ R.frames ∧ 8 + (M'.2.2.1 + 11) + (vm_rm D).locals ≤ R.locals := ⟨hR.1, by show 8 + (M'.2.2.1 + 11) + 64 * D ≤ R.locals; omega⟩
  have hw8 : 2 * (F0 m pc ls ((as.reverse ++ .ref k :: st).map (vm_re ad))).monitorRoom + ((st.map (vm_re ad)).map fun v => v.category).sum ≤ 8 := lv_room (by rw [vm_map_cat]; exact hcat)
  have hstk : (as.reverse ++ .ref k :: st).map (vm_re ad) = (as.map (vm_re ad)).reverse ++ .ref (ad k) :: st.map (vm_re ad) := by rw [List.map_append, List.map_reverse]; rfl
  have hrecv : ∃ cellB : Cell, H[ad k]? = some cellB ∧ cellB.vm.isStatics = false ∧ s.vm.findClass M'.1.cls = some cellB.cls := by
    cases hq : classes[ci]? with
    | none => rw [hq] at hci; cases hci
    | some q =>
      rw [hq] at hci
      have e : q.1 = M'.1.cls := Option.some.inj hci
      rw [← e]
      exact va_recv (ci := ci) hSt.1 hP hq (vm_cells_get hk)
  refine vm_callK (a := (Value.ref (ad k) :: as.map (vm_re ad)).toArray) ?_ hS hsz kk
  rcases hlk with hlk | ⟨host, hlk⟩
  · exact va_runV (C := M'.1.cls) (b := ad k) (As := as.map (vm_re ad)) ⟨hx, hb, hml, hown, hts⟩ (ho l G ad tc H.size hinj) ⟨callB_of n hts hG rfl rfl rfl hini' (hts _ (vm_gd_in hlk rfl)) hnm hrm, hin', hsel'⟩ ⟨vm_P_blind, hrecv, vm_P_of (as := .ref k :: as) hP hS hsz hSt⟩ rfl (by rw [List.length_map]; exact hn) hls hstk hw8 hd ⟨hR.2.2.1, hR.2.2.2⟩
  · exact va_runVN (C := M'.1.cls) (b := ad k) (As := as.map (vm_re ad)) ⟨hx, hb, hml, hown, hts⟩ (ho l G ad tc H.size hinj) ⟨va_cnB n hts hG rfl rfl rfl (hSt.2.1 _ (vm_nt_in hlk rfl)) hini' hnm hrm, hin', hsel'⟩ ⟨vm_P_blind, hrecv, vm_P_of (as := .ref k :: as) hP hS hsz hSt⟩ rfl (by rw [List.length_map]; exact hn) hls hstk hw8 hd ⟨hR.2.2.1, hR.2.2.2⟩
end VMK
section VMM
variable {M : MI} {D pc pc' : Nat} {lv : List (Option Value)} {st : List Value} {σ : Wd} {Q : Option Value → Wd → Prop}
theorem vm_push (ad : Nat → Nat) (r : Option Value) (st : List Value) : (r.toList ++ st).map (vm_re ad) = (r.map (vm_re ad)).toList ++ st.map (vm_re ad) := by cases r <;> rfl
theorem v_callS {ix n : Nat} {M' : MI} {as : List Value} (hd : vm_at M.2.1 pc (.invokestatic ix) 3 pc') (hM : vm_MS M.1.cls ix M' n) (hn : as.length = n) (hcat : (st.map fun v => v.category).sum ≤ 8) (ho : Ok D M' as σ (fun r σ' => V M (D + 1) pc' lv (r.toList ++ st) σ' Q)) : V M (D + 1) pc lv (as.reverse ++ st) σ Q := by
  obtain ⟨hd, rfl⟩ := hd
  intro p l e s m args below meth c G ad tc sz C ls H locs hl hP hS
  obtain ⟨hx, hb, hr, hml, hown, hts, hlocks, hinj, hsz, hSt⟩ := id C
  refine vm_goS hx hb hml hown hts hinj hsz hSt hl.1 hP hS hM hn hd hcat ⟨Nat.le_refl _, by show 64 * D + 64 ≤ 64 * (D + 1); omega, Nat.le_refl _, Nat.le_refl _⟩ ho ?_
  intro r σ' H1 locs1 hq hP1 hS1
  have h := hq p l e s m args below meth c G ad tc sz C ls H1 locs1 hl hP1 hS1
  rw [vm_push] at h
  exact h
theorem v_callV {ix n k ci : Nat} {M' : MI} {as : List Value} (hd : vm_at M.2.1 pc (.invokevirtual ix) 3 pc') (hM : vm_MV M.1.cls ix M' n) (hn : as.length = n) (hk : vm_lay[k]? = some (0, ci)) (hci : (classes[ci]?).map (fun q => q.1) = some M'.1.cls) (hcat : (st.map fun v => v.category).sum ≤ 8) (ho : Ok D M' (.ref k :: as) σ (fun r σ' => V M (D + 1) pc' lv (r.toList ++ st) σ' Q)) : V M (D + 1) pc lv (as.reverse ++ .ref k :: st) σ Q := by
  obtain ⟨hd, rfl⟩ := hd
  intro p l e s m args below meth c G ad tc sz C ls H locs hl hP hS
  obtain ⟨hx, hb, hr, hml, hown, hts, hlocks, hinj, hsz, hSt⟩ := id C
  refine vm_goV hx hb hml hown hts hinj hsz hSt hl.1 hP hS hM hn hk hci hd hcat ⟨Nat.le_refl _, by show 64 * D + 64 ≤ 64 * (D + 1); omega, Nat.le_refl _, Nat.le_refl _⟩ ho ?_
  intro r σ' H1 locs1 hq hP1 hS1
  have h := hq p l e s m args below meth c G ad tc sz C ls H1 locs1 hl hP1 hS1
  rw [vm_push] at h
  exact h
theorem v_callS0 {ix : Nat} {M' : MI} (hd : vm_at M.2.1 pc (.invokestatic ix) 3 pc') (hM : vm_MS M.1.cls ix M' 0) (hcat : (st.map fun v => v.category).sum ≤ 8) (ho : Ok D M' [] σ (fun r σ' => V M (D + 1) pc' lv (r.toList ++ st) σ' Q)) : V M (D + 1) pc lv (st) σ Q := v_callS (as := []) hd hM rfl hcat ho
theorem v_callV0 {ix k ci : Nat} {M' : MI} (hd : vm_at M.2.1 pc (.invokevirtual ix) 3 pc') (hM : vm_MV M.1.cls ix M' 0) (hk : vm_lay[k]? = some (0, ci)) (hci : (classes[ci]?).map (fun q => q.1) = some M'.1.cls) (hcat : (st.map fun v => v.category).sum ≤ 8) (ho : Ok D M' [.ref k] σ (fun r σ' => V M (D + 1) pc' lv (r.toList ++ st) σ' Q)) : V M (D + 1) pc lv (.ref k :: st) σ Q := v_callV (as := []) hd hM rfl hk hci hcat ho
theorem v_callS1 {ix : Nat} {M' : MI} {a1 : Value} (hd : vm_at M.2.1 pc (.invokestatic ix) 3 pc') (hM : vm_MS M.1.cls ix M' 1) (hcat : (st.map fun v => v.category).sum ≤ 8) (ho : Ok D M' [a1] σ (fun r σ' => V M (D + 1) pc' lv (r.toList ++ st) σ' Q)) : V M (D + 1) pc lv (a1 :: st) σ Q := v_callS (as := [a1]) hd hM rfl hcat ho
theorem v_callV1 {ix k ci : Nat} {M' : MI} {a1 : Value} (hd : vm_at M.2.1 pc (.invokevirtual ix) 3 pc') (hM : vm_MV M.1.cls ix M' 1) (hk : vm_lay[k]? = some (0, ci)) (hci : (classes[ci]?).map (fun q => q.1) = some M'.1.cls) (hcat : (st.map fun v => v.category).sum ≤ 8) (ho : Ok D M' [.ref k, a1] σ (fun r σ' => V M (D + 1) pc' lv (r.toList ++ st) σ' Q)) : V M (D + 1) pc lv (a1 :: .ref k :: st) σ Q := v_callV (as := [a1]) hd hM rfl hk hci hcat ho
theorem v_callS2 {ix : Nat} {M' : MI} {a1 a2 : Value} (hd : vm_at M.2.1 pc (.invokestatic ix) 3 pc') (hM : vm_MS M.1.cls ix M' 2) (hcat : (st.map fun v => v.category).sum ≤ 8) (ho : Ok D M' [a1, a2] σ (fun r σ' => V M (D + 1) pc' lv (r.toList ++ st) σ' Q)) : V M (D + 1) pc lv (a2 :: a1 :: st) σ Q := v_callS (as := [a1, a2]) hd hM rfl hcat ho
theorem v_callV2 {ix k ci : Nat} {M' : MI} {a1 a2 : Value} (hd : vm_at M.2.1 pc (.invokevirtual ix) 3 pc') (hM : vm_MV M.1.cls ix M' 2) (hk : vm_lay[k]? = some (0, ci)) (hci : (classes[ci]?).map (fun q => q.1) = some M'.1.cls) (hcat : (st.map fun v => v.category).sum ≤ 8) (ho : Ok D M' [.ref k, a1, a2] σ (fun r σ' => V M (D + 1) pc' lv (r.toList ++ st) σ' Q)) : V M (D + 1) pc lv (a2 :: a1 :: .ref k :: st) σ Q := v_callV (as := [a1, a2]) hd hM rfl hk hci hcat ho
theorem v_callS3 {ix : Nat} {M' : MI} {a1 a2 a3 : Value} (hd : vm_at M.2.1 pc (.invokestatic ix) 3 pc') (hM : vm_MS M.1.cls ix M' 3) (hcat : (st.map fun v => v.category).sum ≤ 8) (ho : Ok D M' [a1, a2, a3] σ (fun r σ' => V M (D + 1) pc' lv (r.toList ++ st) σ' Q)) : V M (D + 1) pc lv (a3 :: a2 :: a1 :: st) σ Q := v_callS (as := [a1, a2, a3]) hd hM rfl hcat ho
theorem v_callV3 {ix k ci : Nat} {M' : MI} {a1 a2 a3 : Value} (hd : vm_at M.2.1 pc (.invokevirtual ix) 3 pc') (hM : vm_MV M.1.cls ix M' 3) (hk : vm_lay[k]? = some (0, ci)) (hci : (classes[ci]?).map (fun q => q.1) = some M'.1.cls) (hcat : (st.map fun v => v.category).sum ≤ 8) (ho : Ok D M' [.ref k, a1, a2, a3] σ (fun r σ' => V M (D + 1) pc' lv (r.toList ++ st) σ' Q)) : V M (D + 1) pc lv (a3 :: a2 :: a1 :: .ref k :: st) σ Q := v_callV (as := [a1, a2, a3]) hd hM rfl hk hci hcat ho
theorem v_callS4 {ix : Nat} {M' : MI} {a1 a2 a3 a4 : Value} (hd : vm_at M.2.1 pc (.invokestatic ix) 3 pc') (hM : vm_MS M.1.cls ix M' 4) (hcat : (st.map fun v => v.category).sum ≤ 8) (ho : Ok D M' [a1, a2, a3, a4] σ (fun r σ' => V M (D + 1) pc' lv (r.toList ++ st) σ' Q)) : V M (D + 1) pc lv (a4 :: a3 :: a2 :: a1 :: st) σ Q := v_callS (as := [a1, a2, a3, a4]) hd hM rfl hcat ho
theorem v_callV4 {ix k ci : Nat} {M' : MI} {a1 a2 a3 a4 : Value} (hd : vm_at M.2.1 pc (.invokevirtual ix) 3 pc') (hM : vm_MV M.1.cls ix M' 4) (hk : vm_lay[k]? = some (0, ci)) (hci : (classes[ci]?).map (fun q => q.1) = some M'.1.cls) (hcat : (st.map fun v => v.category).sum ≤ 8) (ho : Ok D M' [.ref k, a1, a2, a3, a4] σ (fun r σ' => V M (D + 1) pc' lv (r.toList ++ st) σ' Q)) : V M (D + 1) pc lv (a4 :: a3 :: a2 :: a1 :: .ref k :: st) σ Q := v_callV (as := [a1, a2, a3, a4]) hd hM rfl hk hci hcat ho
theorem v_callS5 {ix : Nat} {M' : MI} {a1 a2 a3 a4 a5 : Value} (hd : vm_at M.2.1 pc (.invokestatic ix) 3 pc') (hM : vm_MS M.1.cls ix M' 5) (hcat : (st.map fun v => v.category).sum ≤ 8) (ho : Ok D M' [a1, a2, a3, a4, a5] σ (fun r σ' => V M (D + 1) pc' lv (r.toList ++ st) σ' Q)) : V M (D + 1) pc lv (a5 :: a4 :: a3 :: a2 :: a1 :: st) σ Q := v_callS (as := [a1, a2, a3, a4, a5]) hd hM rfl hcat ho
theorem v_callV5 {ix k ci : Nat} {M' : MI} {a1 a2 a3 a4 a5 : Value} (hd : vm_at M.2.1 pc (.invokevirtual ix) 3 pc') (hM : vm_MV M.1.cls ix M' 5) (hk : vm_lay[k]? = some (0, ci)) (hci : (classes[ci]?).map (fun q => q.1) = some M'.1.cls) (hcat : (st.map fun v => v.category).sum ≤ 8) (ho : Ok D M' [.ref k, a1, a2, a3, a4, a5] σ (fun r σ' => V M (D + 1) pc' lv (r.toList ++ st) σ' Q)) : V M (D + 1) pc lv (a5 :: a4 :: a3 :: a2 :: a1 :: .ref k :: st) σ Q := v_callV (as := [a1, a2, a3, a4, a5]) hd hM rfl hk hci hcat ho
/-! a method's start -/
def vm_arg : List Value → List (Option Value)
  | [] => []
  | v :: vs => if v.category = 2 then some v :: none :: vm_arg vs else some v :: vm_arg vs
theorem vm_arg_in (ad : Nat → Nat) : ∀ (as : List Value) (b i : Nat) (v : Value), (vm_arg as)[i]? = some (some v) → (b + i, vm_re ad v) ∈ lv_args b (as.map (vm_re ad))
  | [], b, i, v, h => by simp [vm_arg] at h
  | a :: as, b, i, v, h => by
    unfold vm_arg at h
    rw [List.map_cons]
    unfold lv_args
    rw [vm_re_cat]
    by_cases hc : a.category = 2
    · rw [if_pos hc] at h ⊢
      match i, h with
      | 0, h =>
        have e : a = v := by simpa using h
        rw [e]
        exact List.mem_cons_self
      | 1, h => simp at h
      | j + 2, h =>
        have h2 : (vm_arg as)[j]? = some (some v) := by simpa using h
        have := vm_arg_in ad as (b + 2) j v h2
        rw [show b + (j + 2) = b + 2 + j by omega]
        exact List.mem_cons_of_mem _ this
    · rw [if_neg hc] at h ⊢
      match i, h with
      | 0, h =>
        have e : a = v := by simpa using h
        rw [e]
        exact List.mem_cons_self
      | j + 1, h =>
        have h2 : (vm_arg as)[j]? = some (some v) := by simpa using h
        have := vm_arg_in ad as (b + 1) j v h2
        rw [show b + (j + 1) = b + 1 + j by omega]
        exact List.mem_cons_of_mem _ this
theorem vm_sl_len (ad : Nat → Nat) : ∀ as : List Value, (lg_sl (as.map (vm_re ad))).length = (vm_arg as).length
  | [] => rfl
  | a :: as => by
    have h := vm_sl_len ad as
    unfold lg_sl at h ⊢
    rw [List.map_cons, List.flatMap_cons, List.length_append, h, vm_re_cat]
    show _ = (if a.category = 2 then some a :: none :: vm_arg as else some a :: vm_arg as).length
    split <;> simp <;> omega
theorem ok_enter {as : List Value} (hy : plainName M.1.cls = true) (hlen : (vm_arg as).length ≤ M.2.2.1) (h : V M D 0 (vm_arg as ++ List.replicate (M.2.2.1 - (vm_arg as).length) none) [] σ Q) : Ok D M as σ Q := by
  intro l G ad tc sz hinj
  refine Met.ofW (cc := M.2.1) (maxL := M.2.2.1) (ret := M.2.2.2) hy rfl ?_
  intro p e s m args below meth c s₁ B hml hv
  obtain ⟨rfl, hsz, hP, hSt⟩ := hv
  have hts := atoms_spec (ws := vm_ws M) B.pre
  have hown : s.vm.findClass M.1.cls = some m.cls := findClass_of_methodNamed B.named
  have hl := lv_entry (as.map (vm_re ad)) (n := M.2.2.1) (by rw [vm_sl_len]; exact hlen)
  rw [lg_entry_eq]
  refine h p l e s m _ below meth c G ad tc sz ⟨B.exec, B.bytes, B.returns, hml, hown, fun w hw => hts w (List.mem_cons_of_mem _ hw), B.notSynchronized, hinj, hsz, hSt⟩ _ s.heap [] ⟨hl.1, hl.2.1, fun i v hi => ?_⟩ hP va_S.rf
  have hi2 : (vm_arg as)[i]? = some (some v) := by
    rw [List.getElem?_append] at hi
    split at hi
    · exact hi
    · rw [List.getElem?_replicate] at hi
      split at hi
      · cases hi
      · cases hi
  have h3 := hl.2.2 (0 + i, vm_re ad v) (vm_arg_in ad as 0 i v hi2)
  rw [Nat.zero_add] at h3
  exact h3
theorem Ok.mono {as : List Value} {Q' : Option Value → Wd → Prop} (h : Ok D M as σ Q) (hq : ∀ r σ', Q r σ' → Q' r σ') : Ok D M as σ Q' := by
  intro l G ad tc sz hinj p e ha hc hk s m args below hf happ hP hK
  obtain ⟨t, o, h1, h2, h3, ⟨⟨r, σ', ho, hqr, hPt⟩, hF⟩, hL⟩ := h l G ad tc sz hinj p e ha hc hk s m args below hf happ hP hK
  exact ⟨t, o, h1, h2, h3, ⟨⟨r, σ', ho, hq r σ' hqr, hPt⟩, hF⟩, hL⟩
theorem V.mono {Q' : Option Value → Wd → Prop} (h : V M D pc lv st σ Q) (hq : ∀ r σ', Q r σ' → Q' r σ') : V M D pc lv st σ Q' := by
  intro p l e s m args below meth c G ad tc sz C ls H locs hl hP hS T hT X
  obtain ⟨t, h1, o, h2, h3, ⟨⟨r, σ', ho, hqr, hPt⟩, hF⟩, hL⟩ := h p l e s m args below meth c G ad tc sz C ls H locs hl hP hS T hT X
  exact ⟨t, h1, o, h2, h3, ⟨⟨r, σ', ho, hq r σ' hqr, hPt⟩, hF⟩, hL⟩
end VMM
