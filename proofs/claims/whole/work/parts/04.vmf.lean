/-! fields -/
def vm_clOK (ci : Nat) (C : String) (T : u_T) (N : Nat) (ty : Nat → FieldType) : Prop := classes[ci]? = some (C, T, N) ∧ N = vm_N ci ∧ (∀ w ∈ u_ws C T N, w ∈ vm_gd) ∧ (∀ k, k < N → parseFieldDescriptor (T k).2.2.1 = some (ty k)) ∧ ∀ a, a < N → ∀ b, b < N → a ≠ b → (T a).2.1 ≠ (T b).2.1
theorem vm_lays_in {C : String} {T : u_T} {N : Nat} (h : (u_ws C T N).all (fun w => lw_tbl.contains w && goodWord w) = true) : ∀ w ∈ u_ws C T N, w ∈ vm_gd := by
  intro w hw
  have h1 := List.all_eq_true.mp h w hw
  rw [Bool.and_eq_true] at h1
  exact vm_gd_in (List.contains_iff_mem.mp h1.1) h1.2
theorem vm_cl0 : vm_clOK 0 RX0 TX0 (vm_N 0) tyX0 := ⟨rfl, rfl, vm_lays_in (by decide +kernel), tyX0_ok, nmX0⟩
theorem vm_cl1 : vm_clOK 1 RX1 TX1 (vm_N 1) tyX1 := ⟨rfl, rfl, vm_lays_in (by decide +kernel), tyX1_ok, nmX1⟩
theorem vm_cl2 : vm_clOK 2 RX2 TX2 (vm_N 2) tyX2 := ⟨rfl, rfl, vm_lays_in (by decide +kernel), tyX2_ok, nmX2⟩
theorem vm_cl3 : vm_clOK 3 RX3 TX3 (vm_N 3) tyX3 := ⟨rfl, rfl, vm_lays_in (by decide +kernel), tyX3_ok, nmX3⟩
theorem vm_cl4 : vm_clOK 4 RX4 TX4 (vm_N 4) tyX4 := ⟨rfl, rfl, vm_lays_in (by decide +kernel), tyX4_ok, nmX4⟩
theorem vm_cl5 : vm_clOK 5 RX5 TX5 (vm_N 5) tyX5 := ⟨rfl, rfl, vm_lays_in (by decide +kernel), tyX5_ok, nmX5⟩
theorem vm_cl6 : vm_clOK 6 RX6 TX6 (vm_N 6) tyX6 := ⟨rfl, rfl, vm_lays_in (by decide +kernel), tyX6_ok, nmX6⟩
theorem vm_cl7 : vm_clOK 7 RX7 TX7 (vm_N 7) tyX7 := ⟨rfl, rfl, vm_lays_in (by decide +kernel), tyX7_ok, nmX7⟩
theorem vm_cl8 : vm_clOK 8 RX8 TX8 (vm_N 8) tyX8 := ⟨rfl, rfl, vm_lays_in (by decide +kernel), tyX8_ok, nmX8⟩
theorem vm_cl9 : vm_clOK 9 RX9 TX9 (vm_N 9) tyX9 := ⟨rfl, rfl, vm_lays_in (by decide +kernel), tyX9_ok, nmX9⟩
theorem vm_cl10 : vm_clOK 10 RX10 TX10 (vm_N 10) tyX10 := ⟨rfl, rfl, vm_lays_in (by decide +kernel), tyX10_ok, nmX10⟩
theorem vm_cl11 : vm_clOK 11 RX11 TX11 (vm_N 11) tyX11 := ⟨rfl, rfl, vm_lays_in (by decide +kernel), tyX11_ok, nmX11⟩
theorem vm_cl12 : vm_clOK 12 RX12 TX12 (vm_N 12) tyX12 := ⟨rfl, rfl, vm_lays_in (by decide +kernel), tyX12_ok, nmX12⟩
def vm_FL (own : String) (ix ci j t : Nat) : Prop := ∃ (C : String) (T : u_T) (N : Nat) (ty : Nat → FieldType), vm_clOK ci C T N ty ∧ j < N ∧ (vm_fts.getD ci []).getD j 0 = t ∧ ((Cond.fieldLink own ix (T j).1 (T j).2.1 (T j).2.2.1 ∈ lw_tbl) ∨ ∃ host : String, Cond.fieldLinkNest own ix (T j).1 (T j).2.1 (T j).2.2.1 host ∈ lw_tbl)
def vm_FP (own : String) (ix ci j t : Nat) (fty : FieldType) : Prop := ∃ (C : String) (T : u_T) (N : Nat) (ty : Nat → FieldType), vm_clOK ci C T N ty ∧ j < N ∧ (vm_fts.getD ci []).getD j 0 = t ∧ (T j).2.2.2 = false ∧ ty j = fty ∧ ((Cond.fieldLink own ix (T j).1 (T j).2.1 (T j).2.2.1 ∈ lw_tbl) ∨ ∃ host : String, Cond.fieldLinkNest own ix (T j).1 (T j).2.1 (T j).2.2.1 host ∈ lw_tbl)
def setI (σ : Wd) (k i : Nat) (x : Int32) : Wd := (fun a b => if a = k ∧ b = i then x else σ.1 a b, σ.2)
def setL (σ : Wd) (k i : Nat) (x : Int64) : Wd := (σ.1, fun a b => if a = k ∧ b = i then x else σ.2.1 a b, σ.2.2)
def setR (σ : Wd) (k i : Nat) (x : Nat) : Wd := (σ.1, σ.2.1, fun a b => if a = k ∧ b = i then x else σ.2.2 a b)
theorem vm_e_put {ad : Nat → Nat} {tc : ClassId × ClassId × ClassId} {σ σ' : Wd} {k j ci : Nat} {v : Value} (hj : j < vm_N ci) (h1 : vm_val σ' k ci j = v) (h2 : ∀ b, b ≠ j → vm_val σ' k ci b = vm_val σ k ci b) : vm_e ad tc σ' k (0, ci) = .inr (ci, ((List.range (vm_N ci)).map (fun j => vm_re ad (vm_val σ k ci j))).set j (vm_re ad v)) := by
  show (Sum.inr (ci, (List.range (vm_N ci)).map (fun b => vm_re ad (vm_val σ' k ci b))) : va_E) = _
  congr 2
  apply List.ext_getElem?
  intro i
  rw [List.getElem?_set, List.length_map, List.length_range, List.getElem?_map, List.getElem?_map]
  by_cases hi : j = i
  · subst hi
    rw [if_pos rfl, if_pos hj, List.getElem?_range hj]
    simp [h1]
  · rw [if_neg hi]
    by_cases h3 : i < vm_N ci
    · rw [List.getElem?_range h3]
      simp [h2 i (fun e => hi e.symm)]
    · rw [List.getElem?_eq_none (by rw [List.length_range]; omega)]
      rfl
theorem vm_e_o {ad : Nat → Nat} {tc : ClassId × ClassId × ClassId} {σ σ' : Wd} {a : Nat} (q : Nat × Nat) (h1 : σ'.1 a = σ.1 a) (h2 : σ'.2.1 a = σ.2.1 a) (h3 : σ'.2.2 a = σ.2.2 a) : vm_e ad tc σ' a q = vm_e ad tc σ a q := by
  have e : ∀ ci j, vm_val σ' a ci j = vm_val σ a ci j := fun ci j => by unfold vm_val; rw [h1, h2, h3]
  unfold vm_e
  simp only [e, h1, h2]
theorem setI_o {σ : Wd} {k i a : Nat} {x : Int32} (h : a ≠ k) : (setI σ k i x).1 a = σ.1 a := funext fun b => by simp [setI, h]
theorem setL_o {σ : Wd} {k i a : Nat} {x : Int64} (h : a ≠ k) : (setL σ k i x).2.1 a = σ.2.1 a := funext fun b => by simp [setL, h]
theorem setR_o {σ : Wd} {k i a : Nat} {x : Nat} (h : a ≠ k) : (setR σ k i x).2.2 a = σ.2.2 a := funext fun b => by simp [setR, h]
theorem vm_upd (σ : Wd) (k i : Nat) (x : Int32) : (setI σ k i x).1 k = upd (σ.1 k) i x := by
  funext b
  simp [setI, upd]
theorem vm_updL (σ : Wd) (k i : Nat) (x : Int64) : (setL σ k i x).2.1 k = vp_updL (σ.2.1 k) i x := by
  funext b
  simp [setL, vp_updL]
section VMF
variable {M : MI} {D pc pc' : Nat} {lv : List (Option Value)} {st : List Value} {σ : Wd} {Q : Option Value → Wd → Prop}
theorem v_get0 {k j ci ix t : Nat} (hd : vm_at M.2.1 pc (.getfield ix) 3 pc') (hf : vm_FL M.1.cls ix ci j t) (hk : vm_lay[k]? = some (0, ci)) (kk : V M D pc' lv (vm_val σ k ci j :: st) σ Q) : V M D pc lv (.ref k :: st) σ Q := by
  obtain ⟨hd, rfl⟩ := hd
  intro p l e s m args below meth c G ad tc sz C ls H locs hl hP hS
  obtain ⟨CC, T, N, ty, ⟨hc, hN, hin, hty, hnm⟩, hj, htt, hw⟩ := hf
  have hg := vm_cells_get (ad := ad) (tc := tc) (σ := σ) hk
  have hv : ((List.range (vm_N ci)).map (fun j => vm_re ad (vm_val σ k ci j)))[j]? = some (vm_re ad (vm_val σ k ci j)) := by
    rw [List.getElem?_map, List.getElem?_range (by rw [← hN]; exact hj)]
    rfl
  have kk := kk p l e s m args below meth c G ad tc sz C ls H locs hl hP hS
  obtain ⟨hx, hb, hr, hml, hown, hts, hlocks, hinj, hsz, hK, hNw, hStr⟩ := C
  rcases hw with hw | ⟨host, hw⟩
  · exact va_get hx hb hts hin hown hK hP k hg hc j hj (hts _ (vm_gd_in hw rfl)) (fun _ h => h) hv hd kk
  · exact va_getN hx hb hts hin hown hK hP k hg hc j hj (va_Nw.use rfl (hNw _ (vm_nt_in hw rfl))) (fun _ h => h) hv hd kk
theorem vm_FL_t {own : String} {ix ci j t : Nat} (h : vm_FL own ix ci j t) : (vm_fts.getD ci []).getD j 0 = t := by
  obtain ⟨CC, T, N, ty, -, -, htt, -⟩ := h
  exact htt
theorem v_getI {k j ci ix : Nat} (hd : vm_at M.2.1 pc (.getfield ix) 3 pc') (hf : vm_FL M.1.cls ix ci j 0) (hk : vm_lay[k]? = some (0, ci)) (kk : V M D pc' lv (.int (σ.1 k j) :: st) σ Q) : V M D pc lv (.ref k :: st) σ Q := by
  refine v_get0 hd hf hk ?_
  rw [show vm_val σ k ci j = .int (σ.1 k j) by unfold vm_val; rw [vm_FL_t hf]; rfl]
  exact kk
theorem v_getJ {k j ci ix : Nat} (hd : vm_at M.2.1 pc (.getfield ix) 3 pc') (hf : vm_FL M.1.cls ix ci j 1) (hk : vm_lay[k]? = some (0, ci)) (kk : V M D pc' lv (.long (σ.2.1 k j) :: st) σ Q) : V M D pc lv (.ref k :: st) σ Q := by
  refine v_get0 hd hf hk ?_
  rw [show vm_val σ k ci j = .long (σ.2.1 k j) by unfold vm_val; rw [vm_FL_t hf]; rfl]
  exact kk
theorem v_getR {k j ci ix q : Nat} (hd : vm_at M.2.1 pc (.getfield ix) 3 pc') (hf : vm_FL M.1.cls ix ci j 2) (hk : vm_lay[k]? = some (0, ci)) (hq : (vm_crs.getD k []).getD j 0 = q) (kk : V M D pc' lv (.ref q :: st) σ Q) : V M D pc lv (.ref k :: st) σ Q := by
  refine v_get0 hd hf hk ?_
  rw [show vm_val σ k ci j = .ref q by unfold vm_val; rw [vm_FL_t hf, ← hq]; rfl]
  exact kk
theorem v_getM {k j ci ix : Nat} (hd : vm_at M.2.1 pc (.getfield ix) 3 pc') (hf : vm_FL M.1.cls ix ci j 3) (hk : vm_lay[k]? = some (0, ci)) (kk : V M D pc' lv (.ref (σ.2.2 k j) :: st) σ Q) : V M D pc lv (.ref k :: st) σ Q := by
  refine v_get0 hd hf hk ?_
  rw [show vm_val σ k ci j = .ref (σ.2.2 k j) by unfold vm_val; rw [vm_FL_t hf]; rfl]
  exact kk
theorem v_put0 {k j ci ix t : Nat} {fty : FieldType} {v : Value} {σ' : Wd} (hd : vm_at M.2.1 pc (.putfield ix) 3 pc') (hf : vm_FP M.1.cls ix ci j t fty) (hk : vm_lay[k]? = some (0, ci)) (hn : narrow fty v = v) (hfit : fits fty v = true) (h1 : vm_val σ' k ci j = v) (h2 : ∀ b, b ≠ j → vm_val σ' k ci b = vm_val σ k ci b) (h3 : ∀ a, a ≠ k → σ'.1 a = σ.1 a ∧ σ'.2.1 a = σ.2.1 a ∧ σ'.2.2 a = σ.2.2 a) (kk : V M D pc' lv st σ' Q) : V M D pc lv (v :: .ref k :: st) σ Q := by
  obtain ⟨hd, rfl⟩ := hd
  intro p l e s m args below meth c G ad tc sz C ls H locs hl hP hS
  obtain ⟨CC, T, N, ty, ⟨hc, hN, hin, hty, hnm⟩, hj, htt, hfin, hft, hw⟩ := hf
  have hg := vm_cells_get (ad := ad) (tc := tc) (σ := σ) hk
  have hpd : parseFieldDescriptor (T j).2.2.1 = some fty := by rw [hty j hj, hft]
  have hset : (vm_cells ad tc σ).set k (ad k, .inr (ci, ((List.range (vm_N ci)).map (fun j => vm_re ad (vm_val σ k ci j))).set j (vm_re ad v))) = vm_cells ad tc σ' := by
    rw [← vm_cells_set (σ' := σ') hk (fun a q h => vm_e_o q (h3 a h).1 (h3 a h).2.1 (h3 a h).2.2), vm_e_put (by rw [← hN]; exact hj) h1 h2]
  have hlen : j < ((List.range (vm_N ci)).map (fun j => vm_re ad (vm_val σ k ci j))).length := by rw [List.length_map, List.length_range, ← hN]; exact hj
  have kk : ∀ (H1 : Heap) (locs1 : List Loc), va_P G classes ((vm_cells ad tc σ).set k (ad k, .inr (ci, ((List.range (vm_N ci)).map (fun j => vm_re ad (vm_val σ k ci j))).set j (vm_re ad v)))) H1 → va_D (vm_A ad sz) ((vm_cells ad tc σ).set k (ad k, .inr (ci, ((List.range (vm_N ci)).map (fun j => vm_re ad (vm_val σ k ci j))).set j (vm_re ad v)))) → va_S (vm_A ad sz) s.heap H1 locs1 → _ :=
    fun H1 locs1 h1 _ h3 => kk p l e s m args below meth c G ad tc sz C ls H1 locs1 hl (by rw [← hset]; exact h1) h3
  obtain ⟨hx, hb, hr, hml, hown, hts, hlocks, hinj, hsz, hK, hNw, hStr⟩ := C
  rcases hw with hw | ⟨host, hw⟩
  · exact va_put hx hb hts hin ty hty hnm hown hK hP (vm_D hinj) hS k hg hc j hj (hts _ (vm_gd_in hw rfl)) (fun _ h => h) hfin hpd (vm_re_nar hn) (vm_re_fit hfit) hlen hd kk
  · exact va_putN hx hb hts hin ty hty hnm hown hK hP (vm_D hinj) hS k hg hc j hj (va_Nw.use rfl (hNw _ (vm_nt_in hw rfl))) (fun _ h => h) hfin hpd (vm_re_nar hn) (vm_re_fit hfit) hlen hd kk
theorem vm_FP_t {own : String} {ix ci j t : Nat} {fty : FieldType} (h : vm_FP own ix ci j t fty) : (vm_fts.getD ci []).getD j 0 = t := by
  obtain ⟨CC, T, N, ty, -, -, htt, -⟩ := h
  exact htt
theorem vm_val_I {σ : Wd} {k j ci b : Nat} {x : Int32} (hb : b ≠ j) : vm_val (setI σ k j x) k ci b = vm_val σ k ci b := by
  unfold vm_val setI
  simp [hb]
theorem vm_val_L {σ : Wd} {k j ci b : Nat} {x : Int64} (hb : b ≠ j) : vm_val (setL σ k j x) k ci b = vm_val σ k ci b := by
  unfold vm_val setL
  simp [hb]
theorem vm_val_R {σ : Wd} {k j ci b : Nat} {x : Nat} (hb : b ≠ j) : vm_val (setR σ k j x) k ci b = vm_val σ k ci b := by
  unfold vm_val setR
  simp [hb]
theorem v_putI {k j ci ix : Nat} {x : Int32} (hd : vm_at M.2.1 pc (.putfield ix) 3 pc') (hf : vm_FP M.1.cls ix ci j 0 .int) (hk : vm_lay[k]? = some (0, ci)) (kk : V M D pc' lv st (setI σ k j x) Q) : V M D pc lv (.int x :: .ref k :: st) σ Q :=
  v_put0 hd hf hk rfl rfl (by unfold vm_val; rw [vm_FP_t hf]; simp [setI]) (fun b hb => vm_val_I hb) (fun a ha => ⟨setI_o ha, rfl, rfl⟩) kk
theorem v_putZ {k j ci ix : Nat} {x : Int32} (hd : vm_at M.2.1 pc (.putfield ix) 3 pc') (hf : vm_FP M.1.cls ix ci j 0 .boolean) (hk : vm_lay[k]? = some (0, ci)) (hx : x = 0 ∨ x = 1) (kk : V M D pc' lv st (setI σ k j x) Q) : V M D pc lv (.int x :: .ref k :: st) σ Q :=
  v_put0 hd hf hk (by rcases hx with rfl | rfl <;> rfl) (by rcases hx with rfl | rfl <;> rfl) (by unfold vm_val; rw [vm_FP_t hf]; simp [setI]) (fun b hb => vm_val_I hb) (fun a ha => ⟨setI_o ha, rfl, rfl⟩) kk
theorem v_putJ {k j ci ix : Nat} {x : Int64} (hd : vm_at M.2.1 pc (.putfield ix) 3 pc') (hf : vm_FP M.1.cls ix ci j 1 .long) (hk : vm_lay[k]? = some (0, ci)) (kk : V M D pc' lv st (setL σ k j x) Q) : V M D pc lv (.long x :: .ref k :: st) σ Q :=
  v_put0 hd hf hk rfl rfl (by unfold vm_val; rw [vm_FP_t hf]; simp [setL]) (fun b hb => vm_val_L hb) (fun a ha => ⟨rfl, setL_o ha, rfl⟩) kk
theorem v_putM {k j ci ix x : Nat} {fty : FieldType} (hd : vm_at M.2.1 pc (.putfield ix) 3 pc') (hf : vm_FP M.1.cls ix ci j 3 fty) (hk : vm_lay[k]? = some (0, ci)) (hfit : fits fty (.ref x) = true) (kk : V M D pc' lv st (setR σ k j x) Q) : V M D pc lv (.ref x :: .ref k :: st) σ Q :=
  v_put0 hd hf hk (by cases fty <;> rfl) hfit (by unfold vm_val; rw [vm_FP_t hf]; simp [setR]) (fun b hb => vm_val_R hb) (fun a ha => ⟨rfl, rfl, setR_o ha⟩) kk
theorem v_iaload {k n : Nat} {i : Int32} (hd : vm_at M.2.1 pc .iaload 1 pc') (hk : vm_lay[k]? = some (1, n)) (hi : vp_in i n) (kk : V M D pc' lv (.int (σ.1 k i.toNatClampNeg) :: st) σ Q) : V M D pc lv (.int i :: .ref k :: st) σ Q := by
  obtain ⟨hd, rfl⟩ := hd
  intro p l e s m args below meth c G ad tc sz C ls H locs hl hP hS
  have kk := kk p l e s m args below meth c G ad tc sz C ls H locs hl hP hS
  obtain ⟨hx, hb, hr, hml, hown, hts, hlocks, hinj, hsz, hK, hNw, hStr⟩ := C
  exact va_iald hx hb hK hP k 0 (vm_cells_get hk) rfl hi hd kk
theorem v_laload {k n : Nat} {i : Int32} (hd : vm_at M.2.1 pc .laload 1 pc') (hk : vm_lay[k]? = some (2, n)) (hi : vp_in i n) (kk : V M D pc' lv (.long (σ.2.1 k i.toNatClampNeg) :: st) σ Q) : V M D pc lv (.int i :: .ref k :: st) σ Q := by
  obtain ⟨hd, rfl⟩ := hd
  intro p l e s m args below meth c G ad tc sz C ls H locs hl hP hS
  have kk := kk p l e s m args below meth c G ad tc sz C ls H locs hl hP hS
  obtain ⟨hx, hb, hr, hml, hown, hts, hlocks, hinj, hsz, hK, hNw, hStr⟩ := C
  exact va_lald hx hb hK hP k 1 (vm_cells_get hk) rfl hi hd kk
theorem v_baload {k n : Nat} {i : Int32} (hd : vm_at M.2.1 pc .baload 1 pc') (hk : vm_lay[k]? = some (3, n)) (hi : vp_in i n) (kk : V M D pc' lv (.int (σ.1 k i.toNatClampNeg) :: st) σ Q) : V M D pc lv (.int i :: .ref k :: st) σ Q := by
  obtain ⟨hd, rfl⟩ := hd
  intro p l e s m args below meth c G ad tc sz C ls H locs hl hP hS
  have kk := kk p l e s m args below meth c G ad tc sz C ls H locs hl hP hS
  obtain ⟨hx, hb, hr, hml, hown, hts, hlocks, hinj, hsz, hK, hNw, hStr⟩ := C
  exact va_zald hx hb hK hP k 2 (vm_cells_get hk) rfl hi hd kk
theorem v_alen {k n t : Nat} {v : Int32} (hd : vm_at M.2.1 pc .arraylength 1 pc') (hk : vm_lay[k]? = some (t + 1, n)) (ht : t < 3) (hv : Int32.ofNat n = v) (kk : V M D pc' lv (.int v :: st) σ Q) : V M D pc lv (.ref k :: st) σ Q := by
  obtain ⟨hd, rfl⟩ := hd
  intro p l e s m args below meth c G ad tc sz C ls H locs hl hP hS
  have kk := kk p l e s m args below meth c G ad tc sz C ls H locs hl hP hS
  obtain ⟨hx, hb, hr, hml, hown, hts, hlocks, hinj, hsz, hK, hNw, hStr⟩ := C
  have hg := vm_cells_get (ad := ad) (tc := tc) (σ := σ) hk
  match t, ht, hg with
  | 0, _, hg => exact va_alen hx hb hK hP k 0 hg (ty := .int) rfl hv hd kk
  | 1, _, hg => exact va_alen hx hb hK hP k 1 hg (ty := .long) rfl hv hd kk
  | 2, _, hg => exact va_alen hx hb hK hP k 2 hg (ty := .boolean) rfl hv hd kk
theorem v_iastore {k n : Nat} {i x : Int32} (hd : vm_at M.2.1 pc .iastore 1 pc') (hk : vm_lay[k]? = some (1, n)) (hi : vp_in i n) (kk : V M D pc' lv st (setI σ k i.toNatClampNeg x) Q) : V M D pc lv (.int x :: .int i :: .ref k :: st) σ Q := by
  obtain ⟨hd, rfl⟩ := hd
  intro p l e s m args below meth c G ad tc sz C ls H locs hl hP hS
  have hset : (vm_cells ad tc σ).set k (ad k, .inl (tc.1, n, .inl (upd (σ.1 k) i.toNatClampNeg x))) = vm_cells ad tc (setI σ k i.toNatClampNeg x) := by
    rw [← vm_cells_set (σ' := setI σ k i.toNatClampNeg x) hk (fun a q h => vm_e_o (σ := σ) q (setI_o h) rfl rfl), ← vm_upd]; rfl
  have kk := fun (H1 : Heap) (locs1 : List Loc) (h1 : va_P G classes ((vm_cells ad tc σ).set k (ad k, .inl (tc.1, n, .inl (upd (σ.1 k) i.toNatClampNeg x)))) H1) (_ : va_D (vm_A ad sz) ((vm_cells ad tc σ).set k (ad k, .inl (tc.1, n, .inl (upd (σ.1 k) i.toNatClampNeg x))))) (h3 : va_S (vm_A ad sz) s.heap H1 locs1) =>
    kk p l e s m args below meth c G ad tc sz C ls H1 locs1 hl (by rw [← hset]; exact h1) h3
  obtain ⟨hx, hb, hr, hml, hown, hts, hlocks, hinj, hsz, hK, hNw, hStr⟩ := C
  exact va_iast hx hb hK hP (vm_D hinj) hS k 0 (vm_cells_get hk) rfl hi hd kk
theorem v_lastore {k n : Nat} {i : Int32} {x : Int64} (hd : vm_at M.2.1 pc .lastore 1 pc') (hk : vm_lay[k]? = some (2, n)) (hi : vp_in i n) (kk : V M D pc' lv st (setL σ k i.toNatClampNeg x) Q) : V M D pc lv (.long x :: .int i :: .ref k :: st) σ Q := by
  obtain ⟨hd, rfl⟩ := hd
  intro p l e s m args below meth c G ad tc sz C ls H locs hl hP hS
  have hset : (vm_cells ad tc σ).set k (ad k, .inl (tc.2.1, n, .inr (.inl (vp_updL (σ.2.1 k) i.toNatClampNeg x)))) = vm_cells ad tc (setL σ k i.toNatClampNeg x) := by
    rw [← vm_cells_set (σ' := setL σ k i.toNatClampNeg x) hk (fun a q h => vm_e_o (σ := σ) q rfl (setL_o h) rfl), ← vm_updL]; rfl
  have kk := fun (H1 : Heap) (locs1 : List Loc) (h1 : va_P G classes ((vm_cells ad tc σ).set k (ad k, .inl (tc.2.1, n, .inr (.inl (vp_updL (σ.2.1 k) i.toNatClampNeg x))))) H1) (_ : va_D (vm_A ad sz) ((vm_cells ad tc σ).set k (ad k, .inl (tc.2.1, n, .inr (.inl (vp_updL (σ.2.1 k) i.toNatClampNeg x)))))) (h3 : va_S (vm_A ad sz) s.heap H1 locs1) =>
    kk p l e s m args below meth c G ad tc sz C ls H1 locs1 hl (by rw [← hset]; exact h1) h3
  obtain ⟨hx, hb, hr, hml, hown, hts, hlocks, hinj, hsz, hK, hNw, hStr⟩ := C
  exact va_last hx hb hK hP (vm_D hinj) hS k 1 (vm_cells_get hk) rfl hi hd kk
theorem v_bastore {k n : Nat} {i x : Int32} (hd : vm_at M.2.1 pc .bastore 1 pc') (hk : vm_lay[k]? = some (3, n)) (hi : vp_in i n) (kk : V M D pc' lv st (setI σ k i.toNatClampNeg (vp_nar .boolean x)) Q) : V M D pc lv (.int x :: .int i :: .ref k :: st) σ Q := by
  obtain ⟨hd, rfl⟩ := hd
  intro p l e s m args below meth c G ad tc sz C ls H locs hl hP hS
  have hset : (vm_cells ad tc σ).set k (ad k, .inl (tc.2.2, n, .inl (upd (σ.1 k) i.toNatClampNeg (vp_nar .boolean x)))) = vm_cells ad tc (setI σ k i.toNatClampNeg (vp_nar .boolean x)) := by
    rw [← vm_cells_set (σ' := setI σ k i.toNatClampNeg (vp_nar .boolean x)) hk (fun a q h => vm_e_o (σ := σ) q (setI_o h) rfl rfl), ← vm_upd]; rfl
  have kk := fun (H1 : Heap) (locs1 : List Loc) (h1 : va_P G classes ((vm_cells ad tc σ).set k (ad k, .inl (tc.2.2, n, .inl (upd (σ.1 k) i.toNatClampNeg (vp_nar .boolean x))))) H1) (_ : va_D (vm_A ad sz) ((vm_cells ad tc σ).set k (ad k, .inl (tc.2.2, n, .inl (upd (σ.1 k) i.toNatClampNeg (vp_nar .boolean x)))))) (h3 : va_S (vm_A ad sz) s.heap H1 locs1) =>
    kk p l e s m args below meth c G ad tc sz C ls H1 locs1 hl (by rw [← hset]; exact h1) h3
  obtain ⟨hx, hb, hr, hml, hown, hts, hlocks, hinj, hsz, hK, hNw, hStr⟩ := C
  exact va_zast hx hb hK hP (vm_D hinj) hS k 2 (vm_cells_get hk) rfl hi hd kk
theorem v_ireturn {ty : FieldType} {v : Int32} (hd : vm_at M.2.1 pc .ireturn 1 pc') (hr : M.2.2.2 = some ty) (hn : narrow ty (.int v) = .int v) (hQ : Q (some (.int v)) σ) : V M D pc lv [.int v] σ Q := by
  obtain ⟨hd, rfl⟩ := hd
  intro p l e s m args below meth c G ad tc sz C ls H locs hl hP hS
  obtain ⟨hx, hb, hr2, hml, hown, hts, hlocks, hinj, hsz, hK⟩ := C
  exact W.zret hx hb (hr2.trans hr) hn (fun t ht hW => ⟨⟨some (.int v), σ, rfl, hQ, by rw [ht]; exact hP⟩, hS.F ht⟩) hS.2.2 hd hlocks
theorem v_lreturn {v : Int64} (hd : vm_at M.2.1 pc .lreturn 1 pc') (hr : M.2.2.2 = some .long) (hQ : Q (some (.long v)) σ) : V M D pc lv [.long v] σ Q := by
  obtain ⟨hd, rfl⟩ := hd
  intro p l e s m args below meth c G ad tc sz C ls H locs hl hP hS
  obtain ⟨hx, hb, hr2, hml, hown, hts, hlocks, hinj, hsz, hK⟩ := C
  exact W.lret hx hb (hr2.trans hr) (fun t ht hW => ⟨⟨some (.long v), σ, rfl, hQ, by rw [ht]; exact hP⟩, hS.F ht⟩) hS.2.2 hd hlocks
theorem v_areturn {cn : String} {v : Value} (hd : vm_at M.2.1 pc .areturn 1 pc') (hr : M.2.2.2 = some (.object cn)) (hv : v = .null ∨ ∃ a, v = .ref a) (hQ : Q (some v) σ) : V M D pc lv [v] σ Q := by
  obtain ⟨hd, rfl⟩ := hd
  intro p l e s m args below meth c G ad tc sz C ls H locs hl hP hS
  obtain ⟨hx, hb, hr2, hml, hown, hts, hlocks, hinj, hsz, hK⟩ := C
  have hv2 : vm_re ad v = .null ∨ ∃ a, vm_re ad v = .ref a := by
    rcases hv with rfl | ⟨a, rfl⟩
    · exact Or.inl rfl
    · exact Or.inr ⟨_, rfl⟩
  exact W.aret hx hb (hr2.trans hr) (Or.inl ⟨_, rfl⟩) hv2 (fun t ht hW => ⟨⟨some v, σ, rfl, hQ, by rw [ht]; exact hP⟩, hS.F ht⟩) hS.2.2 hd hlocks
theorem v_return (hd : vm_at M.2.1 pc .return_ 1 pc') (hr : M.2.2.2 = none) (hQ : Q none σ) : V M D pc lv [] σ Q := by
  obtain ⟨hd, rfl⟩ := hd
  intro p l e s m args below meth c G ad tc sz C ls H locs hl hP hS
  obtain ⟨hx, hb, hr2, hml, hown, hts, hlocks, hinj, hsz, hK⟩ := C
  exact W.vret hx hb (hr2.trans hr) (fun t ht hW => ⟨⟨none, σ, rfl, hQ, by rw [ht]; exact hP⟩, hS.F ht⟩) hS.2.2 hd hlocks
end VMF
