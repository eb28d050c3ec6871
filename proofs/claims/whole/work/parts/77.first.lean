theorem st_fs11 : ∀ j, j < 14 → defaultValue (tyX11 j) = vp_V [.null, .null, .null, .null, .null, .null, .null, .null, .null, .null, .null, .null, .null, .null] j := fun j hj => by
  rcases (show j = 0 ∨ j = 1 ∨ j = 2 ∨ j = 3 ∨ j = 4 ∨ j = 5 ∨ j = 6 ∨ j = 7 ∨ j = 8 ∨ j = 9 ∨ j = 10 ∨ j = 11 ∨ j = 12 ∨ j = 13 by omega) with rfl | rfl | rfl | rfl | rfl | rfl | rfl | rfl | rfl | rfl | rfl | rfl | rfl | rfl <;> rfl
theorem st_fs12 : ∀ j, j < 41 → defaultValue (tyX12 j) = vp_V [.int 0, .int 0, .int 0, .int 0, .int 0, .null, .int 0, .null, .int 0, .int 0, .long 0, .int 0, .int 0, .int 0, .int 0, .int 0, .int 0, .int 0, .int 0, .int 0, .null, .int 0, .int 0, .int 0, .int 0, .int 0, .long 0, .int 0, .null, .int 0, .null, .null, .null, .null, .null, .null, .null, .null, .null, .null, .null] j := fun j hj => by
  rcases (show j = 0 ∨ j = 1 ∨ j = 2 ∨ j = 3 ∨ j = 4 ∨ j = 5 ∨ j = 6 ∨ j = 7 ∨ j = 8 ∨ j = 9 ∨ j = 10 ∨ j = 11 ∨ j = 12 ∨ j = 13 ∨ j = 14 ∨ j = 15 ∨ j = 16 ∨ j = 17 ∨ j = 18 ∨ j = 19 ∨ j = 20 ∨ j = 21 ∨ j = 22 ∨ j = 23 ∨ j = 24 ∨ j = 25 ∨ j = 26 ∨ j = 27 ∨ j = 28 ∨ j = 29 ∨ j = 30 ∨ j = 31 ∨ j = 32 ∨ j = 33 ∨ j = 34 ∨ j = 35 ∨ j = 36 ∨ j = 37 ∨ j = 38 ∨ j = 39 ∨ j = 40 by omega) with rfl | rfl | rfl | rfl | rfl | rfl | rfl | rfl | rfl | rfl | rfl | rfl | rfl | rfl | rfl | rfl | rfl | rfl | rfl | rfl | rfl | rfl | rfl | rfl | rfl | rfl | rfl | rfl | rfl | rfl | rfl | rfl | rfl | rfl | rfl | rfl | rfl | rfl | rfl | rfl | rfl <;> rfl
set_option maxHeartbeats 4000000 in
set_option maxRecDepth 100000 in
/-- THE LAW, from its entry -/
theorem whole_start {p : Program} {e : Env} {s : State} {m : MethodId} {below : List Frame} {meth : Method} {c : Code} (l : Launch) {b L : Nat} {xs : Nat → Int32} (hL : L ≤ 2048) (C0 : lw_At p s m meth c b L xs) : W p l e room_1 s m #[Value.ref b] below meth c s.heap [] 0 0 (lw_Z below #[Value.ref b] s) (entryFrame m ([Value.ref b] : List Value).toArray 4) := by
  obtain ⟨hx, hb, hr, hml, hown, hts, hX, hbl, hlocks, hgv⟩ := id C0
  have hg := lm_hts hts
  have hA : ∀ q : Nat, s.heap.size ≤ q → (fun q : Nat => s.heap.size ≤ q) q := fun _ h => h
  obtain ⟨G, tc, hK⟩ := st_K hts
  obtain ⟨f, hf⟩ := st_str (A := fun q => s.heap.size ≤ q) hts hgv (fun a ha => Nat.not_le.mpr ha)
  have hS : va_S (fun q : Nat => s.heap.size ≤ q) s.heap s.heap [] := va_S.rf
  have hP : va_P G classes [] s.heap := fun k q h => by simp at h
  have hD : va_D (fun q : Nat => s.heap.size ≤ q) [] := ⟨fun i j p q h => by simp at h, fun k q h => by simp at h⟩
  have hl := lv_entry ([.ref b]) (n := 4) (Nat.le_of_ble_eq_true rfl)
  rw [lg_entry_eq]
  generalize (lg_sl ([.ref b]) ++ List.replicate (4 - (lg_sl ([.ref b])).length) Slot.unset).toArray = ls at hl ⊢
  have hl : lv_has ls 4 [(0, .ref b)] := hl
  refine va_new (ci := 11) (fs := [.null, .null, .null, .null, .null, .null, .null, .null, .null, .null, .null, .null, .null, .null]) (C := RX11) (T := TX11) (N := 14) hx hb hg vm_cl11.2.2.1 tyX11 vm_cl11.2.2.2.1 hown (hts (.classLink RL 7 RX11) (by decide +kernel)) (hts (.instantiable RX11 14) (by decide +kernel)) (hts (.initialized RX11) (by decide +kernel)) hK.1 hP hD hS hA rfl st_fs11 (Nat.le_of_ble_eq_true rfl) (Nat.le_of_ble_eq_true rfl) dL_law_0.1 (fun a H hP hD hS => ?_)
  have hP : va_P G classes [(a, .inr (11, [.null, .null, .null, .null, .null, .null, .null, .null, .null, .null, .null, .null, .null, .null]))] H := hP
  have hD : va_D (fun q : Nat => s.heap.size ≤ q) [(a, .inr (11, [.null, .null, .null, .null, .null, .null, .null, .null, .null, .null, .null, .null, .null, .null]))] := hD
  refine lv_dup hx hb dL_law_3.1 rfl ?_
  refine nm_goI (as := []) (a := a) (st := [.ref a]) (n := 0) (Q' := fun ws => ∃ q : Nat → Nat, q 0 = a ∧ ws = wl1 tc q) hx hb hml hown hg hK hl.1 hP hD hS hA ni_X11_init rfl dL_law_4.1 (Nat.le_of_ble_eq_true rfl) ⟨Nat.le_of_ble_eq_true rfl, Nat.le_of_ble_eq_true rfl, Nat.le_of_ble_eq_true rfl, Nat.le_of_ble_eq_true rfl⟩ (mk_X11_init (fun q1 q2 q3 q4 q5 q6 q7 q8 q9 q10 q11 q12 q13 q14 q15 q16 q17 q18 q19 q20 q21 q22 q23 q24 q25 q26 q27 q28 q29 q30 q31 q32 q33 q34 q35 q36 q37 q38 q39 q40 q41 q42 q43 => ⟨fun k => [a, q1, q2, q3, q4, q5, q6, q7, q8, q9, q10, q11, q12, q13, q14, q15, q16, q17, q18, q19, q20, q21, q22, q23, q24, q25, q26, q27, q28, q29, q30, q31, q32, q33, q34, q35, q36, q37, q38, q39, q40, q41, q42, q43].getD k 0, rfl, rfl⟩)) (fun ws1 H1 locs1 hq1 hP hD hS => ?_)
  obtain ⟨q, hqa, rfl⟩ := hq1
  refine lv_astore_n (lv' := [(1, .ref a), (0, .ref b)]) hx hb dL_law_7.1.1 rfl hl (by decide) rfl (fun ls hl => ?_)
  refine va_new (ci := 12) (fs := [.int 0, .int 0, .int 0, .int 0, .int 0, .null, .int 0, .null, .int 0, .int 0, .long 0, .int 0, .int 0, .int 0, .int 0, .int 0, .int 0, .int 0, .int 0, .int 0, .null, .int 0, .int 0, .int 0, .int 0, .int 0, .long 0, .int 0, .null, .int 0, .null, .null, .null, .null, .null, .null, .null, .null, .null, .null, .null]) (C := RX12) (T := TX12) (N := 41) hx hb hg vm_cl12.2.2.1 tyX12 vm_cl12.2.2.2.1 hown (hts (.classLink RL 10 RX12) (by decide +kernel)) (hts (.instantiable RX12 41) (by decide +kernel)) (hts (.initialized RX12) (by decide +kernel)) hK.1 hP hD hS hA rfl st_fs12 (Nat.le_of_ble_eq_true rfl) (Nat.le_of_ble_eq_true rfl) dL_law_8.1 (fun a2 H2 hP hD hS => ?_)
  refine lv_dup hx hb dL_law_11.1 rfl ?_
  refine nm_goI (as := []) (a := a2) (st := [.ref a2]) (n := 0) (Q' := fun ws => ∃ q2 : Nat → Nat, q2 44 = a2 ∧ ws = wl1 tc q ++ wl2 tc q2) hx hb hml hown hg hK hl.1 hP hD hS hA ni_X12_init rfl dL_law_12.1 (Nat.le_of_ble_eq_true rfl) ⟨Nat.le_of_ble_eq_true rfl, Nat.le_of_ble_eq_true rfl, Nat.le_of_ble_eq_true rfl, Nat.le_of_ble_eq_true rfl⟩ (mk_X12_init (fun q1 q2 q3 q4 q5 q6 q7 q8 q9 q10 q11 q12 q13 q14 q15 => ⟨fun k => [a2, q1, q2, q3, q4, q5, q6, q7, q8, q9, q10, q11, q12, q13, q14, q15].getD (k - 44) 0, rfl, rfl⟩)) (fun ws2 H3 locs3 hq2 hP hD hS => ?_)
  obtain ⟨q2, hqb, rfl⟩ := hq2
  refine lv_astore_n (lv' := [(2, .ref a2), (1, .ref a), (0, .ref b)]) hx hb dL_law_15.1.1 rfl hl (by decide) rfl (fun ls hl => ?_)
  refine lv_iconst (v := 0) hx hb dL_law_16.1.1 dL_law_16.2 ?_
  refine lv_istore_n (lv' := [(3, .int 0), (2, .ref a2), (1, .ref a), (0, .ref b)]) hx hb dL_law_17.1.1 rfl hl (by decide) rfl (fun ls hl => ?_)
  obtain ⟨ad, had⟩ : ∃ ad : Nat → Nat, ad = fun k => if k < 44 then q k else if k < 100 then q2 k else f k := ⟨_, rfl⟩
  have hws : wl1 tc q ++ wl2 tc q2 = vm_cells ad tc wd0 := by
    rw [← wl_eq, had]
    rfl
  rw [hws] at hP hD
  have hget : ∀ k, k < 60 → (vm_cells ad tc wd0)[k]? = some (ad k, vm_e ad tc wd0 k (vm_lay.getD k (9, 0))) := fun k hk => vm_cells_at hk
  have hinj : vm_inj ad := fun i j hi hj e => hD.1 i j _ _ (hget i hi) (hget j hj) e
  have hge : ∀ k, k < 60 → s.heap.size ≤ ad k := fun k hk => hD.2 k _ (hget k hk)
  have hAe : vm_A ad s.heap.size = fun q => s.heap.size ≤ q := funext fun q => propext ⟨fun h => by
    rcases h with ⟨k, hk, e⟩ | h
    · rw [e]; exact hge k hk
    · exact h, fun h => Or.inr h⟩
  have hSt : vm_St G ad tc s.heap.size s s.heap := by
    refine ⟨hK.1, hK.2, ?_⟩
    rw [hAe]
    exact hf ad (fun k hk => by rw [had]; show (if k < 44 then q k else if k < 100 then q2 k else f k) = f k; rw [if_neg (by omega), if_neg (by omega)])
  have e0 : ad 0 = a := by rw [had]; exact hqa
  have e44 : ad 44 = a2 := by rw [had]; exact hqb
  rw [← hAe] at hS
  rw [← e0, ← e44] at hl
  exact lm_loop (ad := ad) (tc := tc) (G := G) ⟨C0, hL, hinj, hSt, hge⟩ (L + 1) 0 (Nat.zero_le L) (by omega) 0 wd0 _ _ ls nI_0.symm (lv_sub hl [3, 2, 1, 0] rfl) hP hS inv0
