/-! ===== told numbers one behind the other: the reference's call ===== -/
section ML5
variable {D : Nat} {σ τ τ' : Wd} {Q : Option Value → Wd → Prop} {R : Rk} {s t : St} {q q' src : List En} {a b c g h i k n m d u U B0 now had : Nat} {tg : List Nat} {x : En}
def shw (v : Nat) (q : List En) : List En := q.filter (fun e => decide (e.1.1 = v))
theorem shw_snoc {v : Nat} {e : En} : shw v (q ++ [e]) = shw v q ++ (if e.1.1 = v then [e] else []) := by
  unfold shw
  rw [List.filter_append]
  by_cases h : e.1.1 = v <;> simp [h]
theorem shw_le {v : Nat} : (shw v q).length ≤ q.length := List.length_filter_le _ _
/-- those that show v are gathered -/
theorem v_lgather {v : Nat} {x3 x4 x5 x7 x12 : Option Value} {y8 : Int32} (hM0 : RepM σ R) (hv : vR 8 R) (hm : 0 < R.2.2.2.1) (hvm : v < R.2.2.2.1) (hT : MRT σ tg) (hl : tg.length ≤ 6) (hh : tg[had]? = some v) (hF : ZF σ τ) (hL : L54 τ R.2.2.2.1 q) (hR : F53 τ R.2.2.2.1 q) (hV : bfV R.2.2.2.1 q) (hd : ∀ e ∈ q, e.2.2.2 < 2000000)
    (kk : ∀ τ y11, ZF σ τ → MSr τ R.2.2.2.1 (shw v q) → V mX12_listOf (D + 4) 377 [some (.ref 44), some (.int (nI now)), some (.int (nI had)), x3, x4, x5, some (.int (nI q.length)), x7, some (.int y8), some (.int (nI (shw v q).length)), some (.int (nI v)), y11, x12] [] τ Q) {x10 x11 : Option Value} :
    V mX12_listOf (D + 4) 285 [some (.ref 44), some (.int (nI now)), some (.int (nI had)), x3, x4, x5, some (.int (nI q.length)), x7, some (.int y8), some (.int 0), x10, x11, x12] [] τ Q := by
  have hm2 := hv.m100
  have h8 := mm_le hm2
  have hql := Nat.le_trans (bfV.len hm hV) (nPl_le hm2)
  have hhl := (List.getElem?_eq_some_iff.mp hh).1
  have hsl := shw_le (q := q) (v := v)
  have hMt : ∀ τ, ZF σ τ → RepM τ R := fun τ hF => hM0.kept (fun b hb => hF.1 _ _ (by omega)) (fun b => hF.1 _ _ (by omega))
  have costs : ∀ j c τ, c + j = (shw v q).length → ZF σ τ → (∀ e ∈ q, τ.1 53 (mc R.2.2.2.1 e.1) = nI e.2.2.2) → (∀ (z : Nat) (e : En), (shw v q)[z]? = some e → τ.1 56 z = nI (mc R.2.2.2.1 e.1)) → (∀ (z : Nat) (e : En), z < c → (shw v q)[z]? = some e → τ.1 55 z = nI e.2.2.2) → V mX12_listOf (D + 4) 345 [some (.ref 44), some (.int (nI now)), some (.int (nI had)), x3, x4, x5, some (.int (nI q.length)), x7, some (.int y8), some (.int (nI (shw v q).length)), some (.int (nI v)), some (.int (nI c)), x12] [] τ Q := by
    intro j
    induction j with
    | zero =>
      intro c τ hc hF h1 h2 h3
      have h9 := fun y11 => kk τ y11 hF (fun z e hz => ⟨h2 z e hz, h3 z e (by have := (List.getElem?_eq_some_iff.mp hz).1; omega) hz⟩)
      refine v_iload dX12_listOf_345 rfl ?_
      refine v_iload dX12_listOf_347 rfl ?_
      refine v_icmp_ge dX12_listOf_349 (fun zc349 => ?_) (fun zc349 => ?_)
      · exact h9 _
      · exact absurd (nI_le (by omega) (by omega)) zc349
    | succ j ih =>
      intro c τ hc hF h1 h2 h3
      have hcl : c < (shw v q).length := by omega
      have hgc : (shw v q)[c]? = some (shw v q)[c] := List.getElem?_eq_getElem hcl
      have hmc : (shw v q)[c] ∈ q := (List.mem_filter.mp (List.getElem_mem hcl)).1
      have hmm := mc_lt hm (hV.2 _ hmc).w
      have hnx := ih (c + 1) (setI τ 55 c (nI (shw v q)[c].2.2.2)) (by omega) (hF.set (by omega)) (fun e he => by rw [setI_ne (by omega)]; exact h1 e he) (fun z e hz => by rw [setI_ne (by omega)]; exact h2 z e hz) (fun z e hz he => by
        rcases Nat.lt_or_ge z c with h4 | h4
        · rw [setI_ne (by omega)]; exact h3 z e h4 he
        · have e1 : z = c := by omega
          rw [e1, hgc] at he
          rw [e1, setI_same, Option.some.inj he])
      refine v_iload dX12_listOf_345 rfl ?_
      refine v_iload dX12_listOf_347 rfl ?_
      refine v_icmp_ge dX12_listOf_349 (fun zc349 => ?_) (fun zc349 => ?_)
      · exact absurd zc349 (nI_ge (by omega) (by omega))
      · refine v_aload_n dX12_listOf_352 rfl ?_
        refine v_getR (q := 55) dX12_listOf_353 fl_RX12_50 rfl rfl ?_
        refine v_iload dX12_listOf_356 rfl ?_
        refine v_aload_n dX12_listOf_358 rfl ?_
        refine v_getR (q := 53) dX12_listOf_359 fl_RX12_44 rfl rfl ?_
        refine v_aload_n dX12_listOf_362 rfl ?_
        refine v_getR (q := 56) dX12_listOf_363 fl_RX12_53 rfl rfl ?_
        refine v_iload dX12_listOf_366 rfl ?_
        refine v_iaload dX12_listOf_368 rfl (by exact vp_in_nI (by omega) (by omega)) ?_
        rw [nI_clamp (by omega), h2 c _ hgc]
        refine v_iaload dX12_listOf_369 rfl (by exact vp_in_nI (by omega) (by omega)) ?_
        rw [nI_clamp (by omega), h1 _ hmc]
        refine v_iastore dX12_listOf_370 rfl (by exact vp_in_nI (by omega) (by omega)) ?_
        rw [nI_clamp (by omega)]
        refine v_iinc dX12_listOf_371 rfl (Nat.le_of_ble_eq_true rfl) rfl ?_
        refine v_goto dX12_listOf_374 ?_
        rw [nI_1]
        exact hnx
  have pick : ∀ j c τ, c + j = q.length → ZF σ τ → L54 τ R.2.2.2.1 q → (∀ e ∈ q, τ.1 53 (mc R.2.2.2.1 e.1) = nI e.2.2.2) → (∀ (z : Nat) (e : En), (shw v (q.take c))[z]? = some e → τ.1 56 z = nI (mc R.2.2.2.1 e.1)) → V mX12_listOf (D + 4) 296 [some (.ref 44), some (.int (nI now)), some (.int (nI had)), x3, x4, x5, some (.int (nI q.length)), x7, some (.int y8), some (.int (nI (shw v (q.take c)).length)), some (.int (nI v)), some (.int (nI c)), x12] [] τ Q := by
    intro j
    induction j with
    | zero =>
      intro c τ hc hF hL h1 h2
      rw [List.take_of_length_le (by omega)] at h2 ⊢
      refine v_iload dX12_listOf_296 rfl ?_
      refine v_iload dX12_listOf_298 rfl ?_
      refine v_icmp_ge dX12_listOf_300 (fun zc300 => ?_) (fun zc300 => ?_)
      · refine v_iconst dX12_listOf_342 ?_
        refine v_istore dX12_listOf_343 (Nat.le_of_ble_eq_true rfl) rfl ?_
        exact costs (shw v q).length 0 τ (by omega) hF h1 h2 (fun z e hz => absurd hz (by omega))
      · exact absurd (nI_le (by omega) (by omega)) zc300
    | succ j ih =>
      intro c τ hc hF hL h1 h2
      have hcl : c < q.length := by omega
      have hgc : q[c]? = some q[c] := List.getElem?_eq_getElem hcl
      have hvc := hV.2 _ (List.getElem_mem hcl)
      have hmm := mc_lt hm hvc.w
      have c1 := hL c _ hgc
      have htk : q.take (c + 1) = q.take c ++ [q[c]] := by rw [List.take_succ, hgc]; rfl
      have hs1 := shw_le (q := q.take c) (v := v)
      rw [List.length_take] at hs1
      have hsh : q[c].1.1 < 100 := by have := hvc.1; omega
      by_cases hcv : q[c].1.1 = v
      · have hsn : shw v (q.take (c + 1)) = shw v (q.take c) ++ [q[c]] := by rw [htk, shw_snoc, if_pos hcv]
        have hnx := ih (c + 1) (setI τ 56 (shw v (q.take c)).length (nI (mc R.2.2.2.1 q[c].1))) (by omega) (hF.set (by omega)) (hL.kept (fun b => setI_ne (by omega))) (fun e he => by rw [setI_ne (by omega)]; exact h1 e he) (fun z e hz => by
          rw [hsn] at hz
          rcases getQ_app hz with ⟨z1, z2⟩ | ⟨z1, z2⟩
          · rw [setI_ne (by omega)]; exact h2 z e z2
          · rw [z1, z2, setI_same])
        rw [hsn, List.length_append, List.length_singleton] at hnx
        refine v_iload dX12_listOf_296 rfl ?_
        refine v_iload dX12_listOf_298 rfl ?_
        refine v_icmp_ge dX12_listOf_300 (fun zc300 => ?_) (fun zc300 => ?_)
        · exact absurd zc300 (nI_ge (by omega) (by omega))
        · refine v_aload_n dX12_listOf_303 rfl ?_
          refine v_aload_n dX12_listOf_304 rfl ?_
          refine v_getR (q := 54) dX12_listOf_305 fl_RX12_47 rfl rfl ?_
          refine v_iload dX12_listOf_308 rfl ?_
          refine v_iaload dX12_listOf_310 rfl (by exact vp_in_nI (by omega) (by omega)) ?_
          rw [nI_clamp (by omega), c1]
          refine v_callV1 dX12_listOf_311 mv_RX12_236 rfl rfl (Nat.le_of_ble_eq_true rfl) ?_
          refine ok_mshownIn (hMt τ hF).2.2.2.1 hm hm2 (by omega) ?_
          rw [mdec_mc hm hvc.w]
          show V _ _ _ _ (_ :: _) _ _
          refine v_iload dX12_listOf_314 rfl ?_
          refine v_icmp_ne dX12_listOf_316 (fun zc316 => ?_) (fun zc316 => ?_)
          · exact absurd (show nI q[c].1.1 = nI v by rw [hcv]) zc316
          · refine v_aload_n dX12_listOf_319 rfl ?_
            refine v_getR (q := 56) dX12_listOf_320 fl_RX12_53 rfl rfl ?_
            refine v_iload dX12_listOf_323 rfl ?_
            refine v_aload_n dX12_listOf_325 rfl ?_
            refine v_getR (q := 54) dX12_listOf_326 fl_RX12_47 rfl rfl ?_
            refine v_iload dX12_listOf_329 rfl ?_
            refine v_iaload dX12_listOf_331 rfl (by exact vp_in_nI (by omega) (by omega)) ?_
            rw [nI_clamp (by omega), c1]
            refine v_iastore dX12_listOf_332 rfl (by exact vp_in_nI (by omega) (by omega)) ?_
            rw [nI_clamp (by omega)]
            refine v_iinc dX12_listOf_333 rfl (Nat.le_of_ble_eq_true rfl) rfl ?_
            refine v_iinc dX12_listOf_336 rfl (Nat.le_of_ble_eq_true rfl) rfl ?_
            refine v_goto dX12_listOf_339 ?_
            rw [nI_1, nI_1]
            exact hnx
      · have hsn : shw v (q.take (c + 1)) = shw v (q.take c) := by rw [htk, shw_snoc, if_neg hcv, List.append_nil]
        have hnx := ih (c + 1) τ (by omega) hF hL h1 (fun z e hz => by rw [hsn] at hz; exact h2 z e hz)
        rw [hsn] at hnx
        refine v_iload dX12_listOf_296 rfl ?_
        refine v_iload dX12_listOf_298 rfl ?_
        refine v_icmp_ge dX12_listOf_300 (fun zc300 => ?_) (fun zc300 => ?_)
        · exact absurd zc300 (nI_ge (by omega) (by omega))
        · refine v_aload_n dX12_listOf_303 rfl ?_
          refine v_aload_n dX12_listOf_304 rfl ?_
          refine v_getR (q := 54) dX12_listOf_305 fl_RX12_47 rfl rfl ?_
          refine v_iload dX12_listOf_308 rfl ?_
          refine v_iaload dX12_listOf_310 rfl (by exact vp_in_nI (by omega) (by omega)) ?_
          rw [nI_clamp (by omega), c1]
          refine v_callV1 dX12_listOf_311 mv_RX12_236 rfl rfl (Nat.le_of_ble_eq_true rfl) ?_
          refine ok_mshownIn (hMt τ hF).2.2.2.1 hm hm2 (by omega) ?_
          rw [mdec_mc hm hvc.w]
          show V _ _ _ _ (_ :: _) _ _
          refine v_iload dX12_listOf_314 rfl ?_
          refine v_icmp_ne dX12_listOf_316 (fun zc316 => ?_) (fun zc316 => ?_)
          · refine v_iinc dX12_listOf_336 rfl (Nat.le_of_ble_eq_true rfl) rfl ?_
            refine v_goto dX12_listOf_339 ?_
            rw [nI_1]
            exact hnx
          · exact absurd ((nI_eq (by omega) (by omega)).mp zc316) hcv
  have h296 := pick q.length 0 τ (by omega) hF hL hR.1 (fun z e hz => by rw [List.take_zero] at hz; simp [shw] at hz)
  have ht8 : τ.1 48 had = nI v := by rw [hF.1 _ _ (by omega)]; exact hT.2 had v hh
  rw [List.take_zero] at h296
  refine v_aload_n dX12_listOf_285 rfl ?_
  refine v_getR (q := 48) dX12_listOf_286 fl_RX12_26 rfl rfl ?_
  refine v_iload_n dX12_listOf_289 rfl ?_
  refine v_iaload dX12_listOf_290 rfl (by exact vp_in_nI (by omega) (by omega)) ?_
  rw [nI_clamp (by omega), ht8]
  refine v_istore dX12_listOf_291 (Nat.le_of_ble_eq_true rfl) rfl ?_
  refine v_iconst dX12_listOf_293 ?_
  refine v_istore dX12_listOf_294 (Nat.le_of_ble_eq_true rfl) rfl ?_
  exact h296
set_option maxHeartbeats 4000000 in
theorem ok_listOf (hP : MP σ R s) (hm : 0 < R.2.2.2.1) (hT : MRT σ tg) (hl : tg.length ≤ 6) (ht : ∀ v ∈ tg, v < R.2.2.2.1) (hQ : ∀ τ w, ScFr σ τ → LiA R s tg w → Q (some (.int w)) τ) : Ok (D + 4) mX12_listOf [.ref 44] σ Q := by
  obtain ⟨hM, h4, hv, hS, hs⟩ := id hP
  have hm2 := hv.m100
  have h8 := mm_le hm2
  have hnow := mc_lt hm hs.w
  have ht2 : ∀ v ∈ tg, v < 100 := fun v h => by have := ht v h; omega
  have hMt : ∀ τ, ZF σ τ → RepM τ R := fun τ hF => hM.kept (fun b hb => hF.1 _ _ (by omega)) (fun b => hF.1 _ _ (by omega))
  have hTt : ∀ τ, ZF σ τ → MRT τ tg := fun τ hF => ⟨by rw [hF.1 _ _ (by omega)]; exact hT.1, fun i v hi => by rw [hF.1 _ _ (by omega)]; exact hT.2 i v hi⟩
  have fin : ∀ τ (f : Int) x2 x3 (x5 : Option Value) x6 x7 x8 x9 x10 x11 x12, ZF σ τ → LeastN (PV R [(s, 0, 0, 0)] tg) f → V mX12_listOf (D + 4) 59 [some (.ref 44), some (.int (nI (mc R.2.2.2.1 s))), x2, x3, some (.int (iz f)), some (.int 0), x6, x7, x8, x9, x10, x11, x12] [] τ Q := by
    intro τ f x2 x3 x5 x6 x7 x8 x9 x10 x11 x12 hF hl
    refine v_iload dX12_listOf_59 rfl ?_
    refine v_if_eq dX12_listOf_61 (fun zc61 => ?_) (fun zc61 => ?_)
    · refine v_aload_n dX12_listOf_436 rfl ?_
      refine v_iload_n dX12_listOf_437 rfl ?_
      refine v_callV1 dX12_listOf_438 mv_RX12_223 rfl rfl (Nat.le_of_ble_eq_true rfl) ?_
      refine ok_setState (hMt τ hF).2.2.2.1 hm hm2 (by omega) ?_
      rw [mdec_mc hm hs.w]
      show V _ _ _ _ _ _ _
      refine v_iload dX12_listOf_441 rfl ?_
      refine v_ireturn dX12_listOf_443 rfl (rfl) ?_
      exact hQ _ _ (zf_sc hF hS) ⟨_, hl, rfl⟩
    · exact absurd rfl zc61
  have main : ∀ n had src τ x6 x7 x8 x9 x10 x11 x12, tg.length - had ≤ n → had < tg.length → ZF σ τ → MSr τ R.2.2.2.1 src → srt src → (∀ x ∈ src, vS R.2.2.2.1 x.1) → src.length ≤ 60200 → (∀ x ∈ src, x.2.2.2 ≤ 60200 * had) → LEQ (PV R [(s, 0, 0, 0)] tg) (PV R src (tg.drop had)) → V mX12_listOf (D + 4) 59 [some (.ref 44), some (.int (nI (mc R.2.2.2.1 s))), some (.int (nI had)), some (.int (nI src.length)), some (.int (-1)), some (.int 1), x6, x7, x8, x9, x10, x11, x12] [] τ Q := by
    intro n
    induction n with
    | zero => intro had src τ x6 x7 x8 x9 x10 x11 x12 h1 h2; exact absurd h2 (by omega)
    | succ n ih =>
      intro had src τ x6 x7 x8 x9 x10 x11 x12 hn hh hF hSr hss hsv hsl hsd hLE
      have hgh : tg[had]? = some tg[had] := List.getElem?_eq_getElem hh
      have hvm := ht _ (List.getElem_mem hh)
      rw [List.drop_eq_getElem_cons hh] at hLE
      have k377 : ∀ q i u U τ y7 (y8 : Int32) y11 x12, ZF σ τ → MSr τ R.2.2.2.1 (shw tg[had] q) → MIv R src (60200 * had) q i u U → i = q.length → u = src.length → V mX12_listOf (D + 4) 377 [some (.ref 44), some (.int (nI (mc R.2.2.2.1 s))), some (.int (nI had)), some (.int (nI src.length)), some (.int (-1)), some (.int 1), some (.int (nI q.length)), y7, some (.int y8), some (.int (nI (shw tg[had] q).length)), some (.int (nI tg[had])), y11, x12] [] τ Q := by
        intro q i u U τ y7 y8 y11 x12 hF hSr hI hiq hu
        have hql := Nat.le_trans (bfV.len hm hI.1.1) (nPl_le hm2)
        have hsl2 := shw_le (q := q) (v := tg[had])
        have hstg : Stg R src tg[had] (shw tg[had] q) false := hI.stg hiq hu
        have hLE2 := hLE.tr (hstg.leq (tg := tg.drop (had + 1)) (fun h => by cases h))
        have hshow : ∀ x ∈ shw tg[had] q, x.1.1 = tg[had] := fun x hx => of_decide_eq_true (List.mem_filter.mp hx).2
        have hmem : ∀ x ∈ shw tg[had] q, x ∈ q := fun x hx => (List.mem_filter.mp hx).1
        have hsrt : srt (shw tg[had] q) := srt_of_pws (List.Pairwise.filter _ hI.1.2.1)
        have hTc := (hTt τ hF).1
        have hdd : ∀ x ∈ shw tg[had] q, x.2.2.2 ≤ 60200 * (had + 1) := fun x hx => by
          have h1 := hI.1.2.2.2 x (hmem x hx)
          have h2 := hI.2.2.2.2.2.2.2
          omega
        refine v_iload dX12_listOf_377 rfl ?_
        refine v_istore_n dX12_listOf_379 (Nat.le_of_ble_eq_true rfl) rfl ?_
        refine v_aload_n dX12_listOf_380 rfl ?_
        refine v_iload_n dX12_listOf_381 rfl ?_
        refine v_iload dX12_listOf_382 rfl ?_
        refine v_callV2 dX12_listOf_384 mv_RX12_262 rfl rfl (Nat.le_of_ble_eq_true rfl) ?_
        refine ok_goOn (hTt τ hF) hl ht2 (by omega) (by omega) (fun n2 g1 g2 g3 g4 => ?_)
        have hn2 : had + 1 ≤ n2 := by
          rcases Nat.lt_or_ge had n2 with h | h
          · exact h
          · have e : n2 = had := by omega
            rw [e] at g4
            exact absurd hgh (g4 hh)
        have hLE3 := hLE2.tr (PV_skip hshow (n2 - (had + 1)) (had + 1) (fun u a b => g3 u (by omega) (by omega)))
        rw [show had + 1 + (n2 - (had + 1)) = n2 by omega] at hLE3
        have hnone : ∀ hz : (shw tg[had] q).length = 0, LeastN (PV R [(s, 0, 0, 0)] tg) (-1) := fun hz => by
          rw [List.eq_nil_of_length_eq_zero hz] at hLE3
          exact PV_nil.eq hLE3.sy
        show V _ _ _ _ (_ :: _) _ _
        refine v_istore_n dX12_listOf_387 (Nat.le_of_ble_eq_true rfl) rfl ?_
        refine v_iload_n dX12_listOf_388 rfl ?_
        refine v_aload_n dX12_listOf_389 rfl ?_
        refine v_getI dX12_listOf_390 fl_RX12_191 rfl ?_
        rw [hTc]
        refine v_icmp_ne dX12_listOf_393 (fun zc393 => ?_) (fun zc393 => ?_)
        · rw [nI_eq (by omega) (by omega)] at zc393
          refine v_iconst dX12_listOf_410 ?_
          refine v_istore dX12_listOf_411 (Nat.le_of_ble_eq_true rfl) rfl ?_
          refine v_iload dX12_listOf_413 rfl ?_
          refine v_if_le dX12_listOf_415 (fun zc415 => ?_) (fun zc415 => ?_)
          · have hz2 : (shw tg[had] q).length = 0 := by rcases Nat.eq_zero_or_pos (shw tg[had] q).length with h | h; exact h; exact absurd zc415 (nI_nle h (by omega))
            refine v_iconst dX12_listOf_430 ?_
            refine v_istore dX12_listOf_431 (Nat.le_of_ble_eq_true rfl) rfl ?_
            refine v_goto dX12_listOf_433 ?_
            first
            | (exfalso; omega)
            | exact fin τ (-1) _ _ none _ _ _ _ _ _ _ hF (hnone hz2)
            | exact ih n2 (shw tg[had] q) τ _ _ _ _ _ _ _ (by omega) (by omega) hF hSr hsrt (fun x hx => hI.1.1.2 x (hmem x hx)) (by omega) (fun x hx => by have := hdd x hx; have : 60200 * (had + 1) ≤ 60200 * n2 := Nat.mul_le_mul_left _ hn2; omega) hLE3
            | (rw [iz_nI]; rw [zc393, List.drop_of_length_le (Nat.le_refl _)] at hLE3; exact fin τ _ _ _ none _ _ _ _ _ _ _ hF ((PV_end hg0 hsrt).eq hLE3.sy))
          · have hz2 : 0 < (shw tg[had] q).length := by rcases Nat.eq_zero_or_pos (shw tg[had] q).length with h | h; exact absurd (show nI (shw tg[had] q).length ≤ 0 by rw [h]; decide) zc415; exact h
            refine v_iload_n dX12_listOf_418 rfl ?_
            refine v_aload_n dX12_listOf_419 rfl ?_
            refine v_getI dX12_listOf_420 fl_RX12_191 rfl ?_
            rw [hTc]
            refine v_icmp_ge dX12_listOf_423 (fun zc423 => ?_) (fun zc423 => ?_)
            · rw [nI_leI (by omega) (by omega)] at zc423
              refine v_iconst dX12_listOf_430 ?_
              refine v_istore dX12_listOf_431 (Nat.le_of_ble_eq_true rfl) rfl ?_
              refine v_goto dX12_listOf_433 ?_
              first
              | (exfalso; omega)
              | exact fin τ (-1) _ _ none _ _ _ _ _ _ _ hF (hnone hz2)
              | exact ih n2 (shw tg[had] q) τ _ _ _ _ _ _ _ (by omega) (by omega) hF hSr hsrt (fun x hx => hI.1.1.2 x (hmem x hx)) (by omega) (fun x hx => by have := hdd x hx; have : 60200 * (had + 1) ≤ 60200 * n2 := Nat.mul_le_mul_left _ hn2; omega) hLE3
              | (rw [iz_nI]; rw [zc393, List.drop_of_length_le (Nat.le_refl _)] at hLE3; exact fin τ _ _ _ none _ _ _ _ _ _ _ hF ((PV_end hg0 hsrt).eq hLE3.sy))
            · rw [nI_leI (by omega) (by omega)] at zc423
              refine v_iconst dX12_listOf_426 ?_
              refine v_goto dX12_listOf_427 ?_
              refine v_istore dX12_listOf_431 (Nat.le_of_ble_eq_true rfl) rfl ?_
              refine v_goto dX12_listOf_433 ?_
              first
              | (exfalso; omega)
              | exact fin τ (-1) _ _ none _ _ _ _ _ _ _ hF (hnone hz2)
              | exact ih n2 (shw tg[had] q) τ _ _ _ _ _ _ _ (by omega) (by omega) hF hSr hsrt (fun x hx => hI.1.1.2 x (hmem x hx)) (by omega) (fun x hx => by have := hdd x hx; have : 60200 * (had + 1) ≤ 60200 * n2 := Nat.mul_le_mul_left _ hn2; omega) hLE3
              | (rw [iz_nI]; rw [zc393, List.drop_of_length_le (Nat.le_refl _)] at hLE3; exact fin τ _ _ _ none _ _ _ _ _ _ _ hF ((PV_end hg0 hsrt).eq hLE3.sy))
        · rw [nI_eq (by omega) (by omega)] at zc393
          refine v_iload dX12_listOf_396 rfl ?_
          refine v_if_le dX12_listOf_398 (fun zc398 => ?_) (fun zc398 => ?_)
          · have hz : (shw tg[had] q).length = 0 := by rcases Nat.eq_zero_or_pos (shw tg[had] q).length with h | h; exact h; exact absurd zc398 (nI_nle h (by omega))
            refine v_iconst dX12_listOf_410 ?_
            refine v_istore dX12_listOf_411 (Nat.le_of_ble_eq_true rfl) rfl ?_
            refine v_iload dX12_listOf_413 rfl ?_
            refine v_if_le dX12_listOf_415 (fun zc415 => ?_) (fun zc415 => ?_)
            · have hz2 : (shw tg[had] q).length = 0 := by rcases Nat.eq_zero_or_pos (shw tg[had] q).length with h | h; exact h; exact absurd zc415 (nI_nle h (by omega))
              refine v_iconst dX12_listOf_430 ?_
              refine v_istore dX12_listOf_431 (Nat.le_of_ble_eq_true rfl) rfl ?_
              refine v_goto dX12_listOf_433 ?_
              first
              | (exfalso; omega)
              | exact fin τ (-1) _ _ none _ _ _ _ _ _ _ hF (hnone hz2)
              | exact ih n2 (shw tg[had] q) τ _ _ _ _ _ _ _ (by omega) (by omega) hF hSr hsrt (fun x hx => hI.1.1.2 x (hmem x hx)) (by omega) (fun x hx => by have := hdd x hx; have : 60200 * (had + 1) ≤ 60200 * n2 := Nat.mul_le_mul_left _ hn2; omega) hLE3
              | (rw [iz_nI]; rw [zc393, List.drop_of_length_le (Nat.le_refl _)] at hLE3; exact fin τ _ _ _ none _ _ _ _ _ _ _ hF ((PV_end hg0 hsrt).eq hLE3.sy))
            · have hz2 : 0 < (shw tg[had] q).length := by rcases Nat.eq_zero_or_pos (shw tg[had] q).length with h | h; exact absurd (show nI (shw tg[had] q).length ≤ 0 by rw [h]; decide) zc415; exact h
              refine v_iload_n dX12_listOf_418 rfl ?_
              refine v_aload_n dX12_listOf_419 rfl ?_
              refine v_getI dX12_listOf_420 fl_RX12_191 rfl ?_
              rw [hTc]
              refine v_icmp_ge dX12_listOf_423 (fun zc423 => ?_) (fun zc423 => ?_)
              · rw [nI_leI (by omega) (by omega)] at zc423
                refine v_iconst dX12_listOf_430 ?_
                refine v_istore dX12_listOf_431 (Nat.le_of_ble_eq_true rfl) rfl ?_
                refine v_goto dX12_listOf_433 ?_
                first
                | (exfalso; omega)
                | exact fin τ (-1) _ _ none _ _ _ _ _ _ _ hF (hnone hz2)
                | exact ih n2 (shw tg[had] q) τ _ _ _ _ _ _ _ (by omega) (by omega) hF hSr hsrt (fun x hx => hI.1.1.2 x (hmem x hx)) (by omega) (fun x hx => by have := hdd x hx; have : 60200 * (had + 1) ≤ 60200 * n2 := Nat.mul_le_mul_left _ hn2; omega) hLE3
                | (rw [iz_nI]; rw [zc393, List.drop_of_length_le (Nat.le_refl _)] at hLE3; exact fin τ _ _ _ none _ _ _ _ _ _ _ hF ((PV_end hg0 hsrt).eq hLE3.sy))
              · rw [nI_leI (by omega) (by omega)] at zc423
                refine v_iconst dX12_listOf_426 ?_
                refine v_goto dX12_listOf_427 ?_
                refine v_istore dX12_listOf_431 (Nat.le_of_ble_eq_true rfl) rfl ?_
                refine v_goto dX12_listOf_433 ?_
                first
                | (exfalso; omega)
                | exact fin τ (-1) _ _ none _ _ _ _ _ _ _ hF (hnone hz2)
                | exact ih n2 (shw tg[had] q) τ _ _ _ _ _ _ _ (by omega) (by omega) hF hSr hsrt (fun x hx => hI.1.1.2 x (hmem x hx)) (by omega) (fun x hx => by have := hdd x hx; have : 60200 * (had + 1) ≤ 60200 * n2 := Nat.mul_le_mul_left _ hn2; omega) hLE3
                | (rw [iz_nI]; rw [zc393, List.drop_of_length_le (Nat.le_refl _)] at hLE3; exact fin τ _ _ _ none _ _ _ _ _ _ _ hF ((PV_end hg0 hsrt).eq hLE3.sy))
          · have hz : 0 < (shw tg[had] q).length := by rcases Nat.eq_zero_or_pos (shw tg[had] q).length with h | h; exact absurd (show nI (shw tg[had] q).length ≤ 0 by rw [h]; decide) zc398; exact h
            have hg0 : (shw tg[had] q)[0]? = some (shw tg[had] q)[0] := List.getElem?_eq_getElem hz
            have hb0 := (hSr 0 _ hg0).2
            refine v_aload_n dX12_listOf_401 rfl ?_
            refine v_getR (q := 55) dX12_listOf_402 fl_RX12_50 rfl rfl ?_
            refine v_iconst dX12_listOf_405 ?_
            refine v_iaload dX12_listOf_406 rfl (by exact (show vp_in (nI 0) 80000 from vp_in_nI (by omega) (by omega))) ?_
            rw [show (0 : Int32).toNatClampNeg = 0 from rfl, hb0]
            refine v_goto dX12_listOf_407 ?_
            refine v_istore dX12_listOf_411 (Nat.le_of_ble_eq_true rfl) rfl ?_
            refine v_iload dX12_listOf_413 rfl ?_
            refine v_if_le dX12_listOf_415 (fun zc415 => ?_) (fun zc415 => ?_)
            · have hz2 : (shw tg[had] q).length = 0 := by rcases Nat.eq_zero_or_pos (shw tg[had] q).length with h | h; exact h; exact absurd zc415 (nI_nle h (by omega))
              refine v_iconst dX12_listOf_430 ?_
              refine v_istore dX12_listOf_431 (Nat.le_of_ble_eq_true rfl) rfl ?_
              refine v_goto dX12_listOf_433 ?_
              first
              | (exfalso; omega)
              | exact fin τ (-1) _ _ none _ _ _ _ _ _ _ hF (hnone hz2)
              | exact ih n2 (shw tg[had] q) τ _ _ _ _ _ _ _ (by omega) (by omega) hF hSr hsrt (fun x hx => hI.1.1.2 x (hmem x hx)) (by omega) (fun x hx => by have := hdd x hx; have : 60200 * (had + 1) ≤ 60200 * n2 := Nat.mul_le_mul_left _ hn2; omega) hLE3
              | (rw [iz_nI]; rw [zc393, List.drop_of_length_le (Nat.le_refl _)] at hLE3; exact fin τ _ _ _ none _ _ _ _ _ _ _ hF ((PV_end hg0 hsrt).eq hLE3.sy))
            · have hz2 : 0 < (shw tg[had] q).length := by rcases Nat.eq_zero_or_pos (shw tg[had] q).length with h | h; exact absurd (show nI (shw tg[had] q).length ≤ 0 by rw [h]; decide) zc415; exact h
              refine v_iload_n dX12_listOf_418 rfl ?_
              refine v_aload_n dX12_listOf_419 rfl ?_
              refine v_getI dX12_listOf_420 fl_RX12_191 rfl ?_
              rw [hTc]
              refine v_icmp_ge dX12_listOf_423 (fun zc423 => ?_) (fun zc423 => ?_)
              · rw [nI_leI (by omega) (by omega)] at zc423
                refine v_iconst dX12_listOf_430 ?_
                refine v_istore dX12_listOf_431 (Nat.le_of_ble_eq_true rfl) rfl ?_
                refine v_goto dX12_listOf_433 ?_
                first
                | (exfalso; omega)
                | exact fin τ (-1) _ _ none _ _ _ _ _ _ _ hF (hnone hz2)
                | exact ih n2 (shw tg[had] q) τ _ _ _ _ _ _ _ (by omega) (by omega) hF hSr hsrt (fun x hx => hI.1.1.2 x (hmem x hx)) (by omega) (fun x hx => by have := hdd x hx; have : 60200 * (had + 1) ≤ 60200 * n2 := Nat.mul_le_mul_left _ hn2; omega) hLE3
                | (rw [iz_nI]; rw [zc393, List.drop_of_length_le (Nat.le_refl _)] at hLE3; exact fin τ _ _ _ none _ _ _ _ _ _ _ hF ((PV_end hg0 hsrt).eq hLE3.sy))
              · rw [nI_leI (by omega) (by omega)] at zc423
                refine v_iconst dX12_listOf_426 ?_
                refine v_goto dX12_listOf_427 ?_
                refine v_istore dX12_listOf_431 (Nat.le_of_ble_eq_true rfl) rfl ?_
                refine v_goto dX12_listOf_433 ?_
                first
                | (exfalso; omega)
                | exact fin τ (-1) _ _ none _ _ _ _ _ _ _ hF (hnone hz2)
                | exact ih n2 (shw tg[had] q) τ _ _ _ _ _ _ _ (by omega) (by omega) hF hSr hsrt (fun x hx => hI.1.1.2 x (hmem x hx)) (by omega) (fun x hx => by have := hdd x hx; have : 60200 * (had + 1) ≤ 60200 * n2 := Nat.mul_le_mul_left _ hn2; omega) hLE3
                | (rw [iz_nI]; rw [zc393, List.drop_of_length_le (Nat.le_refl _)] at hLE3; exact fin τ _ _ _ none _ _ _ _ _ _ _ hF ((PV_end hg0 hsrt).eq hLE3.sy))
      have search := v_lsearch (D := D) (Q := Q) (σ := σ) (src := src) (B0 := 60200 * had) (now := mc R.2.2.2.1 s) (had := had) (x4 := some (.int (-1))) hM h4 hv hm hss hsv hsl hsd (by omega) (fun q i u U τ x10 x11 x12 f1 f2 f3 f4 f5 f6 => v_lgather hM hv hm hvm hT hl hgh f1 f2 f3 f4.1.1 (fun e he => by
        have h1 := f4.1.2.2.2 e he
        have h2 := f4.2.2.2.2.2.2.2
        have hql := Nat.le_trans (bfV.len hm f4.1.1) (nPl_le hm2)
        omega) (fun τ2 y11 e1 e2 => k377 q i u U τ2 _ _ y11 x12 e1 e2 f4 f5 f6))
      have fill : ∀ j c τ x7 x8 x9 x10 x11 x12, c + j = 8 * R.2.2.2.1 * R.2.2.2.1 → ZF σ τ → MSr τ R.2.2.2.1 src → (∀ b, b < c → τ.1 53 b = -1) → V mX12_listOf (D + 4) 67 [some (.ref 44), some (.int (nI (mc R.2.2.2.1 s))), some (.int (nI had)), some (.int (nI src.length)), some (.int (-1)), some (.int 1), some (.int (nI c)), x7, x8, x9, x10, x11, x12] [] τ Q := by
        intro j
        induction j with
        | zero =>
          intro c τ x7 x8 x9 x10 x11 x12 hc hF hSr hz
          obtain rfl : c = 8 * R.2.2.2.1 * R.2.2.2.1 := by omega
          have h102 := fun y10 y11 y12 => search 100000000 [] 0 0 0 τ y10 y11 y12 (by omega) hF hSr (fun j e hj => by simp at hj) ⟨fun e he => absurd he List.not_mem_nil, fun c hc _ => hz c hc⟩ ⟨⟨⟨by simp, fun e he => absurd he List.not_mem_nil⟩, List.Pairwise.nil, fun e he => absurd he List.not_mem_nil, fun e he => absurd he List.not_mem_nil⟩, Nat.zero_le _, Nat.zero_le _, fun j e k hj => absurd hj (Nat.not_lt_zero _), fun j x hj => absurd hj (Nat.not_lt_zero _), fun _ _ _ _ => Nat.zero_le _, fun e he => by simp at he, Nat.zero_le _⟩
          refine v_iload dX12_listOf_67 rfl ?_
          refine v_aload_n dX12_listOf_69 rfl ?_
          refine v_callV0 dX12_listOf_70 mv_RX12_233 rfl rfl (Nat.le_of_ble_eq_true rfl) ?_
          refine ok_states (m := R.2.2.2.1) (hMt τ hF).2.2.2.1 ?_
          show V _ _ _ _ (_ :: _) _ _
          refine v_icmp_ge dX12_listOf_73 (fun zc73 => ?_) (fun zc73 => ?_)
          · refine v_iconst dX12_listOf_90 ?_
            refine v_istore dX12_listOf_91 (Nat.le_of_ble_eq_true rfl) rfl ?_
            refine v_iconst dX12_listOf_93 ?_
            refine v_istore dX12_listOf_94 (Nat.le_of_ble_eq_true rfl) rfl ?_
            refine v_iconst dX12_listOf_96 ?_
            refine v_istore dX12_listOf_97 (Nat.le_of_ble_eq_true rfl) rfl ?_
            refine v_iconst dX12_listOf_99 ?_
            refine v_istore dX12_listOf_100 (Nat.le_of_ble_eq_true rfl) rfl ?_
            exact h102 _ _ _
          · exact absurd (nI_le (Nat.le_refl _) (by omega)) zc73
        | succ j ihf =>
          intro c τ x7 x8 x9 x10 x11 x12 hc hF hSr hz
          have hnx := ihf (c + 1) (setI τ 53 c (-1)) x7 x8 x9 x10 x11 x12 (by omega) (hF.set (by omega)) (hSr.kept (fun b => ⟨setI_ne (by omega), setI_ne (by omega)⟩)) (fun b hb => by
            rcases Nat.lt_or_ge b c with h | h
            · rw [setI_ne (by omega)]; exact hz b h
            · have e : b = c := by omega
              rw [e, setI_same])
          refine v_iload dX12_listOf_67 rfl ?_
          refine v_aload_n dX12_listOf_69 rfl ?_
          refine v_callV0 dX12_listOf_70 mv_RX12_233 rfl rfl (Nat.le_of_ble_eq_true rfl) ?_
          refine ok_states (m := R.2.2.2.1) (hMt τ hF).2.2.2.1 ?_
          show V _ _ _ _ (_ :: _) _ _
          refine v_icmp_ge dX12_listOf_73 (fun zc73 => ?_) (fun zc73 => ?_)
          · exact absurd zc73 (nI_ge (by omega) (by omega))
          · refine v_aload_n dX12_listOf_76 rfl ?_
            refine v_getR (q := 53) dX12_listOf_77 fl_RX12_44 rfl rfl ?_
            refine v_iload dX12_listOf_80 rfl ?_
            refine v_iconst dX12_listOf_82 ?_
            refine v_iastore dX12_listOf_83 rfl (by exact vp_in_nI (by omega) (by omega)) ?_
            rw [nI_clamp (by omega)]
            refine v_iinc dX12_listOf_84 rfl (Nat.le_of_ble_eq_true rfl) rfl ?_
            refine v_goto dX12_listOf_87 ?_
            rw [nI_1]
            exact hnx
      refine v_iload dX12_listOf_59 rfl ?_
      refine v_if_eq dX12_listOf_61 (fun zc61 => ?_) (fun zc61 => ?_)
      · exact absurd zc61 (by decide)
      · refine v_iconst dX12_listOf_64 ?_
        refine v_istore dX12_listOf_65 (Nat.le_of_ble_eq_true rfl) rfl ?_
        exact fill _ 0 τ _ _ _ _ _ _ (Nat.zero_add _) hF hSr (fun b hb => absurd hb (Nat.not_lt_zero _))
  have hF1 : ZF σ (setI (setI σ 56 0 (nI (mc R.2.2.2.1 s))) 55 0 0) := (ZF.rf.set (by omega)).set (by omega)
  have hSr1 : MSr (setI (setI σ 56 0 (nI (mc R.2.2.2.1 s))) 55 0 0) R.2.2.2.1 [(s, 0, 0, 0)] := fun j e hj => by
    have hj0 : j = 0 := by
      have := (List.getElem?_eq_some_iff.mp hj).1
      simpa using this
    rw [hj0] at hj ⊢
    have he : (s, 0, 0, 0) = e := by simpa using hj
    rw [← he]
    exact ⟨by rw [setI_ne (by omega), setI_same], by rw [setI_same]; rfl⟩
  have hs1 : srt [((s, 0, 0, 0) : En)] := srt_of_pws (List.pairwise_singleton _ _)
  have hTc1 : (setI (setI σ 56 0 (nI (mc R.2.2.2.1 s))) 55 0 0).1 44 27 = nI tg.length := (hTt _ hF1).1
  have k44a : ∀ n2, n2 < tg.length → LEQ (PV R [(s, 0, 0, 0)] tg) (PV R [(s, 0, 0, 0)] (tg.drop n2)) → V mX12_listOf (D + 4) 44 [some (.ref 44), some (.int (nI (mc R.2.2.2.1 s))), some (.int (nI n2)), some (.int 1), none, none, none, none, none, none, none, none, none] [.int (-1)] (setI (setI σ 56 0 (nI (mc R.2.2.2.1 s))) 55 0 0) Q := by
    intro n2 hn hLE
    have h59 := fun x6 x7 x8 x9 x10 x11 x12 => main tg.length n2 [(s, 0, 0, 0)] _ x6 x7 x8 x9 x10 x11 x12 (by omega) hn hF1 hSr1 hs1 (fun x hx => by rw [List.mem_singleton.mp hx]; exact hs) (by simp) (fun x hx => by rw [List.mem_singleton.mp hx]; exact Nat.zero_le _) hLE
    refine v_istore dX12_listOf_44 (Nat.le_of_ble_eq_true rfl) rfl ?_
    refine v_iload dX12_listOf_46 rfl ?_
    refine v_iconst dX12_listOf_48 ?_
    refine v_icmp_ne dX12_listOf_49 (fun zc49 => ?_) (fun zc49 => ?_)
    · exact absurd rfl zc49
    · refine v_iconst dX12_listOf_52 ?_
      refine v_goto dX12_listOf_53 ?_
      refine v_istore dX12_listOf_57 (Nat.le_of_ble_eq_true rfl) rfl ?_
      exact h59 _ _ _ _ _ _ _
  have k44b : ∀ n2, n2 = tg.length → LEQ (PV R [(s, 0, 0, 0)] tg) (PV R [(s, 0, 0, 0)] (tg.drop n2)) → V mX12_listOf (D + 4) 44 [some (.ref 44), some (.int (nI (mc R.2.2.2.1 s))), some (.int (nI n2)), some (.int 1), none, none, none, none, none, none, none, none, none] [.int 0] (setI (setI σ 56 0 (nI (mc R.2.2.2.1 s))) 55 0 0) Q := by
    intro n2 hn hLE
    rw [hn, List.drop_of_length_le (Nat.le_refl _)] at hLE
    have h59 := fun x2 x3 x6 x7 x8 x9 x10 x11 x12 => fin _ 0 x2 x3 none x6 x7 x8 x9 x10 x11 x12 hF1 ((PV_end (R := R) (e := (s, 0, 0, 0)) rfl hs1).eq hLE.sy)
    refine v_istore dX12_listOf_44 (Nat.le_of_ble_eq_true rfl) rfl ?_
    refine v_iload dX12_listOf_46 rfl ?_
    refine v_iconst dX12_listOf_48 ?_
    refine v_icmp_ne dX12_listOf_49 (fun zc49 => ?_) (fun zc49 => ?_)
    · refine v_iconst dX12_listOf_56 ?_
      refine v_istore dX12_listOf_57 (Nat.le_of_ble_eq_true rfl) rfl ?_
      exact h59 _ _ _ _ _ _ _ _ _
    · exact absurd zc49 (by decide)
  refine ok_enter rfl (Nat.le_of_ble_eq_true rfl) ?_
  refine v_aload_n dX12_listOf_0 rfl ?_
  refine v_callV0 dX12_listOf_1 mv_RX12_229 rfl rfl (Nat.le_of_ble_eq_true rfl) ?_
  refine ok_stateNow hM.2.2.2.1 hS hs.w hm2 ?_
  show V _ _ _ _ (_ :: _) _ _
  refine v_istore_n dX12_listOf_4 (Nat.le_of_ble_eq_true rfl) rfl ?_
  refine v_aload_n dX12_listOf_5 rfl ?_
  refine v_iconst dX12_listOf_6 ?_
  refine v_aload_n dX12_listOf_7 rfl ?_
  refine v_getI dX12_listOf_8 fl_RX12_197 rfl ?_
  rw [hS.1]
  refine v_callV2 dX12_listOf_11 mv_RX12_262 rfl rfl (Nat.le_of_ble_eq_true rfl) ?_
  rw [show (0 : Int32) = nI 0 from rfl]
  refine ok_goOn (i := 0) hT hl ht2 (by have := hs.1; omega) (by omega) (fun n2 g1 g2 g3 g4 => ?_)
  have hLE : LEQ (PV R [(s, 0, 0, 0)] tg) (PV R [(s, 0, 0, 0)] (tg.drop n2)) := by
    have := PV_skip (R := R) (src := [(s, 0, 0, 0)]) (tg := tg) (v := s.1) (fun x hx => by rw [List.mem_singleton.mp hx]) n2 0 (fun u a b => g3 u (by omega) (by omega))
    rw [List.drop_zero, Nat.zero_add] at this
    exact this
  show V _ _ _ _ (_ :: _) _ _
  refine v_istore_n dX12_listOf_14 (Nat.le_of_ble_eq_true rfl) rfl ?_
  refine v_iconst dX12_listOf_15 ?_
  refine v_istore_n dX12_listOf_16 (Nat.le_of_ble_eq_true rfl) rfl ?_
  refine v_aload_n dX12_listOf_17 rfl ?_
  refine v_getR (q := 56) dX12_listOf_18 fl_RX12_53 rfl rfl ?_
  refine v_iconst dX12_listOf_21 ?_
  refine v_iload_n dX12_listOf_22 rfl ?_
  refine v_iastore dX12_listOf_23 rfl (by exact (show vp_in (nI 0) 80000 from vp_in_nI (by omega) (by omega))) ?_
  rw [show (0 : Int32).toNatClampNeg = 0 from rfl]
  refine v_aload_n dX12_listOf_24 rfl ?_
  refine v_getR (q := 55) dX12_listOf_25 fl_RX12_50 rfl rfl ?_
  refine v_iconst dX12_listOf_28 ?_
  refine v_iconst dX12_listOf_29 ?_
  refine v_iastore dX12_listOf_30 rfl (by exact (show vp_in (nI 0) 80000 from vp_in_nI (by omega) (by omega))) ?_
  rw [show (0 : Int32).toNatClampNeg = 0 from rfl]
  refine v_iload_n dX12_listOf_31 rfl ?_
  refine v_aload_n dX12_listOf_32 rfl ?_
  refine v_getI dX12_listOf_33 fl_RX12_191 rfl ?_
  rw [hTc1]
  refine v_icmp_ne dX12_listOf_36 (fun zc36 => ?_) (fun zc36 => ?_)
  · rw [nI_eq (by omega) (by omega)] at zc36
    refine v_iconst dX12_listOf_43 ?_
    first | exact k44b n2 zc36 hLE | exact k44a n2 (by omega) hLE
  · rw [nI_eq (by omega) (by omega)] at zc36
    refine v_iconst dX12_listOf_39 ?_
    refine v_goto dX12_listOf_40 ?_
    first | exact k44b n2 zc36 hLE | exact k44a n2 (by omega) hLE
theorem ok_mlist (hP : MP σ R s) (hT : MRT σ tg) (hl : tg.length ≤ 6) (ht : ∀ v ∈ tg, v < R.2.2.2.1) (hQ : ∀ τ w, ScFr σ τ → LiA R s tg w → Q (some (.int w)) τ) : Ok (D + 5) mX12_list [.ref 44] σ Q := by
  refine ok_enter rfl (Nat.le_of_ble_eq_true rfl) ?_
  refine v_aload_n dX12_list_0 rfl ?_
  refine v_getI dX12_list_1 fl_RX12_191 rfl ?_
  rw [hT.1]
  refine v_if_ne dX12_list_4 (fun zc4 => ?_) (fun zc4 => ?_)
  · refine v_aload_n dX12_list_9 rfl ?_
    refine v_callV0 dX12_list_10 mv_RX12_269 rfl rfl (Nat.le_of_ble_eq_true rfl) ?_
    have h0 : 0 < tg.length := by rcases Nat.eq_zero_or_pos tg.length with h | h; exact absurd (show nI tg.length = 0 by rw [h]; rfl) zc4; exact h
    have h1 := ht _ (List.getElem_mem h0)
    refine ok_listOf hP (by omega) hT hl ht (fun τ w f1 f2 => ?_)
    show V _ _ _ _ (_ :: _) _ _
    refine v_ireturn dX12_list_13 rfl (rfl) ?_
    exact hQ τ w f1 f2
  · refine v_iconst dX12_list_7 ?_
    refine v_ireturn dX12_list_8 rfl (rfl) ?_
    have hz : tg = [] := List.eq_nil_of_length_eq_zero ((nI_eq (b := 0) (by omega) (by omega)).mp zc4)
    refine hQ σ _ ScFr.rf ⟨0, ?_, rfl⟩
    rw [hz]
    exact PV_end (e := (s, 0, 0, 0)) rfl (srt_of_pws (List.pairwise_singleton _ _))
end ML5
