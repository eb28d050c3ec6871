/-! ===== told numbers one behind the other: the reference's search ===== -/
section ML4
variable {D : Nat} {σ τ τ' : Wd} {Q : Option Value → Wd → Prop} {R : Rk} {s t : St} {q q' src : List En} {a b c g h i k n m d u U B0 now had : Nat} {tg : List Nat} {x : En} {x4 : Option Value}
theorem MSr.kept (h : MSr τ m src) (hk : ∀ b, τ'.1 56 b = τ.1 56 b ∧ τ'.1 55 b = τ.1 55 b) : MSr τ' m src := fun j x hj => by rw [(hk j).1, (hk j).2]; exact h j x hj
set_option maxHeartbeats 4000000 in
theorem v_lsearch (hM0 : RepM σ R) (h40 : σ.1 44 4 = nI R.2.2.2.2.length) (hv : vR 8 R) (hm : 0 < R.2.2.2.1) (hss : srt src) (hsv : ∀ x ∈ src, vS R.2.2.2.1 x.1) (hsl : src.length ≤ 60200) (hsB : ∀ x ∈ src, x.2.2.2 ≤ B0) (hB : B0 ≤ 1000000)
    (kk : ∀ q i u U τ x10 x11 x12, ZF σ τ → L54 τ R.2.2.2.1 q → F53 τ R.2.2.2.1 q → MIv R src B0 q i u U → i = q.length → u = src.length → V mX12_listOf (D + 4) 285 [some (.ref 44), some (.int (nI now)), some (.int (nI had)), some (.int (nI src.length)), x4, some (.int 1), some (.int (nI q.length)), some (.int (nI u)), some (.int (nI i)), some (.int 0), x10, x11, x12] [] τ Q) :
    ∀ n q i u U τ x10 x11 x12, (src.length - u) + (60200 - i) < n → ZF σ τ → MSr τ R.2.2.2.1 src → L54 τ R.2.2.2.1 q → F53 τ R.2.2.2.1 q → MIv R src B0 q i u U → V mX12_listOf (D + 4) 102 [some (.ref 44), some (.int (nI now)), some (.int (nI had)), some (.int (nI src.length)), x4, some (.int 1), some (.int (nI q.length)), some (.int (nI u)), some (.int (nI i)), some (.int 0), x10, x11, x12] [] τ Q := by
  have hm2 := hv.m100
  have hK := hv.n9
  have h8 := mm_le hm2
  have hpl := nPl_le hm2
  have hMt : ∀ τ, ZF σ τ → RepM τ R := fun τ hF => hM0.kept (fun b hb => hF.1 _ _ (by omega)) (fun b => hF.1 _ _ (by omega))
  intro n
  induction n with
  | zero => intro q i u U τ x10 x11 x12 hn; exact absurd hn (by omega)
  | succ n ih =>
    intro q i u U τ x10 x11 x12 hn hF hS hL hFr hI
    obtain ⟨⟨hV, hpw, hsn, hle⟩, i1, i2, i3, i4, i5, i6, i7⟩ := id hI
    have hql := Nat.le_trans (bfV.len hm hV) hpl
    have hdq : ∀ e ∈ q, e.2.2.2 < 2000000 := fun e he => by have := hle e he; omega
    have k150 : ∀ hu : u < src.length, (∀ e, q[i]? = some e → src[u].2.2.2 ≤ e.2.2.2) → V mX12_listOf (D + 4) 150 [some (.ref 44), some (.int (nI now)), some (.int (nI had)), some (.int (nI src.length)), x4, some (.int 1), some (.int (nI q.length)), some (.int (nI u)), some (.int (nI i)), some (.int 0), x10, x11, x12] [] τ Q := by
      intro hu hd
      have hgu : src[u]? = some src[u] := List.getElem?_eq_getElem hu
      have hmu := List.getElem_mem hu
      obtain ⟨c1, c2⟩ := hS u _ hgu
      have hvu := hsv _ hmu
      have hBu := hsB _ hmu
      have hmc := mc_lt hm hvu.w
      by_cases hin : ∃ e ∈ q, e.1 = src[u].1
      · have hne := hFr.has hdq hin
        have hnx := fun y10 => ih q i (u + 1) U τ y10 x11 x12 (by omega) hF hS hL hFr (hI.skip hgu hin)
        refine v_aload_n dX12_listOf_150 rfl ?_
        refine v_getR (q := 56) dX12_listOf_151 fl_RX12_53 rfl rfl ?_
        refine v_iload dX12_listOf_154 rfl ?_
        refine v_iaload dX12_listOf_156 rfl (by exact vp_in_nI (by omega) (by omega)) ?_
        rw [nI_clamp (by omega), c1]
        refine v_istore dX12_listOf_157 (Nat.le_of_ble_eq_true rfl) rfl ?_
        refine v_aload_n dX12_listOf_159 rfl ?_
        refine v_getR (q := 53) dX12_listOf_160 fl_RX12_44 rfl rfl ?_
        refine v_iload dX12_listOf_163 rfl ?_
        refine v_iaload dX12_listOf_165 rfl (by exact vp_in_nI (by omega) (by omega)) ?_
        rw [nI_clamp (by omega)]
        refine v_iconst dX12_listOf_166 ?_
        refine v_icmp_ne dX12_listOf_167 (fun zc167 => ?_) (fun zc167 => ?_)
        · refine v_iinc dX12_listOf_197 rfl (Nat.le_of_ble_eq_true rfl) rfl ?_
          refine v_goto dX12_listOf_200 ?_
          rw [nI_1]
          exact hnx _
        · exact absurd zc167 hne
      · have hno : ∀ e ∈ q, e.1 ≠ src[u].1 := fun e he h => hin ⟨e, he, h⟩
        have hz := hFr.no hm hV hvu hno
        have hI2 := hI.ins hss hgu hvu hno hd hBu
        have hq2 := Nat.le_trans (bfV.len hm hI2.1.1) hpl
        rw [insQ_len i1] at hq2
        refine v_aload_n dX12_listOf_150 rfl ?_
        refine v_getR (q := 56) dX12_listOf_151 fl_RX12_53 rfl rfl ?_
        refine v_iload dX12_listOf_154 rfl ?_
        refine v_iaload dX12_listOf_156 rfl (by exact vp_in_nI (by omega) (by omega)) ?_
        rw [nI_clamp (by omega), c1]
        refine v_istore dX12_listOf_157 (Nat.le_of_ble_eq_true rfl) rfl ?_
        refine v_aload_n dX12_listOf_159 rfl ?_
        refine v_getR (q := 53) dX12_listOf_160 fl_RX12_44 rfl rfl ?_
        refine v_iload dX12_listOf_163 rfl ?_
        refine v_iaload dX12_listOf_165 rfl (by exact vp_in_nI (by omega) (by omega)) ?_
        rw [nI_clamp (by omega), hz]
        refine v_iconst dX12_listOf_166 ?_
        refine v_icmp_ne dX12_listOf_167 (fun zc167 => ?_) (fun zc167 => ?_)
        · exact absurd rfl zc167
        · refine v_aload_n dX12_listOf_170 rfl ?_
          refine v_getR (q := 53) dX12_listOf_171 fl_RX12_44 rfl rfl ?_
          refine v_iload dX12_listOf_174 rfl ?_
          refine v_aload_n dX12_listOf_176 rfl ?_
          refine v_getR (q := 55) dX12_listOf_177 fl_RX12_50 rfl rfl ?_
          refine v_iload dX12_listOf_180 rfl ?_
          refine v_iaload dX12_listOf_182 rfl (by exact vp_in_nI (by omega) (by omega)) ?_
          rw [nI_clamp (by omega), c2]
          refine v_iastore dX12_listOf_183 rfl (by exact vp_in_nI (by omega) (by omega)) ?_
          rw [nI_clamp (by omega)]
          refine v_aload_n dX12_listOf_184 rfl ?_
          refine v_iload dX12_listOf_185 rfl ?_
          refine v_iload dX12_listOf_187 rfl ?_
          refine v_iload dX12_listOf_189 rfl ?_
          refine v_callV3 dX12_listOf_191 mv_RX12_265 rfl rfl (Nat.le_of_ble_eq_true rfl) ?_
          refine ok_insert i1 (by omega) (fun τ2 f1 f2 f3 f4 f5 => ?_)
          have hF2 : ZF σ τ2 := ⟨fun p b hp => by rw [f1 p b (by omega), setI_ne (by omega)]; exact hF.1 p b hp, by rw [f2]; exact hF.2⟩
          have hS2 : MSr τ2 R.2.2.2.1 src := hS.kept (fun b => ⟨by rw [f1 _ _ (by omega), setI_ne (by omega)], by rw [f1 _ _ (by omega), setI_ne (by omega)]⟩)
          have hL2 : L54 τ2 R.2.2.2.1 (insQ q i src[u]) := L54.ins i1 hL (fun j hj => by rw [f3 j hj, setI_ne (by omega)]) f4 (fun j a b => by rw [f5 j a b, setI_ne (by omega)])
          have hR2 : F53 τ2 R.2.2.2.1 (insQ q i src[u]) := hFr.add hm hV hvu hno (fun e => insQ_mem) (by rw [f1 _ _ (by omega), setI_same]) (fun c hc => by rw [f1 _ _ (by omega), setI_ne (by omega)])
          have hnx := fun y10 => ih (insQ q i src[u]) i (u + 1) _ τ2 y10 x11 x12 (by omega) hF2 hS2 hL2 hR2 hI2
          rw [insQ_len i1] at hnx
          show V _ _ _ _ _ _ _
          refine v_iinc dX12_listOf_194 rfl (Nat.le_of_ble_eq_true rfl) rfl ?_
          refine v_iinc dX12_listOf_197 rfl (Nat.le_of_ble_eq_true rfl) rfl ?_
          refine v_goto dX12_listOf_200 ?_
          rw [nI_1, nI_1]
          exact hnx _
    have k203 : ∀ hi : i < q.length, (∀ (w : Nat) (x : En), u ≤ w → src[w]? = some x → q[i].2.2.2 + 1 ≤ x.2.2.2) → V mX12_listOf (D + 4) 203 [some (.ref 44), some (.int (nI now)), some (.int (nI had)), some (.int (nI src.length)), x4, some (.int 1), some (.int (nI q.length)), some (.int (nI u)), some (.int (nI i)), some (.int 0), x10, x11, x12] [] τ Q := by
      intro hi hsr
      have hgi : q[i]? = some q[i] := List.getElem?_eq_getElem hi
      have hmi := List.getElem_mem hi
      have c1 := hL i _ hgi
      have hvi := hV.2 _ hmi
      have hmc := mc_lt hm hvi.w
      have hdi := hle _ hmi
      have hUi := i6 _ hgi
      have keys : ∀ j k q2 τ x12, k + j = R.2.2.2.2.length → ZF σ τ → MSr τ R.2.2.2.1 src → L54 τ R.2.2.2.1 q2 → F53 τ R.2.2.2.1 q2 → KR R src q2 (q[i].2.2.2 + 1) → q <+: q2 → (∀ k', k' < k → ∃ e' ∈ q2, e'.1 = nx R q[i].1 k' ∧ e'.2.2.2 ≤ q[i].2.2.2 + 1) →
          V mX12_listOf (D + 4) 218 [some (.ref 44), some (.int (nI now)), some (.int (nI had)), some (.int (nI src.length)), x4, some (.int 1), some (.int (nI q2.length)), some (.int (nI u)), some (.int (nI (i + 1))), some (.int 0), some (.int (nI (mc R.2.2.2.1 q[i].1))), some (.int (nI k)), x12] [] τ Q := by
        intro j
        induction j with
        | zero =>
          intro k q2 τ x12 hk hF hS hL hFr hKR hp hkk
          obtain rfl : k = R.2.2.2.2.length := by omega
          have h44 : τ.1 44 4 = nI R.2.2.2.2.length := by rw [hF.1 _ _ (by omega)]; exact h40
          have hnx := fun y10 y11 => ih q2 (i + 1) u _ τ y10 y11 x12 (by omega) hF hS hL hFr (hI.turn hgi hsr hp hKR hkk)
          refine v_iload dX12_listOf_218 rfl ?_
          refine v_aload_n dX12_listOf_220 rfl ?_
          refine v_getI dX12_listOf_221 fl_RX12_182 rfl ?_
          rw [h44]
          refine v_icmp_ge dX12_listOf_224 (fun zc224 => ?_) (fun zc224 => ?_)
          · refine v_goto dX12_listOf_282 ?_
            exact hnx _ _
          · exact absurd (nI_le (Nat.le_refl _) (by omega)) zc224
        | succ j ihk =>
          intro k q2 τ x12 hk hF hS hL hFr hKR hp hkk
          have hkl : k < R.2.2.2.2.length := by omega
          have h44 : τ.1 44 4 = nI R.2.2.2.2.length := by rw [hF.1 _ _ (by omega)]; exact h40
          have hky : R.2.2.2.2[k]? = some (R.2.2.2.2.getD k (0, 0, 0, 0)) := by rw [List.getD, List.getElem?_eq_getElem hkl]; rfl
          have hvn := nx_v hv hkl hvi
          have hmn := mc_lt hm hvn.w
          have hF0 : ZF σ (putS τ (nx R q[i].1 k)) := hF.putS
          have hS0 : MSr (putS τ (nx R q[i].1 k)) R.2.2.2.1 src := hS.kept (fun b => ⟨putS_o (by omega), putS_o (by omega)⟩)
          have hL0 : L54 (putS τ (nx R q[i].1 k)) R.2.2.2.1 q2 := hL.kept (fun b => putS_o (by omega))
          have hR0 : F53 (putS τ (nx R q[i].1 k)) R.2.2.2.1 q2 := hFr.kept (fun b => putS_o (by omega))
          have hd2 : ∀ e ∈ q2, e.2.2.2 < 2000000 := fun e he => by have := hKR.2.2.2 e he; omega
          by_cases hin : ∃ e ∈ q2, e.1 = nx R q[i].1 k
          · have hne := hR0.has hd2 hin
            have hnx := fun y12 => ihk (k + 1) q2 _ y12 (by omega) hF0 hS0 hL0 hR0 hKR hp (fun k' hk' => by
              rcases Nat.lt_or_ge k' k with h1 | h1
              · exact hkk k' h1
              · have e1 : k' = k := by omega
                obtain ⟨e, z1, z2⟩ := hin
                rw [e1]
                exact ⟨e, z1, z2, hKR.2.2.2 e z1⟩)
            refine v_iload dX12_listOf_218 rfl ?_
            refine v_aload_n dX12_listOf_220 rfl ?_
            refine v_getI dX12_listOf_221 fl_RX12_182 rfl ?_
            rw [h44]
            refine v_icmp_ge dX12_listOf_224 (fun zc224 => ?_) (fun zc224 => ?_)
            · exact absurd zc224 (nI_ge (by omega) (by omega))
            · refine v_aload_n dX12_listOf_227 rfl ?_
              refine v_iload dX12_listOf_228 rfl ?_
              refine v_iload dX12_listOf_230 rfl ?_
              refine v_callV2 dX12_listOf_232 mv_RX12_239 rfl rfl (Nat.le_of_ble_eq_true rfl) ?_
              refine ok_behind (hMt τ hF) (by decide) hv hky hmc ?_
              rw [mdec_mc hm hvi.w, show rk_str R q[i].1 (R.2.2.2.2.getD k (0, 0, 0, 0)) = nx R q[i].1 k from rfl]
              show V _ _ _ _ (_ :: _) _ _
              refine v_istore dX12_listOf_235 (Nat.le_of_ble_eq_true rfl) rfl ?_
              refine v_aload_n dX12_listOf_237 rfl ?_
              refine v_getR (q := 53) dX12_listOf_238 fl_RX12_44 rfl rfl ?_
              refine v_iload dX12_listOf_241 rfl ?_
              refine v_iaload dX12_listOf_243 rfl (by exact vp_in_nI (by omega) (by omega)) ?_
              rw [nI_clamp (by omega)]
              refine v_iconst dX12_listOf_244 ?_
              refine v_icmp_ne dX12_listOf_245 (fun zc245 => ?_) (fun zc245 => ?_)
              · refine v_iinc dX12_listOf_276 rfl (Nat.le_of_ble_eq_true rfl) rfl ?_
                refine v_goto dX12_listOf_279 ?_
                rw [nI_1]
                exact hnx _
              · exact absurd zc245 hne
          · have hno : ∀ e ∈ q2, e.1 ≠ nx R q[i].1 k := fun e he h => hin ⟨e, he, h⟩
            have hz := hR0.no hm hKR.1 hvn hno
            have hsnd : Snd R src (nx R q[i].1 k) (q[i].2.2.2 + 1) := by
              obtain ⟨y, y1, ks, y2, y3, y4⟩ := hsn _ hmi
              exact ⟨y, y1, ks ++ [k], okP_app y2 hkl, by rw [goP_app, y3], by rw [List.length_append, List.length_singleton]; omega⟩
            have hK2 := hKR.add (x := (nx R q[i].1 k, 0, 0, q[i].2.2.2 + 1)) hvn hno (Nat.le_refl _) hsnd
            have hq2 := Nat.le_trans (bfV.len hm hK2.1) hpl
            rw [List.length_append, List.length_singleton] at hq2
            have hes : (putS τ (nx R q[i].1 k)).1 53 (mc R.2.2.2.1 q[i].1) = nI q[i].2.2.2 := hR0.1 _ (hp.subset hmi)
            have hnx := fun y12 => ihk (k + 1) (q2 ++ [(nx R q[i].1 k, 0, 0, q[i].2.2.2 + 1)]) (setI (setI (putS τ (nx R q[i].1 k)) 53 (mc R.2.2.2.1 (nx R q[i].1 k)) (nI (q[i].2.2.2 + 1))) 54 q2.length (nI (mc R.2.2.2.1 (nx R q[i].1 k)))) y12 (by omega) ((hF0.set (by omega)).set (by omega)) (hS0.kept (fun b => ⟨by rw [setI_ne (by omega), setI_ne (by omega)], by rw [setI_ne (by omega), setI_ne (by omega)]⟩)) (hL0.add setI_same (fun b hb => by rw [setI_ne (by omega), setI_ne (by omega)])) (hR0.add hm hKR.1 hvn hno (fun e => by rw [List.mem_append, List.mem_singleton]) (by rw [setI_ne (by omega), setI_same]) (fun c hc => by rw [setI_ne (by omega), setI_ne (fun h => hc h.2)])) hK2 (hp.trans (List.prefix_append _ _)) (fun k' hk' => by
              rcases Nat.lt_or_ge k' k with h1 | h1
              · obtain ⟨e', z1, z2⟩ := hkk k' h1
                exact ⟨e', List.mem_append_left _ z1, z2⟩
              · have e1 : k' = k := by omega
                rw [e1]
                exact ⟨_, List.mem_append_right _ (List.mem_singleton.mpr rfl), rfl, Nat.le_refl _⟩)
            rw [List.length_append, List.length_singleton] at hnx
            refine v_iload dX12_listOf_218 rfl ?_
            refine v_aload_n dX12_listOf_220 rfl ?_
            refine v_getI dX12_listOf_221 fl_RX12_182 rfl ?_
            rw [h44]
            refine v_icmp_ge dX12_listOf_224 (fun zc224 => ?_) (fun zc224 => ?_)
            · exact absurd zc224 (nI_ge (by omega) (by omega))
            · refine v_aload_n dX12_listOf_227 rfl ?_
              refine v_iload dX12_listOf_228 rfl ?_
              refine v_iload dX12_listOf_230 rfl ?_
              refine v_callV2 dX12_listOf_232 mv_RX12_239 rfl rfl (Nat.le_of_ble_eq_true rfl) ?_
              refine ok_behind (hMt τ hF) (by decide) hv hky hmc ?_
              rw [mdec_mc hm hvi.w, show rk_str R q[i].1 (R.2.2.2.2.getD k (0, 0, 0, 0)) = nx R q[i].1 k from rfl]
              show V _ _ _ _ (_ :: _) _ _
              refine v_istore dX12_listOf_235 (Nat.le_of_ble_eq_true rfl) rfl ?_
              refine v_aload_n dX12_listOf_237 rfl ?_
              refine v_getR (q := 53) dX12_listOf_238 fl_RX12_44 rfl rfl ?_
              refine v_iload dX12_listOf_241 rfl ?_
              refine v_iaload dX12_listOf_243 rfl (by exact vp_in_nI (by omega) (by omega)) ?_
              rw [nI_clamp (by omega), hz]
              refine v_iconst dX12_listOf_244 ?_
              refine v_icmp_ne dX12_listOf_245 (fun zc245 => ?_) (fun zc245 => ?_)
              · exact absurd rfl zc245
              · refine v_aload_n dX12_listOf_248 rfl ?_
                refine v_getR (q := 53) dX12_listOf_249 fl_RX12_44 rfl rfl ?_
                refine v_iload dX12_listOf_252 rfl ?_
                refine v_aload_n dX12_listOf_254 rfl ?_
                refine v_getR (q := 53) dX12_listOf_255 fl_RX12_44 rfl rfl ?_
                refine v_iload dX12_listOf_258 rfl ?_
                refine v_iaload dX12_listOf_260 rfl (by exact vp_in_nI (by omega) (by omega)) ?_
                rw [nI_clamp (by omega), hes]
                refine v_iconst dX12_listOf_261 ?_
                refine v_iadd dX12_listOf_262 ?_
                rw [nI_1]
                refine v_iastore dX12_listOf_263 rfl (by exact vp_in_nI (by omega) (by omega)) ?_
                rw [nI_clamp (by omega)]
                refine v_aload_n dX12_listOf_264 rfl ?_
                refine v_getR (q := 54) dX12_listOf_265 fl_RX12_47 rfl rfl ?_
                refine v_iload dX12_listOf_268 rfl ?_
                refine v_iload dX12_listOf_270 rfl ?_
                refine v_iastore dX12_listOf_272 rfl (by exact vp_in_nI (by omega) (by omega)) ?_
                rw [nI_clamp (by omega)]
                refine v_iinc dX12_listOf_273 rfl (Nat.le_of_ble_eq_true rfl) rfl ?_
                refine v_iinc dX12_listOf_276 rfl (Nat.le_of_ble_eq_true rfl) rfl ?_
                refine v_goto dX12_listOf_279 ?_
                rw [nI_1, nI_1]
                exact hnx _
      refine v_aload_n dX12_listOf_203 rfl ?_
      refine v_getR (q := 54) dX12_listOf_204 fl_RX12_47 rfl rfl ?_
      refine v_iload dX12_listOf_207 rfl ?_
      refine v_iaload dX12_listOf_209 rfl (by exact vp_in_nI (by omega) (by omega)) ?_
      rw [nI_clamp (by omega), c1]
      refine v_istore dX12_listOf_210 (Nat.le_of_ble_eq_true rfl) rfl ?_
      refine v_iinc dX12_listOf_212 rfl (Nat.le_of_ble_eq_true rfl) rfl ?_
      refine v_iconst dX12_listOf_215 ?_
      refine v_istore dX12_listOf_216 (Nat.le_of_ble_eq_true rfl) rfl ?_
      rw [nI_1]
      exact keys R.2.2.2.2.length 0 q τ _ (by omega) hF hS hL hFr (KR.up hI.1 hUi) List.prefix_rfl (fun k' hk' => absurd hk' (by omega))
    rcases Nat.lt_or_ge i q.length with hi | hi
    · have hgi : q[i]? = some q[i] := List.getElem?_eq_getElem hi
      have hmi := List.getElem_mem hi
      have hdi := hle _ hmi
      have c1 := hL i _ hgi
      have hmc := mc_lt hm (hV.2 _ hmi).w
      have hfi := hFr.1 _ hmi
      rcases Nat.lt_or_ge u src.length with hu | hu
      · have hgu : src[u]? = some src[u] := List.getElem?_eq_getElem hu
        obtain ⟨d1, d2⟩ := hS u _ hgu
        have hBu := hsB _ (List.getElem_mem hu)
        refine v_iload dX12_listOf_102 rfl ?_
        refine v_iload dX12_listOf_104 rfl ?_
        refine v_icmp_lt dX12_listOf_106 (fun zc106 => ?_) (fun zc106 => ?_)
        · refine v_iload dX12_listOf_115 rfl ?_
          refine v_iload_n dX12_listOf_117 rfl ?_
          refine v_icmp_ge dX12_listOf_118 (fun zc118 => ?_) (fun zc118 => ?_)
          · exact absurd zc118 (nI_ge hu (by omega))
          · refine v_iload dX12_listOf_121 rfl ?_
            refine v_iload dX12_listOf_123 rfl ?_
            refine v_icmp_eq dX12_listOf_125 (fun zc125 => ?_) (fun zc125 => ?_)
            · exact absurd ((nI_eq (by omega) (by omega)).mp zc125) (by omega)
            · refine v_aload_n dX12_listOf_128 rfl ?_
              refine v_getR (q := 55) dX12_listOf_129 fl_RX12_50 rfl rfl ?_
              refine v_iload dX12_listOf_132 rfl ?_
              refine v_iaload dX12_listOf_134 rfl (by exact vp_in_nI (by omega) (by omega)) ?_
              rw [nI_clamp (by omega), d2]
              refine v_aload_n dX12_listOf_135 rfl ?_
              refine v_getR (q := 53) dX12_listOf_136 fl_RX12_44 rfl rfl ?_
              refine v_aload_n dX12_listOf_139 rfl ?_
              refine v_getR (q := 54) dX12_listOf_140 fl_RX12_47 rfl rfl ?_
              refine v_iload dX12_listOf_143 rfl ?_
              refine v_iaload dX12_listOf_145 rfl (by exact vp_in_nI (by omega) (by omega)) ?_
              rw [nI_clamp (by omega), c1]
              refine v_iaload dX12_listOf_146 rfl (by exact vp_in_nI (by omega) (by omega)) ?_
              rw [nI_clamp (by omega), hfi]
              refine v_icmp_gt dX12_listOf_147 (fun zc147 => ?_) (fun zc147 => ?_)
              · rw [nI_ltI (by omega) (by omega)] at zc147
                exact k203 hi (fun w x hw hx => by have := hss u w _ x hw hgu hx; omega)
              · rw [nI_ltI (by omega) (by omega)] at zc147
                exact k150 hu (fun e he => by rw [hgi] at he; rw [← Option.some.inj he]; omega)
        · exact absurd (nI_lt hi (by omega)) zc106
      · refine v_iload dX12_listOf_102 rfl ?_
        refine v_iload dX12_listOf_104 rfl ?_
        refine v_icmp_lt dX12_listOf_106 (fun zc106 => ?_) (fun zc106 => ?_)
        · refine v_iload dX12_listOf_115 rfl ?_
          refine v_iload_n dX12_listOf_117 rfl ?_
          refine v_icmp_ge dX12_listOf_118 (fun zc118 => ?_) (fun zc118 => ?_)
          · exact k203 hi (fun w x hw hx => by have := (List.getElem?_eq_some_iff.mp hx).1; omega)
          · exact absurd (nI_le hu (by omega)) zc118
        · exact absurd (nI_lt hi (by omega)) zc106
    · have hiq : i = q.length := by omega
      rcases Nat.lt_or_ge u src.length with hu | hu
      · refine v_iload dX12_listOf_102 rfl ?_
        refine v_iload dX12_listOf_104 rfl ?_
        refine v_icmp_lt dX12_listOf_106 (fun zc106 => ?_) (fun zc106 => ?_)
        · exact absurd zc106 (nI_nlt (by omega) (by omega))
        · refine v_iload dX12_listOf_109 rfl ?_
          refine v_iload_n dX12_listOf_111 rfl ?_
          refine v_icmp_ge dX12_listOf_112 (fun zc112 => ?_) (fun zc112 => ?_)
          · exact absurd zc112 (nI_ge hu (by omega))
          · refine v_iload dX12_listOf_115 rfl ?_
            refine v_iload_n dX12_listOf_117 rfl ?_
            refine v_icmp_ge dX12_listOf_118 (fun zc118 => ?_) (fun zc118 => ?_)
            · exact absurd zc118 (nI_ge hu (by omega))
            · refine v_iload dX12_listOf_121 rfl ?_
              refine v_iload dX12_listOf_123 rfl ?_
              refine v_icmp_eq dX12_listOf_125 (fun zc125 => ?_) (fun zc125 => ?_)
              · exact k150 hu (fun e he => by rw [List.getElem?_eq_none hi] at he; cases he)
              · exact absurd (show nI i = nI q.length by rw [hiq]) zc125
      · refine v_iload dX12_listOf_102 rfl ?_
        refine v_iload dX12_listOf_104 rfl ?_
        refine v_icmp_lt dX12_listOf_106 (fun zc106 => ?_) (fun zc106 => ?_)
        · exact absurd zc106 (nI_nlt (by omega) (by omega))
        · refine v_iload dX12_listOf_109 rfl ?_
          refine v_iload_n dX12_listOf_111 rfl ?_
          refine v_icmp_ge dX12_listOf_112 (fun zc112 => ?_) (fun zc112 => ?_)
          · exact kk q i u U τ x10 x11 x12 hF hL hFr hI hiq (by omega)
          · exact absurd (nI_le hu (by omega)) zc112
end ML4
