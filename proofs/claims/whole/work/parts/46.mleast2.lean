/-! ===== the least cost: the reference's leastOf ===== -/
section MK
variable {D : Nat} {σ τ τ' : Wd} {Q : Option Value → Wd → Prop} {R : Rk} {s : St} {S : List Nat} {B : Nat → List Nat} {dd : Nat → Nat} {c h X x k N n : Nat}
theorem LG.congr {lp lp' : Nat → Prop} (hG : LG R s S lp dd x k) (h : ∀ y, lp y ↔ lp' y) : LG R s S lp' dd x k :=
  ⟨fun y hy => hG.1 y ((h y).mpr hy), fun y hy j hj hjk => ⟨(h _).mp (hG.2.1 y hy j hj hjk).1, (hG.2.1 y hy j hj hjk).2⟩, (h _).mp hG.2.2.1, hG.2.2.2⟩
theorem LG.new {lp : Nat → Prop} {x' : Nat} (hG : LG R s S lp dd x R.2.2.2.2.length) : LG R s (x' :: S) lp dd x' 0 := by
  refine ⟨hG.1, fun y hy j hj hjk => ?_, hG.2.2⟩
  rcases List.mem_cons.mp hy with e | h1
  · exact absurd (hjk e) (by omega)
  · exact hG.2.1 y h1 j hj (fun _ => hj)
set_option maxHeartbeats 4000000 in
theorem ok_leastOf {v : Nat} (hP : MP σ R s) (hm : 0 < R.2.2.2.1) (hvm : v < R.2.2.2.1) (hQ : ∀ τ f, ScFr σ τ → LeastN (leP R s v) f → Q (some (.int (iz f))) τ) : Ok (D + 4) mX12_leastOf [.ref 44, .int (nI v)] σ Q := by
  obtain ⟨hM, h4, hv, hS, hs⟩ := id hP
  have hm2 := hv.m100
  have hK := hv.n9
  have h8 := mm_le hm2
  have hnow : mc R.2.2.2.1 s < 8 * R.2.2.2.1 * R.2.2.2.1 := mc_lt hm hs.w
  have hMt : ∀ τ, LzF σ τ → RepM τ R := fun τ hF => hM.kept (fun b hb => hF.1 _ _ (by omega)) (fun b => hF.1 _ _ (by omega))
  have fin : ∀ τ (f : Int) x3 x5 x6 x7 x8 x9, LzF σ τ → LeastN (leP R s v) f → V mX12_leastOf (D + 4) 250 [some (.ref 44), some (.int (nI v)), some (.int (nI (mc R.2.2.2.1 s))), x3, some (.int (iz f)), x5, x6, x7, x8, x9] [] τ Q := by
    intro τ f x3 x5 x6 x7 x8 x9 hF hl
    refine v_aload_n dX12_leastOf_250 rfl ?_
    refine v_iload_n dX12_leastOf_251 rfl ?_
    refine v_callV1 dX12_leastOf_252 mv_RX12_223 rfl rfl (Nat.le_of_ble_eq_true rfl) ?_
    refine ok_setState (hMt τ hF).2.2.2.1 hm hm2 (by omega) ?_
    rw [mdec_mc hm hs.w]
    show V _ _ _ _ _ _ _
    refine v_iload dX12_leastOf_255 rfl ?_
    refine v_ireturn dX12_leastOf_257 rfl (rfl) ?_
    exact hQ _ _ (lzf_sc hF hS) hl
  have main : ∀ n, (∀ (S : List Nat) (B : Nat → List Nat) (dd : Nat → Nat) (c e : Nat) τ x x6 x7 x8 x9, (80001 - S.length) * 102 + (101 - e) < n → e ≤ 100 → e ≤ c + 1 → c + 1 ≤ 101 * S.length + e → LzF σ τ → LsI τ (8 * R.2.2.2.1 * R.2.2.2.1) S B dd c (c + 99 - e) (8 * R.2.2.2.1 * R.2.2.2.1) → LG R s S (lb S B dd) dd x R.2.2.2.2.length → (∀ y ∈ S, (mdec R.2.2.2.1 y).1 ≠ v) →
        V mX12_leastOf (D + 4) 84 [some (.ref 44), some (.int (nI v)), some (.int (nI (mc R.2.2.2.1 s))), some (.int (nI e)), some (.int (-1)), some (.int (nI c)), x6, x7, x8, x9] [] τ Q) ∧
      (∀ (S : List Nat) (B : Nat → List Nat) (dd : Nat → Nat) (c e : Nat) τ x x6 x7 x8 x9, (80001 - S.length) * 102 + (100 - e) < n → e ≤ 100 → e ≤ c → c ≤ 101 * S.length + e → LzF σ τ → LsI τ (8 * R.2.2.2.1 * R.2.2.2.1) S B dd c (c + 98 - e) (8 * R.2.2.2.1 * R.2.2.2.1) → LG R s S (lb S B dd) dd x R.2.2.2.2.length → (∀ y ∈ S, (mdec R.2.2.2.1 y).1 ≠ v) →
        V mX12_leastOf (D + 4) 69 [some (.ref 44), some (.int (nI v)), some (.int (nI (mc R.2.2.2.1 s))), some (.int (nI e)), some (.int (-1)), some (.int (nI c)), x6, x7, x8, x9] [] τ Q) := by
    intro n
    induction n with
    | zero => exact ⟨fun S B dd c e τ x x6 x7 x8 x9 h => absurd h (by omega), fun S B dd c e τ x x6 x7 x8 x9 h => absurd h (by omega)⟩
    | succ n ihn =>
      obtain ⟨ih84, ih69⟩ := ihn
      have p84 : ∀ (S : List Nat) (B : Nat → List Nat) (dd : Nat → Nat) (c e : Nat) τ x x6 x7 x8 x9, (80001 - S.length) * 102 + (101 - e) < n + 1 → e ≤ 100 → e ≤ c + 1 → c + 1 ≤ 101 * S.length + e → LzF σ τ → LsI τ (8 * R.2.2.2.1 * R.2.2.2.1) S B dd c (c + 99 - e) (8 * R.2.2.2.1 * R.2.2.2.1) → LG R s S (lb S B dd) dd x R.2.2.2.2.length → (∀ y ∈ S, (mdec R.2.2.2.1 y).1 ≠ v) →
          V mX12_leastOf (D + 4) 84 [some (.ref 44), some (.int (nI v)), some (.int (nI (mc R.2.2.2.1 s))), some (.int (nI e)), some (.int (-1)), some (.int (nI c)), x6, x7, x8, x9] [] τ Q := by
        intro S B dd c e τ x0 x6 x7 x8 x9 hn he hec hc hF hL hG hno
        have hSl : S.length ≤ 8 * R.2.2.2.1 * R.2.2.2.1 := nd_len _ S hL.1.1 (fun y hy => (hL.1.2 y hy).1)
        have hcm : c % 100 < 100 := Nat.mod_lt _ (by omega)
        obtain ⟨r1, r2, r3, r4⟩ := hL.2.1 _ hcm
        cases hB : B (c % 100) with
        | nil =>
          rw [hB] at r1
          have hnx := ih69 S B dd (c + 1) e τ x0 x6 x7 x8 x9 (by omega) he (by omega) (by omega) hF (by have := hL.next hB; rw [show c + 1 + 98 - e = c + 99 - e by omega]; exact this) hG hno
          have r1' : τ.1 59 (c % 100) = -1 := r1
          refine v_aload_n dX12_leastOf_84 rfl ?_
          refine v_getR (q := 59) dX12_leastOf_85 fl_RX12_62 rfl rfl ?_
          refine v_iload dX12_leastOf_88 rfl ?_
          refine v_bipush dX12_leastOf_90 ?_
          refine v_irem dX12_leastOf_92 (by decide) ?_
          rw [show (100 : Int32) = nI 100 from rfl, pk_rem (by omega) (by omega) (by omega)]
          refine v_iaload dX12_leastOf_93 rfl (by exact vp_in_nI (by omega) (by omega)) ?_
          rw [nI_clamp (by omega), r1']
          refine v_iconst dX12_leastOf_94 ?_
          refine v_icmp_eq dX12_leastOf_95 (fun zc95 => ?_) (fun zc95 => ?_)
          · refine v_iinc dX12_leastOf_244 rfl (Nat.le_of_ble_eq_true rfl) rfl ?_
            refine v_goto dX12_leastOf_247 ?_
            rw [nI_1]
            exact hnx
          · exact absurd rfl zc95
        | cons x b =>
          rw [hB] at r1 r2 r3 r4
          obtain ⟨p1, p2, p3, p4, p5, p6⟩ := r4 x (List.mem_cons_self ..)
          have hdx : dd x = c := by omega
          have hlbx : lb S B dd x := Or.inr (by rw [p4, hB]; exact List.mem_cons_self ..)
          have h53 := (hL.2.2 x p1 p3).1 hlbx
          have hBx : B (dd x % 100) = [] ++ x :: b := by rw [p4]; exact hB
          have r1' : τ.1 59 (c % 100) = nI x := r1
          -- the end, found
          have found : ∀ τ x6 x7 x8 x9, LzF σ τ → LeastN (leP R s v) c → V mX12_leastOf (D + 4) 84 [some (.ref 44), some (.int (nI v)), some (.int (nI (mc R.2.2.2.1 s))), some (.int (nI 0)), some (.int (nI c)), some (.int (nI c)), x6, x7, x8, x9] [] τ Q := by
            intro τ x6 x7 x8 x9 hF hl
            have hfn := fun y3 y5 y6 y7 y8 y9 => fin τ c y3 y5 y6 y7 y8 y9 hF hl
            rw [← iz_nI] at hfn
            have h69 : V mX12_leastOf (D + 4) 69 [some (.ref 44), some (.int (nI v)), some (.int (nI (mc R.2.2.2.1 s))), some (.int (nI 0)), some (.int (nI c)), some (.int (nI c + 1)), x6, x7, x8, x9] [] τ Q := by
              refine v_iload_n dX12_leastOf_69 rfl ?_
              refine v_bipush dX12_leastOf_70 ?_
              refine v_icmp_ge dX12_leastOf_72 (fun zc72 => ?_) (fun zc72 => ?_)
              · exact absurd zc72 (by decide)
              · refine v_iload dX12_leastOf_75 rfl ?_
                refine v_iconst dX12_leastOf_77 ?_
                refine v_icmp_ne dX12_leastOf_78 (fun zc78 => ?_) (fun zc78 => ?_)
                · exact hfn _ _ _ _ _ _
                · exact absurd zc78 (nI_nm1 (by omega))
            refine v_aload_n dX12_leastOf_84 rfl ?_
            refine v_getR (q := 59) dX12_leastOf_85 fl_RX12_62 rfl rfl ?_
            refine v_iload dX12_leastOf_88 rfl ?_
            refine v_bipush dX12_leastOf_90 ?_
            refine v_irem dX12_leastOf_92 (by decide) ?_
            rw [show (100 : Int32) = nI 100 from rfl, pk_rem (by omega) (by omega) (by omega)]
            refine v_iaload dX12_leastOf_93 rfl (by exact vp_in_nI (by omega) (by omega)) ?_
            refine v_iconst dX12_leastOf_94 ?_
            refine v_icmp_eq dX12_leastOf_95 (fun zc95 => ?_) (fun zc95 => ?_)
            · refine v_iinc dX12_leastOf_244 rfl (Nat.le_of_ble_eq_true rfl) rfl ?_
              refine v_goto dX12_leastOf_247 ?_
              exact h69
            · refine v_iload dX12_leastOf_98 rfl ?_
              refine v_iconst dX12_leastOf_100 ?_
              refine v_icmp_ne dX12_leastOf_101 (fun zc101 => ?_) (fun zc101 => ?_)
              · refine v_iinc dX12_leastOf_244 rfl (Nat.le_of_ble_eq_true rfl) rfl ?_
                refine v_goto dX12_leastOf_247 ?_
                exact h69
              · exact absurd zc101 (nI_nm1 (by omega))
          -- the keys
          have keys : ∀ j k (B : Nat → List Nat) (dd : Nat → Nat) τ x8 x9, k + j = R.2.2.2.2.length → LzF σ τ → LsI τ (8 * R.2.2.2.1 * R.2.2.2.1) (x :: S) B dd c (c + 99) (8 * R.2.2.2.1 * R.2.2.2.1) → LG R s (x :: S) (lb (x :: S) B dd) dd x k → dd x = c →
              V mX12_leastOf (D + 4) 145 [some (.ref 44), some (.int (nI v)), some (.int (nI (mc R.2.2.2.1 s))), some (.int (nI 0)), some (.int (if (mdec R.2.2.2.1 x).1 = v then nI c else -1)), some (.int (nI c)), some (.int (nI x)), some (.int (nI k)), x8, x9] [] τ Q := by
            intro j
            induction j with
            | zero =>
              intro k B dd τ x8 x9 hk hF hL hG hdx
              obtain rfl : k = R.2.2.2.2.length := by omega
              have hMt' := hMt τ hF
              have h44 : τ.1 44 4 = nI R.2.2.2.2.length := by rw [hF.1 _ _ (by omega)]; exact h4
              have h84 : V mX12_leastOf (D + 4) 84 [some (.ref 44), some (.int (nI v)), some (.int (nI (mc R.2.2.2.1 s))), some (.int (nI 0)), some (.int (if (mdec R.2.2.2.1 x).1 = v then nI c else -1)), some (.int (nI c)), some (.int (nI x)), some (.int (nI R.2.2.2.2.length)), x8, x9] [] τ Q := by
                by_cases hxv : (mdec R.2.2.2.1 x).1 = v
                · rw [if_pos hxv]
                  refine found τ _ _ _ _ hF (Or.inr ⟨c, rfl, ?_, fun n' hn' => ?_⟩)
                  · obtain ⟨ks, k1, k2, k3⟩ := hG.1 x (Or.inl (List.mem_cons_self ..))
                    refine ⟨ks, k1, ?_, by rw [k3, hdx]⟩
                    rw [← k2, mdec_mc hm (goP_w hv ks s k1 hs.w)] at hxv
                    exact hxv
                  · obtain ⟨ks, k1, k2, k3⟩ := hn'
                    rw [← k3]
                    refine lg_min hv hm hs.w hG (fun y hy => ?_) (fun y hy hyv => ?_) ks k1 k2
                    · rcases hy with hy | hy
                      · exact Or.inl hy
                      · exact Or.inr ((hL.2.1 _ (Nat.mod_lt _ (by omega))).2.2.2 y hy).2.2.2.2.1
                    · rcases List.mem_cons.mp hy with e1 | h1
                      · rw [e1, hdx]; exact Nat.le_refl _
                      · exact absurd hyv (hno y h1)
                · rw [if_neg hxv]
                  refine ih84 (x :: S) B dd c 0 τ x _ _ _ _ (by rw [List.length_cons]; omega) (by omega) (by omega) (by rw [List.length_cons]; omega) hF hL hG (fun y hy => ?_)
                  rcases List.mem_cons.mp hy with e1 | h1
                  · rw [e1]; exact hxv
                  · exact hno y h1
              refine v_iload dX12_leastOf_145 rfl ?_
              refine v_aload_n dX12_leastOf_147 rfl ?_
              refine v_getI dX12_leastOf_148 fl_RX12_182 rfl ?_
              rw [h44]
              refine v_icmp_ge dX12_leastOf_151 (fun zc151 => ?_) (fun zc151 => ?_)
              · refine v_goto dX12_leastOf_241 ?_
                exact h84
              · exact absurd (nI_le (Nat.le_refl _) (by omega)) zc151
            | succ j ihk =>
              intro k B dd τ x8 x9 hk hF hL hG hdx
              have hkl : k < R.2.2.2.2.length := by omega
              have hMt' := hMt τ hF
              have h44 : τ.1 44 4 = nI R.2.2.2.2.length := by rw [hF.1 _ _ (by omega)]; exact h4
              have hky : R.2.2.2.2[k]? = some (R.2.2.2.2.getD k (0, 0, 0, 0)) := by rw [List.getD, List.getElem?_eq_getElem hkl]; rfl
              have hkc := kc_b hv hkl
              have hX := tO_lt hv hm p1 hkl
              have hcell : τ.1 45 (4 * k + 1) = nI (kc R k) := (hMt'.cells hky (by rw [h44]; exact nI_lt hkl (by omega))).2.1
              have hL0 : LsI (putS τ (nx R (mdec R.2.2.2.1 x) k)) (8 * R.2.2.2.1 * R.2.2.2.1) (x :: S) B dd c (c + 99) (8 * R.2.2.2.1 * R.2.2.2.1) := hL.kept (fun a b h => putS_o (by omega))
              have hF0 : LzF σ (putS τ (nx R (mdec R.2.2.2.1 x) k)) := hF.putS
              -- in, with its new cost
              have t220 : ∀ (B2 : Nat → List Nat) τ, LzF σ τ → LsI τ (8 * R.2.2.2.1 * R.2.2.2.1) (x :: S) B2 dd c (c + 99) (tO R x k) → (∀ y, y ≠ tO R x k → (lb (x :: S) B2 dd y ↔ lb (x :: S) B dd y)) → tO R x k ∉ x :: S → (lb (x :: S) B dd (tO R x k) → c + kc R k ≤ dd (tO R x k)) →
                  V mX12_leastOf (D + 4) 220 [some (.ref 44), some (.int (nI v)), some (.int (nI (mc R.2.2.2.1 s))), some (.int (nI 0)), some (.int (if (mdec R.2.2.2.1 x).1 = v then nI c else -1)), some (.int (nI c)), some (.int (nI x)), some (.int (nI k)), some (.int (nI (tO R x k))), some (.int (nI (c + kc R k)))] [] τ Q := by
                intro B2 τ hF hL2 hlb hXS hle
                have hr0 : (c + kc R k) % 100 < 100 := Nat.mod_lt _ (by omega)
                obtain ⟨g1, g2, g3, g4⟩ := hL2.2.1 _ hr0
                have hxX : x ≠ tO R x k := fun e => hXS (by rw [← e]; exact List.mem_cons_self ..)
                refine v_aload_n dX12_leastOf_220 rfl ?_
                refine v_getR (q := 53) dX12_leastOf_221 fl_RX12_44 rfl rfl ?_
                refine v_iload dX12_leastOf_224 rfl ?_
                refine v_iload dX12_leastOf_226 rfl ?_
                refine v_iastore dX12_leastOf_228 rfl (by exact vp_in_nI (by omega) (by omega)) ?_
                rw [nI_clamp (by omega)]
                refine v_aload_n dX12_leastOf_229 rfl ?_
                refine v_iload dX12_leastOf_230 rfl ?_
                refine v_callV1 dX12_leastOf_232 mv_RX12_249 rfl rfl (Nat.le_of_ble_eq_true rfl) ?_
                refine ok_putIn (d := c + kc R k) (l := B2 ((c + kc R k) % 100)) (by omega) setI_same (by omega) (by rw [setI_ne (by omega)]; exact g1) (seg_kept _ _ _ (fun y _ => ⟨setI_ne (by omega), setI_ne (by omega)⟩) g2) g3 (fun h1 => (g4 _ h1).2.2.1 rfl) (fun y hy => by have := (g4 y hy).1; omega) (fun τ2 f1 f2 f3 f4 => ?_)
                have hF2 : LzF σ τ2 := ⟨fun a b hh => by rw [f1 a b (by omega) (by omega) (by omega), setI_ne (by omega)]; exact hF.1 a b hh, by rw [f2]; exact hF.2⟩
                have hL3 := hL2.put (d := c + kc R k) (τ' := τ2) hX (by omega) (by omega) (fun p q e1 e2 e3 e4 => by rw [f1 p q e1 e2 e3, setI_ne e4]) (by rw [f1 _ _ (by omega) (by omega) (by omega), setI_same]) f3 f4
                have hG3 := LG.relax (lp2 := lb (x :: S) (upB B2 ((c + kc R k) % 100) (tO R x k :: B2 ((c + kc R k) % 100))) (upD dd (tO R x k) (c + kc R k))) (d := c + kc R k) hv hm hs.w hG hkl (List.mem_cons_self ..) (Or.inl (List.mem_cons_self ..)) (by omega) hXS hle (fun y => by
                  rw [lb_put]
                  by_cases e : y = tO R x k
                  · exact ⟨fun _ => Or.inr e, fun _ => Or.inr e⟩
                  · rw [hlb y e])
                have hnx := fun y8 y9 => ihk (k + 1) _ _ τ2 y8 y9 (by omega) hF2 hL3 hG3 (by rw [upD_n hxX]; exact hdx)
                show V _ _ _ _ _ _ _
                refine v_iinc dX12_leastOf_235 rfl (Nat.le_of_ble_eq_true rfl) rfl ?_
                refine v_goto dX12_leastOf_238 ?_
                rw [nI_1]
                exact hnx _ _
              have sk : lb (x :: S) B dd (tO R x k) → dd (tO R x k) ≤ c + kc R k → ∀ y8 y9, V mX12_leastOf (D + 4) 235 [some (.ref 44), some (.int (nI v)), some (.int (nI (mc R.2.2.2.1 s))), some (.int (nI 0)), some (.int (if (mdec R.2.2.2.1 x).1 = v then nI c else -1)), some (.int (nI c)), some (.int (nI x)), some (.int (nI k)), y8, y9] [] (putS τ (nx R (mdec R.2.2.2.1 x) k)) Q := by
                intro hl hle y8 y9
                have hnx := ihk (k + 1) B dd _ y8 y9 (by omega) hF0 hL0 (hG.skip hl (by omega)) hdx
                refine v_iinc dX12_leastOf_235 rfl (Nat.le_of_ble_eq_true rfl) rfl ?_
                refine v_goto dX12_leastOf_238 ?_
                rw [nI_1]
                exact hnx
              by_cases hl : lb (x :: S) B dd (tO R x k)
              · have hfar := (hL0.2.2 _ hX (by omega)).1 hl
                have hdl : dd (tO R x k) ≤ c + 99 := by
                  rcases hl with h1 | h1
                  · have := (hL.1.2 _ h1).2.1; omega
                  · exact ((hL.2.1 _ (Nat.mod_lt _ (by omega))).2.2.2 _ h1).2.2.2.2.2
                refine v_iload dX12_leastOf_145 rfl ?_
                refine v_aload_n dX12_leastOf_147 rfl ?_
                refine v_getI dX12_leastOf_148 fl_RX12_182 rfl ?_
                rw [h44]
                refine v_icmp_ge dX12_leastOf_151 (fun zc151 => ?_) (fun zc151 => ?_)
                · exact absurd zc151 (nI_ge (by omega) (by omega))
                · refine v_aload_n dX12_leastOf_154 rfl ?_
                  refine v_iload dX12_leastOf_155 rfl ?_
                  refine v_iload dX12_leastOf_157 rfl ?_
                  refine v_callV2 dX12_leastOf_159 mv_RX12_239 rfl rfl (Nat.le_of_ble_eq_true rfl) ?_
                  refine ok_behind hMt' (by decide) hv hky p1 ?_
                  rw [show mc R.2.2.2.1 (rk_str R (mdec R.2.2.2.1 x) (R.2.2.2.2.getD k (0, 0, 0, 0))) = tO R x k from rfl, show rk_str R (mdec R.2.2.2.1 x) (R.2.2.2.2.getD k (0, 0, 0, 0)) = nx R (mdec R.2.2.2.1 x) k from rfl]
                  show V _ _ _ _ (_ :: _) _ _
                  refine v_istore dX12_leastOf_162 (Nat.le_of_ble_eq_true rfl) rfl ?_
                  refine v_iload dX12_leastOf_164 rfl ?_
                  refine v_aload_n dX12_leastOf_166 rfl ?_
                  refine v_getR (q := 45) dX12_leastOf_167 fl_RX12_13 rfl rfl ?_
                  refine v_iconst dX12_leastOf_170 ?_
                  refine v_iload dX12_leastOf_171 rfl ?_
                  refine v_imul dX12_leastOf_173 ?_
                  rw [show (4 : Int32) = nI 4 from rfl, pk_mul]
                  refine v_iconst dX12_leastOf_174 ?_
                  refine v_iadd dX12_leastOf_175 ?_
                  rw [nI_1]
                  refine v_iaload dX12_leastOf_176 rfl (by exact vp_in_nI (by omega) (by omega)) ?_
                  rw [nI_clamp (by omega), putS_o (by omega), hcell]
                  refine v_iadd dX12_leastOf_177 ?_
                  rw [nI_add]
                  refine v_istore dX12_leastOf_178 (Nat.le_of_ble_eq_true rfl) rfl ?_
                  refine v_aload_n dX12_leastOf_180 rfl ?_
                  refine v_getR (q := 53) dX12_leastOf_181 fl_RX12_44 rfl rfl ?_
                  refine v_iload dX12_leastOf_184 rfl ?_
                  refine v_iaload dX12_leastOf_186 rfl (by exact vp_in_nI (by omega) (by omega)) ?_
                  rw [nI_clamp (by omega), hfar]
                  refine v_iconst dX12_leastOf_187 ?_
                  refine v_icmp_eq dX12_leastOf_188 (fun zc188 => ?_) (fun zc188 => ?_)
                  · exact absurd zc188 (nI_nm1 (by omega))
                  · refine v_iload dX12_leastOf_191 rfl ?_
                    refine v_aload_n dX12_leastOf_193 rfl ?_
                    refine v_getR (q := 53) dX12_leastOf_194 fl_RX12_44 rfl rfl ?_
                    refine v_iload dX12_leastOf_197 rfl ?_
                    refine v_iaload dX12_leastOf_199 rfl (by exact vp_in_nI (by omega) (by omega)) ?_
                    rw [nI_clamp (by omega), hfar]
                    refine v_icmp_ge dX12_leastOf_200 (fun zc200 => ?_) (fun zc200 => ?_)
                    · rw [nI_leI (by omega) (by omega)] at zc200
                      exact sk hl zc200 _ _
                    · rw [nI_leI (by omega) (by omega)] at zc200
                      have hXS : tO R x k ∉ x :: S := fun h1 => by have := (hL.1.2 _ h1).2.1; omega
                      have hXB := hl.resolve_left hXS
                      obtain ⟨a, b2, hab⟩ := List.append_of_mem hXB
                      obtain ⟨g1, g2, g3, g4⟩ := hL0.2.1 _ (Nat.mod_lt (dd (tO R x k)) (show 0 < 100 by omega))
                      rw [hab] at g1 g2 g3 g4
                      refine v_aload_n dX12_leastOf_203 rfl ?_
                      refine v_getR (q := 53) dX12_leastOf_204 fl_RX12_44 rfl rfl ?_
                      refine v_iload dX12_leastOf_207 rfl ?_
                      refine v_iaload dX12_leastOf_209 rfl (by exact vp_in_nI (by omega) (by omega)) ?_
                      rw [nI_clamp (by omega), hfar]
                      refine v_iconst dX12_leastOf_210 ?_
                      refine v_icmp_eq dX12_leastOf_211 (fun zc211 => ?_) (fun zc211 => ?_)
                      · exact absurd zc211 (nI_nm1 (by omega))
                      · refine v_aload_n dX12_leastOf_214 rfl ?_
                        refine v_iload dX12_leastOf_215 rfl ?_
                        refine v_callV1 dX12_leastOf_217 mv_RX12_252 rfl rfl (Nat.le_of_ble_eq_true rfl) ?_
                        refine ok_takeOut (a := a) (b := b2) hfar (by omega) g1 g2 g3 (fun y hy => by have := (g4 y hy).1; omega) (fun τ2 f1 f2 f3 f4 => ?_)
                        have hF2 : LzF σ τ2 := ⟨fun p q hh => by rw [f1 p q (by omega) (by omega) (by omega)]; exact hF0.1 p q hh, by rw [f2]; exact hF0.2⟩
                        have hL2 := hL0.out hab f1 f3 f4
                        show V _ _ _ _ _ _ _
                        exact t220 _ τ2 hF2 hL2 (fun y hy => lb_out hab hy) hXS (fun _ => by omega)
              · have hfar := (hL0.2.2 _ hX (by omega)).2 hl
                have hXS : tO R x k ∉ x :: S := fun h1 => hl (Or.inl h1)
                have hLX : LsI (putS τ (nx R (mdec R.2.2.2.1 x) k)) (8 * R.2.2.2.1 * R.2.2.2.1) (x :: S) B dd c (c + 99) (tO R x k) := by
                  refine ⟨⟨hL0.1.1, fun y hy => ⟨(hL0.1.2 y hy).1, (hL0.1.2 y hy).2.1, fun e => hXS (e ▸ hy)⟩⟩, fun r hr => ?_, fun y hy _ => hL0.2.2 y hy (by omega)⟩
                  obtain ⟨q1, q2, q3, q4⟩ := hL0.2.1 r hr
                  refine ⟨q1, q2, q3, fun y hy => ?_⟩
                  obtain ⟨u1, u2, u3, u4, u5, u6⟩ := q4 y hy
                  exact ⟨u1, u2, fun e => hl (Or.inr (by rw [← e, u4]; exact hy)), u4, u5, u6⟩
                refine v_iload dX12_leastOf_145 rfl ?_
                refine v_aload_n dX12_leastOf_147 rfl ?_
                refine v_getI dX12_leastOf_148 fl_RX12_182 rfl ?_
                rw [h44]
                refine v_icmp_ge dX12_leastOf_151 (fun zc151 => ?_) (fun zc151 => ?_)
                · exact absurd zc151 (nI_ge (by omega) (by omega))
                · refine v_aload_n dX12_leastOf_154 rfl ?_
                  refine v_iload dX12_leastOf_155 rfl ?_
                  refine v_iload dX12_leastOf_157 rfl ?_
                  refine v_callV2 dX12_leastOf_159 mv_RX12_239 rfl rfl (Nat.le_of_ble_eq_true rfl) ?_
                  refine ok_behind hMt' (by decide) hv hky p1 ?_
                  rw [show mc R.2.2.2.1 (rk_str R (mdec R.2.2.2.1 x) (R.2.2.2.2.getD k (0, 0, 0, 0))) = tO R x k from rfl, show rk_str R (mdec R.2.2.2.1 x) (R.2.2.2.2.getD k (0, 0, 0, 0)) = nx R (mdec R.2.2.2.1 x) k from rfl]
                  show V _ _ _ _ (_ :: _) _ _
                  refine v_istore dX12_leastOf_162 (Nat.le_of_ble_eq_true rfl) rfl ?_
                  refine v_iload dX12_leastOf_164 rfl ?_
                  refine v_aload_n dX12_leastOf_166 rfl ?_
                  refine v_getR (q := 45) dX12_leastOf_167 fl_RX12_13 rfl rfl ?_
                  refine v_iconst dX12_leastOf_170 ?_
                  refine v_iload dX12_leastOf_171 rfl ?_
                  refine v_imul dX12_leastOf_173 ?_
                  rw [show (4 : Int32) = nI 4 from rfl, pk_mul]
                  refine v_iconst dX12_leastOf_174 ?_
                  refine v_iadd dX12_leastOf_175 ?_
                  rw [nI_1]
                  refine v_iaload dX12_leastOf_176 rfl (by exact vp_in_nI (by omega) (by omega)) ?_
                  rw [nI_clamp (by omega), putS_o (by omega), hcell]
                  refine v_iadd dX12_leastOf_177 ?_
                  rw [nI_add]
                  refine v_istore dX12_leastOf_178 (Nat.le_of_ble_eq_true rfl) rfl ?_
                  refine v_aload_n dX12_leastOf_180 rfl ?_
                  refine v_getR (q := 53) dX12_leastOf_181 fl_RX12_44 rfl rfl ?_
                  refine v_iload dX12_leastOf_184 rfl ?_
                  refine v_iaload dX12_leastOf_186 rfl (by exact vp_in_nI (by omega) (by omega)) ?_
                  rw [nI_clamp (by omega), hfar]
                  refine v_iconst dX12_leastOf_187 ?_
                  refine v_icmp_eq dX12_leastOf_188 (fun zc188 => ?_) (fun zc188 => ?_)
                  · refine v_aload_n dX12_leastOf_203 rfl ?_
                    refine v_getR (q := 53) dX12_leastOf_204 fl_RX12_44 rfl rfl ?_
                    refine v_iload dX12_leastOf_207 rfl ?_
                    refine v_iaload dX12_leastOf_209 rfl (by exact vp_in_nI (by omega) (by omega)) ?_
                    rw [nI_clamp (by omega), hfar]
                    refine v_iconst dX12_leastOf_210 ?_
                    refine v_icmp_eq dX12_leastOf_211 (fun zc211 => ?_) (fun zc211 => ?_)
                    · exact t220 B _ hF0 hLX (fun y _ => Iff.rfl) hXS (fun h1 => absurd h1 hl)
                    · exact absurd rfl zc211
                  · exact absurd rfl zc188
          -- settled
          have t140 : ∀ τ1 x7 x8 x9, LzF σ τ1 → LsI τ1 (8 * R.2.2.2.1 * R.2.2.2.1) (x :: S) (upB B (dd x % 100) ([] ++ b)) dd c (c + 99) (8 * R.2.2.2.1 * R.2.2.2.1) → V mX12_leastOf (D + 4) 140 [some (.ref 44), some (.int (nI v)), some (.int (nI (mc R.2.2.2.1 s))), some (.int (nI 0)), some (.int (-1)), some (.int (nI c)), some (.int (nI x)), x7, x8, x9] [.int (if (mdec R.2.2.2.1 x).1 = v then nI c else -1)] τ1 Q := by
            intro τ1 x7 x8 x9 hF1 hL1
            have hG1 : LG R s (x :: S) (lb (x :: S) (upB B (dd x % 100) ([] ++ b)) dd) dd x 0 := hG.new.congr (fun y => by
              by_cases e : y = x
              · rw [e]
                exact ⟨fun _ => Or.inl (List.mem_cons_self ..), fun _ => hlbx⟩
              · have h1 := lb_out (S := S) hBx e
                rw [← h1]
                unfold lb
                rw [List.mem_cons]
                exact ⟨fun h2 => h2.elim (fun q => Or.inl (Or.inr q)) Or.inr, fun h2 => h2.elim (fun q => Or.inl (q.resolve_left e)) Or.inr⟩)
            have hk := fun y8 y9 => keys R.2.2.2.2.length 0 _ dd τ1 y8 y9 (by omega) hF1 hL1 hG1 hdx
            refine v_istore dX12_leastOf_140 (Nat.le_of_ble_eq_true rfl) rfl ?_
            refine v_iconst dX12_leastOf_142 ?_
            refine v_istore dX12_leastOf_143 (Nat.le_of_ble_eq_true rfl) rfl ?_
            exact hk _ _
          have hSx : S.length < 8 * R.2.2.2.1 * R.2.2.2.1 := by
            have := nd_len (8 * R.2.2.2.1 * R.2.2.2.1) (x :: S) (List.nodup_cons.mpr ⟨p2, hL.1.1⟩) (fun y hy => by
              rcases List.mem_cons.mp hy with e1 | h1
              · rw [e1]; exact p1
              · exact (hL.1.2 y h1).1)
            rw [List.length_cons] at this
            omega
          obtain ⟨sh1, -⟩ := mdec_w hm p1
          refine v_aload_n dX12_leastOf_84 rfl ?_
          refine v_getR (q := 59) dX12_leastOf_85 fl_RX12_62 rfl rfl ?_
          refine v_iload dX12_leastOf_88 rfl ?_
          refine v_bipush dX12_leastOf_90 ?_
          refine v_irem dX12_leastOf_92 (by decide) ?_
          rw [show (100 : Int32) = nI 100 from rfl, pk_rem (by omega) (by omega) (by omega)]
          refine v_iaload dX12_leastOf_93 rfl (by exact vp_in_nI (by omega) (by omega)) ?_
          rw [nI_clamp (by omega), r1']
          refine v_iconst dX12_leastOf_94 ?_
          refine v_icmp_eq dX12_leastOf_95 (fun zc95 => ?_) (fun zc95 => ?_)
          · exact absurd zc95 (nI_nm1 (by omega))
          · refine v_iload dX12_leastOf_98 rfl ?_
            refine v_iconst dX12_leastOf_100 ?_
            refine v_icmp_ne dX12_leastOf_101 (fun zc101 => ?_) (fun zc101 => ?_)
            · exact absurd rfl zc101
            · refine v_aload_n dX12_leastOf_104 rfl ?_
              refine v_getR (q := 59) dX12_leastOf_105 fl_RX12_62 rfl rfl ?_
              refine v_iload dX12_leastOf_108 rfl ?_
              refine v_bipush dX12_leastOf_110 ?_
              refine v_irem dX12_leastOf_112 (by decide) ?_
              rw [show (100 : Int32) = nI 100 from rfl, pk_rem (by omega) (by omega) (by omega)]
              refine v_iaload dX12_leastOf_113 rfl (by exact vp_in_nI (by omega) (by omega)) ?_
              rw [nI_clamp (by omega), r1']
              refine v_istore dX12_leastOf_114 (Nat.le_of_ble_eq_true rfl) rfl ?_
              refine v_aload_n dX12_leastOf_116 rfl ?_
              refine v_iload dX12_leastOf_117 rfl ?_
              refine v_callV1 dX12_leastOf_119 mv_RX12_252 rfl rfl (Nat.le_of_ble_eq_true rfl) ?_
              refine ok_takeOut (a := []) (b := b) h53 (by omega) (by rw [p4]; exact r1) r2 r3 (fun y hy => by have := (r4 y hy).1; omega) (fun τ1 f1 f2 f3 f4 => ?_)
              have hF1 : LzF σ τ1 := ⟨fun p q hh => by rw [f1 p q (by omega) (by omega) (by omega)]; exact hF.1 p q hh, by rw [f2]; exact hF.2⟩
              have hL1 := (((hL.out hBx f1 f3 f4).settle p1 hdx (by rw [f1 _ _ (by omega) (by omega) (by omega)]; exact h53)).up (h' := c + 99) (by omega))
              have h5 := fun y7 y8 y9 => t140 τ1 y7 y8 y9 hF1 hL1
              show V _ _ _ _ _ _ _
              refine v_iconst dX12_leastOf_122 ?_
              refine v_istore_n dX12_leastOf_123 (Nat.le_of_ble_eq_true rfl) rfl ?_
              refine v_aload_n dX12_leastOf_124 rfl ?_
              refine v_iload dX12_leastOf_125 rfl ?_
              refine v_callV1 dX12_leastOf_127 mv_RX12_236 rfl rfl (Nat.le_of_ble_eq_true rfl) ?_
              refine ok_mshownIn (hMt τ1 hF1).2.2.2.1 hm hm2 (by omega) ?_
              show V _ _ _ _ (_ :: _) _ _
              refine v_iload_n dX12_leastOf_130 rfl ?_
              refine v_icmp_ne dX12_leastOf_131 (fun zc131 => ?_) (fun zc131 => ?_)
              · rw [nI_eq (by omega) (by omega)] at zc131
                refine v_iconst dX12_leastOf_139 ?_
                first | (rw [if_neg zc131] at h5; exact h5 _ _ _) | (rw [if_pos zc131] at h5; exact h5 _ _ _)
              · rw [nI_eq (by omega) (by omega)] at zc131
                refine v_iload dX12_leastOf_134 rfl ?_
                refine v_goto dX12_leastOf_136 ?_
                first | (rw [if_neg zc131] at h5; exact h5 _ _ _) | (rw [if_pos zc131] at h5; exact h5 _ _ _)
      refine ⟨p84, ?_⟩
      intro S B dd c e τ x0 x6 x7 x8 x9 hn he hec hc hF hL hG hno
      have hSl : S.length ≤ 8 * R.2.2.2.1 * R.2.2.2.1 := nd_len _ S hL.1.1 (fun y hy => (hL.1.2 y hy).1)
      rcases Nat.lt_or_ge e 100 with h100 | h100
      · have h84 := p84 S B dd c (e + 1) τ x0 x6 x7 x8 x9 (by omega) (by omega) (by omega) (by omega) hF (by rw [show c + 99 - (e + 1) = c + 98 - e by omega]; exact hL) hG hno
        refine v_iload_n dX12_leastOf_69 rfl ?_
        refine v_bipush dX12_leastOf_70 ?_
        refine v_icmp_ge dX12_leastOf_72 (fun zc72 => ?_) (fun zc72 => ?_)
        · exact absurd zc72 (nI_ge (b := 100) (by omega) (by omega))
        · refine v_iload dX12_leastOf_75 rfl ?_
          refine v_iconst dX12_leastOf_77 ?_
          refine v_icmp_ne dX12_leastOf_78 (fun zc78 => ?_) (fun zc78 => ?_)
          · exact absurd rfl zc78
          · refine v_iinc dX12_leastOf_81 rfl (Nat.le_of_ble_eq_true rfl) rfl ?_
            rw [nI_1]
            exact h84
      · obtain rfl : e = 100 := by omega
        have hfn := fun y3 y5 y6 y7 y8 y9 => fin τ (-1) y3 y5 y6 y7 y8 y9 hF (Or.inl ⟨rfl, fun n' hn' => by
          obtain ⟨ks, k1, k2, k3⟩ := hn'
          have := lg_min (C := cstP R ks + 1) hv hm hs.w hG (fun y hy => by
            rcases hy with hy | hy
            · exact Or.inl hy
            · obtain ⟨u1, u2, u3, u4, u5, u6⟩ := (hL.2.1 _ (Nat.mod_lt (dd y) (show 0 < 100 by omega))).2.2.2 y hy
              omega) (fun y hy hyv => absurd hyv (hno y hy)) ks k1 k2
          omega⟩)
        refine v_iload_n dX12_leastOf_69 rfl ?_
        refine v_bipush dX12_leastOf_70 ?_
        refine v_icmp_ge dX12_leastOf_72 (fun zc72 => ?_) (fun zc72 => ?_)
        · exact hfn _ _ _ _ _ _
        · exact absurd (show (100 : Int32) ≤ nI 100 by decide) zc72
  -- the loops ahead
  have hsz : ∀ c x, (fillI (fillI σ 53 (8 * R.2.2.2.1 * R.2.2.2.1) (-1)) 59 c x).1 44 3 = nI R.2.2.2.1 := fun c x => by rw [fillI_o (by omega), fillI_o (by omega)]; exact hM.2.2.2.1
  have fill2 : ∀ j c, c + j = 100 → ∀ x4 x5 x6 x7 x8 x9, V mX12_leastOf (D + 4) 30 [some (.ref 44), some (.int (nI v)), some (.int (nI (mc R.2.2.2.1 s))), some (.int (nI c)), x4, x5, x6, x7, x8, x9] [] (fillI (fillI σ 53 (8 * R.2.2.2.1 * R.2.2.2.1) (-1)) 59 c (-1)) Q := by
    intro j
    induction j with
    | zero =>
      intro c hc x4 x5 x6 x7 x8 x9
      obtain rfl : c = 100 := by omega
      have hF0 : LzF σ (fillI (fillI σ 53 (8 * R.2.2.2.1 * R.2.2.2.1) (-1)) 59 100 (-1)) := ⟨fun a b hh => by rw [fillI_o (by omega), fillI_o (by omega)], rfl⟩
      have hL0 : LsI (fillI (fillI σ 53 (8 * R.2.2.2.1 * R.2.2.2.1) (-1)) 59 100 (-1)) (8 * R.2.2.2.1 * R.2.2.2.1) [] (fun _ => []) (fun _ => 0) 0 98 (mc R.2.2.2.1 s) := by
        refine ⟨⟨List.nodup_nil, fun y hy => absurd hy List.not_mem_nil⟩, fun r hr => ⟨by rw [fillI_i hr]; rfl, trivial, List.nodup_nil, fun y hy => absurd hy List.not_mem_nil⟩, fun y hy _ => ⟨fun hh => ?_, fun _ => by rw [fillI_o (by omega), fillI_i hy]⟩⟩
        rcases hh with hh | hh
        · exact absurd hh List.not_mem_nil
        · exact absurd hh List.not_mem_nil
      refine v_iload_n dX12_leastOf_30 rfl ?_
      refine v_bipush dX12_leastOf_31 ?_
      refine v_icmp_ge dX12_leastOf_33 (fun zc33 => ?_) (fun zc33 => ?_)
      · refine v_aload_n dX12_leastOf_49 rfl ?_
        refine v_getR (q := 53) dX12_leastOf_50 fl_RX12_44 rfl rfl ?_
        refine v_iload_n dX12_leastOf_53 rfl ?_
        refine v_iconst dX12_leastOf_54 ?_
        refine v_iastore dX12_leastOf_55 rfl (by exact vp_in_nI (by omega) (by omega)) ?_
        rw [nI_clamp (by omega)]
        refine v_aload_n dX12_leastOf_56 rfl ?_
        refine v_iload_n dX12_leastOf_57 rfl ?_
        refine v_callV1 dX12_leastOf_58 mv_RX12_249 rfl rfl (Nat.le_of_ble_eq_true rfl) ?_
        refine ok_putIn (d := 0) (l := []) (by omega) setI_same (by omega) (by rw [setI_ne (by omega), fillI_i (by omega)]; rfl) trivial List.nodup_nil List.not_mem_nil (fun y hy => absurd hy List.not_mem_nil) (fun τ2 f1 f2 f3 f4 => ?_)
        have hF2 : LzF σ τ2 := ⟨fun a b hh => by rw [f1 a b (by omega) (by omega) (by omega), setI_ne (by omega)]; exact hF0.1 a b hh, by rw [f2]; exact hF0.2⟩
        have hL2 := hL0.put (d := 0) (τ' := τ2) hnow (by omega) (by omega) (fun p q e1 e2 e3 e4 => by rw [f1 p q e1 e2 e3, setI_ne e4]) (by rw [f1 _ _ (by omega) (by omega) (by omega), setI_same]; rfl) f3 f4
        show V _ _ _ _ _ _ _
        refine v_iconst dX12_leastOf_61 ?_
        refine v_istore_n dX12_leastOf_62 (Nat.le_of_ble_eq_true rfl) rfl ?_
        refine v_iconst dX12_leastOf_63 ?_
        refine v_istore dX12_leastOf_64 (Nat.le_of_ble_eq_true rfl) rfl ?_
        refine v_iconst dX12_leastOf_66 ?_
        refine v_istore dX12_leastOf_67 (Nat.le_of_ble_eq_true rfl) rfl ?_
        refine (main 100000000).2 [] _ _ 0 0 τ2 0 _ _ _ _ (by rw [List.length_nil]; omega) (by omega) (by omega) (by omega) hF2 hL2 ⟨fun y hy => ?_, fun y hy => absurd hy List.not_mem_nil, lb_put.mpr (Or.inr rfl), upD_s⟩ (fun y hy => absurd hy List.not_mem_nil)
        rcases lb_put.mp hy with hh | hh
        · rcases hh with hh | hh
          · exact absurd hh List.not_mem_nil
          · exact absurd hh List.not_mem_nil
        · exact ⟨[], fun k hk => absurd hk List.not_mem_nil, hh.symm, by rw [hh, upD_s]; rfl⟩
      · exact absurd (show (100 : Int32) ≤ nI 100 by decide) zc33
    | succ j ih =>
      intro c hc x4 x5 x6 x7 x8 x9
      refine v_iload_n dX12_leastOf_30 rfl ?_
      refine v_bipush dX12_leastOf_31 ?_
      refine v_icmp_ge dX12_leastOf_33 (fun zc33 => ?_) (fun zc33 => ?_)
      · exact absurd zc33 (nI_ge (b := 100) (by omega) (by omega))
      · refine v_aload_n dX12_leastOf_36 rfl ?_
        refine v_getR (q := 59) dX12_leastOf_37 fl_RX12_62 rfl rfl ?_
        refine v_iload_n dX12_leastOf_40 rfl ?_
        refine v_iconst dX12_leastOf_41 ?_
        refine v_iastore dX12_leastOf_42 rfl (by exact vp_in_nI (by omega) (by omega)) ?_
        rw [nI_clamp (by omega), fillI_s]
        refine v_iinc dX12_leastOf_43 rfl (Nat.le_of_ble_eq_true rfl) rfl ?_
        refine v_goto dX12_leastOf_46 ?_
        rw [nI_1]
        exact ih (c + 1) (by omega) _ _ _ _ _ _
  have fill1 : ∀ j c, c + j = 8 * R.2.2.2.1 * R.2.2.2.1 → ∀ x4 x5 x6 x7 x8 x9, V mX12_leastOf (D + 4) 7 [some (.ref 44), some (.int (nI v)), some (.int (nI (mc R.2.2.2.1 s))), some (.int (nI c)), x4, x5, x6, x7, x8, x9] [] (fillI σ 53 c (-1)) Q := by
    intro j
    induction j with
    | zero =>
      intro c hc x4 x5 x6 x7 x8 x9
      obtain rfl : c = 8 * R.2.2.2.1 * R.2.2.2.1 := by omega
      have h30 := fill2 100 0 (by omega)
      rw [fillI_0] at h30
      refine v_iload_n dX12_leastOf_7 rfl ?_
      refine v_aload_n dX12_leastOf_8 rfl ?_
      refine v_callV0 dX12_leastOf_9 mv_RX12_233 rfl rfl (Nat.le_of_ble_eq_true rfl) ?_
      refine ok_states (m := R.2.2.2.1) (by rw [fillI_o (by omega)]; exact hM.2.2.2.1) ?_
      show V _ _ _ _ (_ :: _) _ _
      refine v_icmp_ge dX12_leastOf_12 (fun zc12 => ?_) (fun zc12 => ?_)
      · refine v_iconst dX12_leastOf_28 ?_
        refine v_istore_n dX12_leastOf_29 (Nat.le_of_ble_eq_true rfl) rfl ?_
        exact h30 _ _ _ _ _ _
      · exact absurd (nI_le (Nat.le_refl _) (by omega)) zc12
    | succ j ih =>
      intro c hc x4 x5 x6 x7 x8 x9
      refine v_iload_n dX12_leastOf_7 rfl ?_
      refine v_aload_n dX12_leastOf_8 rfl ?_
      refine v_callV0 dX12_leastOf_9 mv_RX12_233 rfl rfl (Nat.le_of_ble_eq_true rfl) ?_
      refine ok_states (m := R.2.2.2.1) (by rw [fillI_o (by omega)]; exact hM.2.2.2.1) ?_
      show V _ _ _ _ (_ :: _) _ _
      refine v_icmp_ge dX12_leastOf_12 (fun zc12 => ?_) (fun zc12 => ?_)
      · exact absurd zc12 (nI_ge (by omega) (by omega))
      · refine v_aload_n dX12_leastOf_15 rfl ?_
        refine v_getR (q := 53) dX12_leastOf_16 fl_RX12_44 rfl rfl ?_
        refine v_iload_n dX12_leastOf_19 rfl ?_
        refine v_iconst dX12_leastOf_20 ?_
        refine v_iastore dX12_leastOf_21 rfl (by exact vp_in_nI (by omega) (by omega)) ?_
        rw [nI_clamp (by omega), fillI_s]
        refine v_iinc dX12_leastOf_22 rfl (Nat.le_of_ble_eq_true rfl) rfl ?_
        refine v_goto dX12_leastOf_25 ?_
        rw [nI_1]
        exact ih (c + 1) (by omega) _ _ _ _ _ _
  have h7 := fill1 (8 * R.2.2.2.1 * R.2.2.2.1) 0 (by omega)
  rw [fillI_0] at h7
  refine ok_enter rfl (Nat.le_of_ble_eq_true rfl) ?_
  refine v_aload_n dX12_leastOf_0 rfl ?_
  refine v_callV0 dX12_leastOf_1 mv_RX12_229 rfl rfl (Nat.le_of_ble_eq_true rfl) ?_
  refine ok_stateNow hM.2.2.2.1 hS hs.w hm2 ?_
  show V _ _ _ _ (_ :: _) _ _
  refine v_istore_n dX12_leastOf_4 (Nat.le_of_ble_eq_true rfl) rfl ?_
  refine v_iconst dX12_leastOf_5 ?_
  refine v_istore_n dX12_leastOf_6 (Nat.le_of_ble_eq_true rfl) rfl ?_
  exact h7 _ _ _ _ _ _
theorem ok_mleast {x : Int32} (hP : MP σ R s) (hQ : ∀ τ w, ScFr σ τ → LeA R s x.toInt w → Q (some (.int w)) τ) : Ok (D + 5) mX12_least [.ref 44, .int x] σ Q := by
  obtain ⟨hM, h4, hv, hS, hs⟩ := id hP
  have hm := hv.m100
  refine ok_enter rfl (Nat.le_of_ble_eq_true rfl) ?_
  refine v_aload_n dX12_least_0 rfl ?_
  refine v_iload_n dX12_least_1 rfl ?_
  refine v_callV1 dX12_least_2 mv_RX12_243 rfl rfl (Nat.le_of_ble_eq_true rfl) ?_
  refine ok_isNumber hM.2.2.2.1 hm ?_
  show V _ _ _ _ (_ :: _) _ _
  refine v_if_eq dX12_least_5 (fun zc5 => ?_) (fun zc5 => ?_)
  · have hx := if01 zc5
    refine v_ldc dX12_least_16 cn_RX12_72 ?_
    refine v_ireturn dX12_least_18 rfl (rfl) ?_
    first | exact hQ σ _ ScFr.rf (Or.inl ⟨hx, rfl⟩) | exact hQ τ _ f1 (Or.inr ⟨hx, f, f2, rfl⟩)
  · have hx := if10 zc5
    have hxn := x_nI hx.1
    refine v_aload_n dX12_least_8 rfl ?_
    refine v_iload_n dX12_least_9 rfl ?_
    refine v_callV1 dX12_least_10 mv_RX12_255 rfl rfl (Nat.le_of_ble_eq_true rfl) ?_
    rw [hxn]
    refine ok_leastOf hP (by omega) (by omega) (fun τ f f1 f2 => ?_)
    show V _ _ _ _ (_ :: _) _ _
    refine v_goto dX12_least_13 ?_
    refine v_ireturn dX12_least_18 rfl (rfl) ?_
    first | exact hQ σ _ ScFr.rf (Or.inl ⟨hx, rfl⟩) | exact hQ τ _ f1 (Or.inr ⟨hx, f, f2, rfl⟩)
end MK
