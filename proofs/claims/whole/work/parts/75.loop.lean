/-! ===== the law: its loop ===== -/
theorem lm_31 (y : Int32) : ∃ t : Nat, t < 32 ∧ y &&& 31 = nI t := by
  refine ⟨(y &&& 31).toBitVec.toNat, ?_, ?_⟩
  · rw [Int32.toBitVec_and, BitVec.toNat_and]
    exact Nat.lt_of_le_of_lt Nat.and_le_right (by decide)
  · apply Int32.toBitVec_inj.mp
    show _ = BitVec.ofNat 32 _
    rw [BitVec.ofNat_toNat, BitVec.setWidth_eq]
theorem lm_hd {n L : Nat} (h : ¬ nI L - 4 < nI n) (hL : L ≤ 2048) (hn : n ≤ 2048) : n + 4 ≤ L := by
  rw [show (4 : Int32) = iz 4 from rfl, iz_nI, iz_nI, iz_sub, iz_lt (by omega) (by omega) (by omega) (by omega)] at h
  omega
section LM2
variable {p : Program} {l : Launch} {e : Env} {s : State} {m : MethodId} {below : List Frame} {meth : Method} {c : Code} {b L : Nat} {xs : Nat → Int32} {G : va_G} {ad : Nat → Nat} {tc : ClassId × ClassId × ClassId}
set_option maxHeartbeats 4000000 in
theorem lm_loop (C : lm_C p s m meth c b L xs G ad tc) : ∀ (f n : Nat), n ≤ L → L < n + f → ∀ (i : Int32) (σ : Wd) (H : Heap) (locs : List Loc) (ls : Array Slot), i = nI n → lv_has ls 4 [(0, .ref b), (1, .ref (ad 0)), (2, .ref (ad 44)), (3, .int i)] → va_P G classes (vm_cells ad tc σ) H → va_S (vm_A ad s.heap.size) s.heap H locs → Inv σ → W p l e room_1 s m #[Value.ref b] below meth c H locs 60 446937 (lw_Z below #[Value.ref b] s) (F0 m 18 ls [])
  | 0, n, h1, h2 => by omega
  | f + 1, n, h1, h2 => by
    intro i σ H locs ls hi hl hP hS hI
    obtain ⟨⟨hx, hb, hr, hml, hown, hts, hX, hbl, hlocks, hgv⟩, hL, hinj, hSt, hge⟩ := id C
    have hbA := lm_not hge hbl
    refine lv_iload_n hx hb dL_law_18.1.1 rfl (lv_at hl 3 rfl) ?_
    refine lv_aload_n hx hb dL_law_19.1.1 rfl (lv_at hl 0 rfl) ?_
    refine va_slen hx hb hX hbl hbA hS dL_law_20.1 ?_
    refine lv_iconst (v := 4) hx hb dL_law_21.1.1 dL_law_21.2 ?_
    refine lv_isub hx hb dL_law_22.1 ?_
    refine lv_icmp_gt (tgt := 860) hx hb dL_law_23.1 dL_law_23.2.2 (fun _ => ?_) (fun c1 => ?_)
    · refine va_forget (fun q hq => ?_) ?_
      · rcases hS.2.2 q hq with ⟨k, hk, e2⟩ | h3
        · rw [e2]; exact hge k hk
        · exact h3
      · refine W.widen (k := 600000) (n := 7302250) (by omega) (by omega) ?_
        refine lv_iconst (v := 1) hx hb dL_law_860.1.1 dL_law_860.2 ?_
        exact lw_ret hx hb hr hlocks dL_law_861.1
    · have hn : n + 4 ≤ L := lm_hd (by rw [hi] at c1; exact c1) hL (by omega)
      have hin : vp_in i L := by rw [hi]; exact vp_in_nI (by omega) (by omega)
      refine lv_aload_n hx hb dL_law_26.1.1 rfl (lv_at hl 0 rfl) ?_
      refine lv_iload_n hx hb dL_law_27.1.1 rfl (lv_at hl 3 rfl) ?_
      refine va_sld hx hb hX hbl hbA hS hin dL_law_28.1 ?_
      refine lv_bipush (v := 31) hx hb dL_law_29.1.1 dL_law_29.2 ?_
      refine lv_iand hx hb dL_law_31.1 ?_
      have kk : ∀ (τ : Wd) (H1 : Heap) (locs1 : List Loc), Inv τ → va_P G classes (vm_cells ad tc τ) H1 → va_S (vm_A ad s.heap.size) s.heap H1 locs1 → W p l e room_1 s m #[Value.ref b] below meth c H1 locs1 60 446937 (lw_Z below #[Value.ref b] s) (F0 m 854 ls []) := by
        intro τ H1 locs1 hI1 hP1 hS1
        refine lv_iinc (v := i + 4) (lv' := [(3, .int (i + 4)), (0, .ref b), (1, .ref (ad 0)), (2, .ref (ad 44))]) hx hb dL_law_854.1.1 hl (k := 3) rfl rfl (by decide) rfl (fun ls2 hl2 => ?_)
        refine lv_goto (tgt := 18) hx hb dL_law_857.1 dL_law_857.2.2 ?_
        exact lm_loop C f (n + 4) hn (by omega) (i + 4) τ H1 locs1 ls2 (by rw [hi]; exact nI_add n 4) (lv_sub hl2 [1, 2, 3, 0] rfl) hP1 hS1 hI1
      obtain ⟨t, ht, et⟩ := lm_31 (xs i.toNatClampNeg)
      rw [et]
      show W p l e room_1 s m #[Value.ref b] below meth c H locs 60 446937 (lw_Z below #[Value.ref b] s) (F0 m 32 ls [.int (nI t)])
      rcases Nat.lt_or_ge t 28 with h28 | h28
      · rcases (show t = 0 ∨ t = 1 ∨ t = 2 ∨ t = 3 ∨ t = 4 ∨ t = 5 ∨ t = 6 ∨ t = 7 ∨ t = 8 ∨ t = 9 ∨ t = 10 ∨ t = 11 ∨ t = 12 ∨ t = 13 ∨ t = 14 ∨ t = 15 ∨ t = 16 ∨ t = 17 ∨ t = 18 ∨ t = 19 ∨ t = 20 ∨ t = 21 ∨ t = 22 ∨ t = 23 ∨ t = 24 ∨ t = 25 ∨ t = 26 ∨ t = 27 by omega) with rfl | rfl | rfl | rfl | rfl | rfl | rfl | rfl | rfl | rfl | rfl | rfl | rfl | rfl | rfl | rfl | rfl | rfl | rfl | rfl | rfl | rfl | rfl | rfl | rfl | rfl | rfl | rfl
        · exact lv_tableIn (tgt := 160) hx hb dL_law_32 (by decide) (by decide) rfl rfl (lc_0 C hi hn hl hP hS hI kk)
        · exact lv_tableIn (tgt := 223) hx hb dL_law_32 (by decide) (by decide) rfl rfl (lc_1 C hi hn hl hP hS hI kk)
        · exact lv_tableIn (tgt := 236) hx hb dL_law_32 (by decide) (by decide) rfl rfl (lc_2 C hi hn hl hP hS hI kk)
        · exact lv_tableIn (tgt := 249) hx hb dL_law_32 (by decide) (by decide) rfl rfl (lc_3 C hi hn hl hP hS hI kk)
        · exact lv_tableIn (tgt := 272) hx hb dL_law_32 (by decide) (by decide) rfl rfl (lc_4 C hi hn hl hP hS hI kk)
        · exact lv_tableIn (tgt := 305) hx hb dL_law_32 (by decide) (by decide) rfl rfl (lc_5 C hi hn hl hP hS hI kk)
        · exact lv_tableIn (tgt := 328) hx hb dL_law_32 (by decide) (by decide) rfl rfl (lc_6 C hi hn hl hP hS hI kk)
        · exact lv_tableIn (tgt := 341) hx hb dL_law_32 (by decide) (by decide) rfl rfl (lc_7 C hi hn hl hP hS hI kk)
        · exact lv_tableIn (tgt := 364) hx hb dL_law_32 (by decide) (by decide) rfl rfl (lc_8 C hi hn hl hP hS hI kk)
        · exact lv_tableIn (tgt := 397) hx hb dL_law_32 (by decide) (by decide) rfl rfl (lc_9 C hi hn hl hP hS hI kk)
        · exact lv_tableIn (tgt := 420) hx hb dL_law_32 (by decide) (by decide) rfl rfl (lc_10 C hi hn hl hP hS hI kk)
        · exact lv_tableIn (tgt := 443) hx hb dL_law_32 (by decide) (by decide) rfl rfl (lc_11 C hi hn hl hP hS hI kk)
        · exact lv_tableIn (tgt := 466) hx hb dL_law_32 (by decide) (by decide) rfl rfl (lc_12 C hi hn hl hP hS hI kk)
        · exact lv_tableIn (tgt := 489) hx hb dL_law_32 (by decide) (by decide) rfl rfl (lc_13 C hi hn hl hP hS hI kk)
        · exact lv_tableIn (tgt := 512) hx hb dL_law_32 (by decide) (by decide) rfl rfl (lc_14 C hi hn hl hP hS hI kk)
        · exact lv_tableIn (tgt := 525) hx hb dL_law_32 (by decide) (by decide) rfl rfl (lc_15 C hi hn hl hP hS hI kk)
        · exact lv_tableIn (tgt := 548) hx hb dL_law_32 (by decide) (by decide) rfl rfl (lc_16 C hi hn hl hP hS hI kk)
        · exact lv_tableIn (tgt := 561) hx hb dL_law_32 (by decide) (by decide) rfl rfl (lc_17 C hi hn hl hP hS hI kk)
        · exact lv_tableIn (tgt := 594) hx hb dL_law_32 (by decide) (by decide) rfl rfl (lc_18 C hi hn hl hP hS hI kk)
        · exact lv_tableIn (tgt := 637) hx hb dL_law_32 (by decide) (by decide) rfl rfl (lc_19 C hi hn hl hP hS hI kk)
        · exact lv_tableIn (tgt := 660) hx hb dL_law_32 (by decide) (by decide) rfl rfl (lc_20 C hi hn hl hP hS hI kk)
        · exact lv_tableIn (tgt := 703) hx hb dL_law_32 (by decide) (by decide) rfl rfl (lc_21 C hi hn hl hP hS hI kk)
        · exact lv_tableIn (tgt := 736) hx hb dL_law_32 (by decide) (by decide) rfl rfl (lc_22 C hi hn hl hP hS hI kk)
        · exact lv_tableIn (tgt := 749) hx hb dL_law_32 (by decide) (by decide) rfl rfl (lc_23 C hi hn hl hP hS hI kk)
        · exact lv_tableIn (tgt := 762) hx hb dL_law_32 (by decide) (by decide) rfl rfl (lc_24 C hi hn hl hP hS hI kk)
        · exact lv_tableIn (tgt := 785) hx hb dL_law_32 (by decide) (by decide) rfl rfl (lc_25 C hi hn hl hP hS hI kk)
        · exact lv_tableIn (tgt := 808) hx hb dL_law_32 (by decide) (by decide) rfl rfl (lc_26 C hi hn hl hP hS hI kk)
        · exact lv_tableIn (tgt := 831) hx hb dL_law_32 (by decide) (by decide) rfl rfl (lc_27 C hi hn hl hP hS hI kk)
      · refine lv_tableOut (tgt := 854) hx hb dL_law_32 (Or.inr ?_) rfl (kk _ _ _ hI hP hS)
        rw [nI_toInt (by omega)]
        omega
end LM2
/-! ===== the world behind the makers ===== -/
def w0 (k : Nat) : Nat → Int32 := match k with
  | 1 => fun j => match j with | 3 => -1 | _ => 0
  | 3 => fun j => match j with | 0 => -1 | _ => 0
  | 8 => fun j => match j with | 0 => -1 | _ => 0
  | 26 => fun j => match j with | 7 => -1 | 8 => -1 | 9 => -1 | _ => 0
  | 43 => fun j => match j with | 1 => -1 | _ => 0
  | 44 => fun j => match j with | 0 => -1 | 13 => -1 | _ => 0
  | _ => fun _ => 0
def w2 (k : Nat) : Nat → Nat := match k with
  | 0 => fun j => match j with | 1 => 3 | 2 => 8 | _ => 0
  | 33 => fun j => match j with | 1 => 34 | 2 => 35 | 4 => 36 | 5 => 37 | _ => 0
  | _ => fun _ => 0
def wd0 : Wd := (w0, fun _ _ => 0, w2)
theorem inv0 : Inv wd0 := by
  refine ⟨3, 8, 34, 36, [], (-1, 0, 0, 0, []), ((0, 0, 0, 0), 0, 0, []), [], -1, fun _ => none, ⟨⟨Or.inl rfl, Or.inr rfl, by decide, rfl, rfl, ⟨Or.inl ⟨rfl, rfl⟩, rfl, rfl, rfl, rfl⟩⟩, ⟨⟨rfl, fun j c h => by simp at h⟩, rfl⟩, ?_, ⟨rfl, rfl, rfl, rfl, fun i v h => by simp at h⟩, ⟨rfl, fun i v h => by simp at h⟩, fun i hi => ⟨fun _ => ?_, fun z hz => by cases hz⟩, st0 rfl rfl, mo0 rfl, co0 rfl⟩, ⟨⟨⟨rfl, fun j c h => by simp at h⟩, rfl⟩, ⟨?_, rfl⟩, ⟨⟨rfl, rfl, rfl, rfl⟩, rfl, rfl, rfl, fun i v h => by simp at h⟩, ⟨rfl, fun i v h => by simp at h⟩, fun i hi => ⟨fun _ => rfl, fun z hz => by cases hz⟩⟩, ⟨⟨by decide, fun c h => by simp at h⟩, Or.inl rfl, ?_, ⟨by decide, fun c h => by simp at h⟩, fun i z h => by cases h⟩⟩
  · refine ⟨rfl, rfl, rfl, rfl, rfl, ?_⟩
    intro i v h
    simp at h
  · rcases (show i = 0 ∨ i = 1 by omega) with rfl | rfl <;> rfl
  · refine ⟨rfl, rfl, rfl, rfl, ?_, ?_⟩
    · intro i v h
      simp at h
    · intro i v h
      simp at h
  · refine ⟨?_, ?_, by decide, by decide, fun v h => by simp at h⟩
    · unfold vS
      decide
    · unfold zS
      decide
