/-! ===== String constants ===== -/
theorem lk_val : Cond.fieldLink "java/lang/String" 9 "java/lang/String" "value" "[B" ∈ lw_tbl := List.mem_of_getElem? (i := 1410) (by decide +kernel)
theorem lk_cod : Cond.fieldLink "java/lang/String" 15 "java/lang/String" "coder" "B" ∈ lw_tbl := List.mem_of_getElem? (i := 1411) (by decide +kernel)
theorem lk_cs : Cond.fieldLink "java/lang/String" 38 "java/lang/String" "COMPACT_STRINGS" "Z" ∈ lw_tbl := List.mem_of_getElem? (i := 523) (by decide +kernel)
theorem lk_fm : Cond.fieldLink "java/lang/String" 1053 "jdk/internal/util/Preconditions" "SIOOBE_FORMATTER" "Ljava/util/function/BiFunction;" ∈ lw_tbl := List.mem_of_getElem? (i := 539) (by decide +kernel)
section VS1
variable {M : MI} {D pc pc' : Nat} {lv : List (Option Value)} {st : List Value} {σ : Wd} {Q : Option Value → Wd → Prop} {i ix : Nat}
theorem v_strV (hd : vm_at M.2.1 pc (.getfield ix) 3 pc') (hi : i < 11) (hw : Cond.fieldLink M.1.cls ix "java/lang/String" "value" "[B" ∈ lw_tbl) (k : V M D pc' lv (.ref (200 + i) :: st) σ Q) : V M D pc lv (.ref (100 + i) :: st) σ Q := by
  obtain ⟨hd, rfl⟩ := hd
  intro p l e s m args below meth c G ad tc sz C ls H locs hl hP hS
  obtain ⟨hx, hb, hr, hml, hown, hts, hlocks, hinj, hsz, hSt⟩ := id C
  exact vk_getf hx hb (hSt.2.2.1.1 i hi).2.2.1 hS hown (hts _ (vm_gd_in hw rfl)) (fun _ h => h) hd (k p l e s m args below meth c G ad tc sz C ls H locs hl hP hS)
theorem v_strC (hd : vm_at M.2.1 pc (.getfield ix) 3 pc') (hi : i < 11) (hw : Cond.fieldLink M.1.cls ix "java/lang/String" "coder" "B" ∈ lw_tbl) (k : V M D pc' lv (.int 0 :: st) σ Q) : V M D pc lv (.ref (100 + i) :: st) σ Q := by
  obtain ⟨hd, rfl⟩ := hd
  intro p l e s m args below meth c G ad tc sz C ls H locs hl hP hS
  obtain ⟨hx, hb, hr, hml, hown, hts, hlocks, hinj, hsz, hSt⟩ := id C
  exact vk_getf hx hb (hSt.2.2.1.1 i hi).2.1 hS hown (hts _ (vm_gd_in hw rfl)) (fun _ h => h) hd (k p l e s m args below meth c G ad tc sz C ls H locs hl hP hS)
theorem v_gets1 (hd : vm_at M.2.1 pc (.getstatic ix) 3 pc') (hw : Cond.fieldLink M.1.cls ix "java/lang/String" "COMPACT_STRINGS" "Z" ∈ lw_tbl) (k : V M D pc' lv (.int 1 :: st) σ Q) : V M D pc lv st σ Q := by
  obtain ⟨hd, rfl⟩ := hd
  intro p l e s m args below meth c G ad tc sz C ls H locs hl hP hS
  obtain ⟨hx, hb, hr, hml, hown, hts, hlocks, hinj, hsz, hSt⟩ := id C
  exact va_gets hx hb hSt.2.2.2.2.1 hS hown (hts _ (vm_gd_in hw rfl)) (fun _ h => h) hd (k p l e s m args below meth c G ad tc sz C ls H locs hl hP hS)
theorem v_gets2 (hd : vm_at M.2.1 pc (.getstatic ix) 3 pc') (hw : Cond.fieldLink M.1.cls ix "jdk/internal/util/Preconditions" "SIOOBE_FORMATTER" "Ljava/util/function/BiFunction;" ∈ lw_tbl) (k1 : V M D pc' lv (.null :: st) σ Q) (k2 : V M D pc' lv (.ref 300 :: st) σ Q) : V M D pc lv st σ Q := by
  obtain ⟨hd, rfl⟩ := hd
  intro p l e s m args below meth c G ad tc sz C ls H locs hl hP hS
  obtain ⟨hx, hb, hr, hml, hown, hts, hlocks, hinj, hsz, hSt⟩ := id C
  rcases hSt.2.2.2.2.2 with h | h
  · exact va_gets hx hb h hS hown (hts _ (vm_gd_in hw rfl)) (fun _ h => h) hd (k1 p l e s m args below meth c G ad tc sz C ls H locs hl hP hS)
  · exact va_gets hx hb h hS hown (hts _ (vm_gd_in hw rfl)) (fun _ h => h) hd (k2 p l e s m args below meth c G ad tc sz C ls H locs hl hP hS)
theorem v_strL (hd : vm_at M.2.1 pc .arraylength 1 pc') (hi : i < 11) (k : V M D pc' lv (.int (nI (vm_len.getD i 0)) :: st) σ Q) : V M D pc lv (.ref (200 + i) :: st) σ Q := by
  obtain ⟨hd, rfl⟩ := hd
  intro p l e s m args below meth c G ad tc sz C ls H locs hl hP hS
  obtain ⟨hx, hb, hr, hml, hown, hts, hlocks, hinj, hsz, hSt⟩ := id C
  exact va_tlen hx hb (hSt.2.2.1.1 i hi).2.2.2 hS rfl hd (k p l e s m args below meth c G ad tc sz C ls H locs hl hP hS)
theorem v_strB {y : Int32} (hd : vm_at M.2.1 pc .baload 1 pc') (hi : i < 11) (hy : vp_in y (vm_len.getD i 0)) (k : V M D pc' lv (.int ((vm_byt.getD i []).getD y.toNatClampNeg 0) :: st) σ Q) : V M D pc lv (.int y :: .ref (200 + i) :: st) σ Q := by
  obtain ⟨hd, rfl⟩ := hd
  intro p l e s m args below meth c G ad tc sz C ls H locs hl hP hS
  obtain ⟨hx, hb, hr, hml, hown, hts, hlocks, hinj, hsz, hSt⟩ := id C
  exact va_tb hx hb (hSt.2.2.1.1 i hi).2.2.2 hS hy rfl hd (k p l e s m args below meth c G ad tc sz C ls H locs hl hP hS)
theorem v_ldcS (hd : vm_at M.2.1 pc (.ldc ix) 2 pc') (hM : M.1.cls = "FewKeys$Text") (hi : i < 11) (hx : vm_sx.getD i 0 = ix) (k : V M D pc' lv (.ref (100 + i) :: st) σ Q) : V M D pc lv st σ Q := by
  obtain ⟨hd, rfl⟩ := hd
  subst hx
  intro p l e s m args below meth c G ad tc sz C ls H locs hl hP hS
  obtain ⟨hx, hb, hr, hml, hown, hts, hlocks, hinj, hsz, hSt⟩ := id C
  rw [hM] at hown
  exact va_ldcS hx hb hown (hSt.2.2.2.1 i hi) hd (k p l e s m args below meth c G ad tc sz C ls H locs hl hP hS)
theorem v_callVS {n : Nat} {M' : MI} {as : List Value} (hd : vm_at M.2.1 pc (.invokevirtual ix) 3 pc') (hM : vm_MV M.1.cls ix M' n) (hn : as.length = n) (hi : i < 11) (hci : M'.1.cls = "java/lang/String") (hcat : (st.map fun v => v.category).sum ≤ 8) (ho : Ok D M' (.ref (100 + i) :: as) σ (fun r σ' => V M (D + 1) pc' lv (r.toList ++ st) σ' Q)) : V M (D + 1) pc lv (as.reverse ++ .ref (100 + i) :: st) σ Q := by
  obtain ⟨hd, rfl⟩ := hd
  intro p l e s m args below meth c G ad tc sz C ls H locs hl hP hS
  obtain ⟨hx, hb, hr, hml, hown, hts, hlocks, hinj, hsz, hSt⟩ := id C
  obtain ⟨hlk, ⟨hini, hcode, hnm, hml'⟩, hin, hsel⟩ := hM
  have hG := vm_gd_good hcode
  have hini' := hts _ (vm_gd_in hini rfl)
  have hin' := hts _ (vm_gd_in hin rfl)
  have hsel' := hts _ (vm_gd_in hsel rfl)
  have hrm : (vm_rm D).frames + 1 ≤ (vm_rm (D + 1)).frames ∧ 8 + (M'.2.2.1 + 11) + (vm_rm D).locals ≤ (vm_rm (D + 1)).locals := ⟨Nat.le_refl _, by show 8 + (M'.2.2.1 + 11) + 64 * D ≤ 64 * (D + 1); omega⟩
  have hw8 : 2 * (F0 m pc ls ((as.reverse ++ .ref (100 + i) :: st).map (vm_re ad))).monitorRoom + ((st.map (vm_re ad)).map fun v => v.category).sum ≤ 8 := lv_room (by rw [vm_map_cat]; exact hcat)
  have hstk : (as.reverse ++ .ref (100 + i) :: st).map (vm_re ad) = (as.map (vm_re ad)).reverse ++ .ref (ad (100 + i)) :: st.map (vm_re ad) := by rw [List.map_append, List.map_reverse]; rfl
  have hrecv : ∃ cellB : Cell, H[ad (100 + i)]? = some cellB ∧ cellB.vm.isStatics = false ∧ s.vm.findClass M'.1.cls = some cellB.cls := by
    rw [hci]
    exact vk_recv (adK := fun i => ad (100 + i)) hSt.2.2.1 hi hS
  refine vm_callK (G := G) (tc := tc) (rest := st.map (vm_re ad)) (a := (Value.ref (ad (100 + i)) :: as.map (vm_re ad)).toArray) (Q' := fun r σ' => V M (D + 1) (pc + 3) lv (r.toList ++ st) σ' Q) ?_ hS hsz (fun r σ' H1 locs1 hq hP1 hS1 => ?_)
  · rcases hlk with hlk | ⟨host, hlk⟩
    · exact va_runV (C := M'.1.cls) (b := ad (100 + i)) (As := as.map (vm_re ad)) ⟨hx, hb, hml, hown, hts⟩ (ho l G ad tc H.size hinj) ⟨callB_of n hts hG rfl rfl rfl hini' (hts _ (vm_gd_in hlk rfl)) hnm hrm, hin', hsel'⟩ ⟨vm_P_blind, hrecv, vm_P_of (as := .ref (100 + i) :: as) hP hS hsz hSt⟩ rfl (by rw [List.length_map]; exact hn) hl.1 hstk hw8 hd ⟨Nat.le_refl _, Nat.le_refl _⟩
    · exact va_runVN (C := M'.1.cls) (b := ad (100 + i)) (As := as.map (vm_re ad)) ⟨hx, hb, hml, hown, hts⟩ (ho l G ad tc H.size hinj) ⟨va_cnB n hts hG rfl rfl rfl (hSt.2.1 _ (vm_nt_in hlk rfl)) hini' hnm hrm, hin', hsel'⟩ ⟨vm_P_blind, hrecv, vm_P_of (as := .ref (100 + i) :: as) hP hS hsz hSt⟩ rfl (by rw [List.length_map]; exact hn) hl.1 hstk hw8 hd ⟨Nat.le_refl _, Nat.le_refl _⟩
  · have h := hq p l e s m args below meth c G ad tc sz C ls H1 locs1 hl hP1 hS1
    rw [vm_push] at h
    exact h
theorem v_callVS0 {M' : MI} (hd : vm_at M.2.1 pc (.invokevirtual ix) 3 pc') (hM : vm_MV M.1.cls ix M' 0) (hi : i < 11) (hci : M'.1.cls = "java/lang/String") (hcat : (st.map fun v => v.category).sum ≤ 8) (ho : Ok D M' [.ref (100 + i)] σ (fun r σ' => V M (D + 1) pc' lv (r.toList ++ st) σ' Q)) : V M (D + 1) pc lv (.ref (100 + i) :: st) σ Q := v_callVS (as := []) hd hM rfl hi hci hcat ho
theorem v_callVS1 {M' : MI} {a1 : Value} (hd : vm_at M.2.1 pc (.invokevirtual ix) 3 pc') (hM : vm_MV M.1.cls ix M' 1) (hi : i < 11) (hci : M'.1.cls = "java/lang/String") (hcat : (st.map fun v => v.category).sum ≤ 8) (ho : Ok D M' [.ref (100 + i), a1] σ (fun r σ' => V M (D + 1) pc' lv (r.toList ++ st) σ' Q)) : V M (D + 1) pc lv (a1 :: .ref (100 + i) :: st) σ Q := v_callVS (as := [a1]) hd hM rfl hi hci hcat ho
end VS1
/-! what they answer -/
theorem sl_len : ∀ i, i < 11 → nI (vm_len.getD i 0) >>> ((0 : Int32) &&& 31) = nI (wd i).length ∧ vm_len.getD i 0 = (wd i).length ∧ (wd i).length ≤ 6 ∧ 0 < (wd i).length := by decide +kernel
theorem sl_ch : ∀ i, i < 11 → ∀ k, k < 6 → ((((vm_byt.getD i []).getD k 0) &&& 255).toUInt32 % 65536).toInt32 = nI ((wd i).getD k 0) ∧ (wd i).getD k 0 < 256 := by decide +kernel
theorem sl_nar : ∀ c, c < 256 → (nI c).toUInt32.toUInt16.toUInt32.toInt32 = nI c := by decide +kernel
section VS2
variable {D : Nat} {σ : Wd} {Q : Option Value → Wd → Prop} {i k n : Nat}
theorem ok_strCoder (hi : i < 11) (hQ : Q (some (.int 0)) σ) : Ok D mJ0_coder_7d493 [.ref (100 + i)] σ Q := by
  refine ok_enterF rfl (Nat.le_of_ble_eq_true rfl) ?_
  refine v_gets1 dJ0_coder_7d493_0 lk_cs ?_
  refine v_if_eq dJ0_coder_7d493_3 (fun zc3 => ?_) (fun zc3 => ?_)
  · exact absurd zc3 (by decide)
  · refine v_aload_n dJ0_coder_7d493_6 rfl ?_
    refine v_strC dJ0_coder_7d493_7 hi lk_cod ?_
    refine v_goto dJ0_coder_7d493_10 ?_
    refine v_ireturn dJ0_coder_7d493_14 rfl (rfl) ?_
    exact hQ
theorem ok_strLat (hi : i < 11) (hQ : Q (some (.int 1)) σ) : Ok D mJ0_isLatin1_aae02 [.ref (100 + i)] σ Q := by
  refine ok_enterF rfl (Nat.le_of_ble_eq_true rfl) ?_
  refine v_gets1 dJ0_isLatin1_aae02_0 lk_cs ?_
  refine v_if_eq dJ0_isLatin1_aae02_3 (fun zc3 => ?_) (fun zc3 => ?_)
  · exact absurd zc3 (by decide)
  · refine v_aload_n dJ0_isLatin1_aae02_6 rfl ?_
    refine v_strC dJ0_isLatin1_aae02_7 hi lk_cod ?_
    refine v_if_ne dJ0_isLatin1_aae02_10 (fun zc10 => ?_) (fun zc10 => ?_)
    · exact absurd rfl zc10
    · refine v_iconst dJ0_isLatin1_aae02_13 ?_
      refine v_goto dJ0_isLatin1_aae02_14 ?_
      refine v_ireturn dJ0_isLatin1_aae02_18 rfl (rfl) ?_
      exact hQ
theorem ok_strLen (hi : i < 11) (hQ : Q (some (.int (nI (wd i).length))) σ) : Ok (D + 1) mJ0_length_8abf5 [.ref (100 + i)] σ Q := by
  refine ok_enterF rfl (Nat.le_of_ble_eq_true rfl) ?_
  refine v_aload_n dJ0_length_8abf5_0 rfl ?_
  refine v_strV dJ0_length_8abf5_1 hi lk_val ?_
  refine v_strL dJ0_length_8abf5_4 hi ?_
  refine v_aload_n dJ0_length_8abf5_5 rfl ?_
  refine v_callVS0 dJ0_length_8abf5_6 mv_RJ0_335 hi rfl (Nat.le_of_ble_eq_true rfl) ?_
  refine ok_strCoder hi ?_
  show V _ _ _ _ (_ :: _) _ _
  refine v_ishr dJ0_length_8abf5_9 ?_
  refine v_ireturn dJ0_length_8abf5_10 rfl (rfl) ?_
  rw [(sl_len i hi).1]
  exact hQ
theorem ok_pre {v : Value} (hv : v = .null ∨ v = .ref 300) (hk : k < n) (hn : n < 2147483648) (hQ : Q (some (.int (nI k))) σ) : Ok D mJ3_checkIndex_8e157 [.int (nI k), .int (nI n), v] σ Q := by
  rcases hv with rfl | rfl
  · refine ok_enterF rfl (Nat.le_of_ble_eq_true rfl) ?_
    refine v_iload_n dJ3_checkIndex_8e157_0 rfl ?_
    refine v_if_lt dJ3_checkIndex_8e157_1 (fun zc1 => ?_) (fun zc1 => ?_)
    · exact absurd zc1 (nI_pos (by omega))
    · refine v_iload_n dJ3_checkIndex_8e157_4 rfl ?_
      refine v_iload_n dJ3_checkIndex_8e157_5 rfl ?_
      refine v_icmp_lt dJ3_checkIndex_8e157_6 (fun zc6 => ?_) (fun zc6 => ?_)
      · refine v_iload_n dJ3_checkIndex_8e157_16 rfl ?_
        refine v_ireturn dJ3_checkIndex_8e157_17 rfl (rfl) ?_
        exact hQ
      · exact absurd (nI_lt hk (by omega)) zc6
  · refine ok_enterF rfl (Nat.le_of_ble_eq_true rfl) ?_
    refine v_iload_n dJ3_checkIndex_8e157_0 rfl ?_
    refine v_if_lt dJ3_checkIndex_8e157_1 (fun zc1 => ?_) (fun zc1 => ?_)
    · exact absurd zc1 (nI_pos (by omega))
    · refine v_iload_n dJ3_checkIndex_8e157_4 rfl ?_
      refine v_iload_n dJ3_checkIndex_8e157_5 rfl ?_
      refine v_icmp_lt dJ3_checkIndex_8e157_6 (fun zc6 => ?_) (fun zc6 => ?_)
      · refine v_iload_n dJ3_checkIndex_8e157_16 rfl ?_
        refine v_ireturn dJ3_checkIndex_8e157_17 rfl (rfl) ?_
        exact hQ
      · exact absurd (nI_lt hk (by omega)) zc6
theorem ok_strCheck (hk : k < n) (hn : n < 2147483648) (hQ : Q none σ) : Ok (D + 1) mJ0_checkIndex_df160 [.int (nI k), .int (nI n)] σ Q := by
  refine ok_enterF rfl (Nat.le_of_ble_eq_true rfl) ?_
  refine v_iload_n dJ0_checkIndex_df160_0 rfl ?_
  refine v_iload_n dJ0_checkIndex_df160_1 rfl ?_
  refine v_gets2 dJ0_checkIndex_df160_2 lk_fm ?_ ?_
  · refine v_callS3 dJ0_checkIndex_df160_5 ms_RJ0_1059 (Nat.le_of_ble_eq_true rfl) ?_
    refine ok_pre (Or.inl rfl) hk hn ?_
    show V _ _ _ _ (_ :: _) _ _
    refine v_pop dJ0_checkIndex_df160_8 rfl ?_
    refine v_return dJ0_checkIndex_df160_9 rfl ?_
    exact hQ
  · refine v_callS3 dJ0_checkIndex_df160_5 ms_RJ0_1059 (Nat.le_of_ble_eq_true rfl) ?_
    refine ok_pre (Or.inr rfl) hk hn ?_
    show V _ _ _ _ (_ :: _) _ _
    refine v_pop dJ0_checkIndex_df160_8 rfl ?_
    refine v_return dJ0_checkIndex_df160_9 rfl ?_
    exact hQ
theorem ok_latAt (hi : i < 11) (hk : k < (wd i).length) (hQ : Q (some (.int (nI ((wd i).getD k 0)))) σ) : Ok (D + 2) mJ1_charAt_3b067 [.ref (200 + i), .int (nI k)] σ Q := by
  obtain ⟨-, e1, e2, -⟩ := sl_len i hi
  obtain ⟨e3, e4⟩ := sl_ch i hi k (by omega)
  refine ok_enterF rfl (Nat.le_of_ble_eq_true rfl) ?_
  refine v_iload_n dJ1_charAt_3b067_0 rfl ?_
  refine v_aload_n dJ1_charAt_3b067_1 rfl ?_
  refine v_strL dJ1_charAt_3b067_2 hi ?_
  refine v_callS2 dJ1_charAt_3b067_3 ms_RJ1_9 (Nat.le_of_ble_eq_true rfl) ?_
  refine ok_strCheck (by omega) (by omega) ?_
  show V _ _ _ _ _ _ _
  refine v_aload_n dJ1_charAt_3b067_6 rfl ?_
  refine v_iload_n dJ1_charAt_3b067_7 rfl ?_
  refine v_strB dJ1_charAt_3b067_8 hi (by exact vp_in_nI (by omega) (by omega)) ?_
  rw [nI_clamp (by omega)]
  refine v_sipush dJ1_charAt_3b067_9 ?_
  refine v_iand dJ1_charAt_3b067_12 ?_
  refine v_i2c dJ1_charAt_3b067_13 ?_
  rw [e3]
  refine v_ireturn dJ1_charAt_3b067_14 rfl (congrArg Value.int (sl_nar _ e4)) ?_
  exact hQ
theorem ok_strAt (hi : i < 11) (hk : k < (wd i).length) (hQ : Q (some (.int (nI ((wd i).getD k 0)))) σ) : Ok (D + 3) mJ0_charAt_5068e [.ref (100 + i), .int (nI k)] σ Q := by
  obtain ⟨-, e1, e2, -⟩ := sl_len i hi
  obtain ⟨e3, e4⟩ := sl_ch i hi k (by omega)
  refine ok_enterF rfl (Nat.le_of_ble_eq_true rfl) ?_
  refine v_aload_n dJ0_charAt_5068e_0 rfl ?_
  refine v_callVS0 dJ0_charAt_5068e_1 mv_RJ0_492 hi rfl (Nat.le_of_ble_eq_true rfl) ?_
  refine ok_strLat hi ?_
  show V _ _ _ _ (_ :: _) _ _
  refine v_if_eq dJ0_charAt_5068e_4 (fun zc4 => ?_) (fun zc4 => ?_)
  · exact absurd zc4 (by decide)
  · refine v_aload_n dJ0_charAt_5068e_7 rfl ?_
    refine v_strV dJ0_charAt_5068e_8 hi lk_val ?_
    refine v_iload_n dJ0_charAt_5068e_11 rfl ?_
    refine v_callS2 dJ0_charAt_5068e_12 ms_RJ0_495 (Nat.le_of_ble_eq_true rfl) ?_
    refine ok_latAt hi hk ?_
    show V _ _ _ _ (_ :: _) _ _
    refine v_ireturn dJ0_charAt_5068e_15 rfl (congrArg Value.int (sl_nar _ e4)) ?_
    exact hQ
end VS2
