/-! a method of a class whose name isn't plain, but which no native row takes over -/
theorem vm_ofWF {l : Launch} {y : MethodName} {ws ws' : List Cond} {rm : Room} {Pc : Array Value → State → Prop} {Qc : Array Value → State → Outcome → State → Prop} {mc ms : Nat} {free : Addr → Prop} {cc : ByteArray} {maxL : Nat} {ret : Option FieldType}
    (hy : plainFor y = true) (hw : ws = Cond.code y cc maxL ret :: ws')
    (body : ∀ p e s m args below meth c s₁, BodyLoose p l y (headSpec ws rm) cc maxL ret e s m args below meth c s₁ → c.maxLocals = maxL → Pc args s →
      W p l e (headSpec ws rm).room s m args below meth c s.heap [] 0 0 (MQ below Qc args s mc ms free) (entryFrame m args maxL)) : Met l y ws rm Pc Qc mc ms free := by
  refine MetFree.of_bodySF (code := cc) (maxLocals := maxL) (ret := ret) hy ?_ ?_
  · intro args s m h hn
    obtain ⟨meth, c, h1, h2, h3, h4, h5, h6, -, -⟩ := Cond.code_spec hn (atoms_spec (ws := ws) h _ (by rw [hw]; exact List.mem_cons_self))
    exact ⟨meth, c, h1, h2, h3, h4, h5, h6⟩
  · intro p e s m args below meth c s₁ B hml hP _
    have hh0 : s₁.heap = s.heap := by rw [B.state]; rfl
    obtain ⟨t, a1, o, b1, b2, b3⟩ := body p e s m args below meth c s₁ B hml hP s₁ hh0 (Stand.of_body B)
    exact ⟨t, o, a1, b1, b2, ⟨b3.1, b3.2⟩⟩
theorem ok_enterF {M : MI} {D : Nat} {σ : Wd} {Q : Option Value → Wd → Prop} {as : List Value} (hy : plainFor M.1 = true) (hlen : (vm_arg as).length ≤ M.2.2.1) (h : V M D 0 (vm_arg as ++ List.replicate (M.2.2.1 - (vm_arg as).length) none) [] σ Q) : Ok D M as σ Q := by
  intro l G ad tc sz hinj
  refine vm_ofWF (cc := M.2.1) (maxL := M.2.2.1) (ret := M.2.2.2) hy rfl ?_
  intro p e s m args below meth c s₁ B hml hv
  obtain ⟨rfl, hsz, hP, hSt⟩ := hv
  have hts := atoms_spec (ws := vm_ws M) B.pre
  have hown : s.vm.findClass M.1.cls = some m.cls := findClass_of_methodNamed B.named
  have hl := lv_entry (as.map (vm_re ad)) (n := M.2.2.1) (by rw [vm_sl_len]; exact hlen)
  rw [lg_entry_eq]
  refine h p l e s m _ below meth c G ad tc sz ⟨B.exec, B.bytes, B.returns, hml, hown, fun w hw => hts w (List.mem_cons_of_mem _ hw), B.notSynchronized, hinj, hsz, hSt⟩ _ s.heap [] ⟨hl.1, hl.2.1, fun i v hi => ?_⟩ hP va_S.rf
  have hi2 : (vm_arg as)[i]? = some (some v) := by
    rw [List.getElem?_append] at hi
    split at hi
    · exact hi
    · rw [List.getElem?_replicate] at hi
      split at hi
      · cases hi
      · cases hi
  have h3 := hl.2.2 (0 + i, vm_re ad v) (vm_arg_in ad as 0 i v hi2)
  rw [Nat.zero_add] at h3
  exact h3
/-! ===== JDK's small functions ===== -/
section JM
variable {D : Nat} {σ : Wd} {Q : Option Value → Wd → Prop}
theorem ok_max {a b : Int} (a1 : -2147483648 ≤ a) (a2 : a < 2147483648) (b1 : -2147483648 ≤ b) (b2 : b < 2147483648) (hQ : Q (some (.int (iz (max a b)))) σ) : Ok D mJ9_max_7cf53 [.int (iz a), .int (iz b)] σ Q := by
  refine ok_enterF (by decide +kernel) (Nat.le_of_ble_eq_true rfl) ?_
  refine v_iload_n dJ9_max_7cf53_0 rfl ?_
  refine v_iload_n dJ9_max_7cf53_1 rfl ?_
  refine v_icmp_lt dJ9_max_7cf53_2 (fun zc2 => ?_) (fun zc2 => ?_)
  · try simp (disch := omega) only [iz_lit, iz_nI, iz_neg, iz_add, iz_sub, iz_mul, iz_lt, iz_le, iz_eq] at zc2
    refine v_iload_n dJ9_max_7cf53_9 rfl ?_
    refine v_ireturn dJ9_max_7cf53_10 rfl (rfl) ?_
    first | (rw [show max a b = a by omega] at hQ; exact hQ) | (rw [show max a b = b by omega] at hQ; exact hQ)
  · try simp (disch := omega) only [iz_lit, iz_nI, iz_neg, iz_add, iz_sub, iz_mul, iz_lt, iz_le, iz_eq] at zc2
    refine v_iload_n dJ9_max_7cf53_5 rfl ?_
    refine v_goto dJ9_max_7cf53_6 ?_
    refine v_ireturn dJ9_max_7cf53_10 rfl (rfl) ?_
    first | (rw [show max a b = a by omega] at hQ; exact hQ) | (rw [show max a b = b by omega] at hQ; exact hQ)
theorem ok_min {a b : Int} (a1 : -2147483648 ≤ a) (a2 : a < 2147483648) (b1 : -2147483648 ≤ b) (b2 : b < 2147483648) (hQ : Q (some (.int (iz (min a b)))) σ) : Ok D mJ9_min_7cf53 [.int (iz a), .int (iz b)] σ Q := by
  refine ok_enterF (by decide +kernel) (Nat.le_of_ble_eq_true rfl) ?_
  refine v_iload_n dJ9_min_7cf53_0 rfl ?_
  refine v_iload_n dJ9_min_7cf53_1 rfl ?_
  refine v_icmp_gt dJ9_min_7cf53_2 (fun zc2 => ?_) (fun zc2 => ?_)
  · try simp (disch := omega) only [iz_lit, iz_nI, iz_neg, iz_add, iz_sub, iz_mul, iz_lt, iz_le, iz_eq] at zc2
    refine v_iload_n dJ9_min_7cf53_9 rfl ?_
    refine v_ireturn dJ9_min_7cf53_10 rfl (rfl) ?_
    first | (rw [show min a b = a by omega] at hQ; exact hQ) | (rw [show min a b = b by omega] at hQ; exact hQ)
  · try simp (disch := omega) only [iz_lit, iz_nI, iz_neg, iz_add, iz_sub, iz_mul, iz_lt, iz_le, iz_eq] at zc2
    refine v_iload_n dJ9_min_7cf53_5 rfl ?_
    refine v_goto dJ9_min_7cf53_6 ?_
    refine v_ireturn dJ9_min_7cf53_10 rfl (rfl) ?_
    first | (rw [show min a b = a by omega] at hQ; exact hQ) | (rw [show min a b = b by omega] at hQ; exact hQ)
theorem ok_abs {a : Int} (a1 : -2147483648 < a) (a2 : a < 2147483648) (hQ : Q (some (.int (iz (if a < 0 then -a else a)))) σ) : Ok D mJ9_abs_0f7a4 [.int (iz a)] σ Q := by
  refine ok_enterF (by decide +kernel) (Nat.le_of_ble_eq_true rfl) ?_
  refine v_iload_n dJ9_abs_0f7a4_0 rfl ?_
  refine v_if_ge dJ9_abs_0f7a4_1 (fun zc1 => ?_) (fun zc1 => ?_)
  · try simp (disch := omega) only [iz_lit, iz_nI, iz_neg, iz_add, iz_sub, iz_mul, iz_lt, iz_le, iz_eq] at zc1
    refine v_iload_n dJ9_abs_0f7a4_9 rfl ?_
    refine v_ireturn dJ9_abs_0f7a4_10 rfl (rfl) ?_
    first | (rw [if_pos (by omega)] at hQ; rw [iz_neg]; exact hQ) | (rw [if_neg (by omega)] at hQ; exact hQ)
  · try simp (disch := omega) only [iz_lit, iz_nI, iz_neg, iz_add, iz_sub, iz_mul, iz_lt, iz_le, iz_eq] at zc1
    refine v_iload_n dJ9_abs_0f7a4_4 rfl ?_
    refine v_ineg dJ9_abs_0f7a4_5 ?_
    refine v_goto dJ9_abs_0f7a4_6 ?_
    refine v_ireturn dJ9_abs_0f7a4_10 rfl (rfl) ?_
    first | (rw [if_pos (by omega)] at hQ; rw [iz_neg]; exact hQ) | (rw [if_neg (by omega)] at hQ; exact hQ)
theorem fm_sgn {a b : Int} (ha : -1073741824 < a) (hb : a < 1073741824) (hb1 : 0 < b) (hb2 : b < 1073741824) : 0 ≤ iz a ^^^ iz b ↔ 0 ≤ a := by
  rw [Int32.le_iff_toInt_le, iz_T0]
  have e : (iz a ^^^ iz b).toInt < 0 ↔ a < 0 := by
    have h1 : ∀ x : Int32, x.toInt < 0 ↔ x.toBitVec.msb = true := fun x => by
      show x.toBitVec.toInt < 0 ↔ _
      rw [BitVec.msb_eq_toInt]
      simp
    rw [h1, Int32.toBitVec_xor, BitVec.msb_xor]
    have h2 : (iz a).toBitVec.msb = decide (a < 0) := by
      have := h1 (iz a)
      rw [iz_toInt (by omega) (by omega)] at this
      cases hm : (iz a).toBitVec.msb <;> simp_all
    have h3 : (iz b).toBitVec.msb = false := by
      have := h1 (iz b)
      rw [iz_toInt (by omega) (by omega)] at this
      cases hm : (iz b).toBitVec.msb
      · rfl
      · rw [hm] at this; simp at this; omega
    rw [h2, h3]
    simp
  omega
theorem iz_remT {a b : Int} (a1 : -1073741824 < a) (a2 : a < 1073741824) (hb : 0 < b) (b2 : b < 1073741824) : iz a - iz a / iz b * iz b = iz (a.tmod b) := by
  rcases Int.le_total 0 a with h | h
  · rw [iz_rem h (by omega) hb (by omega), Int.tmod_eq_emod_of_nonneg h]
  · have hd : iz a / iz b = iz (a.tdiv b) := by
      apply Int32.toInt_inj.mp
      rw [Int32.toInt_div, iz_toInt (by omega) (by omega), iz_toInt (by omega) (by omega)]
      have h5 : (a.tdiv b).natAbs ≤ a.natAbs := Int.natAbs_tdiv_le_natAbs a b
      rw [iz_toInt (by omega) (by omega)]
      exact Int.bmod_eq_of_le (by omega) (by omega)
    rw [hd, iz_mul, iz_sub]
    congr 1
    have := Int.mul_tdiv_add_tmod a b
    rw [Int.mul_comm] at this
    omega
theorem ok_floorMod {a b : Int} (a1 : -1073741824 < a) (a2 : a < 1073741824) (b1 : 0 < b) (b2 : b < 1073741824) (hQ : Q (some (.int (iz (a % b)))) σ) : Ok D mJ9_floorMod_7cf53 [.int (iz a), .int (iz b)] σ Q := by
  have t1 := Int.tmod_lt_of_pos a b1
  have t2 := Int.lt_tmod_of_pos a b1
  have t4 : 0 ≤ a → 0 ≤ a.tmod b := fun h => Int.tmod_nonneg b h
  have t5 : a < 0 → a.tmod b ≤ 0 := fun h => by
    have := Int.tmod_nonneg b (show 0 ≤ -a by omega)
    rw [Int.neg_tmod] at this
    omega
  have t3 : a % b = if a.tmod b < 0 then a.tmod b + b else a.tmod b := by
    have h3 := Int.mul_tdiv_add_tmod a b
    split
    · rw [show a % b = (a.tmod b + b + b * (a.tdiv b - 1)) % b by congr 1; rw [Int.mul_sub]; omega, Int.add_mul_emod_self_left, Int.emod_eq_of_lt (by omega) (by omega)]
    · rw [show a % b = (a.tmod b + b * a.tdiv b) % b by congr 1; omega, Int.add_mul_emod_self_left, Int.emod_eq_of_lt (by omega) (by omega)]
  refine ok_enterF (by decide +kernel) (Nat.le_of_ble_eq_true rfl) ?_
  refine v_iload_n dJ9_floorMod_7cf53_0 rfl ?_
  refine v_iload_n dJ9_floorMod_7cf53_1 rfl ?_
  refine v_irem dJ9_floorMod_7cf53_2 (by exact iz_ne0 (by omega) (by omega) (by omega)) ?_
  rw [iz_remT a1 a2 b1 b2]
  refine v_istore_n dJ9_floorMod_7cf53_3 (Nat.le_of_ble_eq_true rfl) rfl ?_
  refine v_iload_n dJ9_floorMod_7cf53_4 rfl ?_
  refine v_iload_n dJ9_floorMod_7cf53_5 rfl ?_
  refine v_ixor dJ9_floorMod_7cf53_6 ?_
  refine v_if_ge dJ9_floorMod_7cf53_7 (fun zc7 => ?_) (fun zc7 => ?_)
  · rw [fm_sgn a1 a2 b1 b2] at zc7
    refine v_iload_n dJ9_floorMod_7cf53_18 rfl ?_
    refine v_ireturn dJ9_floorMod_7cf53_19 rfl (rfl) ?_
    first | (rw [iz_add, show a.tmod b + b = a % b by rw [t3, if_pos (by omega)]]; exact hQ) | (rw [show a.tmod b = a % b by rw [t3, if_neg (by omega)]]; exact hQ)
  · rw [fm_sgn a1 a2 b1 b2] at zc7
    refine v_iload_n dJ9_floorMod_7cf53_10 rfl ?_
    refine v_if_eq dJ9_floorMod_7cf53_11 (fun zc11 => ?_) (fun zc11 => ?_)
    · rw [show (0 : Int32) = iz 0 from rfl, iz_eq (by omega) (by omega) (by omega) (by omega)] at zc11
      refine v_iload_n dJ9_floorMod_7cf53_18 rfl ?_
      refine v_ireturn dJ9_floorMod_7cf53_19 rfl (rfl) ?_
      first | (rw [iz_add, show a.tmod b + b = a % b by rw [t3, if_pos (by omega)]]; exact hQ) | (rw [show a.tmod b = a % b by rw [t3, if_neg (by omega)]]; exact hQ)
    · rw [show (0 : Int32) = iz 0 from rfl, iz_eq (by omega) (by omega) (by omega) (by omega)] at zc11
      refine v_iload_n dJ9_floorMod_7cf53_14 rfl ?_
      refine v_iload_n dJ9_floorMod_7cf53_15 rfl ?_
      refine v_iadd dJ9_floorMod_7cf53_16 ?_
      refine v_ireturn dJ9_floorMod_7cf53_17 rfl (rfl) ?_
      first | (rw [iz_add, show a.tmod b + b = a % b by rw [t3, if_pos (by omega)]]; exact hQ) | (rw [show a.tmod b = a % b by rw [t3, if_neg (by omega)]]; exact hQ)
def fillI (σ : Wd) (k n : Nat) (x : Int32) : Wd := (fun a b => if a = k ∧ b < n then x else σ.1 a b, σ.2)
def fillL (σ : Wd) (k n : Nat) (x : Int64) : Wd := (σ.1, fun a b => if a = k ∧ b < n then x else σ.2.1 a b, σ.2.2)
theorem fillI_0 {k : Nat} {x : Int32} : fillI σ k 0 x = σ := by
  unfold fillI
  refine Prod.ext (funext fun a => funext fun b => ?_) rfl
  simp
theorem fillL_0 {k : Nat} {x : Int64} : fillL σ k 0 x = σ := by
  unfold fillL
  refine Prod.ext rfl (Prod.ext (funext fun a => funext fun b => ?_) rfl)
  simp
theorem fillI_s {k i : Nat} {x : Int32} : setI (fillI σ k i x) k i x = fillI σ k (i + 1) x := by
  unfold fillI setI
  refine Prod.ext (funext fun a => funext fun b => ?_) rfl
  show (if a = k ∧ b = i then x else if a = k ∧ b < i then x else σ.1 a b) = if a = k ∧ b < i + 1 then x else σ.1 a b
  by_cases h1 : a = k ∧ b = i
  · rw [if_pos h1, if_pos ⟨h1.1, by omega⟩]
  · rw [if_neg h1]
    by_cases h2 : a = k ∧ b < i
    · rw [if_pos h2, if_pos ⟨h2.1, by omega⟩]
    · rw [if_neg h2, if_neg (fun h => by by_cases h3 : b = i; exact h1 ⟨h.1, h3⟩; exact h2 ⟨h.1, by omega⟩)]
theorem fillL_s {k i : Nat} {x : Int64} : setL (fillL σ k i x) k i x = fillL σ k (i + 1) x := by
  unfold fillL setL
  refine Prod.ext rfl (Prod.ext (funext fun a => funext fun b => ?_) rfl)
  show (if a = k ∧ b = i then x else if a = k ∧ b < i then x else σ.2.1 a b) = if a = k ∧ b < i + 1 then x else σ.2.1 a b
  by_cases h1 : a = k ∧ b = i
  · rw [if_pos h1, if_pos ⟨h1.1, by omega⟩]
  · rw [if_neg h1]
    by_cases h2 : a = k ∧ b < i
    · rw [if_pos h2, if_pos ⟨h2.1, by omega⟩]
    · rw [if_neg h2, if_neg (fun h => by by_cases h3 : b = i; exact h1 ⟨h.1, h3⟩; exact h2 ⟨h.1, by omega⟩)]
theorem ok_fillI {k n : Nat} {x : Int32} (hk : vm_lay[k]? = some (1, n)) (hn : n < 2147483648) (hQ : Q none (fillI σ k n x)) : Ok D mJ7_fill_53178 [.ref k, .int x] σ Q := by
  have loop : ∀ j i, i + j = n → V mJ7_fill_53178 D 5 [some (.ref k), some (.int x), some (.int (nI i)), some (.int (nI n))] [] (fillI σ k i x) Q := by
    intro j
    induction j with
    | zero =>
      intro i hi
      have e : i = n := by omega
      subst e
      refine v_iload_n dJ7_fill_53178_5 rfl ?_
      refine v_iload_n dJ7_fill_53178_6 rfl ?_
      refine v_icmp_ge dJ7_fill_53178_7 (fun zc7 => ?_) (fun zc7 => ?_)
      · refine v_return dJ7_fill_53178_20 rfl ?_
        exact hQ
      · exact absurd (nI_le (Nat.le_refl _) (by omega)) zc7
    | succ j ih =>
      intro i hi
      refine v_iload_n dJ7_fill_53178_5 rfl ?_
      refine v_iload_n dJ7_fill_53178_6 rfl ?_
      refine v_icmp_ge dJ7_fill_53178_7 (fun zc7 => ?_) (fun zc7 => ?_)
      · exact absurd zc7 (nI_ge (by omega) (by omega))
      · refine v_aload_n dJ7_fill_53178_10 rfl ?_
        refine v_iload_n dJ7_fill_53178_11 rfl ?_
        refine v_iload_n dJ7_fill_53178_12 rfl ?_
        refine v_iastore dJ7_fill_53178_13 hk (by exact vp_in_nI (by omega) (by omega)) ?_
        refine v_iinc dJ7_fill_53178_14 rfl (Nat.le_of_ble_eq_true rfl) rfl ?_
        refine v_goto dJ7_fill_53178_17 ?_
        rw [nI_1, nI_clamp (by omega), fillI_s]
        exact ih (i + 1) (by omega)
  refine ok_enter rfl (Nat.le_of_ble_eq_true rfl) ?_
  refine v_iconst dJ7_fill_53178_0 ?_
  refine v_istore_n dJ7_fill_53178_1 (Nat.le_of_ble_eq_true rfl) rfl ?_
  refine v_aload_n dJ7_fill_53178_2 rfl ?_
  refine v_alen dJ7_fill_53178_3 hk (Nat.le_of_ble_eq_true rfl) rfl ?_
  refine v_istore_n dJ7_fill_53178_4 (Nat.le_of_ble_eq_true rfl) rfl ?_
  have h := loop n 0 (by omega)
  rw [fillI_0] at h
  exact h
theorem ok_fillL {k n : Nat} {x : Int64} (hk : vm_lay[k]? = some (2, n)) (hn : n < 2147483648) (hQ : Q none (fillL σ k n x)) : Ok D mJ7_fill_d0a16 [.ref k, .long x] σ Q := by
  have loop : ∀ j i, i + j = n → V mJ7_fill_d0a16 D 6 [some (.ref k), some (.long x), none, some (.int (nI i)), some (.int (nI n))] [] (fillL σ k i x) Q := by
    intro j
    induction j with
    | zero =>
      intro i hi
      have e : i = n := by omega
      subst e
      refine v_iload_n dJ7_fill_d0a16_6 rfl ?_
      refine v_iload dJ7_fill_d0a16_7 rfl ?_
      refine v_icmp_ge dJ7_fill_d0a16_9 (fun zc9 => ?_) (fun zc9 => ?_)
      · refine v_return dJ7_fill_d0a16_22 rfl ?_
        exact hQ
      · exact absurd (nI_le (Nat.le_refl _) (by omega)) zc9
    | succ j ih =>
      intro i hi
      refine v_iload_n dJ7_fill_d0a16_6 rfl ?_
      refine v_iload dJ7_fill_d0a16_7 rfl ?_
      refine v_icmp_ge dJ7_fill_d0a16_9 (fun zc9 => ?_) (fun zc9 => ?_)
      · exact absurd zc9 (nI_ge (by omega) (by omega))
      · refine v_aload_n dJ7_fill_d0a16_12 rfl ?_
        refine v_iload_n dJ7_fill_d0a16_13 rfl ?_
        refine v_lload_n dJ7_fill_d0a16_14 rfl ?_
        refine v_lastore dJ7_fill_d0a16_15 hk (by exact vp_in_nI (by omega) (by omega)) ?_
        refine v_iinc dJ7_fill_d0a16_16 rfl (Nat.le_of_ble_eq_true rfl) rfl ?_
        refine v_goto dJ7_fill_d0a16_19 ?_
        rw [nI_1, nI_clamp (by omega), fillL_s]
        exact ih (i + 1) (by omega)
  refine ok_enter rfl (Nat.le_of_ble_eq_true rfl) ?_
  refine v_iconst dJ7_fill_d0a16_0 ?_
  refine v_istore_n dJ7_fill_d0a16_1 (Nat.le_of_ble_eq_true rfl) rfl ?_
  refine v_aload_n dJ7_fill_d0a16_2 rfl ?_
  refine v_alen dJ7_fill_d0a16_3 hk (Nat.le_of_ble_eq_true rfl) rfl ?_
  refine v_istore dJ7_fill_d0a16_4 (Nat.le_of_ble_eq_true rfl) rfl ?_
  have h := loop n 0 (by omega)
  rw [fillL_0] at h
  exact h
end JM
