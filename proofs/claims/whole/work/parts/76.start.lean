/-! ===== what the start gives ===== -/
section ST
variable {s : State} {args : Array Value}
theorem st_one {ci N : Nat} {C : String} {T : u_T} {ty : Nat → FieldType} (h : vm_clOK ci C T N ty) (hi : Cond.instantiable C N ∈ lw_tbl) (hts : ∀ w ∈ vm_gd, w.before args s = true) : ∃ z : ClassId × (Nat → Nat), ∀ q : vw_C, classes[ci]? = some q → u_Kn s q.1 q.2.1 q.2.2 z.1 z.2 := by
  obtain ⟨hc, hN, hin, hty, hnm⟩ := h
  obtain ⟨cC, iS, hK⟩ := u_known hts hin (hts _ (vm_gd_in hi rfl))
  refine ⟨(cC, iS), fun q hq => ?_⟩
  rw [hc] at hq
  cases hq
  exact hK
theorem st_arr {ty : FieldType} (h : (Cond.arrayClass ty).before args s = true) : ∃ cA : ClassId, ArrOfT s cA ty ∧ s.vm.findClass ("[" ++ ty.toString) = some cA := by
  obtain ⟨c, k, comp, h1, h2, h3⟩ := Cond.arrayClass_spec (args := args) (first := s) (o := none) (s := s) (idx := []) h
  exact ⟨c, fun n z => ⟨fun k h => (by cases h), k, h2, comp, h3⟩, h1⟩
theorem st_K (hts : ∀ w ∈ lw_tbl, w.before args s = true) : ∃ (G : va_G) (tc : ClassId × ClassId × ClassId), nm_K G tc s := by
  have hg := lm_hts hts
  have h0 := st_one (s := s) vm_cl0 (by decide +kernel) hg
  have h1 := st_one (s := s) vm_cl1 (by decide +kernel) hg
  have h2 := st_one (s := s) vm_cl2 (by decide +kernel) hg
  have h3 := st_one (s := s) vm_cl3 (by decide +kernel) hg
  have h4 := st_one (s := s) vm_cl4 (by decide +kernel) hg
  have h5 := st_one (s := s) vm_cl5 (by decide +kernel) hg
  have h6 := st_one (s := s) vm_cl6 (by decide +kernel) hg
  have h7 := st_one (s := s) vm_cl7 (by decide +kernel) hg
  have h8 := st_one (s := s) vm_cl8 (by decide +kernel) hg
  have h9 := st_one (s := s) vm_cl9 (by decide +kernel) hg
  have h10 := st_one (s := s) vm_cl10 (by decide +kernel) hg
  have h11 := st_one (s := s) vm_cl11 (by decide +kernel) hg
  have h12 := st_one (s := s) vm_cl12 (by decide +kernel) hg
  have hall : ∀ k : Nat, ∃ z : ClassId × (Nat → Nat), ∀ q : vw_C, classes[k]? = some q → u_Kn s q.1 q.2.1 q.2.2 z.1 z.2 := by
    intro k
    match k with
    | 0 => exact h0
    | 1 => exact h1
    | 2 => exact h2
    | 3 => exact h3
    | 4 => exact h4
    | 5 => exact h5
    | 6 => exact h6
    | 7 => exact h7
    | 8 => exact h8
    | 9 => exact h9
    | 10 => exact h10
    | 11 => exact h11
    | 12 => exact h12
    | k + 13 =>
      obtain ⟨z, -⟩ := h0
      exact ⟨z, fun q hq => by simp [classes] at hq⟩
  obtain ⟨d, hd⟩ := Classical.axiomOfChoice hall
  obtain ⟨c1, a1, b1⟩ := st_arr (hts _ ma_I)
  obtain ⟨c2, a2, b2⟩ := st_arr (hts _ ma_J)
  obtain ⟨c3, a3, b3⟩ := st_arr (hts _ ma_Z)
  refine ⟨(fun k => (d k).1, fun k => (d k).2), (c1, c2, c3), ⟨fun k q hq => hd k q hq, fun k q hq => ?_⟩, fun w hw => ?_⟩
  · match k, hq with
    | 0, hq => cases hq; exact ⟨a1, b1⟩
    | 1, hq => cases hq; exact ⟨a2, b2⟩
    | 2, hq => cases hq; exact ⟨a3, b3⟩
    | k + 3, hq => simp [vm_tys] at hq
  · have h6 := (List.mem_filter.mp hw).2
    have ho : w.onTables = true := by cases w <;> first | rfl | (simp [vm_isN] at h6)
    exact va_Nw.of ho (hts w (List.mem_filter.mp hw).1)
def st_F : List Cond := flatC (Jvm.Cond.and given_1 narrow_1)
def st_t (i : Nat) : Term := .string "FewKeys$Text" (vm_sx.getD i 0)
theorem st_1 : ∀ i, i < 11 → Cond.exactly (st_t i) "java/lang/String" ∈ st_F := by decide +kernel
theorem st_2 : ∀ i, i < 11 → Cond.eq (.field (st_t i) "java/lang/String" "coder" "B") (.int 0) ∈ st_F := by decide +kernel
theorem st_3 : ∀ i, i < 11 → Cond.arrayOf (.field (st_t i) "java/lang/String" "value" "[B") .byte ∈ st_F := by decide +kernel
theorem st_4 : ∀ i, i < 11 → Cond.eq (.length (.field (st_t i) "java/lang/String" "value" "[B")) (.int (Int32.ofNat (vm_len.getD i 0))) ∈ st_F := by decide +kernel
theorem st_5 : ∀ i, i < 11 → ∀ j, j < vm_len.getD i 0 → Cond.eq (.elem (.field (st_t i) "java/lang/String" "value" "[B") (.int (Int32.ofNat j))) (.int ((vm_byt.getD i []).getD j 0)) ∈ st_F := by decide +kernel
theorem st_6 : ∀ i, i < 11 → ∀ j, j < 11 → i ≠ j → Cond.not (Cond.eq (st_t i) (st_t j)) ∈ st_F ∨ Cond.not (Cond.eq (st_t j) (st_t i)) ∈ st_F := by decide +kernel
theorem st_7 : ∀ i, i < 11 → Cond.stringRef "FewKeys$Text" (vm_sx.getD i 0) (vm_tx.getD i "") ∈ lw_tbl := by decide +kernel
theorem st_8 : ∀ i, i < 11 → vm_len.getD i 0 < 2 ^ 31 := by decide +kernel
theorem st_str {A : Nat → Prop} (hts : ∀ w ∈ lw_tbl, w.before args s = true) (hgv : (Jvm.Cond.and given_1 narrow_1).before args s = true) (hA : ∀ a : Nat, a < s.heap.size → ¬ A a) : ∃ f : Nat → Nat, ∀ ad : Nat → Nat, (∀ k, 100 ≤ k → ad k = f k) → vm_str ad A s s.heap := by
  have hs : ∀ w ∈ st_F, w.before args s = true := flat_of_before _ hgv
  obtain ⟨adK, adV, hS, hev⟩ := vk_Sof (tm := st_t) (N := 11) (len := vm_len) (byt := vm_byt) (A := A) st_8 (fun i hi => hs _ (st_1 i hi)) (fun i hi => hs _ (st_2 i hi)) (fun i hi => hs _ (st_3 i hi)) (fun i hi => hs _ (st_4 i hi)) (fun i hi j hj => hs _ (st_5 i hi j hj)) (fun i j hi hj hij => (st_6 i hi j hj hij).imp (fun h => hs _ h) (fun h => hs _ h)) hA
  have hz1 : vm_z1 A s s.heap := va_Zof (hts _ (by decide +kernel)) (hts _ (by decide +kernel)) (va_eqi (hs _ (by decide +kernel))) hA
  have hz2 : va_Zq "jdk/internal/util/Preconditions" "SIOOBE_FORMATTER" "Ljava/util/function/BiFunction;" A s s.heap := va_Zqof (hts _ (by decide +kernel)) (hts _ (by decide +kernel)) (hs _ (by decide +kernel)) hA
  obtain ⟨t, ht⟩ : ∃ t : Nat, va_Z "jdk/internal/util/Preconditions" "SIOOBE_FORMATTER" "Ljava/util/function/BiFunction;" .null A s s.heap ∨ va_Z "jdk/internal/util/Preconditions" "SIOOBE_FORMATTER" "Ljava/util/function/BiFunction;" (.ref t) A s s.heap := by
    rcases hz2 with h | ⟨t, h⟩
    · exact ⟨0, Or.inl h⟩
    · exact ⟨t, Or.inr h⟩
  refine ⟨fun k => if k < 200 then adK (k - 100) else if k < 300 then adV (k - 200) else t, fun ad had => ?_⟩
  have had : ∀ k, 100 ≤ k → ad k = if k < 200 then adK (k - 100) else if k < 300 then adV (k - 200) else t := had
  have eK : ∀ i, i < 11 → ad (100 + i) = adK i := fun i hi => by
    rw [had _ (by omega), if_pos (by omega), Nat.add_sub_cancel_left]
  have eV : ∀ i, i < 11 → ad (200 + i) = adV i := fun i hi => by
    rw [had _ (by omega), if_neg (by omega), if_pos (by omega), Nat.add_sub_cancel_left]
  have e3 : ad 300 = t := by rw [had _ (by omega), if_neg (by omega), if_neg (by omega)]
  refine ⟨⟨fun i hi => ?_, fun i j hi hj e => ?_⟩, fun i hi => ?_, hz1, ?_⟩
  · show va_O _ (ad (100 + i)) _ _ _ ∧ va_OF _ _ _ _ (ad (100 + i)) _ _ _ ∧ va_OF _ _ _ (.ref (ad (200 + i))) (ad (100 + i)) _ _ _ ∧ va_T _ (ad (200 + i)) _ _ _ _ _
    rw [eK i hi, eV i hi]
    exact hS.1 i hi
  · have e : ad (100 + i) = ad (100 + j) := e
    rw [eK i hi, eK j hj] at e
    exact hS.2 i j hi hj e
  · rw [eK i hi]
    exact vk_R.of (hts _ (st_7 i hi)) (hev i hi)
  · unfold vm_z2
    rw [e3]
    exact ht
end ST
def wl1 (tc : ClassId × ClassId × ClassId) (q : Nat → Nat) : va_W := [(q 0, .inr (11, [.ref (q 1), .ref (q 3), .ref (q 8), .ref (q 13), .ref (q 15), .ref (q 17), .ref (q 19), .ref (q 22), .ref (q 26), .ref (q 30), .ref (q 33), .ref (q 38), .ref (q 39), .ref (q 43)])), (q 1, .inr (9, [.ref (q 2), .int 0, .int 0, .int (-1), .int 0, .int 0, .int 0, .int 0])), (q 2, .inl (tc.1, 400, .inl (fun _ => 0))), (q 3, .inr (6, [.int (-1), .int 0, .int 0, .int 0, .int 0, .ref (q 4), .ref (q 5), .ref (q 6), .ref (q 7)])), (q 4, .inl (tc.1, 9, .inl (fun _ => 0))), (q 5, .inl (tc.1, 9, .inl (fun _ => 0))), (q 6, .inl (tc.1, 9, .inl (fun _ => 0))), (q 7, .inl (tc.1, 9, .inl (fun _ => 0))), (q 8, .inr (6, [.int (-1), .int 0, .int 0, .int 0, .int 0, .ref (q 9), .ref (q 10), .ref (q 11), .ref (q 12)])), (q 9, .inl (tc.1, 9, .inl (fun _ => 0))), (q 10, .inl (tc.1, 9, .inl (fun _ => 0))), (q 11, .inl (tc.1, 9, .inl (fun _ => 0))), (q 12, .inl (tc.1, 9, .inl (fun _ => 0))), (q 13, .inr (5, [.int 0, .int 0, .int 0, .int 0, .int 0, .ref (q 14)])), (q 14, .inl (tc.1, 6, .inl (fun _ => 0))), (q 15, .inr (5, [.int 0, .int 0, .int 0, .int 0, .int 0, .ref (q 16)])), (q 16, .inl (tc.1, 6, .inl (fun _ => 0))), (q 17, .inr (5, [.int 0, .int 0, .int 0, .int 0, .int 0, .ref (q 18)])), (q 18, .inl (tc.1, 6, .inl (fun _ => 0))), (q 19, .inr (0, [.ref (q 20), .ref (q 21), .int 0])), (q 20, .inl (tc.1, 40, .inl (fun _ => 0))), (q 21, .inl (tc.1, 40, .inl (fun _ => 0))), (q 22, .inr (7, [.ref (q 23), .ref (q 24), .ref (q 25), .int 0, .int 0])), (q 23, .inl (tc.2.1, 2048, .inr (.inl (fun _ => 0)))), (q 24, .inl (tc.1, 60200, .inl (fun _ => 0))), (q 25, .inl (tc.1, 60200, .inl (fun _ => 0))), (q 26, .inr (8, [.ref (q 22), .ref (q 27), .ref (q 28), .ref (q 29), .int 0, .int 0, .int 0, .int (-1), .int (-1), .int (-1)])), (q 27, .inl (tc.1, 100, .inl (fun _ => 0))), (q 28, .inl (tc.1, 100, .inl (fun _ => 0))), (q 29, .inl (tc.1, 100, .inl (fun _ => 0))), (q 30, .inr (2, [.ref (q 22), .ref (q 31), .ref (q 32), .int 0, .int 0, .int 0])), (q 31, .inl (tc.1, 100, .inl (fun _ => 0))), (q 32, .inl (tc.1, 8, .inl (fun _ => 0))), (q 33, .inr (1, [.ref (q 22), .ref (q 34), .ref (q 35), .int 0, .ref (q 36), .ref (q 37), .int 0])), (q 34, .inl (tc.1, 602, .inl (fun _ => 0))), (q 35, .inl (tc.1, 602, .inl (fun _ => 0))), (q 36, .inl (tc.1, 602, .inl (fun _ => 0))), (q 37, .inl (tc.1, 602, .inl (fun _ => 0))), (q 38, .inr (4, [.ref (q 22), .int 0, .int 0])), (q 39, .inr (10, [.ref (q 40), .ref (q 41), .ref (q 42), .int 0])), (q 40, .inl (tc.1, 40, .inl (fun _ => 0))), (q 41, .inl (tc.1, 40, .inl (fun _ => 0))), (q 42, .inl (tc.1, 8, .inl (fun _ => 0))), (q 43, .inr (3, [.int 0, .int (-1)]))]
def wl2 (tc : ClassId × ClassId × ClassId) (q : Nat → Nat) : va_W := [(q 44, .inr (12, [.int (-1), .int 0, .int 0, .int 0, .int 0, .ref (q 45), .int 0, .ref (q 46), .int 0, .int 0, .long 0, .int 0, .int 0, .int (-1), .int 0, .int 0, .int 0, .int 0, .int 0, .int 0, .ref (q 47), .int 0, .int 0, .int 0, .int 0, .int 0, .long 0, .int 0, .ref (q 48), .int 0, .ref (q 49), .ref (q 50), .ref (q 51), .ref (q 52), .ref (q 53), .ref (q 54), .ref (q 55), .ref (q 56), .ref (q 57), .ref (q 58), .ref (q 59)])), (q 45, .inl (tc.1, 36, .inl (fun _ => 0))), (q 46, .inl (tc.1, 400, .inl (fun _ => 0))), (q 47, .inl (tc.1, 32, .inl (fun _ => 0))), (q 48, .inl (tc.1, 6, .inl (fun _ => 0))), (q 49, .inl (tc.1, 80, .inl (fun _ => 0))), (q 50, .inl (tc.1, 18, .inl (fun _ => 0))), (q 51, .inl (tc.2.1, 2, .inr (.inl (fun _ => 0)))), (q 52, .inl (tc.2.2, 2, .inl (fun _ => 0))), (q 53, .inl (tc.1, 80000, .inl (fun _ => 0))), (q 54, .inl (tc.1, 80000, .inl (fun _ => 0))), (q 55, .inl (tc.1, 80000, .inl (fun _ => 0))), (q 56, .inl (tc.1, 80000, .inl (fun _ => 0))), (q 57, .inl (tc.1, 100, .inl (fun _ => 0))), (q 58, .inl (tc.1, 100, .inl (fun _ => 0))), (q 59, .inl (tc.1, 100, .inl (fun _ => 0)))]
set_option maxRecDepth 20000 in
theorem wl_eq (ad : Nat → Nat) (tc : ClassId × ClassId × ClassId) : wl1 tc ad ++ wl2 tc ad = vm_cells ad tc wd0 := rfl
