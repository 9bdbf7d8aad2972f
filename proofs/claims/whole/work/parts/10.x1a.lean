theorem hinX1_letters : ∀ w ∈ wsX10, w ∈ wsX1_letters := by decide +kernel
theorem hinX1_limit : ∀ w ∈ wsX10, w ∈ wsX1_limit := by decide +kernel
theorem hinX1_weight : ∀ w ∈ wsX10, w ∈ wsX1_weight := by decide +kernel
theorem hinX1_init : ∀ w ∈ wsX10, w ∈ wsX1_init := by decide +kernel
theorem mmX1_letters_0 : Cond.constant RX1 30 (2147483647) ∈ wsX1_letters := by decide +kernel
theorem mmX1_letters_1 : Cond.fieldLink RX1 13 "TrimCodesModel" "n" "I" ∈ wsX1_letters := by decide +kernel
theorem mmX1_limit_0 : Cond.constant RX1 30 (2147483647) ∈ wsX1_limit := by decide +kernel
theorem mmX1_limit_1 : Cond.fieldLink RX1 17 "TrimCodesModel" "limit" "I" ∈ wsX1_limit := by decide +kernel
theorem mmX1_weight_0 : Cond.fieldLink RX1 7 "TrimCodesModel" "weight" "[I" ∈ wsX1_weight := by decide +kernel
theorem mmX1_weight_1 : Cond.constant RX1 30 (2147483647) ∈ wsX1_weight := by decide +kernel
theorem mmX1_init_0 : Cond.methodLink RX1 1 objectInit ∈ wsX1_init := by decide +kernel
theorem mmX1_init_1 : Cond.instanceMethod objectInit ∈ wsX1_init := by decide +kernel
theorem mmX1_init_2 : Cond.arrayClass .int ∈ wsX1_init := by decide +kernel
theorem mmX1_init_3 : Cond.fieldLink RX1 7 "TrimCodesModel" "weight" "[I" ∈ wsX1_init := by decide +kernel
theorem mmX1_init_4 : Cond.fieldLink RX1 13 "TrimCodesModel" "n" "I" ∈ wsX1_init := by decide +kernel
theorem mmX1_init_5 : Cond.fieldLink RX1 17 "TrimCodesModel" "limit" "I" ∈ wsX1_init := by decide +kernel
theorem mmX1_init_6 : Cond.arrayClass .long ∈ wsX1_init := by decide +kernel
theorem mmX1_init_7 : Cond.fieldLink RX1 20 "TrimCodesModel" "best" "[J" ∈ wsX1_init := by decide +kernel
theorem mmX1_init_8 : Cond.fieldLink RX1 24 "TrimCodesModel" "next" "[J" ∈ wsX1_init := by decide +kernel
theorem mmX1_init_9 : Cond.fieldLink RX1 27 "TrimCodesModel" "order" "[I" ∈ wsX1_init := by decide +kernel
set_option maxHeartbeats 4000000 in
set_option maxRecDepth 100000 in
/-- the reference: letters(k) -/
theorem c_X1_letters (l : Launch) (dC : Nat → ClassId) (dI : Nat → Nat → Nat) (h0 b1 b4 b5 b6 : Nat) (d1 d4 d5 d6 : ClassId) (n lim : Int32) (fw : Nat → Int32) (fb fx : Nat → Int64) (fo : Nat → Int32) (sz : Nat) (p0 : Int32) : Met l yX1_letters wsX1_letters ({ frames := 0, cells := 0, slots := 0, locals := 0 }) (va_Pc [.ref h0, .int p0] (fun U => U.heap.size = sz ∧ va_P (dC, dI) vwCl [(h0, .inr (1, [.ref b1, .int n, .int lim, .ref b4, .ref b5, .ref b6])), (b1, .inl (d1, 32, .inl fw)), (b4, .inl (d4, 289, .inr (.inl fb))), (b5, .inl (d5, 289, .inr (.inl fx))), (b6, .inl (d6, 32, .inl fo))] U.heap ∧ va_K (dC, dI) vwCl [(d1, .int), (d4, .long), (d5, .long), (d6, .int)] U ∧ va_D (fun _ => True) [(h0, .inr (1, [.ref b1, .int n, .int lim, .ref b4, .ref b5, .ref b6])), (b1, .inl (d1, 32, .inl fw)), (b4, .inl (d4, 289, .inr (.inl fb))), (b5, .inl (d5, 289, .inr (.inl fx))), (b6, .inl (d6, 32, .inl fo))])) (va_Qv (fun u : Int32 => u = nI (2 + tn_k p0 % 15)) (fun (u : Int32) (t : State) => va_P (dC, dI) vwCl [(h0, .inr (1, [.ref b1, .int u, .int lim, .ref b4, .ref b5, .ref b6])), (b1, .inl (d1, 32, .inl fw)), (b4, .inl (d4, 289, .inr (.inl fb))), (b5, .inl (d5, 289, .inr (.inl fx))), (b6, .inl (d6, 32, .inl fo))] t.heap ∧ va_K (dC, dI) vwCl [(d1, .int), (d4, .long), (d5, .long), (d6, .int)] t ∧ va_D (va_A [(h0, .inr (1, [.ref b1, .int n, .int lim, .ref b4, .ref b5, .ref b6])), (b1, .inl (d1, 32, .inl fw)), (b4, .inl (d4, 289, .inr (.inl fb))), (b5, .inl (d5, 289, .inr (.inl fx))), (b6, .inl (d6, 32, .inl fo))] sz) [(h0, .inr (1, [.ref b1, .int u, .int lim, .ref b4, .ref b5, .ref b6])), (b1, .inl (d1, 32, .inl fw)), (b4, .inl (d4, 289, .inr (.inl fb))), (b5, .inl (d5, 289, .inr (.inl fx))), (b6, .inl (d6, 32, .inl fo))]) (va_A [(h0, .inr (1, [.ref b1, .int n, .int lim, .ref b4, .ref b5, .ref b6])), (b1, .inl (d1, 32, .inl fw)), (b4, .inl (d4, 289, .inr (.inl fb))), (b5, .inl (d5, 289, .inr (.inl fx))), (b6, .inl (d6, 32, .inl fo))] sz)) 0 0 (va_A [(h0, .inr (1, [.ref b1, .int n, .int lim, .ref b4, .ref b5, .ref b6])), (b1, .inl (d1, 32, .inl fw)), (b4, .inl (d4, 289, .inr (.inl fb))), (b5, .inl (d5, 289, .inr (.inl fx))), (b6, .inl (d6, 32, .inl fo))] sz) := by
  refine Met.ofW (cc := cX1_letters) (maxL := 2) (ret := none) (by decide) rfl ?_
  intro p e s m args below meth c s₁ B hml hv
  obtain ⟨rfl, hsz, hP, hK, hD0⟩ := hv
  have hx := B.exec
  have hb := B.bytes
  have hr := B.returns
  have hts := atoms_spec (ws := wsX1_letters) B.pre
  have hown : s.vm.findClass RX1 = some m.cls := findClass_of_methodNamed B.named
  have hlocks := B.notSynchronized
  subst hsz
  have hD := hD0.self (sz := s.heap.size)
  generalize hAe : va_A [(h0, .inr (1, [.ref b1, .int n, .int lim, .ref b4, .ref b5, .ref b6])), (b1, .inl (d1, 32, .inl fw)), (b4, .inl (d4, 289, .inr (.inl fb))), (b5, .inl (d5, 289, .inr (.inl fx))), (b6, .inl (d6, 32, .inl fo))] s.heap.size = A at hD ⊢
  have hA : ∀ q : Nat, s.heap.size ≤ q → A q := fun q h => by rw [← hAe]; exact Or.inr h
  have hS : va_S A s.heap s.heap [] := va_S.rf
  have hP : va_P (dC, dI) vwCl [(h0, .inr (1, [.ref b1, .int n, .int lim, .ref b4, .ref b5, .ref b6])), (b1, .inl (d1, 32, .inl fw)), (b4, .inl (d4, 289, .inr (.inl fb))), (b5, .inl (d5, 289, .inr (.inl fx))), (b6, .inl (d6, 32, .inl fo))] s.heap := hP
  have hl := lv_entry ([.ref h0, .int p0]) (n := 2) (Nat.le_of_ble_eq_true rfl)
  rw [lg_entry_eq]
  generalize (lg_sl ([.ref h0, .int p0]) ++ List.replicate (2 - (lg_sl ([.ref h0, .int p0])).length) Slot.unset).toArray = ls at hl ⊢
  have hl : lv_has ls 2 [(0, .ref h0), (1, .int p0)] := hl
  refine lv_aload_n hx hb dX1_letters_0 rfl (lv_at hl 0 rfl) ?_
  refine lv_iconst (v := nI 2) hx hb dX1_letters_1 (by decide) ?_
  refine lv_iload_n hx hb dX1_letters_2 rfl (lv_at hl 1 rfl) ?_
  refine lv_ldc hx hb hown (hts _ mmX1_letters_0) dX1_letters_3 ?_
  refine lv_iand hx hb dX1_letters_5 ?_
  refine tw_i (nI (tn_k p0)) (tn_k_and p0) ?_
  refine lv_bipush (v := nI 15) hx hb dX1_letters_6 (by decide) ?_
  refine lv_irem hx hb dX1_letters_8 (by decide) ?_
  refine tw_i (nI (tn_k p0 % 15)) (tn_rem 15 (tn_k_lt p0) (by decide) (by decide)) ?_
  refine lv_iadd hx hb dX1_letters_9 ?_
  refine tw_i (nI (2 + (tn_k p0 % 15))) (nI_add _ _) ?_
  refine va_put (D := (dC, dI)) (ci := 1) (v := .int (nI (2 + (tn_k p0 % 15)))) (ty := .int) (C := RX1) (T := TX1) (N := 6) hx hb hts hinX1_letters tyX1 tyX1_ok nmX1 hown hK hP hD hS 0 rfl rfl 1 (by decide) (hts _ mmX1_letters_1) (fun _ h9 => h9) rfl (by decide +kernel) rfl rfl (Nat.le_of_ble_eq_true rfl) dX1_letters_10 (fun H locs hP hD hS => ?_)
  have hP : va_P (dC, dI) vwCl [(h0, .inr (1, [.ref b1, .int (nI (2 + (tn_k p0 % 15))), .int lim, .ref b4, .ref b5, .ref b6])), (b1, .inl (d1, 32, .inl fw)), (b4, .inl (d4, 289, .inr (.inl fb))), (b5, .inl (d5, 289, .inr (.inl fx))), (b6, .inl (d6, 32, .inl fo))] H := hP
  have hD : va_D A [(h0, .inr (1, [.ref b1, .int (nI (2 + (tn_k p0 % 15))), .int lim, .ref b4, .ref b5, .ref b6])), (b1, .inl (d1, 32, .inl fw)), (b4, .inl (d4, 289, .inr (.inl fb))), (b5, .inl (d5, 289, .inr (.inl fx))), (b6, .inl (d6, 32, .inl fo))] := hD
  exact W.vret hx hb hr (fun t ht hW => ⟨⟨nI (2 + tn_k p0 % 15), rfl, rfl, by rw [ht]; exact hP, va_K.moved hW.alike hK, hD⟩, hS.F ht⟩) hS.2.2 dX1_letters_13
set_option maxHeartbeats 4000000 in
set_option maxRecDepth 100000 in
/-- the reference: limit(k) -/
theorem c_X1_limit (l : Launch) (dC : Nat → ClassId) (dI : Nat → Nat → Nat) (h0 b1 b4 b5 b6 : Nat) (d1 d4 d5 d6 : ClassId) (n lim : Int32) (fw : Nat → Int32) (fb fx : Nat → Int64) (fo : Nat → Int32) (sz : Nat) (p0 : Int32) : Met l yX1_limit wsX1_limit ({ frames := 0, cells := 0, slots := 0, locals := 0 }) (va_Pc [.ref h0, .int p0] (fun U => U.heap.size = sz ∧ va_P (dC, dI) vwCl [(h0, .inr (1, [.ref b1, .int n, .int lim, .ref b4, .ref b5, .ref b6])), (b1, .inl (d1, 32, .inl fw)), (b4, .inl (d4, 289, .inr (.inl fb))), (b5, .inl (d5, 289, .inr (.inl fx))), (b6, .inl (d6, 32, .inl fo))] U.heap ∧ va_K (dC, dI) vwCl [(d1, .int), (d4, .long), (d5, .long), (d6, .int)] U ∧ va_D (fun _ => True) [(h0, .inr (1, [.ref b1, .int n, .int lim, .ref b4, .ref b5, .ref b6])), (b1, .inl (d1, 32, .inl fw)), (b4, .inl (d4, 289, .inr (.inl fb))), (b5, .inl (d5, 289, .inr (.inl fx))), (b6, .inl (d6, 32, .inl fo))])) (va_Qv (fun u : Int32 => u = nI (tn_k p0 % 16)) (fun (u : Int32) (t : State) => va_P (dC, dI) vwCl [(h0, .inr (1, [.ref b1, .int n, .int u, .ref b4, .ref b5, .ref b6])), (b1, .inl (d1, 32, .inl fw)), (b4, .inl (d4, 289, .inr (.inl fb))), (b5, .inl (d5, 289, .inr (.inl fx))), (b6, .inl (d6, 32, .inl fo))] t.heap ∧ va_K (dC, dI) vwCl [(d1, .int), (d4, .long), (d5, .long), (d6, .int)] t ∧ va_D (va_A [(h0, .inr (1, [.ref b1, .int n, .int lim, .ref b4, .ref b5, .ref b6])), (b1, .inl (d1, 32, .inl fw)), (b4, .inl (d4, 289, .inr (.inl fb))), (b5, .inl (d5, 289, .inr (.inl fx))), (b6, .inl (d6, 32, .inl fo))] sz) [(h0, .inr (1, [.ref b1, .int n, .int u, .ref b4, .ref b5, .ref b6])), (b1, .inl (d1, 32, .inl fw)), (b4, .inl (d4, 289, .inr (.inl fb))), (b5, .inl (d5, 289, .inr (.inl fx))), (b6, .inl (d6, 32, .inl fo))]) (va_A [(h0, .inr (1, [.ref b1, .int n, .int lim, .ref b4, .ref b5, .ref b6])), (b1, .inl (d1, 32, .inl fw)), (b4, .inl (d4, 289, .inr (.inl fb))), (b5, .inl (d5, 289, .inr (.inl fx))), (b6, .inl (d6, 32, .inl fo))] sz)) 0 0 (va_A [(h0, .inr (1, [.ref b1, .int n, .int lim, .ref b4, .ref b5, .ref b6])), (b1, .inl (d1, 32, .inl fw)), (b4, .inl (d4, 289, .inr (.inl fb))), (b5, .inl (d5, 289, .inr (.inl fx))), (b6, .inl (d6, 32, .inl fo))] sz) := by
  refine Met.ofW (cc := cX1_limit) (maxL := 2) (ret := none) (by decide) rfl ?_
  intro p e s m args below meth c s₁ B hml hv
  obtain ⟨rfl, hsz, hP, hK, hD0⟩ := hv
  have hx := B.exec
  have hb := B.bytes
  have hr := B.returns
  have hts := atoms_spec (ws := wsX1_limit) B.pre
  have hown : s.vm.findClass RX1 = some m.cls := findClass_of_methodNamed B.named
  have hlocks := B.notSynchronized
  subst hsz
  have hD := hD0.self (sz := s.heap.size)
  generalize hAe : va_A [(h0, .inr (1, [.ref b1, .int n, .int lim, .ref b4, .ref b5, .ref b6])), (b1, .inl (d1, 32, .inl fw)), (b4, .inl (d4, 289, .inr (.inl fb))), (b5, .inl (d5, 289, .inr (.inl fx))), (b6, .inl (d6, 32, .inl fo))] s.heap.size = A at hD ⊢
  have hA : ∀ q : Nat, s.heap.size ≤ q → A q := fun q h => by rw [← hAe]; exact Or.inr h
  have hS : va_S A s.heap s.heap [] := va_S.rf
  have hP : va_P (dC, dI) vwCl [(h0, .inr (1, [.ref b1, .int n, .int lim, .ref b4, .ref b5, .ref b6])), (b1, .inl (d1, 32, .inl fw)), (b4, .inl (d4, 289, .inr (.inl fb))), (b5, .inl (d5, 289, .inr (.inl fx))), (b6, .inl (d6, 32, .inl fo))] s.heap := hP
  have hl := lv_entry ([.ref h0, .int p0]) (n := 2) (Nat.le_of_ble_eq_true rfl)
  rw [lg_entry_eq]
  generalize (lg_sl ([.ref h0, .int p0]) ++ List.replicate (2 - (lg_sl ([.ref h0, .int p0])).length) Slot.unset).toArray = ls at hl ⊢
  have hl : lv_has ls 2 [(0, .ref h0), (1, .int p0)] := hl
  refine lv_aload_n hx hb dX1_limit_0 rfl (lv_at hl 0 rfl) ?_
  refine lv_iload_n hx hb dX1_limit_1 rfl (lv_at hl 1 rfl) ?_
  refine lv_ldc hx hb hown (hts _ mmX1_limit_0) dX1_limit_2 ?_
  refine lv_iand hx hb dX1_limit_4 ?_
  refine tw_i (nI (tn_k p0)) (tn_k_and p0) ?_
  refine lv_bipush (v := nI 16) hx hb dX1_limit_5 (by decide) ?_
  refine lv_irem hx hb dX1_limit_7 (by decide) ?_
  refine tw_i (nI (tn_k p0 % 16)) (tn_rem 16 (tn_k_lt p0) (by decide) (by decide)) ?_
  refine va_put (D := (dC, dI)) (ci := 1) (v := .int (nI (tn_k p0 % 16))) (ty := .int) (C := RX1) (T := TX1) (N := 6) hx hb hts hinX1_limit tyX1 tyX1_ok nmX1 hown hK hP hD hS 0 rfl rfl 2 (by decide) (hts _ mmX1_limit_1) (fun _ h9 => h9) rfl (by decide +kernel) rfl rfl (Nat.le_of_ble_eq_true rfl) dX1_limit_8 (fun H locs hP hD hS => ?_)
  have hP : va_P (dC, dI) vwCl [(h0, .inr (1, [.ref b1, .int n, .int (nI (tn_k p0 % 16)), .ref b4, .ref b5, .ref b6])), (b1, .inl (d1, 32, .inl fw)), (b4, .inl (d4, 289, .inr (.inl fb))), (b5, .inl (d5, 289, .inr (.inl fx))), (b6, .inl (d6, 32, .inl fo))] H := hP
  have hD : va_D A [(h0, .inr (1, [.ref b1, .int n, .int (nI (tn_k p0 % 16)), .ref b4, .ref b5, .ref b6])), (b1, .inl (d1, 32, .inl fw)), (b4, .inl (d4, 289, .inr (.inl fb))), (b5, .inl (d5, 289, .inr (.inl fx))), (b6, .inl (d6, 32, .inl fo))] := hD
  exact W.vret hx hb hr (fun t ht hW => ⟨⟨nI (tn_k p0 % 16), rfl, rfl, by rw [ht]; exact hP, va_K.moved hW.alike hK, hD⟩, hS.F ht⟩) hS.2.2 dX1_limit_11
set_option maxHeartbeats 4000000 in
set_option maxRecDepth 100000 in
/-- the reference: weight(i, a, b, c, d) -/
theorem c_X1_weight (l : Launch) (dC : Nat → ClassId) (dI : Nat → Nat → Nat) (h0 b1 b4 b5 b6 : Nat) (d1 d4 d5 d6 : ClassId) (n lim : Int32) (fw : Nat → Int32) (fb fx : Nat → Int64) (fo : Nat → Int32) (sz : Nat) (p0 p1 p2 p3 p4 : Int32) : Met l yX1_weight wsX1_weight ({ frames := 0, cells := 0, slots := 0, locals := 0 }) (va_Pc [.ref h0, .int p0, .int p1, .int p2, .int p3, .int p4] (fun U => U.heap.size = sz ∧ va_P (dC, dI) vwCl [(h0, .inr (1, [.ref b1, .int n, .int lim, .ref b4, .ref b5, .ref b6])), (b1, .inl (d1, 32, .inl fw)), (b4, .inl (d4, 289, .inr (.inl fb))), (b5, .inl (d5, 289, .inr (.inl fx))), (b6, .inl (d6, 32, .inl fo))] U.heap ∧ va_K (dC, dI) vwCl [(d1, .int), (d4, .long), (d5, .long), (d6, .int)] U ∧ va_D (fun _ => True) [(h0, .inr (1, [.ref b1, .int n, .int lim, .ref b4, .ref b5, .ref b6])), (b1, .inl (d1, 32, .inl fw)), (b4, .inl (d4, 289, .inr (.inl fb))), (b5, .inl (d5, 289, .inr (.inl fx))), (b6, .inl (d6, 32, .inl fo))])) (va_Qv (fun u : Nat → Int32 => u = tn_wt fw p0 p1 p2 p3 p4) (fun (u : Nat → Int32) (t : State) => va_P (dC, dI) vwCl [(h0, .inr (1, [.ref b1, .int n, .int lim, .ref b4, .ref b5, .ref b6])), (b1, .inl (d1, 32, .inl u)), (b4, .inl (d4, 289, .inr (.inl fb))), (b5, .inl (d5, 289, .inr (.inl fx))), (b6, .inl (d6, 32, .inl fo))] t.heap ∧ va_K (dC, dI) vwCl [(d1, .int), (d4, .long), (d5, .long), (d6, .int)] t ∧ va_D (va_A [(h0, .inr (1, [.ref b1, .int n, .int lim, .ref b4, .ref b5, .ref b6])), (b1, .inl (d1, 32, .inl fw)), (b4, .inl (d4, 289, .inr (.inl fb))), (b5, .inl (d5, 289, .inr (.inl fx))), (b6, .inl (d6, 32, .inl fo))] sz) [(h0, .inr (1, [.ref b1, .int n, .int lim, .ref b4, .ref b5, .ref b6])), (b1, .inl (d1, 32, .inl u)), (b4, .inl (d4, 289, .inr (.inl fb))), (b5, .inl (d5, 289, .inr (.inl fx))), (b6, .inl (d6, 32, .inl fo))]) (va_A [(h0, .inr (1, [.ref b1, .int n, .int lim, .ref b4, .ref b5, .ref b6])), (b1, .inl (d1, 32, .inl fw)), (b4, .inl (d4, 289, .inr (.inl fb))), (b5, .inl (d5, 289, .inr (.inl fx))), (b6, .inl (d6, 32, .inl fo))] sz)) 0 0 (va_A [(h0, .inr (1, [.ref b1, .int n, .int lim, .ref b4, .ref b5, .ref b6])), (b1, .inl (d1, 32, .inl fw)), (b4, .inl (d4, 289, .inr (.inl fb))), (b5, .inl (d5, 289, .inr (.inl fx))), (b6, .inl (d6, 32, .inl fo))] sz) := by
  refine Met.ofW (cc := cX1_weight) (maxL := 7) (ret := none) (by decide) rfl ?_
  intro p e s m args below meth c s₁ B hml hv
  obtain ⟨rfl, hsz, hP, hK, hD0⟩ := hv
  have hx := B.exec
  have hb := B.bytes
  have hr := B.returns
  have hts := atoms_spec (ws := wsX1_weight) B.pre
  have hown : s.vm.findClass RX1 = some m.cls := findClass_of_methodNamed B.named
  have hlocks := B.notSynchronized
  subst hsz
  have hD := hD0.self (sz := s.heap.size)
  generalize hAe : va_A [(h0, .inr (1, [.ref b1, .int n, .int lim, .ref b4, .ref b5, .ref b6])), (b1, .inl (d1, 32, .inl fw)), (b4, .inl (d4, 289, .inr (.inl fb))), (b5, .inl (d5, 289, .inr (.inl fx))), (b6, .inl (d6, 32, .inl fo))] s.heap.size = A at hD ⊢
  have hA : ∀ q : Nat, s.heap.size ≤ q → A q := fun q h => by rw [← hAe]; exact Or.inr h
  have hS : va_S A s.heap s.heap [] := va_S.rf
  have hP : va_P (dC, dI) vwCl [(h0, .inr (1, [.ref b1, .int n, .int lim, .ref b4, .ref b5, .ref b6])), (b1, .inl (d1, 32, .inl fw)), (b4, .inl (d4, 289, .inr (.inl fb))), (b5, .inl (d5, 289, .inr (.inl fx))), (b6, .inl (d6, 32, .inl fo))] s.heap := hP
  have hl := lv_entry ([.ref h0, .int p0, .int p1, .int p2, .int p3, .int p4]) (n := 7) (Nat.le_of_ble_eq_true rfl)
  rw [lg_entry_eq]
  generalize (lg_sl ([.ref h0, .int p0, .int p1, .int p2, .int p3, .int p4]) ++ List.replicate (7 - (lg_sl ([.ref h0, .int p0, .int p1, .int p2, .int p3, .int p4])).length) Slot.unset).toArray = ls at hl ⊢
  have hl : lv_has ls 7 [(0, .ref h0), (1, .int p0), (2, .int p1), (3, .int p2), (4, .int p3), (5, .int p4)] := hl
  refine lv_iconst (v := nI 0) hx hb dX1_weight_0 (by decide) ?_
  refine lv_istore (lv' := [(6, .int (nI 0)), (0, .ref h0), (1, .int p0), (2, .int p1), (3, .int p2), (4, .int p3), (5, .int p4)]) hx hb dX1_weight_1 hl (by decide) rfl (fun ls hl => ?_)
  refine lv_iload hx hb dX1_weight_3 (lv_at hl 0 rfl) ?_
  refine lv_iconst (v := nI 4) hx hb dX1_weight_5 (by decide) ?_
  refine tw_icmp_ge hx hb 0 4 (tgt := 62) dX1_weight_6 (by decide) (by omega) (by omega) (fun hc => ?_) (fun hc => ?_)
  · exact absurd hc (by omega)
  · refine lv_aload_n hx hb dX1_weight_9 rfl (lv_at hl 1 rfl) ?_
    refine va_get (D := (dC, dI)) (ci := 1) (v := .ref b1) (C := RX1) (T := TX1) (N := 6) hx hb hts hinX1_weight hown hK hP 0 rfl rfl 0 (by decide) (hts _ mmX1_weight_0) (fun _ h9 => h9) rfl dX1_weight_10 ?_
    refine lv_iload_n hx hb dX1_weight_13 rfl (lv_at hl 2 rfl) ?_
    refine lv_iload hx hb dX1_weight_14 (lv_at hl 0 rfl) ?_
    refine lv_iadd hx hb dX1_weight_16 ?_
    refine tw_i (p0) (by rw [nI_0]; exact Int32.add_zero p0) ?_
    refine lv_bipush (v := nI 31) hx hb dX1_weight_17 (by decide) ?_
    refine lv_iand hx hb dX1_weight_19 ?_
    refine tw_i (nI (tn_p p0)) (tn_p_and _) ?_
    have hlt := tn_p_lt p0
    refine lv_iload hx hb dX1_weight_20 (lv_at hl 0 rfl) ?_
    refine tw_if_ne hx hb 0 (tgt := 29) dX1_weight_22 (by decide) (by omega) (fun hc => ?_) (fun hc => ?_)
    · exact absurd hc (by omega)
    · refine lv_iload_n hx hb dX1_weight_25 rfl (lv_at hl 3 rfl) ?_
      refine lv_goto (tgt := 52) hx hb dX1_weight_26 (by decide) ?_
      refine lv_ldc hx hb hown (hts _ mmX1_weight_1) dX1_weight_52 ?_
      refine lv_iand hx hb dX1_weight_54 ?_
      refine tw_i (nI (tn_k p1)) (tn_k_and _) ?_
      refine va_iast hx hb hK hP hD hS 1 0 rfl rfl (tn_in 32 (by omega) (by decide)) dX1_weight_55 (fun H locs hP hD hS => ?_)
      rw [tn_cl (show tn_p p0 < 2 ^ 31 by omega)] at hP hD
      have hP : va_P (dC, dI) vwCl [(h0, .inr (1, [.ref b1, .int n, .int lim, .ref b4, .ref b5, .ref b6])), (b1, .inl (d1, 32, .inl (upd fw (tn_p p0) (nI (tn_k p1))))), (b4, .inl (d4, 289, .inr (.inl fb))), (b5, .inl (d5, 289, .inr (.inl fx))), (b6, .inl (d6, 32, .inl fo))] H := hP
      have hD : va_D A [(h0, .inr (1, [.ref b1, .int n, .int lim, .ref b4, .ref b5, .ref b6])), (b1, .inl (d1, 32, .inl (upd fw (tn_p p0) (nI (tn_k p1))))), (b4, .inl (d4, 289, .inr (.inl fb))), (b5, .inl (d5, 289, .inr (.inl fx))), (b6, .inl (d6, 32, .inl fo))] := hD
      refine lv_iinc (v := nI 1) (lv' := [(6, .int (nI 1)), (0, .ref h0), (1, .int p0), (2, .int p1), (3, .int p2), (4, .int p3), (5, .int p4)]) hx hb dX1_weight_56 hl (k := 0) rfl (tn_p1 _) (by decide) rfl (fun ls hl => ?_)
      refine lv_goto (tgt := 3) hx hb dX1_weight_59 (by decide) ?_
      refine lv_iload hx hb dX1_weight_3 (lv_at hl 0 rfl) ?_
      refine lv_iconst (v := nI 4) hx hb dX1_weight_5 (by decide) ?_
      refine tw_icmp_ge hx hb 1 4 (tgt := 62) dX1_weight_6 (by decide) (by omega) (by omega) (fun hc => ?_) (fun hc => ?_)
      · exact absurd hc (by omega)
      · refine lv_aload_n hx hb dX1_weight_9 rfl (lv_at hl 1 rfl) ?_
        refine va_get (D := (dC, dI)) (ci := 1) (v := .ref b1) (C := RX1) (T := TX1) (N := 6) hx hb hts hinX1_weight hown hK hP 0 rfl rfl 0 (by decide) (hts _ mmX1_weight_0) (fun _ h9 => h9) rfl dX1_weight_10 ?_
        refine lv_iload_n hx hb dX1_weight_13 rfl (lv_at hl 2 rfl) ?_
        refine lv_iload hx hb dX1_weight_14 (lv_at hl 0 rfl) ?_
        refine lv_iadd hx hb dX1_weight_16 ?_
        refine tw_i (p0 + nI 1) (rfl) ?_
        refine lv_bipush (v := nI 31) hx hb dX1_weight_17 (by decide) ?_
        refine lv_iand hx hb dX1_weight_19 ?_
        refine tw_i (nI (tn_p (p0 + nI 1))) (tn_p_and _) ?_
        have hlt := tn_p_lt (p0 + nI 1)
        refine lv_iload hx hb dX1_weight_20 (lv_at hl 0 rfl) ?_
        refine tw_if_ne hx hb 1 (tgt := 29) dX1_weight_22 (by decide) (by omega) (fun hc => ?_) (fun hc => ?_)
        · refine lv_iload hx hb dX1_weight_29 (lv_at hl 0 rfl) ?_
          refine lv_iconst (v := nI 1) hx hb dX1_weight_31 (by decide) ?_
          refine tw_icmp_ne hx hb 1 1 (tgt := 39) dX1_weight_32 (by decide) (by omega) (by omega) (fun hc => ?_) (fun hc => ?_)
          · exact absurd hc (by omega)
          · refine lv_iload_n hx hb dX1_weight_35 rfl (lv_at hl 4 rfl) ?_
            refine lv_goto (tgt := 52) hx hb dX1_weight_36 (by decide) ?_
            refine lv_ldc hx hb hown (hts _ mmX1_weight_1) dX1_weight_52 ?_
            refine lv_iand hx hb dX1_weight_54 ?_
            refine tw_i (nI (tn_k p2)) (tn_k_and _) ?_
            refine va_iast hx hb hK hP hD hS 1 0 rfl rfl (tn_in 32 (by omega) (by decide)) dX1_weight_55 (fun H locs hP hD hS => ?_)
            rw [tn_cl (show tn_p (p0 + nI 1) < 2 ^ 31 by omega)] at hP hD
            have hP : va_P (dC, dI) vwCl [(h0, .inr (1, [.ref b1, .int n, .int lim, .ref b4, .ref b5, .ref b6])), (b1, .inl (d1, 32, .inl (upd (upd fw (tn_p p0) (nI (tn_k p1))) (tn_p (p0 + nI 1)) (nI (tn_k p2))))), (b4, .inl (d4, 289, .inr (.inl fb))), (b5, .inl (d5, 289, .inr (.inl fx))), (b6, .inl (d6, 32, .inl fo))] H := hP
            have hD : va_D A [(h0, .inr (1, [.ref b1, .int n, .int lim, .ref b4, .ref b5, .ref b6])), (b1, .inl (d1, 32, .inl (upd (upd fw (tn_p p0) (nI (tn_k p1))) (tn_p (p0 + nI 1)) (nI (tn_k p2))))), (b4, .inl (d4, 289, .inr (.inl fb))), (b5, .inl (d5, 289, .inr (.inl fx))), (b6, .inl (d6, 32, .inl fo))] := hD
            refine lv_iinc (v := nI 2) (lv' := [(6, .int (nI 2)), (0, .ref h0), (1, .int p0), (2, .int p1), (3, .int p2), (4, .int p3), (5, .int p4)]) hx hb dX1_weight_56 hl (k := 0) rfl (tn_p1 _) (by decide) rfl (fun ls hl => ?_)
            refine lv_goto (tgt := 3) hx hb dX1_weight_59 (by decide) ?_
            refine lv_iload hx hb dX1_weight_3 (lv_at hl 0 rfl) ?_
            refine lv_iconst (v := nI 4) hx hb dX1_weight_5 (by decide) ?_
            refine tw_icmp_ge hx hb 2 4 (tgt := 62) dX1_weight_6 (by decide) (by omega) (by omega) (fun hc => ?_) (fun hc => ?_)
            · exact absurd hc (by omega)
            · refine lv_aload_n hx hb dX1_weight_9 rfl (lv_at hl 1 rfl) ?_
              refine va_get (D := (dC, dI)) (ci := 1) (v := .ref b1) (C := RX1) (T := TX1) (N := 6) hx hb hts hinX1_weight hown hK hP 0 rfl rfl 0 (by decide) (hts _ mmX1_weight_0) (fun _ h9 => h9) rfl dX1_weight_10 ?_
              refine lv_iload_n hx hb dX1_weight_13 rfl (lv_at hl 2 rfl) ?_
              refine lv_iload hx hb dX1_weight_14 (lv_at hl 0 rfl) ?_
              refine lv_iadd hx hb dX1_weight_16 ?_
              refine tw_i (p0 + nI 2) (rfl) ?_
              refine lv_bipush (v := nI 31) hx hb dX1_weight_17 (by decide) ?_
              refine lv_iand hx hb dX1_weight_19 ?_
              refine tw_i (nI (tn_p (p0 + nI 2))) (tn_p_and _) ?_
              have hlt := tn_p_lt (p0 + nI 2)
              refine lv_iload hx hb dX1_weight_20 (lv_at hl 0 rfl) ?_
              refine tw_if_ne hx hb 2 (tgt := 29) dX1_weight_22 (by decide) (by omega) (fun hc => ?_) (fun hc => ?_)
              · refine lv_iload hx hb dX1_weight_29 (lv_at hl 0 rfl) ?_
                refine lv_iconst (v := nI 1) hx hb dX1_weight_31 (by decide) ?_
                refine tw_icmp_ne hx hb 2 1 (tgt := 39) dX1_weight_32 (by decide) (by omega) (by omega) (fun hc => ?_) (fun hc => ?_)
                · refine lv_iload hx hb dX1_weight_39 (lv_at hl 0 rfl) ?_
                  refine lv_iconst (v := nI 2) hx hb dX1_weight_41 (by decide) ?_
                  refine tw_icmp_ne hx hb 2 2 (tgt := 50) dX1_weight_42 (by decide) (by omega) (by omega) (fun hc => ?_) (fun hc => ?_)
                  · exact absurd hc (by omega)
                  · refine lv_iload hx hb dX1_weight_45 (lv_at hl 5 rfl) ?_
                    refine lv_goto (tgt := 52) hx hb dX1_weight_47 (by decide) ?_
                    refine lv_ldc hx hb hown (hts _ mmX1_weight_1) dX1_weight_52 ?_
                    refine lv_iand hx hb dX1_weight_54 ?_
                    refine tw_i (nI (tn_k p3)) (tn_k_and _) ?_
                    refine va_iast hx hb hK hP hD hS 1 0 rfl rfl (tn_in 32 (by omega) (by decide)) dX1_weight_55 (fun H locs hP hD hS => ?_)
                    rw [tn_cl (show tn_p (p0 + nI 2) < 2 ^ 31 by omega)] at hP hD
                    have hP : va_P (dC, dI) vwCl [(h0, .inr (1, [.ref b1, .int n, .int lim, .ref b4, .ref b5, .ref b6])), (b1, .inl (d1, 32, .inl (upd (upd (upd fw (tn_p p0) (nI (tn_k p1))) (tn_p (p0 + nI 1)) (nI (tn_k p2))) (tn_p (p0 + nI 2)) (nI (tn_k p3))))), (b4, .inl (d4, 289, .inr (.inl fb))), (b5, .inl (d5, 289, .inr (.inl fx))), (b6, .inl (d6, 32, .inl fo))] H := hP
                    have hD : va_D A [(h0, .inr (1, [.ref b1, .int n, .int lim, .ref b4, .ref b5, .ref b6])), (b1, .inl (d1, 32, .inl (upd (upd (upd fw (tn_p p0) (nI (tn_k p1))) (tn_p (p0 + nI 1)) (nI (tn_k p2))) (tn_p (p0 + nI 2)) (nI (tn_k p3))))), (b4, .inl (d4, 289, .inr (.inl fb))), (b5, .inl (d5, 289, .inr (.inl fx))), (b6, .inl (d6, 32, .inl fo))] := hD
                    refine lv_iinc (v := nI 3) (lv' := [(6, .int (nI 3)), (0, .ref h0), (1, .int p0), (2, .int p1), (3, .int p2), (4, .int p3), (5, .int p4)]) hx hb dX1_weight_56 hl (k := 0) rfl (tn_p1 _) (by decide) rfl (fun ls hl => ?_)
                    refine lv_goto (tgt := 3) hx hb dX1_weight_59 (by decide) ?_
                    refine lv_iload hx hb dX1_weight_3 (lv_at hl 0 rfl) ?_
                    refine lv_iconst (v := nI 4) hx hb dX1_weight_5 (by decide) ?_
                    refine tw_icmp_ge hx hb 3 4 (tgt := 62) dX1_weight_6 (by decide) (by omega) (by omega) (fun hc => ?_) (fun hc => ?_)
                    · exact absurd hc (by omega)
                    · refine lv_aload_n hx hb dX1_weight_9 rfl (lv_at hl 1 rfl) ?_
                      refine va_get (D := (dC, dI)) (ci := 1) (v := .ref b1) (C := RX1) (T := TX1) (N := 6) hx hb hts hinX1_weight hown hK hP 0 rfl rfl 0 (by decide) (hts _ mmX1_weight_0) (fun _ h9 => h9) rfl dX1_weight_10 ?_
                      refine lv_iload_n hx hb dX1_weight_13 rfl (lv_at hl 2 rfl) ?_
                      refine lv_iload hx hb dX1_weight_14 (lv_at hl 0 rfl) ?_
                      refine lv_iadd hx hb dX1_weight_16 ?_
                      refine tw_i (p0 + nI 3) (rfl) ?_
                      refine lv_bipush (v := nI 31) hx hb dX1_weight_17 (by decide) ?_
                      refine lv_iand hx hb dX1_weight_19 ?_
                      refine tw_i (nI (tn_p (p0 + nI 3))) (tn_p_and _) ?_
                      have hlt := tn_p_lt (p0 + nI 3)
                      refine lv_iload hx hb dX1_weight_20 (lv_at hl 0 rfl) ?_
                      refine tw_if_ne hx hb 3 (tgt := 29) dX1_weight_22 (by decide) (by omega) (fun hc => ?_) (fun hc => ?_)
                      · refine lv_iload hx hb dX1_weight_29 (lv_at hl 0 rfl) ?_
                        refine lv_iconst (v := nI 1) hx hb dX1_weight_31 (by decide) ?_
                        refine tw_icmp_ne hx hb 3 1 (tgt := 39) dX1_weight_32 (by decide) (by omega) (by omega) (fun hc => ?_) (fun hc => ?_)
                        · refine lv_iload hx hb dX1_weight_39 (lv_at hl 0 rfl) ?_
                          refine lv_iconst (v := nI 2) hx hb dX1_weight_41 (by decide) ?_
                          refine tw_icmp_ne hx hb 3 2 (tgt := 50) dX1_weight_42 (by decide) (by omega) (by omega) (fun hc => ?_) (fun hc => ?_)
                          · refine lv_iload hx hb dX1_weight_50 (lv_at hl 6 rfl) ?_
                            refine lv_ldc hx hb hown (hts _ mmX1_weight_1) dX1_weight_52 ?_
                            refine lv_iand hx hb dX1_weight_54 ?_
                            refine tw_i (nI (tn_k p4)) (tn_k_and _) ?_
                            refine va_iast hx hb hK hP hD hS 1 0 rfl rfl (tn_in 32 (by omega) (by decide)) dX1_weight_55 (fun H locs hP hD hS => ?_)
                            rw [tn_cl (show tn_p (p0 + nI 3) < 2 ^ 31 by omega)] at hP hD
                            have hP : va_P (dC, dI) vwCl [(h0, .inr (1, [.ref b1, .int n, .int lim, .ref b4, .ref b5, .ref b6])), (b1, .inl (d1, 32, .inl (upd (upd (upd (upd fw (tn_p p0) (nI (tn_k p1))) (tn_p (p0 + nI 1)) (nI (tn_k p2))) (tn_p (p0 + nI 2)) (nI (tn_k p3))) (tn_p (p0 + nI 3)) (nI (tn_k p4))))), (b4, .inl (d4, 289, .inr (.inl fb))), (b5, .inl (d5, 289, .inr (.inl fx))), (b6, .inl (d6, 32, .inl fo))] H := hP
                            have hD : va_D A [(h0, .inr (1, [.ref b1, .int n, .int lim, .ref b4, .ref b5, .ref b6])), (b1, .inl (d1, 32, .inl (upd (upd (upd (upd fw (tn_p p0) (nI (tn_k p1))) (tn_p (p0 + nI 1)) (nI (tn_k p2))) (tn_p (p0 + nI 2)) (nI (tn_k p3))) (tn_p (p0 + nI 3)) (nI (tn_k p4))))), (b4, .inl (d4, 289, .inr (.inl fb))), (b5, .inl (d5, 289, .inr (.inl fx))), (b6, .inl (d6, 32, .inl fo))] := hD
                            refine lv_iinc (v := nI 4) (lv' := [(6, .int (nI 4)), (0, .ref h0), (1, .int p0), (2, .int p1), (3, .int p2), (4, .int p3), (5, .int p4)]) hx hb dX1_weight_56 hl (k := 0) rfl (tn_p1 _) (by decide) rfl (fun ls hl => ?_)
                            refine lv_goto (tgt := 3) hx hb dX1_weight_59 (by decide) ?_
                            refine lv_iload hx hb dX1_weight_3 (lv_at hl 0 rfl) ?_
                            refine lv_iconst (v := nI 4) hx hb dX1_weight_5 (by decide) ?_
                            refine tw_icmp_ge hx hb 4 4 (tgt := 62) dX1_weight_6 (by decide) (by omega) (by omega) (fun hc => ?_) (fun hc => ?_)
                            · exact W.vret hx hb hr (fun t ht hW => ⟨⟨upd (upd (upd (upd fw (tn_p p0) (nI (tn_k p1))) (tn_p (p0 + nI 1)) (nI (tn_k p2))) (tn_p (p0 + nI 2)) (nI (tn_k p3))) (tn_p (p0 + nI 3)) (nI (tn_k p4)), rfl, rfl, by rw [ht]; exact hP, va_K.moved hW.alike hK, hD⟩, hS.F ht⟩) hS.2.2 dX1_weight_62
                            · exact absurd hc (by omega)
                          · exact absurd hc (by omega)
                        · exact absurd hc (by omega)
                      · exact absurd hc (by omega)
                · exact absurd hc (by omega)
              · exact absurd hc (by omega)
        · exact absurd hc (by omega)
set_option maxHeartbeats 4000000 in
set_option maxRecDepth 100000 in
/-- the reference: TrimCodesModel() -/
theorem c_X1_init (l : Launch) (dC : Nat → ClassId) (dI : Nat → Nat → Nat) (h0 : Nat) (sz : Nat)  : Met l yX1_init wsX1_init ({ frames := 1, cells := 4, slots := 642, locals := 12 }) (va_Pc [.ref h0] (fun U => U.heap.size = sz ∧ va_P (dC, dI) vwCl [(h0, .inr (1, [.null, .int 0, .int 0, .null, .null, .null]))] U.heap ∧ va_K (dC, dI) vwCl [] U ∧ va_D (fun _ => True) [(h0, .inr (1, [.null, .int 0, .int 0, .null, .null, .null]))])) (va_Qv (fun _ : Unit => True) (fun (_ : Unit) (t : State) => ∃ (b1 b4 b5 b6 : Nat) (d1 d4 d5 d6 : ClassId), va_P (dC, dI) vwCl [(h0, .inr (1, [.ref b1, .int (nI 2), .int (nI 5), .ref b4, .ref b5, .ref b6])), (b1, .inl (d1, 32, .inl (fun _ => 0))), (b4, .inl (d4, 289, .inr (.inl (fun _ => 0)))), (b5, .inl (d5, 289, .inr (.inl (fun _ => 0)))), (b6, .inl (d6, 32, .inl (fun _ => 0)))] t.heap ∧ va_K (dC, dI) vwCl [(d1, .int), (d4, .long), (d5, .long), (d6, .int)] t ∧ va_D (va_A [(h0, .inr (1, [.null, .int 0, .int 0, .null, .null, .null]))] sz) [(h0, .inr (1, [.ref b1, .int (nI 2), .int (nI 5), .ref b4, .ref b5, .ref b6])), (b1, .inl (d1, 32, .inl (fun _ => 0))), (b4, .inl (d4, 289, .inr (.inl (fun _ => 0)))), (b5, .inl (d5, 289, .inr (.inl (fun _ => 0)))), (b6, .inl (d6, 32, .inl (fun _ => 0)))]) (va_A [(h0, .inr (1, [.null, .int 0, .int 0, .null, .null, .null]))] sz)) 4 642 (va_A [(h0, .inr (1, [.null, .int 0, .int 0, .null, .null, .null]))] sz) := by
  refine Met.ofW (cc := cX1_init) (maxL := 1) (ret := none) (by decide) rfl ?_
  intro p e s m args below meth c s₁ B hml hv
  obtain ⟨rfl, hsz, hP, hK, hD0⟩ := hv
  have hx := B.exec
  have hb := B.bytes
  have hr := B.returns
  have hts := atoms_spec (ws := wsX1_init) B.pre
  have hown : s.vm.findClass RX1 = some m.cls := findClass_of_methodNamed B.named
  have hlocks := B.notSynchronized
  have hin2 : meth.name = "<init>" := (name_of_methodNamed B.named B.method).1
  subst hsz
  have hD := hD0.self (sz := s.heap.size)
  generalize hAe : va_A [(h0, .inr (1, [.null, .int 0, .int 0, .null, .null, .null]))] s.heap.size = A at hD ⊢
  have hA : ∀ q : Nat, s.heap.size ≤ q → A q := fun q h => by rw [← hAe]; exact Or.inr h
  have hS : va_S A s.heap s.heap [] := va_S.rf
  have hP : va_P (dC, dI) vwCl [(h0, .inr (1, [.null, .int 0, .int 0, .null, .null, .null]))] s.heap := hP
  have hl := lv_entry ([.ref h0]) (n := 1) (Nat.le_of_ble_eq_true rfl)
  rw [lg_entry_eq]
  generalize (lg_sl ([.ref h0]) ++ List.replicate (1 - (lg_sl ([.ref h0])).length) Slot.unset).toArray = ls at hl ⊢
  have hl : lv_has ls 1 [(0, .ref h0)] := hl
  refine lv_aload_n hx hb dX1_init_0 rfl (lv_at hl 0 rfl) ?_
  refine W.objInit hx hb hown (hts (.methodLink RX1 1 objectInit) mmX1_init_0) (hts (.instanceMethod objectInit) mmX1_init_1) (hts _ (List.mem_cons_of_mem _ (List.mem_append_left _ (List.mem_of_getElem? (i := 2) rfl)))) rfl (by rw [hml]; exact hl.1) rfl dX1_init_1 (Nat.le_of_ble_eq_true rfl) (Nat.le_of_ble_eq_true rfl) ?_
  refine W.eq (g2 := F0 m 4 ls []) rfl ?_
  refine lv_aload_n hx hb dX1_init_4 rfl (lv_at hl 0 rfl) ?_
  refine lv_bipush (v := nI 32) hx hb dX1_init_5 (by decide) ?_
  refine va_newa hx hb (atype := .int) (hts (.arrayClass .int) mmX1_init_2) (ty := .int) rfl hK hP hD hS hA (n := nI 32) (N' := 32) (a0 := (32, .inl (fun _ => 0))) (fun cA => rfl) (by decide) (tn_cl (by decide)) (Nat.le_of_ble_eq_true rfl) (Nat.le_of_ble_eq_true rfl) (Nat.le_of_ble_eq_true rfl) dX1_init_7 (fun b1 d1 H hK hP hD hS => ?_)
  have hP : va_P (dC, dI) vwCl [(h0, .inr (1, [.null, .int 0, .int 0, .null, .null, .null])), (b1, .inl (d1, 32, .inl (fun _ => 0)))] H := hP
  have hD : va_D A [(h0, .inr (1, [.null, .int 0, .int 0, .null, .null, .null])), (b1, .inl (d1, 32, .inl (fun _ => 0)))] := hD
  have hK : va_K (dC, dI) vwCl [(d1, .int)] s := hK
  refine W.widen (k := 1) (n := 32) (Nat.le_of_ble_eq_true rfl) (Nat.le_of_ble_eq_true rfl) ?_
  refine va_putF (D := (dC, dI)) (ci := 1) (v := .ref b1) (ty := .array .int) (C := RX1) (T := TX1) (N := 6) hx hb hts hinX1_init tyX1 tyX1_ok nmX1 hown hK hP hD hS 0 rfl rfl 0 (by decide) (hts _ mmX1_init_3) (fun _ h9 => h9) rfl hin2 rfl (by decide +kernel) rfl rfl (Nat.le_of_ble_eq_true rfl) dX1_init_9 (fun H locs hP hD hS => ?_)
  have hP : va_P (dC, dI) vwCl [(h0, .inr (1, [.ref b1, .int 0, .int 0, .null, .null, .null])), (b1, .inl (d1, 32, .inl (fun _ => 0)))] H := hP
  have hD : va_D A [(h0, .inr (1, [.ref b1, .int 0, .int 0, .null, .null, .null])), (b1, .inl (d1, 32, .inl (fun _ => 0)))] := hD
  refine lv_aload_n hx hb dX1_init_12 rfl (lv_at hl 0 rfl) ?_
  refine lv_iconst (v := nI 2) hx hb dX1_init_13 (by decide) ?_
  refine va_put (D := (dC, dI)) (ci := 1) (v := .int (nI 2)) (ty := .int) (C := RX1) (T := TX1) (N := 6) hx hb hts hinX1_init tyX1 tyX1_ok nmX1 hown hK hP hD hS 0 rfl rfl 1 (by decide) (hts _ mmX1_init_4) (fun _ h9 => h9) rfl (by decide +kernel) rfl rfl (Nat.le_of_ble_eq_true rfl) dX1_init_14 (fun H locs hP hD hS => ?_)
  have hP : va_P (dC, dI) vwCl [(h0, .inr (1, [.ref b1, .int (nI 2), .int 0, .null, .null, .null])), (b1, .inl (d1, 32, .inl (fun _ => 0)))] H := hP
  have hD : va_D A [(h0, .inr (1, [.ref b1, .int (nI 2), .int 0, .null, .null, .null])), (b1, .inl (d1, 32, .inl (fun _ => 0)))] := hD
  refine lv_aload_n hx hb dX1_init_17 rfl (lv_at hl 0 rfl) ?_
  refine lv_iconst (v := nI 5) hx hb dX1_init_18 (by decide) ?_
  refine va_put (D := (dC, dI)) (ci := 1) (v := .int (nI 5)) (ty := .int) (C := RX1) (T := TX1) (N := 6) hx hb hts hinX1_init tyX1 tyX1_ok nmX1 hown hK hP hD hS 0 rfl rfl 2 (by decide) (hts _ mmX1_init_5) (fun _ h9 => h9) rfl (by decide +kernel) rfl rfl (Nat.le_of_ble_eq_true rfl) dX1_init_19 (fun H locs hP hD hS => ?_)
  have hP : va_P (dC, dI) vwCl [(h0, .inr (1, [.ref b1, .int (nI 2), .int (nI 5), .null, .null, .null])), (b1, .inl (d1, 32, .inl (fun _ => 0)))] H := hP
  have hD : va_D A [(h0, .inr (1, [.ref b1, .int (nI 2), .int (nI 5), .null, .null, .null])), (b1, .inl (d1, 32, .inl (fun _ => 0)))] := hD
  refine lv_aload_n hx hb dX1_init_22 rfl (lv_at hl 0 rfl) ?_
  refine lv_sipush (v := nI 289) hx hb dX1_init_23 (by decide) ?_
  refine va_newa hx hb (atype := .long) (hts (.arrayClass .long) mmX1_init_6) (ty := .long) rfl hK hP hD hS hA (n := nI 289) (N' := 289) (a0 := (289, .inr (.inl (fun _ => 0)))) (fun cA => rfl) (by decide) (tn_cl (by decide)) (Nat.le_of_ble_eq_true rfl) (Nat.le_of_ble_eq_true rfl) (Nat.le_of_ble_eq_true rfl) dX1_init_26 (fun b4 d4 H hK hP hD hS => ?_)
  have hP : va_P (dC, dI) vwCl [(h0, .inr (1, [.ref b1, .int (nI 2), .int (nI 5), .null, .null, .null])), (b1, .inl (d1, 32, .inl (fun _ => 0))), (b4, .inl (d4, 289, .inr (.inl (fun _ => 0))))] H := hP
  have hD : va_D A [(h0, .inr (1, [.ref b1, .int (nI 2), .int (nI 5), .null, .null, .null])), (b1, .inl (d1, 32, .inl (fun _ => 0))), (b4, .inl (d4, 289, .inr (.inl (fun _ => 0))))] := hD
  have hK : va_K (dC, dI) vwCl [(d1, .int), (d4, .long)] s := hK
  refine W.widen (k := 2) (n := 321) (Nat.le_of_ble_eq_true rfl) (Nat.le_of_ble_eq_true rfl) ?_
  refine va_putF (D := (dC, dI)) (ci := 1) (v := .ref b4) (ty := .array .long) (C := RX1) (T := TX1) (N := 6) hx hb hts hinX1_init tyX1 tyX1_ok nmX1 hown hK hP hD hS 0 rfl rfl 3 (by decide) (hts _ mmX1_init_7) (fun _ h9 => h9) rfl hin2 rfl (by decide +kernel) rfl rfl (Nat.le_of_ble_eq_true rfl) dX1_init_28 (fun H locs hP hD hS => ?_)
  have hP : va_P (dC, dI) vwCl [(h0, .inr (1, [.ref b1, .int (nI 2), .int (nI 5), .ref b4, .null, .null])), (b1, .inl (d1, 32, .inl (fun _ => 0))), (b4, .inl (d4, 289, .inr (.inl (fun _ => 0))))] H := hP
  have hD : va_D A [(h0, .inr (1, [.ref b1, .int (nI 2), .int (nI 5), .ref b4, .null, .null])), (b1, .inl (d1, 32, .inl (fun _ => 0))), (b4, .inl (d4, 289, .inr (.inl (fun _ => 0))))] := hD
  refine lv_aload_n hx hb dX1_init_31 rfl (lv_at hl 0 rfl) ?_
  refine lv_sipush (v := nI 289) hx hb dX1_init_32 (by decide) ?_
  refine va_newa hx hb (atype := .long) (hts (.arrayClass .long) mmX1_init_6) (ty := .long) rfl hK hP hD hS hA (n := nI 289) (N' := 289) (a0 := (289, .inr (.inl (fun _ => 0)))) (fun cA => rfl) (by decide) (tn_cl (by decide)) (Nat.le_of_ble_eq_true rfl) (Nat.le_of_ble_eq_true rfl) (Nat.le_of_ble_eq_true rfl) dX1_init_35 (fun b5 d5 H hK hP hD hS => ?_)
  have hP : va_P (dC, dI) vwCl [(h0, .inr (1, [.ref b1, .int (nI 2), .int (nI 5), .ref b4, .null, .null])), (b1, .inl (d1, 32, .inl (fun _ => 0))), (b4, .inl (d4, 289, .inr (.inl (fun _ => 0)))), (b5, .inl (d5, 289, .inr (.inl (fun _ => 0))))] H := hP
  have hD : va_D A [(h0, .inr (1, [.ref b1, .int (nI 2), .int (nI 5), .ref b4, .null, .null])), (b1, .inl (d1, 32, .inl (fun _ => 0))), (b4, .inl (d4, 289, .inr (.inl (fun _ => 0)))), (b5, .inl (d5, 289, .inr (.inl (fun _ => 0))))] := hD
  have hK : va_K (dC, dI) vwCl [(d1, .int), (d4, .long), (d5, .long)] s := hK
  refine W.widen (k := 3) (n := 610) (Nat.le_of_ble_eq_true rfl) (Nat.le_of_ble_eq_true rfl) ?_
  refine va_putF (D := (dC, dI)) (ci := 1) (v := .ref b5) (ty := .array .long) (C := RX1) (T := TX1) (N := 6) hx hb hts hinX1_init tyX1 tyX1_ok nmX1 hown hK hP hD hS 0 rfl rfl 4 (by decide) (hts _ mmX1_init_8) (fun _ h9 => h9) rfl hin2 rfl (by decide +kernel) rfl rfl (Nat.le_of_ble_eq_true rfl) dX1_init_37 (fun H locs hP hD hS => ?_)
  have hP : va_P (dC, dI) vwCl [(h0, .inr (1, [.ref b1, .int (nI 2), .int (nI 5), .ref b4, .ref b5, .null])), (b1, .inl (d1, 32, .inl (fun _ => 0))), (b4, .inl (d4, 289, .inr (.inl (fun _ => 0)))), (b5, .inl (d5, 289, .inr (.inl (fun _ => 0))))] H := hP
  have hD : va_D A [(h0, .inr (1, [.ref b1, .int (nI 2), .int (nI 5), .ref b4, .ref b5, .null])), (b1, .inl (d1, 32, .inl (fun _ => 0))), (b4, .inl (d4, 289, .inr (.inl (fun _ => 0)))), (b5, .inl (d5, 289, .inr (.inl (fun _ => 0))))] := hD
  refine lv_aload_n hx hb dX1_init_40 rfl (lv_at hl 0 rfl) ?_
  refine lv_bipush (v := nI 32) hx hb dX1_init_41 (by decide) ?_
  refine va_newa hx hb (atype := .int) (hts (.arrayClass .int) mmX1_init_2) (ty := .int) rfl hK hP hD hS hA (n := nI 32) (N' := 32) (a0 := (32, .inl (fun _ => 0))) (fun cA => rfl) (by decide) (tn_cl (by decide)) (Nat.le_of_ble_eq_true rfl) (Nat.le_of_ble_eq_true rfl) (Nat.le_of_ble_eq_true rfl) dX1_init_43 (fun b6 d6 H hK hP hD hS => ?_)
  have hP : va_P (dC, dI) vwCl [(h0, .inr (1, [.ref b1, .int (nI 2), .int (nI 5), .ref b4, .ref b5, .null])), (b1, .inl (d1, 32, .inl (fun _ => 0))), (b4, .inl (d4, 289, .inr (.inl (fun _ => 0)))), (b5, .inl (d5, 289, .inr (.inl (fun _ => 0)))), (b6, .inl (d6, 32, .inl (fun _ => 0)))] H := hP
  have hD : va_D A [(h0, .inr (1, [.ref b1, .int (nI 2), .int (nI 5), .ref b4, .ref b5, .null])), (b1, .inl (d1, 32, .inl (fun _ => 0))), (b4, .inl (d4, 289, .inr (.inl (fun _ => 0)))), (b5, .inl (d5, 289, .inr (.inl (fun _ => 0)))), (b6, .inl (d6, 32, .inl (fun _ => 0)))] := hD
  have hK : va_K (dC, dI) vwCl [(d1, .int), (d4, .long), (d5, .long), (d6, .int)] s := hK
  refine W.widen (k := 4) (n := 642) (Nat.le_of_ble_eq_true rfl) (Nat.le_of_ble_eq_true rfl) ?_
  refine va_putF (D := (dC, dI)) (ci := 1) (v := .ref b6) (ty := .array .int) (C := RX1) (T := TX1) (N := 6) hx hb hts hinX1_init tyX1 tyX1_ok nmX1 hown hK hP hD hS 0 rfl rfl 5 (by decide) (hts _ mmX1_init_9) (fun _ h9 => h9) rfl hin2 rfl (by decide +kernel) rfl rfl (Nat.le_of_ble_eq_true rfl) dX1_init_45 (fun H locs hP hD hS => ?_)
  have hP : va_P (dC, dI) vwCl [(h0, .inr (1, [.ref b1, .int (nI 2), .int (nI 5), .ref b4, .ref b5, .ref b6])), (b1, .inl (d1, 32, .inl (fun _ => 0))), (b4, .inl (d4, 289, .inr (.inl (fun _ => 0)))), (b5, .inl (d5, 289, .inr (.inl (fun _ => 0)))), (b6, .inl (d6, 32, .inl (fun _ => 0)))] H := hP
  have hD : va_D A [(h0, .inr (1, [.ref b1, .int (nI 2), .int (nI 5), .ref b4, .ref b5, .ref b6])), (b1, .inl (d1, 32, .inl (fun _ => 0))), (b4, .inl (d4, 289, .inr (.inl (fun _ => 0)))), (b5, .inl (d5, 289, .inr (.inl (fun _ => 0)))), (b6, .inl (d6, 32, .inl (fun _ => 0)))] := hD
  exact W.vret hx hb hr (fun t ht hW => ⟨⟨(), rfl, trivial, b1, b4, b5, b6, d1, d4, d5, d6, by rw [ht]; exact hP, va_K.moved hW.alike hK, hD⟩, hS.F ht⟩) hS.2.2 dX1_init_48
