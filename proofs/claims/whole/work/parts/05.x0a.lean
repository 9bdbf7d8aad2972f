/-- a number without its highest bit; a place out of the lowest five bits -/
def tn_k (x : Int32) : Nat := x.toBitVec.toNat % 2 ^ 31
theorem tn_k_lt (x : Int32) : tn_k x < 2 ^ 31 := Nat.mod_lt _ (by decide)
theorem tn_k_and (x : Int32) : x &&& 2147483647 = nI (tn_k x) := pk_and x 31 (by decide)
def tn_p (x : Int32) : Nat := x.toBitVec.toNat % 2 ^ 5
theorem tn_p_lt (x : Int32) : tn_p x < 32 := Nat.mod_lt _ (by decide)
theorem tn_p_and (x : Int32) : x &&& nI 31 = nI (tn_p x) := pk_and x 5 (by decide)
/-- the row of weights behind weight(i, a, b, c, d) -/
def tn_wt (f : Nat → Int32) (i a b c d : Int32) : Nat → Int32 := upd (upd (upd (upd f (tn_p i) (nI (tn_k a))) (tn_p (i + nI 1)) (nI (tn_k b))) (tn_p (i + nI 2)) (nI (tn_k c))) (tn_p (i + nI 3)) (nI (tn_k d))
theorem hinX0_letters : ∀ w ∈ wsX00, w ∈ wsX0_letters := by decide +kernel
theorem hinX0_limit : ∀ w ∈ wsX00, w ∈ wsX0_limit := by decide +kernel
theorem hinX0_setWeight : ∀ w ∈ wsX00, w ∈ wsX0_setWeight := by decide +kernel
theorem hinX0_init : ∀ w ∈ wsX00, w ∈ wsX0_init := by decide +kernel
theorem mmX0_letters_0 : Cond.constant RX0 30 (2147483647) ∈ wsX0_letters := by decide +kernel
theorem mmX0_letters_1 : Cond.fieldLink RX0 13 "TrimCodes" "letterCount" "I" ∈ wsX0_letters := by decide +kernel
theorem mmX0_limit_0 : Cond.constant RX0 30 (2147483647) ∈ wsX0_limit := by decide +kernel
theorem mmX0_limit_1 : Cond.fieldLink RX0 17 "TrimCodes" "lengthLimit" "I" ∈ wsX0_limit := by decide +kernel
theorem mmX0_setWeight_0 : Cond.fieldLink RX0 9 "TrimCodes" "weights" "[I" ∈ wsX0_setWeight := by decide +kernel
theorem mmX0_setWeight_1 : Cond.constant RX0 30 (2147483647) ∈ wsX0_setWeight := by decide +kernel
theorem mmX0_init_0 : Cond.methodLink RX0 1 objectInit ∈ wsX0_init := by decide +kernel
theorem mmX0_init_1 : Cond.instanceMethod objectInit ∈ wsX0_init := by decide +kernel
theorem mmX0_init_2 : Cond.arrayClass .int ∈ wsX0_init := by decide +kernel
theorem mmX0_init_3 : Cond.fieldLink RX0 9 "TrimCodes" "weights" "[I" ∈ wsX0_init := by decide +kernel
theorem mmX0_init_4 : Cond.fieldLink RX0 13 "TrimCodes" "letterCount" "I" ∈ wsX0_init := by decide +kernel
theorem mmX0_init_5 : Cond.fieldLink RX0 17 "TrimCodes" "lengthLimit" "I" ∈ wsX0_init := by decide +kernel
theorem mmX0_init_6 : Cond.arrayClass .long ∈ wsX0_init := by decide +kernel
theorem mmX0_init_7 : Cond.fieldLink RX0 20 "TrimCodes" "sortedWeights" "[J" ∈ wsX0_init := by decide +kernel
theorem mmX0_init_8 : Cond.fieldLink RX0 24 "TrimCodes" "coins" "[J" ∈ wsX0_init := by decide +kernel
theorem mmX0_init_9 : Cond.fieldLink RX0 27 "TrimCodes" "pairs" "[J" ∈ wsX0_init := by decide +kernel
set_option maxHeartbeats 4000000 in
set_option maxRecDepth 100000 in
/-- letters(k) -/
theorem c_X0_letters (l : Launch) (dC : Nat → ClassId) (dI : Nat → Nat → Nat) (h0 a1 a3 a4 a5 : Nat) (c1 c3 c4 c5 : ClassId) (n lim : Int32) (fw : Nat → Int32) (fs fc fp : Nat → Int64) (sz : Nat) (p0 : Int32) : Met l yX0_letters wsX0_letters ({ frames := 0, cells := 0, slots := 0, locals := 0 }) (va_Pc [.ref h0, .int p0] (fun U => U.heap.size = sz ∧ va_P (dC, dI) vwCl [(h0, .inr (0, [.ref a1, .int n, .int lim, .ref a3, .ref a4, .ref a5])), (a1, .inl (c1, 32, .inl fw)), (a3, .inl (c3, 16, .inr (.inl fs))), (a4, .inl (c4, 32, .inr (.inl fc))), (a5, .inl (c5, 16, .inr (.inl fp)))] U.heap ∧ va_K (dC, dI) vwCl [(c1, .int), (c3, .long), (c4, .long), (c5, .long)] U ∧ va_D (fun _ => True) [(h0, .inr (0, [.ref a1, .int n, .int lim, .ref a3, .ref a4, .ref a5])), (a1, .inl (c1, 32, .inl fw)), (a3, .inl (c3, 16, .inr (.inl fs))), (a4, .inl (c4, 32, .inr (.inl fc))), (a5, .inl (c5, 16, .inr (.inl fp)))])) (va_Qv (fun u : Int32 => u = nI (2 + tn_k p0 % 15)) (fun (u : Int32) (t : State) => va_P (dC, dI) vwCl [(h0, .inr (0, [.ref a1, .int u, .int lim, .ref a3, .ref a4, .ref a5])), (a1, .inl (c1, 32, .inl fw)), (a3, .inl (c3, 16, .inr (.inl fs))), (a4, .inl (c4, 32, .inr (.inl fc))), (a5, .inl (c5, 16, .inr (.inl fp)))] t.heap ∧ va_K (dC, dI) vwCl [(c1, .int), (c3, .long), (c4, .long), (c5, .long)] t ∧ va_D (va_A [(h0, .inr (0, [.ref a1, .int n, .int lim, .ref a3, .ref a4, .ref a5])), (a1, .inl (c1, 32, .inl fw)), (a3, .inl (c3, 16, .inr (.inl fs))), (a4, .inl (c4, 32, .inr (.inl fc))), (a5, .inl (c5, 16, .inr (.inl fp)))] sz) [(h0, .inr (0, [.ref a1, .int u, .int lim, .ref a3, .ref a4, .ref a5])), (a1, .inl (c1, 32, .inl fw)), (a3, .inl (c3, 16, .inr (.inl fs))), (a4, .inl (c4, 32, .inr (.inl fc))), (a5, .inl (c5, 16, .inr (.inl fp)))]) (va_A [(h0, .inr (0, [.ref a1, .int n, .int lim, .ref a3, .ref a4, .ref a5])), (a1, .inl (c1, 32, .inl fw)), (a3, .inl (c3, 16, .inr (.inl fs))), (a4, .inl (c4, 32, .inr (.inl fc))), (a5, .inl (c5, 16, .inr (.inl fp)))] sz)) 0 0 (va_A [(h0, .inr (0, [.ref a1, .int n, .int lim, .ref a3, .ref a4, .ref a5])), (a1, .inl (c1, 32, .inl fw)), (a3, .inl (c3, 16, .inr (.inl fs))), (a4, .inl (c4, 32, .inr (.inl fc))), (a5, .inl (c5, 16, .inr (.inl fp)))] sz) := by
  refine Met.ofW (cc := cX0_letters) (maxL := 2) (ret := none) (by decide) rfl ?_
  intro p e s m args below meth c s₁ B hml hv
  obtain ⟨rfl, hsz, hP, hK, hD0⟩ := hv
  have hx := B.exec
  have hb := B.bytes
  have hr := B.returns
  have hts := atoms_spec (ws := wsX0_letters) B.pre
  have hown : s.vm.findClass RX0 = some m.cls := findClass_of_methodNamed B.named
  have hlocks := B.notSynchronized
  subst hsz
  have hD := hD0.self (sz := s.heap.size)
  generalize hAe : va_A [(h0, .inr (0, [.ref a1, .int n, .int lim, .ref a3, .ref a4, .ref a5])), (a1, .inl (c1, 32, .inl fw)), (a3, .inl (c3, 16, .inr (.inl fs))), (a4, .inl (c4, 32, .inr (.inl fc))), (a5, .inl (c5, 16, .inr (.inl fp)))] s.heap.size = A at hD ⊢
  have hA : ∀ q : Nat, s.heap.size ≤ q → A q := fun q h => by rw [← hAe]; exact Or.inr h
  have hS : va_S A s.heap s.heap [] := va_S.rf
  have hP : va_P (dC, dI) vwCl [(h0, .inr (0, [.ref a1, .int n, .int lim, .ref a3, .ref a4, .ref a5])), (a1, .inl (c1, 32, .inl fw)), (a3, .inl (c3, 16, .inr (.inl fs))), (a4, .inl (c4, 32, .inr (.inl fc))), (a5, .inl (c5, 16, .inr (.inl fp)))] s.heap := hP
  have hl := lv_entry ([.ref h0, .int p0]) (n := 2) (Nat.le_of_ble_eq_true rfl)
  rw [lg_entry_eq]
  generalize (lg_sl ([.ref h0, .int p0]) ++ List.replicate (2 - (lg_sl ([.ref h0, .int p0])).length) Slot.unset).toArray = ls at hl ⊢
  have hl : lv_has ls 2 [(0, .ref h0), (1, .int p0)] := hl
  refine lv_aload_n hx hb dX0_letters_0 rfl (lv_at hl 0 rfl) ?_
  refine lv_iconst (v := nI 2) hx hb dX0_letters_1 (by decide) ?_
  refine lv_iload_n hx hb dX0_letters_2 rfl (lv_at hl 1 rfl) ?_
  refine lv_ldc hx hb hown (hts _ mmX0_letters_0) dX0_letters_3 ?_
  refine lv_iand hx hb dX0_letters_5 ?_
  refine tw_i (nI (tn_k p0)) (tn_k_and p0) ?_
  refine lv_bipush (v := nI 15) hx hb dX0_letters_6 (by decide) ?_
  refine lv_irem hx hb dX0_letters_8 (by decide) ?_
  refine tw_i (nI (tn_k p0 % 15)) (tn_rem 15 (tn_k_lt p0) (by decide) (by decide)) ?_
  refine lv_iadd hx hb dX0_letters_9 ?_
  refine tw_i (nI (2 + (tn_k p0 % 15))) (nI_add _ _) ?_
  refine va_put (D := (dC, dI)) (ci := 0) (v := .int (nI (2 + (tn_k p0 % 15)))) (ty := .int) (C := RX0) (T := TX0) (N := 6) hx hb hts hinX0_letters tyX0 tyX0_ok nmX0 hown hK hP hD hS 0 rfl rfl 1 (by decide) (hts _ mmX0_letters_1) (fun _ h9 => h9) rfl (by decide +kernel) rfl rfl (Nat.le_of_ble_eq_true rfl) dX0_letters_10 (fun H locs hP hD hS => ?_)
  have hP : va_P (dC, dI) vwCl [(h0, .inr (0, [.ref a1, .int (nI (2 + (tn_k p0 % 15))), .int lim, .ref a3, .ref a4, .ref a5])), (a1, .inl (c1, 32, .inl fw)), (a3, .inl (c3, 16, .inr (.inl fs))), (a4, .inl (c4, 32, .inr (.inl fc))), (a5, .inl (c5, 16, .inr (.inl fp)))] H := hP
  have hD : va_D A [(h0, .inr (0, [.ref a1, .int (nI (2 + (tn_k p0 % 15))), .int lim, .ref a3, .ref a4, .ref a5])), (a1, .inl (c1, 32, .inl fw)), (a3, .inl (c3, 16, .inr (.inl fs))), (a4, .inl (c4, 32, .inr (.inl fc))), (a5, .inl (c5, 16, .inr (.inl fp)))] := hD
  exact W.vret hx hb hr (fun t ht hW => ⟨⟨nI (2 + tn_k p0 % 15), rfl, rfl, by rw [ht]; exact hP, va_K.moved hW.alike hK, hD⟩, hS.F ht⟩) hS.2.2 dX0_letters_13
set_option maxHeartbeats 4000000 in
set_option maxRecDepth 100000 in
/-- limit(k) -/
theorem c_X0_limit (l : Launch) (dC : Nat → ClassId) (dI : Nat → Nat → Nat) (h0 a1 a3 a4 a5 : Nat) (c1 c3 c4 c5 : ClassId) (n lim : Int32) (fw : Nat → Int32) (fs fc fp : Nat → Int64) (sz : Nat) (p0 : Int32) : Met l yX0_limit wsX0_limit ({ frames := 0, cells := 0, slots := 0, locals := 0 }) (va_Pc [.ref h0, .int p0] (fun U => U.heap.size = sz ∧ va_P (dC, dI) vwCl [(h0, .inr (0, [.ref a1, .int n, .int lim, .ref a3, .ref a4, .ref a5])), (a1, .inl (c1, 32, .inl fw)), (a3, .inl (c3, 16, .inr (.inl fs))), (a4, .inl (c4, 32, .inr (.inl fc))), (a5, .inl (c5, 16, .inr (.inl fp)))] U.heap ∧ va_K (dC, dI) vwCl [(c1, .int), (c3, .long), (c4, .long), (c5, .long)] U ∧ va_D (fun _ => True) [(h0, .inr (0, [.ref a1, .int n, .int lim, .ref a3, .ref a4, .ref a5])), (a1, .inl (c1, 32, .inl fw)), (a3, .inl (c3, 16, .inr (.inl fs))), (a4, .inl (c4, 32, .inr (.inl fc))), (a5, .inl (c5, 16, .inr (.inl fp)))])) (va_Qv (fun u : Int32 => u = nI (tn_k p0 % 16)) (fun (u : Int32) (t : State) => va_P (dC, dI) vwCl [(h0, .inr (0, [.ref a1, .int n, .int u, .ref a3, .ref a4, .ref a5])), (a1, .inl (c1, 32, .inl fw)), (a3, .inl (c3, 16, .inr (.inl fs))), (a4, .inl (c4, 32, .inr (.inl fc))), (a5, .inl (c5, 16, .inr (.inl fp)))] t.heap ∧ va_K (dC, dI) vwCl [(c1, .int), (c3, .long), (c4, .long), (c5, .long)] t ∧ va_D (va_A [(h0, .inr (0, [.ref a1, .int n, .int lim, .ref a3, .ref a4, .ref a5])), (a1, .inl (c1, 32, .inl fw)), (a3, .inl (c3, 16, .inr (.inl fs))), (a4, .inl (c4, 32, .inr (.inl fc))), (a5, .inl (c5, 16, .inr (.inl fp)))] sz) [(h0, .inr (0, [.ref a1, .int n, .int u, .ref a3, .ref a4, .ref a5])), (a1, .inl (c1, 32, .inl fw)), (a3, .inl (c3, 16, .inr (.inl fs))), (a4, .inl (c4, 32, .inr (.inl fc))), (a5, .inl (c5, 16, .inr (.inl fp)))]) (va_A [(h0, .inr (0, [.ref a1, .int n, .int lim, .ref a3, .ref a4, .ref a5])), (a1, .inl (c1, 32, .inl fw)), (a3, .inl (c3, 16, .inr (.inl fs))), (a4, .inl (c4, 32, .inr (.inl fc))), (a5, .inl (c5, 16, .inr (.inl fp)))] sz)) 0 0 (va_A [(h0, .inr (0, [.ref a1, .int n, .int lim, .ref a3, .ref a4, .ref a5])), (a1, .inl (c1, 32, .inl fw)), (a3, .inl (c3, 16, .inr (.inl fs))), (a4, .inl (c4, 32, .inr (.inl fc))), (a5, .inl (c5, 16, .inr (.inl fp)))] sz) := by
  refine Met.ofW (cc := cX0_limit) (maxL := 2) (ret := none) (by decide) rfl ?_
  intro p e s m args below meth c s₁ B hml hv
  obtain ⟨rfl, hsz, hP, hK, hD0⟩ := hv
  have hx := B.exec
  have hb := B.bytes
  have hr := B.returns
  have hts := atoms_spec (ws := wsX0_limit) B.pre
  have hown : s.vm.findClass RX0 = some m.cls := findClass_of_methodNamed B.named
  have hlocks := B.notSynchronized
  subst hsz
  have hD := hD0.self (sz := s.heap.size)
  generalize hAe : va_A [(h0, .inr (0, [.ref a1, .int n, .int lim, .ref a3, .ref a4, .ref a5])), (a1, .inl (c1, 32, .inl fw)), (a3, .inl (c3, 16, .inr (.inl fs))), (a4, .inl (c4, 32, .inr (.inl fc))), (a5, .inl (c5, 16, .inr (.inl fp)))] s.heap.size = A at hD ⊢
  have hA : ∀ q : Nat, s.heap.size ≤ q → A q := fun q h => by rw [← hAe]; exact Or.inr h
  have hS : va_S A s.heap s.heap [] := va_S.rf
  have hP : va_P (dC, dI) vwCl [(h0, .inr (0, [.ref a1, .int n, .int lim, .ref a3, .ref a4, .ref a5])), (a1, .inl (c1, 32, .inl fw)), (a3, .inl (c3, 16, .inr (.inl fs))), (a4, .inl (c4, 32, .inr (.inl fc))), (a5, .inl (c5, 16, .inr (.inl fp)))] s.heap := hP
  have hl := lv_entry ([.ref h0, .int p0]) (n := 2) (Nat.le_of_ble_eq_true rfl)
  rw [lg_entry_eq]
  generalize (lg_sl ([.ref h0, .int p0]) ++ List.replicate (2 - (lg_sl ([.ref h0, .int p0])).length) Slot.unset).toArray = ls at hl ⊢
  have hl : lv_has ls 2 [(0, .ref h0), (1, .int p0)] := hl
  refine lv_aload_n hx hb dX0_limit_0 rfl (lv_at hl 0 rfl) ?_
  refine lv_iload_n hx hb dX0_limit_1 rfl (lv_at hl 1 rfl) ?_
  refine lv_ldc hx hb hown (hts _ mmX0_limit_0) dX0_limit_2 ?_
  refine lv_iand hx hb dX0_limit_4 ?_
  refine tw_i (nI (tn_k p0)) (tn_k_and p0) ?_
  refine lv_bipush (v := nI 16) hx hb dX0_limit_5 (by decide) ?_
  refine lv_irem hx hb dX0_limit_7 (by decide) ?_
  refine tw_i (nI (tn_k p0 % 16)) (tn_rem 16 (tn_k_lt p0) (by decide) (by decide)) ?_
  refine va_put (D := (dC, dI)) (ci := 0) (v := .int (nI (tn_k p0 % 16))) (ty := .int) (C := RX0) (T := TX0) (N := 6) hx hb hts hinX0_limit tyX0 tyX0_ok nmX0 hown hK hP hD hS 0 rfl rfl 2 (by decide) (hts _ mmX0_limit_1) (fun _ h9 => h9) rfl (by decide +kernel) rfl rfl (Nat.le_of_ble_eq_true rfl) dX0_limit_8 (fun H locs hP hD hS => ?_)
  have hP : va_P (dC, dI) vwCl [(h0, .inr (0, [.ref a1, .int n, .int (nI (tn_k p0 % 16)), .ref a3, .ref a4, .ref a5])), (a1, .inl (c1, 32, .inl fw)), (a3, .inl (c3, 16, .inr (.inl fs))), (a4, .inl (c4, 32, .inr (.inl fc))), (a5, .inl (c5, 16, .inr (.inl fp)))] H := hP
  have hD : va_D A [(h0, .inr (0, [.ref a1, .int n, .int (nI (tn_k p0 % 16)), .ref a3, .ref a4, .ref a5])), (a1, .inl (c1, 32, .inl fw)), (a3, .inl (c3, 16, .inr (.inl fs))), (a4, .inl (c4, 32, .inr (.inl fc))), (a5, .inl (c5, 16, .inr (.inl fp)))] := hD
  exact W.vret hx hb hr (fun t ht hW => ⟨⟨nI (tn_k p0 % 16), rfl, rfl, by rw [ht]; exact hP, va_K.moved hW.alike hK, hD⟩, hS.F ht⟩) hS.2.2 dX0_limit_11
set_option maxHeartbeats 4000000 in
set_option maxRecDepth 100000 in
/-- setWeight(i, value) -/
theorem c_X0_setWeight (l : Launch) (dC : Nat → ClassId) (dI : Nat → Nat → Nat) (h0 a1 a3 a4 a5 : Nat) (c1 c3 c4 c5 : ClassId) (n lim : Int32) (fw : Nat → Int32) (fs fc fp : Nat → Int64) (sz : Nat) (p0 p1 : Int32) : Met l yX0_setWeight wsX0_setWeight ({ frames := 0, cells := 0, slots := 0, locals := 0 }) (va_Pc [.ref h0, .int p0, .int p1] (fun U => U.heap.size = sz ∧ va_P (dC, dI) vwCl [(h0, .inr (0, [.ref a1, .int n, .int lim, .ref a3, .ref a4, .ref a5])), (a1, .inl (c1, 32, .inl fw)), (a3, .inl (c3, 16, .inr (.inl fs))), (a4, .inl (c4, 32, .inr (.inl fc))), (a5, .inl (c5, 16, .inr (.inl fp)))] U.heap ∧ va_K (dC, dI) vwCl [(c1, .int), (c3, .long), (c4, .long), (c5, .long)] U ∧ va_D (fun _ => True) [(h0, .inr (0, [.ref a1, .int n, .int lim, .ref a3, .ref a4, .ref a5])), (a1, .inl (c1, 32, .inl fw)), (a3, .inl (c3, 16, .inr (.inl fs))), (a4, .inl (c4, 32, .inr (.inl fc))), (a5, .inl (c5, 16, .inr (.inl fp)))])) (va_Qv (fun u : Nat → Int32 => u = upd fw (tn_p p0) (nI (tn_k p1))) (fun (u : Nat → Int32) (t : State) => va_P (dC, dI) vwCl [(h0, .inr (0, [.ref a1, .int n, .int lim, .ref a3, .ref a4, .ref a5])), (a1, .inl (c1, 32, .inl u)), (a3, .inl (c3, 16, .inr (.inl fs))), (a4, .inl (c4, 32, .inr (.inl fc))), (a5, .inl (c5, 16, .inr (.inl fp)))] t.heap ∧ va_K (dC, dI) vwCl [(c1, .int), (c3, .long), (c4, .long), (c5, .long)] t ∧ va_D (va_A [(h0, .inr (0, [.ref a1, .int n, .int lim, .ref a3, .ref a4, .ref a5])), (a1, .inl (c1, 32, .inl fw)), (a3, .inl (c3, 16, .inr (.inl fs))), (a4, .inl (c4, 32, .inr (.inl fc))), (a5, .inl (c5, 16, .inr (.inl fp)))] sz) [(h0, .inr (0, [.ref a1, .int n, .int lim, .ref a3, .ref a4, .ref a5])), (a1, .inl (c1, 32, .inl u)), (a3, .inl (c3, 16, .inr (.inl fs))), (a4, .inl (c4, 32, .inr (.inl fc))), (a5, .inl (c5, 16, .inr (.inl fp)))]) (va_A [(h0, .inr (0, [.ref a1, .int n, .int lim, .ref a3, .ref a4, .ref a5])), (a1, .inl (c1, 32, .inl fw)), (a3, .inl (c3, 16, .inr (.inl fs))), (a4, .inl (c4, 32, .inr (.inl fc))), (a5, .inl (c5, 16, .inr (.inl fp)))] sz)) 0 0 (va_A [(h0, .inr (0, [.ref a1, .int n, .int lim, .ref a3, .ref a4, .ref a5])), (a1, .inl (c1, 32, .inl fw)), (a3, .inl (c3, 16, .inr (.inl fs))), (a4, .inl (c4, 32, .inr (.inl fc))), (a5, .inl (c5, 16, .inr (.inl fp)))] sz) := by
  refine Met.ofW (cc := cX0_setWeight) (maxL := 4) (ret := none) (by decide) rfl ?_
  intro p e s m args below meth c s₁ B hml hv
  obtain ⟨rfl, hsz, hP, hK, hD0⟩ := hv
  have hx := B.exec
  have hb := B.bytes
  have hr := B.returns
  have hts := atoms_spec (ws := wsX0_setWeight) B.pre
  have hown : s.vm.findClass RX0 = some m.cls := findClass_of_methodNamed B.named
  have hlocks := B.notSynchronized
  subst hsz
  have hD := hD0.self (sz := s.heap.size)
  generalize hAe : va_A [(h0, .inr (0, [.ref a1, .int n, .int lim, .ref a3, .ref a4, .ref a5])), (a1, .inl (c1, 32, .inl fw)), (a3, .inl (c3, 16, .inr (.inl fs))), (a4, .inl (c4, 32, .inr (.inl fc))), (a5, .inl (c5, 16, .inr (.inl fp)))] s.heap.size = A at hD ⊢
  have hA : ∀ q : Nat, s.heap.size ≤ q → A q := fun q h => by rw [← hAe]; exact Or.inr h
  have hS : va_S A s.heap s.heap [] := va_S.rf
  have hP : va_P (dC, dI) vwCl [(h0, .inr (0, [.ref a1, .int n, .int lim, .ref a3, .ref a4, .ref a5])), (a1, .inl (c1, 32, .inl fw)), (a3, .inl (c3, 16, .inr (.inl fs))), (a4, .inl (c4, 32, .inr (.inl fc))), (a5, .inl (c5, 16, .inr (.inl fp)))] s.heap := hP
  have hl := lv_entry ([.ref h0, .int p0, .int p1]) (n := 4) (Nat.le_of_ble_eq_true rfl)
  rw [lg_entry_eq]
  generalize (lg_sl ([.ref h0, .int p0, .int p1]) ++ List.replicate (4 - (lg_sl ([.ref h0, .int p0, .int p1])).length) Slot.unset).toArray = ls at hl ⊢
  have hl : lv_has ls 4 [(0, .ref h0), (1, .int p0), (2, .int p1)] := hl
  have hlt := tn_p_lt p0
  refine lv_iload_n hx hb dX0_setWeight_0 rfl (lv_at hl 1 rfl) ?_
  refine lv_bipush (v := nI 31) hx hb dX0_setWeight_1 (by decide) ?_
  refine lv_iand hx hb dX0_setWeight_3 ?_
  refine tw_i (nI (tn_p p0)) (tn_p_and p0) ?_
  refine lv_istore_n (lv' := [(3, .int (nI (tn_p p0))), (0, .ref h0), (1, .int p0), (2, .int p1)]) hx hb dX0_setWeight_4 rfl hl (by decide) rfl (fun ls hl => ?_)
  refine lv_iload_n hx hb dX0_setWeight_5 rfl (lv_at hl 0 rfl) ?_
  refine lv_aload_n hx hb dX0_setWeight_6 rfl (lv_at hl 1 rfl) ?_
  refine va_get (D := (dC, dI)) (ci := 0) (v := .ref a1) (C := RX0) (T := TX0) (N := 6) hx hb hts hinX0_setWeight hown hK hP 0 rfl rfl 0 (by decide) (hts _ mmX0_setWeight_0) (fun _ h9 => h9) rfl dX0_setWeight_7 ?_
  refine va_alen hx hb hK hP 1 0 rfl rfl (v := nI 32) rfl dX0_setWeight_10 ?_
  refine tw_icmp_ge hx hb (tn_p p0) 32 (tgt := 24) dX0_setWeight_11 (by decide) (by omega) (by decide) (fun hc => ?_) (fun hc => ?_)
  · exact absurd hc (by omega)
  · refine lv_aload_n hx hb dX0_setWeight_14 rfl (lv_at hl 1 rfl) ?_
    refine va_get (D := (dC, dI)) (ci := 0) (v := .ref a1) (C := RX0) (T := TX0) (N := 6) hx hb hts hinX0_setWeight hown hK hP 0 rfl rfl 0 (by decide) (hts _ mmX0_setWeight_0) (fun _ h9 => h9) rfl dX0_setWeight_15 ?_
    refine lv_iload_n hx hb dX0_setWeight_18 rfl (lv_at hl 0 rfl) ?_
    refine lv_iload_n hx hb dX0_setWeight_19 rfl (lv_at hl 3 rfl) ?_
    refine lv_ldc hx hb hown (hts _ mmX0_setWeight_1) dX0_setWeight_20 ?_
    refine lv_iand hx hb dX0_setWeight_22 ?_
    refine tw_i (nI (tn_k p1)) (tn_k_and p1) ?_
    refine va_iast hx hb hK hP hD hS 1 0 rfl rfl (tn_in 32 (by omega) (by decide)) dX0_setWeight_23 (fun H locs hP hD hS => ?_)
    rw [tn_cl (show tn_p p0 < 2 ^ 31 by omega)] at hP hD
    have hP : va_P (dC, dI) vwCl [(h0, .inr (0, [.ref a1, .int n, .int lim, .ref a3, .ref a4, .ref a5])), (a1, .inl (c1, 32, .inl (upd fw (tn_p p0) (nI (tn_k p1))))), (a3, .inl (c3, 16, .inr (.inl fs))), (a4, .inl (c4, 32, .inr (.inl fc))), (a5, .inl (c5, 16, .inr (.inl fp)))] H := hP
    have hD : va_D A [(h0, .inr (0, [.ref a1, .int n, .int lim, .ref a3, .ref a4, .ref a5])), (a1, .inl (c1, 32, .inl (upd fw (tn_p p0) (nI (tn_k p1))))), (a3, .inl (c3, 16, .inr (.inl fs))), (a4, .inl (c4, 32, .inr (.inl fc))), (a5, .inl (c5, 16, .inr (.inl fp)))] := hD
    exact W.vret hx hb hr (fun t ht hW => ⟨⟨upd fw (tn_p p0) (nI (tn_k p1)), rfl, rfl, by rw [ht]; exact hP, va_K.moved hW.alike hK, hD⟩, hS.F ht⟩) hS.2.2 dX0_setWeight_24
set_option maxHeartbeats 4000000 in
set_option maxRecDepth 100000 in
/-- weight(i, a, b, c, d) -/
theorem c_X0_weight (l : Launch) (dC : Nat → ClassId) (dI : Nat → Nat → Nat) (h0 a1 a3 a4 a5 : Nat) (c1 c3 c4 c5 : ClassId) (n lim : Int32) (fw : Nat → Int32) (fs fc fp : Nat → Int64) (sz : Nat) (p0 p1 p2 p3 p4 : Int32) : Met l yX0_weight wsX0_weight ({ frames := 1, cells := 0, slots := 0, locals := 23 }) (va_Pc [.ref h0, .int p0, .int p1, .int p2, .int p3, .int p4] (fun U => U.heap.size = sz ∧ va_P (dC, dI) vwCl [(h0, .inr (0, [.ref a1, .int n, .int lim, .ref a3, .ref a4, .ref a5])), (a1, .inl (c1, 32, .inl fw)), (a3, .inl (c3, 16, .inr (.inl fs))), (a4, .inl (c4, 32, .inr (.inl fc))), (a5, .inl (c5, 16, .inr (.inl fp)))] U.heap ∧ va_K (dC, dI) vwCl [(c1, .int), (c3, .long), (c4, .long), (c5, .long)] U ∧ va_D (fun _ => True) [(h0, .inr (0, [.ref a1, .int n, .int lim, .ref a3, .ref a4, .ref a5])), (a1, .inl (c1, 32, .inl fw)), (a3, .inl (c3, 16, .inr (.inl fs))), (a4, .inl (c4, 32, .inr (.inl fc))), (a5, .inl (c5, 16, .inr (.inl fp)))])) (va_Qv (fun u : Nat → Int32 => u = tn_wt fw p0 p1 p2 p3 p4) (fun (u : Nat → Int32) (t : State) => va_P (dC, dI) vwCl [(h0, .inr (0, [.ref a1, .int n, .int lim, .ref a3, .ref a4, .ref a5])), (a1, .inl (c1, 32, .inl u)), (a3, .inl (c3, 16, .inr (.inl fs))), (a4, .inl (c4, 32, .inr (.inl fc))), (a5, .inl (c5, 16, .inr (.inl fp)))] t.heap ∧ va_K (dC, dI) vwCl [(c1, .int), (c3, .long), (c4, .long), (c5, .long)] t ∧ va_D (va_A [(h0, .inr (0, [.ref a1, .int n, .int lim, .ref a3, .ref a4, .ref a5])), (a1, .inl (c1, 32, .inl fw)), (a3, .inl (c3, 16, .inr (.inl fs))), (a4, .inl (c4, 32, .inr (.inl fc))), (a5, .inl (c5, 16, .inr (.inl fp)))] sz) [(h0, .inr (0, [.ref a1, .int n, .int lim, .ref a3, .ref a4, .ref a5])), (a1, .inl (c1, 32, .inl u)), (a3, .inl (c3, 16, .inr (.inl fs))), (a4, .inl (c4, 32, .inr (.inl fc))), (a5, .inl (c5, 16, .inr (.inl fp)))]) (va_A [(h0, .inr (0, [.ref a1, .int n, .int lim, .ref a3, .ref a4, .ref a5])), (a1, .inl (c1, 32, .inl fw)), (a3, .inl (c3, 16, .inr (.inl fs))), (a4, .inl (c4, 32, .inr (.inl fc))), (a5, .inl (c5, 16, .inr (.inl fp)))] sz)) 0 0 (va_A [(h0, .inr (0, [.ref a1, .int n, .int lim, .ref a3, .ref a4, .ref a5])), (a1, .inl (c1, 32, .inl fw)), (a3, .inl (c3, 16, .inr (.inl fs))), (a4, .inl (c4, 32, .inr (.inl fc))), (a5, .inl (c5, 16, .inr (.inl fp)))] sz) := by
  refine Met.ofW (cc := cX0_weight) (maxL := 6) (ret := none) (by decide) rfl ?_
  intro p e s m args below meth c s₁ B hml hv
  obtain ⟨rfl, hsz, hP, hK, hD0⟩ := hv
  have hx := B.exec
  have hb := B.bytes
  have hr := B.returns
  have hts := atoms_spec (ws := wsX0_weight) B.pre
  have hown : s.vm.findClass RX0 = some m.cls := findClass_of_methodNamed B.named
  have hlocks := B.notSynchronized
  subst hsz
  have hD := hD0.self (sz := s.heap.size)
  generalize hAe : va_A [(h0, .inr (0, [.ref a1, .int n, .int lim, .ref a3, .ref a4, .ref a5])), (a1, .inl (c1, 32, .inl fw)), (a3, .inl (c3, 16, .inr (.inl fs))), (a4, .inl (c4, 32, .inr (.inl fc))), (a5, .inl (c5, 16, .inr (.inl fp)))] s.heap.size = A at hD ⊢
  have hA : ∀ q : Nat, s.heap.size ≤ q → A q := fun q h => by rw [← hAe]; exact Or.inr h
  have hS : va_S A s.heap s.heap [] := va_S.rf
  have hP : va_P (dC, dI) vwCl [(h0, .inr (0, [.ref a1, .int n, .int lim, .ref a3, .ref a4, .ref a5])), (a1, .inl (c1, 32, .inl fw)), (a3, .inl (c3, 16, .inr (.inl fs))), (a4, .inl (c4, 32, .inr (.inl fc))), (a5, .inl (c5, 16, .inr (.inl fp)))] s.heap := hP
  have hl := lv_entry ([.ref h0, .int p0, .int p1, .int p2, .int p3, .int p4]) (n := 6) (Nat.le_of_ble_eq_true rfl)
  rw [lg_entry_eq]
  generalize (lg_sl ([.ref h0, .int p0, .int p1, .int p2, .int p3, .int p4]) ++ List.replicate (6 - (lg_sl ([.ref h0, .int p0, .int p1, .int p2, .int p3, .int p4])).length) Slot.unset).toArray = ls at hl ⊢
  have hl : lv_has ls 6 [(0, .ref h0), (1, .int p0), (2, .int p1), (3, .int p2), (4, .int p3), (5, .int p4)] := hl
  refine lv_aload_n hx hb dX0_weight_0 rfl (lv_at hl 0 rfl) ?_
  refine lv_iload_n hx hb dX0_weight_1 rfl (lv_at hl 1 rfl) ?_
  refine lv_iload_n hx hb dX0_weight_2 rfl (lv_at hl 2 rfl) ?_
  have hFc := va_free (wc := [(h0, .inr (0, [.ref a1, .int n, .int lim, .ref a3, .ref a4, .ref a5])), (a1, .inl (c1, 32, .inl fw)), (a3, .inl (c3, 16, .inr (.inl fs))), (a4, .inl (c4, 32, .inr (.inl fc))), (a5, .inl (c5, 16, .inr (.inl fp)))]) hD hS hA [0, 1, 2, 3, 4] rfl
  refine va_callv (va_runV (As := [.int p0, .int p1]) (rest := []) ⟨hx, hb, hml, hown, hts⟩ (c_X0_setWeight l dC dI h0 a1 a3 a4 a5 c1 c3 c4 c5 n lim fw fs fc fp s.heap.size p0 p1) (cwV 2 hts gX0_weight_X0_setWeight rfl rfl rfl (by decide +kernel) ⟨Nat.le_of_ble_eq_true rfl, Nat.le_of_ble_eq_true rfl⟩) ⟨fun a U g mk q => by obtain ⟨q0, q1, qP, qK, qD⟩ := q; exact ⟨q0, q1, qP, va_K.moved (u := U) (U := U.calling g mk a) (Vm.Alike.refl U.vm) qK, qD⟩, va_recv hK hP (ci := 0) (q0 := 0) rfl rfl, fun U hU hW => ⟨rfl, by rw [hU], by rw [hU]; exact hP, va_K.moved hW.alike hK, hD.weaken (fun _ _ _ _ => trivial)⟩⟩ rfl rfl hl.1 rfl (lv_room (Nat.le_of_ble_eq_true rfl)) dX0_weight_3 ⟨(Nat.zero_le _), (Nat.zero_le _)⟩) hS (fun q _ h => hFc q h) hFc (fun u t H1 locs ht hvm hw hB hz1 hk1 hS => ?_)
  obtain ⟨f0, ef0⟩ : ∃ z, z = u := ⟨_, rfl⟩
  rw [← ef0] at hw hB
  obtain ⟨hP1, hK1, hD1⟩ := hB
  rw [ht] at hP1
  have hK1 := va_K.moved hvm.symm hK1
  obtain ⟨hP, hD⟩ := va_join (wr := []) (w1 := [(h0, .inr (0, [.ref a1, .int n, .int lim, .ref a3, .ref a4, .ref a5])), (a1, .inl (c1, 32, .inl f0)), (a3, .inl (c3, 16, .inr (.inl fs))), (a4, .inl (c4, 32, .inr (.inl fc))), (a5, .inl (c5, 16, .inr (.inl fp)))]) hP hD [0, 1, 2, 3, 4] [] rfl rfl (by decide) (by decide) hk1 hFc hP1 hD1
  generalize H1 = H at hP hS ⊢
  have hP : va_P (dC, dI) vwCl [(h0, .inr (0, [.ref a1, .int n, .int lim, .ref a3, .ref a4, .ref a5])), (a1, .inl (c1, 32, .inl f0)), (a3, .inl (c3, 16, .inr (.inl fs))), (a4, .inl (c4, 32, .inr (.inl fc))), (a5, .inl (c5, 16, .inr (.inl fp)))] H := hP
  have hD : va_D A [(h0, .inr (0, [.ref a1, .int n, .int lim, .ref a3, .ref a4, .ref a5])), (a1, .inl (c1, 32, .inl f0)), (a3, .inl (c3, 16, .inr (.inl fs))), (a4, .inl (c4, 32, .inr (.inl fc))), (a5, .inl (c5, 16, .inr (.inl fp)))] := hD
  have ef0 := hw
  refine lv_aload_n hx hb dX0_weight_6 rfl (lv_at hl 0 rfl) ?_
  refine lv_iload_n hx hb dX0_weight_7 rfl (lv_at hl 1 rfl) ?_
  refine lv_iconst (v := nI 1) hx hb dX0_weight_8 (by decide) ?_
  refine lv_iadd hx hb dX0_weight_9 ?_
  refine tw_i (p0 + nI 1) (rfl) ?_
  refine lv_iload_n hx hb dX0_weight_10 rfl (lv_at hl 3 rfl) ?_
  have hFc := va_free (wc := [(h0, .inr (0, [.ref a1, .int n, .int lim, .ref a3, .ref a4, .ref a5])), (a1, .inl (c1, 32, .inl f0)), (a3, .inl (c3, 16, .inr (.inl fs))), (a4, .inl (c4, 32, .inr (.inl fc))), (a5, .inl (c5, 16, .inr (.inl fp)))]) hD hS hA [0, 1, 2, 3, 4] rfl
  refine va_callv (va_runV (As := [.int (p0 + nI 1), .int p2]) (rest := []) ⟨hx, hb, hml, hown, hts⟩ (c_X0_setWeight l dC dI h0 a1 a3 a4 a5 c1 c3 c4 c5 n lim f0 fs fc fp H.size (p0 + nI 1) p2) (cwV 2 hts gX0_weight_X0_setWeight rfl rfl rfl (by decide +kernel) ⟨Nat.le_of_ble_eq_true rfl, Nat.le_of_ble_eq_true rfl⟩) ⟨fun a U g mk q => by obtain ⟨q0, q1, qP, qK, qD⟩ := q; exact ⟨q0, q1, qP, va_K.moved (u := U) (U := U.calling g mk a) (Vm.Alike.refl U.vm) qK, qD⟩, va_recv hK hP (ci := 0) (q0 := 0) rfl rfl, fun U hU hW => ⟨rfl, by rw [hU], by rw [hU]; exact hP, va_K.moved hW.alike hK, hD.weaken (fun _ _ _ _ => trivial)⟩⟩ rfl rfl hl.1 rfl (lv_room (Nat.le_of_ble_eq_true rfl)) dX0_weight_11 ⟨(Nat.zero_le _), (Nat.zero_le _)⟩) hS (fun q _ h => hFc q h) hFc (fun u t H1 locs ht hvm hw hB hz1 hk1 hS => ?_)
  obtain ⟨f1, ef1⟩ : ∃ z, z = u := ⟨_, rfl⟩
  rw [← ef1] at hw hB
  obtain ⟨hP1, hK1, hD1⟩ := hB
  rw [ht] at hP1
  have hK1 := va_K.moved hvm.symm hK1
  obtain ⟨hP, hD⟩ := va_join (wr := []) (w1 := [(h0, .inr (0, [.ref a1, .int n, .int lim, .ref a3, .ref a4, .ref a5])), (a1, .inl (c1, 32, .inl f1)), (a3, .inl (c3, 16, .inr (.inl fs))), (a4, .inl (c4, 32, .inr (.inl fc))), (a5, .inl (c5, 16, .inr (.inl fp)))]) hP hD [0, 1, 2, 3, 4] [] rfl rfl (by decide) (by decide) hk1 hFc hP1 hD1
  generalize H1 = H at hP hS ⊢
  have hP : va_P (dC, dI) vwCl [(h0, .inr (0, [.ref a1, .int n, .int lim, .ref a3, .ref a4, .ref a5])), (a1, .inl (c1, 32, .inl f1)), (a3, .inl (c3, 16, .inr (.inl fs))), (a4, .inl (c4, 32, .inr (.inl fc))), (a5, .inl (c5, 16, .inr (.inl fp)))] H := hP
  have hD : va_D A [(h0, .inr (0, [.ref a1, .int n, .int lim, .ref a3, .ref a4, .ref a5])), (a1, .inl (c1, 32, .inl f1)), (a3, .inl (c3, 16, .inr (.inl fs))), (a4, .inl (c4, 32, .inr (.inl fc))), (a5, .inl (c5, 16, .inr (.inl fp)))] := hD
  have ef1 := hw
  refine lv_aload_n hx hb dX0_weight_14 rfl (lv_at hl 0 rfl) ?_
  refine lv_iload_n hx hb dX0_weight_15 rfl (lv_at hl 1 rfl) ?_
  refine lv_iconst (v := nI 2) hx hb dX0_weight_16 (by decide) ?_
  refine lv_iadd hx hb dX0_weight_17 ?_
  refine tw_i (p0 + nI 2) (rfl) ?_
  refine lv_iload hx hb dX0_weight_18 (lv_at hl 4 rfl) ?_
  have hFc := va_free (wc := [(h0, .inr (0, [.ref a1, .int n, .int lim, .ref a3, .ref a4, .ref a5])), (a1, .inl (c1, 32, .inl f1)), (a3, .inl (c3, 16, .inr (.inl fs))), (a4, .inl (c4, 32, .inr (.inl fc))), (a5, .inl (c5, 16, .inr (.inl fp)))]) hD hS hA [0, 1, 2, 3, 4] rfl
  refine va_callv (va_runV (As := [.int (p0 + nI 2), .int p3]) (rest := []) ⟨hx, hb, hml, hown, hts⟩ (c_X0_setWeight l dC dI h0 a1 a3 a4 a5 c1 c3 c4 c5 n lim f1 fs fc fp H.size (p0 + nI 2) p3) (cwV 2 hts gX0_weight_X0_setWeight rfl rfl rfl (by decide +kernel) ⟨Nat.le_of_ble_eq_true rfl, Nat.le_of_ble_eq_true rfl⟩) ⟨fun a U g mk q => by obtain ⟨q0, q1, qP, qK, qD⟩ := q; exact ⟨q0, q1, qP, va_K.moved (u := U) (U := U.calling g mk a) (Vm.Alike.refl U.vm) qK, qD⟩, va_recv hK hP (ci := 0) (q0 := 0) rfl rfl, fun U hU hW => ⟨rfl, by rw [hU], by rw [hU]; exact hP, va_K.moved hW.alike hK, hD.weaken (fun _ _ _ _ => trivial)⟩⟩ rfl rfl hl.1 rfl (lv_room (Nat.le_of_ble_eq_true rfl)) dX0_weight_20 ⟨(Nat.zero_le _), (Nat.zero_le _)⟩) hS (fun q _ h => hFc q h) hFc (fun u t H1 locs ht hvm hw hB hz1 hk1 hS => ?_)
  obtain ⟨f2, ef2⟩ : ∃ z, z = u := ⟨_, rfl⟩
  rw [← ef2] at hw hB
  obtain ⟨hP1, hK1, hD1⟩ := hB
  rw [ht] at hP1
  have hK1 := va_K.moved hvm.symm hK1
  obtain ⟨hP, hD⟩ := va_join (wr := []) (w1 := [(h0, .inr (0, [.ref a1, .int n, .int lim, .ref a3, .ref a4, .ref a5])), (a1, .inl (c1, 32, .inl f2)), (a3, .inl (c3, 16, .inr (.inl fs))), (a4, .inl (c4, 32, .inr (.inl fc))), (a5, .inl (c5, 16, .inr (.inl fp)))]) hP hD [0, 1, 2, 3, 4] [] rfl rfl (by decide) (by decide) hk1 hFc hP1 hD1
  generalize H1 = H at hP hS ⊢
  have hP : va_P (dC, dI) vwCl [(h0, .inr (0, [.ref a1, .int n, .int lim, .ref a3, .ref a4, .ref a5])), (a1, .inl (c1, 32, .inl f2)), (a3, .inl (c3, 16, .inr (.inl fs))), (a4, .inl (c4, 32, .inr (.inl fc))), (a5, .inl (c5, 16, .inr (.inl fp)))] H := hP
  have hD : va_D A [(h0, .inr (0, [.ref a1, .int n, .int lim, .ref a3, .ref a4, .ref a5])), (a1, .inl (c1, 32, .inl f2)), (a3, .inl (c3, 16, .inr (.inl fs))), (a4, .inl (c4, 32, .inr (.inl fc))), (a5, .inl (c5, 16, .inr (.inl fp)))] := hD
  have ef2 := hw
  refine lv_aload_n hx hb dX0_weight_23 rfl (lv_at hl 0 rfl) ?_
  refine lv_iload_n hx hb dX0_weight_24 rfl (lv_at hl 1 rfl) ?_
  refine lv_iconst (v := nI 3) hx hb dX0_weight_25 (by decide) ?_
  refine lv_iadd hx hb dX0_weight_26 ?_
  refine tw_i (p0 + nI 3) (rfl) ?_
  refine lv_iload hx hb dX0_weight_27 (lv_at hl 5 rfl) ?_
  have hFc := va_free (wc := [(h0, .inr (0, [.ref a1, .int n, .int lim, .ref a3, .ref a4, .ref a5])), (a1, .inl (c1, 32, .inl f2)), (a3, .inl (c3, 16, .inr (.inl fs))), (a4, .inl (c4, 32, .inr (.inl fc))), (a5, .inl (c5, 16, .inr (.inl fp)))]) hD hS hA [0, 1, 2, 3, 4] rfl
  refine va_callv (va_runV (As := [.int (p0 + nI 3), .int p4]) (rest := []) ⟨hx, hb, hml, hown, hts⟩ (c_X0_setWeight l dC dI h0 a1 a3 a4 a5 c1 c3 c4 c5 n lim f2 fs fc fp H.size (p0 + nI 3) p4) (cwV 2 hts gX0_weight_X0_setWeight rfl rfl rfl (by decide +kernel) ⟨Nat.le_of_ble_eq_true rfl, Nat.le_of_ble_eq_true rfl⟩) ⟨fun a U g mk q => by obtain ⟨q0, q1, qP, qK, qD⟩ := q; exact ⟨q0, q1, qP, va_K.moved (u := U) (U := U.calling g mk a) (Vm.Alike.refl U.vm) qK, qD⟩, va_recv hK hP (ci := 0) (q0 := 0) rfl rfl, fun U hU hW => ⟨rfl, by rw [hU], by rw [hU]; exact hP, va_K.moved hW.alike hK, hD.weaken (fun _ _ _ _ => trivial)⟩⟩ rfl rfl hl.1 rfl (lv_room (Nat.le_of_ble_eq_true rfl)) dX0_weight_29 ⟨(Nat.zero_le _), (Nat.zero_le _)⟩) hS (fun q _ h => hFc q h) hFc (fun u t H1 locs ht hvm hw hB hz1 hk1 hS => ?_)
  obtain ⟨f3, ef3⟩ : ∃ z, z = u := ⟨_, rfl⟩
  rw [← ef3] at hw hB
  obtain ⟨hP1, hK1, hD1⟩ := hB
  rw [ht] at hP1
  have hK1 := va_K.moved hvm.symm hK1
  obtain ⟨hP, hD⟩ := va_join (wr := []) (w1 := [(h0, .inr (0, [.ref a1, .int n, .int lim, .ref a3, .ref a4, .ref a5])), (a1, .inl (c1, 32, .inl f3)), (a3, .inl (c3, 16, .inr (.inl fs))), (a4, .inl (c4, 32, .inr (.inl fc))), (a5, .inl (c5, 16, .inr (.inl fp)))]) hP hD [0, 1, 2, 3, 4] [] rfl rfl (by decide) (by decide) hk1 hFc hP1 hD1
  generalize H1 = H at hP hS ⊢
  have hP : va_P (dC, dI) vwCl [(h0, .inr (0, [.ref a1, .int n, .int lim, .ref a3, .ref a4, .ref a5])), (a1, .inl (c1, 32, .inl f3)), (a3, .inl (c3, 16, .inr (.inl fs))), (a4, .inl (c4, 32, .inr (.inl fc))), (a5, .inl (c5, 16, .inr (.inl fp)))] H := hP
  have hD : va_D A [(h0, .inr (0, [.ref a1, .int n, .int lim, .ref a3, .ref a4, .ref a5])), (a1, .inl (c1, 32, .inl f3)), (a3, .inl (c3, 16, .inr (.inl fs))), (a4, .inl (c4, 32, .inr (.inl fc))), (a5, .inl (c5, 16, .inr (.inl fp)))] := hD
  have ef3 := hw
  exact W.vret hx hb hr (fun t ht hW => ⟨⟨f3, rfl, by rw [ef3, ef2, ef1, ef0]; rfl, by rw [ht]; exact hP, va_K.moved hW.alike hK, hD⟩, hS.F ht⟩) hS.2.2 dX0_weight_32
set_option maxHeartbeats 4000000 in
set_option maxRecDepth 100000 in
/-- TrimCodes() -/
theorem c_X0_init (l : Launch) (dC : Nat → ClassId) (dI : Nat → Nat → Nat) (h0 : Nat) (sz : Nat)  : Met l yX0_init wsX0_init ({ frames := 1, cells := 4, slots := 96, locals := 12 }) (va_Pc [.ref h0] (fun U => U.heap.size = sz ∧ va_P (dC, dI) vwCl [(h0, .inr (0, [.null, .int 0, .int 0, .null, .null, .null]))] U.heap ∧ va_K (dC, dI) vwCl [] U ∧ va_D (fun _ => True) [(h0, .inr (0, [.null, .int 0, .int 0, .null, .null, .null]))])) (va_Qv (fun _ : Unit => True) (fun (_ : Unit) (t : State) => ∃ (a1 a3 a4 a5 : Nat) (c1 c3 c4 c5 : ClassId), va_P (dC, dI) vwCl [(h0, .inr (0, [.ref a1, .int (nI 2), .int (nI 5), .ref a3, .ref a4, .ref a5])), (a1, .inl (c1, 32, .inl (fun _ => 0))), (a3, .inl (c3, 16, .inr (.inl (fun _ => 0)))), (a4, .inl (c4, 32, .inr (.inl (fun _ => 0)))), (a5, .inl (c5, 16, .inr (.inl (fun _ => 0))))] t.heap ∧ va_K (dC, dI) vwCl [(c1, .int), (c3, .long), (c4, .long), (c5, .long)] t ∧ va_D (va_A [(h0, .inr (0, [.null, .int 0, .int 0, .null, .null, .null]))] sz) [(h0, .inr (0, [.ref a1, .int (nI 2), .int (nI 5), .ref a3, .ref a4, .ref a5])), (a1, .inl (c1, 32, .inl (fun _ => 0))), (a3, .inl (c3, 16, .inr (.inl (fun _ => 0)))), (a4, .inl (c4, 32, .inr (.inl (fun _ => 0)))), (a5, .inl (c5, 16, .inr (.inl (fun _ => 0))))]) (va_A [(h0, .inr (0, [.null, .int 0, .int 0, .null, .null, .null]))] sz)) 4 96 (va_A [(h0, .inr (0, [.null, .int 0, .int 0, .null, .null, .null]))] sz) := by
  refine Met.ofW (cc := cX0_init) (maxL := 1) (ret := none) (by decide) rfl ?_
  intro p e s m args below meth c s₁ B hml hv
  obtain ⟨rfl, hsz, hP, hK, hD0⟩ := hv
  have hx := B.exec
  have hb := B.bytes
  have hr := B.returns
  have hts := atoms_spec (ws := wsX0_init) B.pre
  have hown : s.vm.findClass RX0 = some m.cls := findClass_of_methodNamed B.named
  have hlocks := B.notSynchronized
  have hin2 : meth.name = "<init>" := (name_of_methodNamed B.named B.method).1
  subst hsz
  have hD := hD0.self (sz := s.heap.size)
  generalize hAe : va_A [(h0, .inr (0, [.null, .int 0, .int 0, .null, .null, .null]))] s.heap.size = A at hD ⊢
  have hA : ∀ q : Nat, s.heap.size ≤ q → A q := fun q h => by rw [← hAe]; exact Or.inr h
  have hS : va_S A s.heap s.heap [] := va_S.rf
  have hP : va_P (dC, dI) vwCl [(h0, .inr (0, [.null, .int 0, .int 0, .null, .null, .null]))] s.heap := hP
  have hl := lv_entry ([.ref h0]) (n := 1) (Nat.le_of_ble_eq_true rfl)
  rw [lg_entry_eq]
  generalize (lg_sl ([.ref h0]) ++ List.replicate (1 - (lg_sl ([.ref h0])).length) Slot.unset).toArray = ls at hl ⊢
  have hl : lv_has ls 1 [(0, .ref h0)] := hl
  refine lv_aload_n hx hb dX0_init_0 rfl (lv_at hl 0 rfl) ?_
  refine W.objInit hx hb hown (hts (.methodLink RX0 1 objectInit) mmX0_init_0) (hts (.instanceMethod objectInit) mmX0_init_1) (hts _ (List.mem_cons_of_mem _ (List.mem_append_left _ (List.mem_of_getElem? (i := 2) rfl)))) rfl (by rw [hml]; exact hl.1) rfl dX0_init_1 (Nat.le_of_ble_eq_true rfl) (Nat.le_of_ble_eq_true rfl) ?_
  refine W.eq (g2 := F0 m 4 ls []) rfl ?_
  refine lv_aload_n hx hb dX0_init_4 rfl (lv_at hl 0 rfl) ?_
  refine lv_bipush (v := nI 32) hx hb dX0_init_5 (by decide) ?_
  refine va_newa hx hb (atype := .int) (hts (.arrayClass .int) mmX0_init_2) (ty := .int) rfl hK hP hD hS hA (n := nI 32) (N' := 32) (a0 := (32, .inl (fun _ => 0))) (fun cA => rfl) (by decide) (tn_cl (by decide)) (Nat.le_of_ble_eq_true rfl) (Nat.le_of_ble_eq_true rfl) (Nat.le_of_ble_eq_true rfl) dX0_init_7 (fun a1 c1 H hK hP hD hS => ?_)
  have hP : va_P (dC, dI) vwCl [(h0, .inr (0, [.null, .int 0, .int 0, .null, .null, .null])), (a1, .inl (c1, 32, .inl (fun _ => 0)))] H := hP
  have hD : va_D A [(h0, .inr (0, [.null, .int 0, .int 0, .null, .null, .null])), (a1, .inl (c1, 32, .inl (fun _ => 0)))] := hD
  have hK : va_K (dC, dI) vwCl [(c1, .int)] s := hK
  refine W.widen (k := 1) (n := 32) (Nat.le_of_ble_eq_true rfl) (Nat.le_of_ble_eq_true rfl) ?_
  refine va_putF (D := (dC, dI)) (ci := 0) (v := .ref a1) (ty := .array .int) (C := RX0) (T := TX0) (N := 6) hx hb hts hinX0_init tyX0 tyX0_ok nmX0 hown hK hP hD hS 0 rfl rfl 0 (by decide) (hts _ mmX0_init_3) (fun _ h9 => h9) rfl hin2 rfl (by decide +kernel) rfl rfl (Nat.le_of_ble_eq_true rfl) dX0_init_9 (fun H locs hP hD hS => ?_)
  have hP : va_P (dC, dI) vwCl [(h0, .inr (0, [.ref a1, .int 0, .int 0, .null, .null, .null])), (a1, .inl (c1, 32, .inl (fun _ => 0)))] H := hP
  have hD : va_D A [(h0, .inr (0, [.ref a1, .int 0, .int 0, .null, .null, .null])), (a1, .inl (c1, 32, .inl (fun _ => 0)))] := hD
  refine lv_aload_n hx hb dX0_init_12 rfl (lv_at hl 0 rfl) ?_
  refine lv_iconst (v := nI 2) hx hb dX0_init_13 (by decide) ?_
  refine va_put (D := (dC, dI)) (ci := 0) (v := .int (nI 2)) (ty := .int) (C := RX0) (T := TX0) (N := 6) hx hb hts hinX0_init tyX0 tyX0_ok nmX0 hown hK hP hD hS 0 rfl rfl 1 (by decide) (hts _ mmX0_init_4) (fun _ h9 => h9) rfl (by decide +kernel) rfl rfl (Nat.le_of_ble_eq_true rfl) dX0_init_14 (fun H locs hP hD hS => ?_)
  have hP : va_P (dC, dI) vwCl [(h0, .inr (0, [.ref a1, .int (nI 2), .int 0, .null, .null, .null])), (a1, .inl (c1, 32, .inl (fun _ => 0)))] H := hP
  have hD : va_D A [(h0, .inr (0, [.ref a1, .int (nI 2), .int 0, .null, .null, .null])), (a1, .inl (c1, 32, .inl (fun _ => 0)))] := hD
  refine lv_aload_n hx hb dX0_init_17 rfl (lv_at hl 0 rfl) ?_
  refine lv_iconst (v := nI 5) hx hb dX0_init_18 (by decide) ?_
  refine va_put (D := (dC, dI)) (ci := 0) (v := .int (nI 5)) (ty := .int) (C := RX0) (T := TX0) (N := 6) hx hb hts hinX0_init tyX0 tyX0_ok nmX0 hown hK hP hD hS 0 rfl rfl 2 (by decide) (hts _ mmX0_init_5) (fun _ h9 => h9) rfl (by decide +kernel) rfl rfl (Nat.le_of_ble_eq_true rfl) dX0_init_19 (fun H locs hP hD hS => ?_)
  have hP : va_P (dC, dI) vwCl [(h0, .inr (0, [.ref a1, .int (nI 2), .int (nI 5), .null, .null, .null])), (a1, .inl (c1, 32, .inl (fun _ => 0)))] H := hP
  have hD : va_D A [(h0, .inr (0, [.ref a1, .int (nI 2), .int (nI 5), .null, .null, .null])), (a1, .inl (c1, 32, .inl (fun _ => 0)))] := hD
  refine lv_aload_n hx hb dX0_init_22 rfl (lv_at hl 0 rfl) ?_
  refine lv_bipush (v := nI 16) hx hb dX0_init_23 (by decide) ?_
  refine va_newa hx hb (atype := .long) (hts (.arrayClass .long) mmX0_init_6) (ty := .long) rfl hK hP hD hS hA (n := nI 16) (N' := 16) (a0 := (16, .inr (.inl (fun _ => 0)))) (fun cA => rfl) (by decide) (tn_cl (by decide)) (Nat.le_of_ble_eq_true rfl) (Nat.le_of_ble_eq_true rfl) (Nat.le_of_ble_eq_true rfl) dX0_init_25 (fun a3 c3 H hK hP hD hS => ?_)
  have hP : va_P (dC, dI) vwCl [(h0, .inr (0, [.ref a1, .int (nI 2), .int (nI 5), .null, .null, .null])), (a1, .inl (c1, 32, .inl (fun _ => 0))), (a3, .inl (c3, 16, .inr (.inl (fun _ => 0))))] H := hP
  have hD : va_D A [(h0, .inr (0, [.ref a1, .int (nI 2), .int (nI 5), .null, .null, .null])), (a1, .inl (c1, 32, .inl (fun _ => 0))), (a3, .inl (c3, 16, .inr (.inl (fun _ => 0))))] := hD
  have hK : va_K (dC, dI) vwCl [(c1, .int), (c3, .long)] s := hK
  refine W.widen (k := 2) (n := 48) (Nat.le_of_ble_eq_true rfl) (Nat.le_of_ble_eq_true rfl) ?_
  refine va_putF (D := (dC, dI)) (ci := 0) (v := .ref a3) (ty := .array .long) (C := RX0) (T := TX0) (N := 6) hx hb hts hinX0_init tyX0 tyX0_ok nmX0 hown hK hP hD hS 0 rfl rfl 3 (by decide) (hts _ mmX0_init_7) (fun _ h9 => h9) rfl hin2 rfl (by decide +kernel) rfl rfl (Nat.le_of_ble_eq_true rfl) dX0_init_27 (fun H locs hP hD hS => ?_)
  have hP : va_P (dC, dI) vwCl [(h0, .inr (0, [.ref a1, .int (nI 2), .int (nI 5), .ref a3, .null, .null])), (a1, .inl (c1, 32, .inl (fun _ => 0))), (a3, .inl (c3, 16, .inr (.inl (fun _ => 0))))] H := hP
  have hD : va_D A [(h0, .inr (0, [.ref a1, .int (nI 2), .int (nI 5), .ref a3, .null, .null])), (a1, .inl (c1, 32, .inl (fun _ => 0))), (a3, .inl (c3, 16, .inr (.inl (fun _ => 0))))] := hD
  refine lv_aload_n hx hb dX0_init_30 rfl (lv_at hl 0 rfl) ?_
  refine lv_bipush (v := nI 32) hx hb dX0_init_31 (by decide) ?_
  refine va_newa hx hb (atype := .long) (hts (.arrayClass .long) mmX0_init_6) (ty := .long) rfl hK hP hD hS hA (n := nI 32) (N' := 32) (a0 := (32, .inr (.inl (fun _ => 0)))) (fun cA => rfl) (by decide) (tn_cl (by decide)) (Nat.le_of_ble_eq_true rfl) (Nat.le_of_ble_eq_true rfl) (Nat.le_of_ble_eq_true rfl) dX0_init_33 (fun a4 c4 H hK hP hD hS => ?_)
  have hP : va_P (dC, dI) vwCl [(h0, .inr (0, [.ref a1, .int (nI 2), .int (nI 5), .ref a3, .null, .null])), (a1, .inl (c1, 32, .inl (fun _ => 0))), (a3, .inl (c3, 16, .inr (.inl (fun _ => 0)))), (a4, .inl (c4, 32, .inr (.inl (fun _ => 0))))] H := hP
  have hD : va_D A [(h0, .inr (0, [.ref a1, .int (nI 2), .int (nI 5), .ref a3, .null, .null])), (a1, .inl (c1, 32, .inl (fun _ => 0))), (a3, .inl (c3, 16, .inr (.inl (fun _ => 0)))), (a4, .inl (c4, 32, .inr (.inl (fun _ => 0))))] := hD
  have hK : va_K (dC, dI) vwCl [(c1, .int), (c3, .long), (c4, .long)] s := hK
  refine W.widen (k := 3) (n := 80) (Nat.le_of_ble_eq_true rfl) (Nat.le_of_ble_eq_true rfl) ?_
  refine va_putF (D := (dC, dI)) (ci := 0) (v := .ref a4) (ty := .array .long) (C := RX0) (T := TX0) (N := 6) hx hb hts hinX0_init tyX0 tyX0_ok nmX0 hown hK hP hD hS 0 rfl rfl 4 (by decide) (hts _ mmX0_init_8) (fun _ h9 => h9) rfl hin2 rfl (by decide +kernel) rfl rfl (Nat.le_of_ble_eq_true rfl) dX0_init_35 (fun H locs hP hD hS => ?_)
  have hP : va_P (dC, dI) vwCl [(h0, .inr (0, [.ref a1, .int (nI 2), .int (nI 5), .ref a3, .ref a4, .null])), (a1, .inl (c1, 32, .inl (fun _ => 0))), (a3, .inl (c3, 16, .inr (.inl (fun _ => 0)))), (a4, .inl (c4, 32, .inr (.inl (fun _ => 0))))] H := hP
  have hD : va_D A [(h0, .inr (0, [.ref a1, .int (nI 2), .int (nI 5), .ref a3, .ref a4, .null])), (a1, .inl (c1, 32, .inl (fun _ => 0))), (a3, .inl (c3, 16, .inr (.inl (fun _ => 0)))), (a4, .inl (c4, 32, .inr (.inl (fun _ => 0))))] := hD
  refine lv_aload_n hx hb dX0_init_38 rfl (lv_at hl 0 rfl) ?_
  refine lv_bipush (v := nI 16) hx hb dX0_init_39 (by decide) ?_
  refine va_newa hx hb (atype := .long) (hts (.arrayClass .long) mmX0_init_6) (ty := .long) rfl hK hP hD hS hA (n := nI 16) (N' := 16) (a0 := (16, .inr (.inl (fun _ => 0)))) (fun cA => rfl) (by decide) (tn_cl (by decide)) (Nat.le_of_ble_eq_true rfl) (Nat.le_of_ble_eq_true rfl) (Nat.le_of_ble_eq_true rfl) dX0_init_41 (fun a5 c5 H hK hP hD hS => ?_)
  have hP : va_P (dC, dI) vwCl [(h0, .inr (0, [.ref a1, .int (nI 2), .int (nI 5), .ref a3, .ref a4, .null])), (a1, .inl (c1, 32, .inl (fun _ => 0))), (a3, .inl (c3, 16, .inr (.inl (fun _ => 0)))), (a4, .inl (c4, 32, .inr (.inl (fun _ => 0)))), (a5, .inl (c5, 16, .inr (.inl (fun _ => 0))))] H := hP
  have hD : va_D A [(h0, .inr (0, [.ref a1, .int (nI 2), .int (nI 5), .ref a3, .ref a4, .null])), (a1, .inl (c1, 32, .inl (fun _ => 0))), (a3, .inl (c3, 16, .inr (.inl (fun _ => 0)))), (a4, .inl (c4, 32, .inr (.inl (fun _ => 0)))), (a5, .inl (c5, 16, .inr (.inl (fun _ => 0))))] := hD
  have hK : va_K (dC, dI) vwCl [(c1, .int), (c3, .long), (c4, .long), (c5, .long)] s := hK
  refine W.widen (k := 4) (n := 96) (Nat.le_of_ble_eq_true rfl) (Nat.le_of_ble_eq_true rfl) ?_
  refine va_putF (D := (dC, dI)) (ci := 0) (v := .ref a5) (ty := .array .long) (C := RX0) (T := TX0) (N := 6) hx hb hts hinX0_init tyX0 tyX0_ok nmX0 hown hK hP hD hS 0 rfl rfl 5 (by decide) (hts _ mmX0_init_9) (fun _ h9 => h9) rfl hin2 rfl (by decide +kernel) rfl rfl (Nat.le_of_ble_eq_true rfl) dX0_init_43 (fun H locs hP hD hS => ?_)
  have hP : va_P (dC, dI) vwCl [(h0, .inr (0, [.ref a1, .int (nI 2), .int (nI 5), .ref a3, .ref a4, .ref a5])), (a1, .inl (c1, 32, .inl (fun _ => 0))), (a3, .inl (c3, 16, .inr (.inl (fun _ => 0)))), (a4, .inl (c4, 32, .inr (.inl (fun _ => 0)))), (a5, .inl (c5, 16, .inr (.inl (fun _ => 0))))] H := hP
  have hD : va_D A [(h0, .inr (0, [.ref a1, .int (nI 2), .int (nI 5), .ref a3, .ref a4, .ref a5])), (a1, .inl (c1, 32, .inl (fun _ => 0))), (a3, .inl (c3, 16, .inr (.inl (fun _ => 0)))), (a4, .inl (c4, 32, .inr (.inl (fun _ => 0)))), (a5, .inl (c5, 16, .inr (.inl (fun _ => 0))))] := hD
  exact W.vret hx hb hr (fun t ht hW => ⟨⟨(), rfl, trivial, a1, a3, a4, a5, c1, c3, c4, c5, by rw [ht]; exact hP, va_K.moved hW.alike hK, hD⟩, hS.F ht⟩) hS.2.2 dX0_init_46
