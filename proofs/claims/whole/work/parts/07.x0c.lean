theorem hinX0_pairCoins : ∀ w ∈ wsX00, w ∈ wsX0_pairCoins := by decide +kernel
theorem hinX0_mergeLettersAndPairs : ∀ w ∈ wsX00, w ∈ wsX0_mergeLettersAndPairs := by decide +kernel
theorem hinX0_costOfCheapest : ∀ w ∈ wsX00, w ∈ wsX0_costOfCheapest := by decide +kernel
theorem mmX0_pairCoins_0 : Cond.fieldLink RX0 24 "TrimCodes" "coins" "[J" ∈ wsX0_pairCoins := by decide +kernel
theorem mmX0_pairCoins_1 : Cond.fieldLink RX0 27 "TrimCodes" "pairs" "[J" ∈ wsX0_pairCoins := by decide +kernel
theorem mmX0_pairCoins_2 : Cond.methodLink RX0 55 Lib.Math.min.name ∈ wsX0_pairCoins := by decide +kernel
theorem mmX0_pairCoins_3 : Cond.static Lib.Math.min.name ∈ wsX0_pairCoins := by decide +kernel
theorem mmX0_pairCoins_4 : Cond.initialized "java/lang/Math" ∈ wsX0_pairCoins := by decide +kernel
theorem mmX0_pairCoins_5 : Cond.code Lib.Math.min.name Lib.Math.min.code 2 (some .int) ∈ wsX0_pairCoins := by decide +kernel
theorem mmX0_costAt_0 : Cond.constantLong RX0 65 (9223372036854775807) ∈ wsX0_costAt := by decide +kernel
theorem mmX0_mergeLettersAndPairs_0 : Cond.fieldLink RX0 20 "TrimCodes" "sortedWeights" "[J" ∈ wsX0_mergeLettersAndPairs := by decide +kernel
theorem mmX0_mergeLettersAndPairs_1 : Cond.fieldLink RX0 13 "TrimCodes" "letterCount" "I" ∈ wsX0_mergeLettersAndPairs := by decide +kernel
theorem mmX0_mergeLettersAndPairs_2 : Cond.fieldLink RX0 27 "TrimCodes" "pairs" "[J" ∈ wsX0_mergeLettersAndPairs := by decide +kernel
theorem mmX0_mergeLettersAndPairs_3 : Cond.fieldLink RX0 24 "TrimCodes" "coins" "[J" ∈ wsX0_mergeLettersAndPairs := by decide +kernel
theorem mmX0_mergeLettersAndPairs_4 : Cond.methodLink RX0 55 Lib.Math.min.name ∈ wsX0_mergeLettersAndPairs := by decide +kernel
theorem mmX0_mergeLettersAndPairs_5 : Cond.static Lib.Math.min.name ∈ wsX0_mergeLettersAndPairs := by decide +kernel
theorem mmX0_mergeLettersAndPairs_6 : Cond.initialized "java/lang/Math" ∈ wsX0_mergeLettersAndPairs := by decide +kernel
theorem mmX0_mergeLettersAndPairs_7 : Cond.code Lib.Math.min.name Lib.Math.min.code 2 (some .int) ∈ wsX0_mergeLettersAndPairs := by decide +kernel
theorem mmX0_costOfCheapest_0 : Cond.fieldLink RX0 24 "TrimCodes" "coins" "[J" ∈ wsX0_costOfCheapest := by decide +kernel
set_option maxHeartbeats 4000000 in
set_option maxRecDepth 100000 in
/-- the first i pairs stand -/
theorem lp_X0_pairCoins {p : Program} {l : Launch} {e : Env} {R : Room} {s : State} {m : MethodId} {args : Array Value} {below : List Frame} {meth : Method} {c : Code} {Q : State → Prop} {A : Nat → Prop} {dC : Nat → ClassId} {dI : Nat → Nat → Nat} (hx : p.tables.exec = Jvm.exec) (hb : c.code = cX0_pairCoins) (hml : c.maxLocals = 4) (hown : s.vm.findClass RX0 = some m.cls) (hts : ∀ w ∈ wsX0_pairCoins, w.before args s = true) (hA : ∀ q : Nat, s.heap.size ≤ q → A q)  (h0 a1 a3 a4 a5 : Nat) (c1 c3 c4 c5 : ClassId) (n lim : Int32) (fw : Nat → Int32) (fs fc : Nat → Int64) (q : Nat) (C : Nat → Nat) (hq : q ≤ 16) (hfc : ∀ j, j < 2 * q → fc j = lN (C j)) (hK : va_K (dC, dI) vwCl [(c1, .int), (c3, .long), (c4, .long), (c5, .long)] s) (K : ∀ (g : Nat → Int64) (H : Heap) (locs : List Loc) (ls : Array Slot), (∀ j, j < q → g j = lN (tc_pr C j)) → va_P (dC, dI) vwCl [(h0, .inr (0, [.ref a1, .int n, .int lim, .ref a3, .ref a4, .ref a5])), (a1, .inl (c1, 32, .inl fw)), (a3, .inl (c3, 16, .inr (.inl fs))), (a4, .inl (c4, 32, .inr (.inl fc))), (a5, .inl (c5, 16, .inr (.inl g)))] H → va_D A [(h0, .inr (0, [.ref a1, .int n, .int lim, .ref a3, .ref a4, .ref a5])), (a1, .inl (c1, 32, .inl fw)), (a3, .inl (c3, 16, .inr (.inl fs))), (a4, .inl (c4, 32, .inr (.inl fc))), (a5, .inl (c5, 16, .inr (.inl g)))] → va_S A s.heap H locs → lv_has ls 4 [(2, .int (nI q)), (0, .ref h0)] → W p l e R s m args below meth c H locs 0 0 Q (F0 m 63 ls [])) :
    ∀ (fu : Nat) (i : Nat) (g : Nat → Int64) (H : Heap) (locs : List Loc) (ls : Array Slot), (q - i) < fu → i ≤ q → (∀ j, j < i → g j = lN (tc_pr C j)) → va_P (dC, dI) vwCl [(h0, .inr (0, [.ref a1, .int n, .int lim, .ref a3, .ref a4, .ref a5])), (a1, .inl (c1, 32, .inl fw)), (a3, .inl (c3, 16, .inr (.inl fs))), (a4, .inl (c4, 32, .inr (.inl fc))), (a5, .inl (c5, 16, .inr (.inl g)))] H → va_D A [(h0, .inr (0, [.ref a1, .int n, .int lim, .ref a3, .ref a4, .ref a5])), (a1, .inl (c1, 32, .inl fw)), (a3, .inl (c3, 16, .inr (.inl fs))), (a4, .inl (c4, 32, .inr (.inl fc))), (a5, .inl (c5, 16, .inr (.inl g)))] → va_S A s.heap H locs → lv_has ls 4 [(3, .int (nI i)), (2, .int (nI q)), (0, .ref h0)] → W p l e R s m args below meth c H locs 0 0 Q (F0 m 14 ls []) := by
  intro fu
  induction fu with
  | zero =>
    intro i g H locs ls hfu
    exact absurd hfu (Nat.not_lt_zero _)
  | succ fu ih =>
    intro i g H locs ls hfu hi hg hP hD hS hl
    refine lv_iload_n hx hb dX0_pairCoins_14 rfl (lv_at hl 0 rfl) ?_
    refine lv_iload_n hx hb dX0_pairCoins_15 rfl (lv_at hl 1 rfl) ?_
    refine tw_icmp_ge hx hb i q (tgt := 63) dX0_pairCoins_16 (by decide) (by omega) (by omega) (fun hc => ?_) (fun hc => ?_)
    · have e : i = q := by omega
      subst e
      exact K g H locs ls hg hP hD hS (lv_sub hl [1, 2] rfl)
    · refine lv_iconst (v := nI 2) hx hb dX0_pairCoins_19 (by decide) ?_
      refine lv_iload_n hx hb dX0_pairCoins_20 rfl (lv_at hl 0 rfl) ?_
      refine lv_imul hx hb dX0_pairCoins_21 ?_
      refine tw_i (nI (2 * i)) (pk_mul _ _) ?_
      refine lv_iconst (v := nI 1) hx hb dX0_pairCoins_22 (by decide) ?_
      refine lv_iadd hx hb dX0_pairCoins_23 ?_
      refine tw_i (nI ((2 * i) + 1)) (nI_add _ _) ?_
      refine lv_aload_n hx hb dX0_pairCoins_24 rfl (lv_at hl 2 rfl) ?_
      refine va_get (D := (dC, dI)) (ci := 0) (v := .ref a4) (C := RX0) (T := TX0) (N := 6) hx hb hts hinX0_pairCoins hown hK hP 0 rfl rfl 4 (by decide) (hts _ mmX0_pairCoins_0) (fun _ h9 => h9) rfl dX0_pairCoins_25 ?_
      refine va_alen hx hb hK hP 3 2 rfl rfl (v := nI 32) rfl dX0_pairCoins_28 ?_
      refine tw_icmp_ge hx hb ((2 * i) + 1) 32 (tgt := 63) dX0_pairCoins_29 (by decide) (by omega) (by decide) (fun hc2 => ?_) (fun hc2 => ?_)
      · exact absurd hc2 (by omega)
      · refine lv_aload_n hx hb dX0_pairCoins_32 rfl (lv_at hl 2 rfl) ?_
        refine va_get (D := (dC, dI)) (ci := 0) (v := .ref a5) (C := RX0) (T := TX0) (N := 6) hx hb hts hinX0_pairCoins hown hK hP 0 rfl rfl 5 (by decide) (hts _ mmX0_pairCoins_1) (fun _ h9 => h9) rfl dX0_pairCoins_33 ?_
        refine lv_iload_n hx hb dX0_pairCoins_36 rfl (lv_at hl 0 rfl) ?_
        refine lv_aload_n hx hb dX0_pairCoins_37 rfl (lv_at hl 2 rfl) ?_
        refine va_get (D := (dC, dI)) (ci := 0) (v := .ref a4) (C := RX0) (T := TX0) (N := 6) hx hb hts hinX0_pairCoins hown hK hP 0 rfl rfl 4 (by decide) (hts _ mmX0_pairCoins_0) (fun _ h9 => h9) rfl dX0_pairCoins_38 ?_
        refine lv_iconst (v := nI 2) hx hb dX0_pairCoins_41 (by decide) ?_
        refine lv_iload_n hx hb dX0_pairCoins_42 rfl (lv_at hl 0 rfl) ?_
        refine lv_imul hx hb dX0_pairCoins_43 ?_
        refine tw_i (nI (2 * i)) (pk_mul _ _) ?_
        refine va_lald hx hb hK hP 3 2 rfl rfl (tn_in 32 (by omega) (by decide)) dX0_pairCoins_44 ?_
        refine tw_l (fc (2 * i)) (congrArg fc (tn_cl (by omega))) ?_
        refine tw_l (lN (C (2 * i))) (hfc (2 * i) (by omega)) ?_
        refine lv_aload_n hx hb dX0_pairCoins_45 rfl (lv_at hl 2 rfl) ?_
        refine va_get (D := (dC, dI)) (ci := 0) (v := .ref a4) (C := RX0) (T := TX0) (N := 6) hx hb hts hinX0_pairCoins hown hK hP 0 rfl rfl 4 (by decide) (hts _ mmX0_pairCoins_0) (fun _ h9 => h9) rfl dX0_pairCoins_46 ?_
        refine lv_iconst (v := nI 2) hx hb dX0_pairCoins_49 (by decide) ?_
        refine lv_iload_n hx hb dX0_pairCoins_50 rfl (lv_at hl 0 rfl) ?_
        refine lv_imul hx hb dX0_pairCoins_51 ?_
        refine tw_i (nI (2 * i)) (pk_mul _ _) ?_
        refine lv_iconst (v := nI 1) hx hb dX0_pairCoins_52 (by decide) ?_
        refine lv_iadd hx hb dX0_pairCoins_53 ?_
        refine tw_i (nI ((2 * i) + 1)) (nI_add _ _) ?_
        refine va_lald hx hb hK hP 3 2 rfl rfl (tn_in 32 (by omega) (by decide)) dX0_pairCoins_54 ?_
        refine tw_l (fc ((2 * i) + 1)) (congrArg fc (tn_cl (by omega))) ?_
        refine tw_l (lN (C (2 * i + 1))) (hfc (2 * i + 1) (by omega)) ?_
        refine lv_ladd hx hb dX0_pairCoins_55 ?_
        refine tw_l (lN ((C (2 * i)) + (C (2 * i + 1)))) (lN_add _ _) ?_
        refine va_last hx hb hK hP hD hS 4 3 rfl rfl (tn_in 16 (by omega) (by decide)) dX0_pairCoins_56 (fun H locs hP hD hS => ?_)
        rw [tn_cl (show i < 2 ^ 31 by omega)] at hP hD
        have hP : va_P (dC, dI) vwCl [(h0, .inr (0, [.ref a1, .int n, .int lim, .ref a3, .ref a4, .ref a5])), (a1, .inl (c1, 32, .inl fw)), (a3, .inl (c3, 16, .inr (.inl fs))), (a4, .inl (c4, 32, .inr (.inl fc))), (a5, .inl (c5, 16, .inr (.inl (vp_updL g i (lN ((C (2 * i)) + (C (2 * i + 1))))))))] H := hP
        have hD : va_D A [(h0, .inr (0, [.ref a1, .int n, .int lim, .ref a3, .ref a4, .ref a5])), (a1, .inl (c1, 32, .inl fw)), (a3, .inl (c3, 16, .inr (.inl fs))), (a4, .inl (c4, 32, .inr (.inl fc))), (a5, .inl (c5, 16, .inr (.inl (vp_updL g i (lN ((C (2 * i)) + (C (2 * i + 1))))))))] := hD
        refine lv_iinc (v := nI (i + 1)) (lv' := [(3, .int (nI (i + 1))), (2, .int (nI q)), (0, .ref h0)]) hx hb dX0_pairCoins_57 hl (k := 0) rfl (tn_p1 _) (by decide) rfl (fun ls hl => ?_)
        refine lv_goto (tgt := 14) hx hb dX0_pairCoins_60 (by decide) ?_
        exact ih (i + 1) _ H locs ls (by omega) (by omega) (fun j hj => by
          by_cases hji : j = i
          · subst hji; rw [pk_uLs]; rfl
          · rw [pk_uLn hji]; exact hg j (by omega)) hP hD hS (lv_sub hl [0, 1, 2] rfl)
set_option maxHeartbeats 4000000 in
set_option maxRecDepth 100000 in
/-- pairCoins(coinCount) -/
theorem c_X0_pairCoins (l : Launch) (dC : Nat → ClassId) (dI : Nat → Nat → Nat) (h0 a1 a3 a4 a5 : Nat) (c1 c3 c4 c5 : ClassId) (n lim : Int32) (fw : Nat → Int32) (fs fc fp : Nat → Int64) (sz : Nat) (cc : Nat) (C : Nat → Nat) (hcc : cc ≤ 32) (hfc : ∀ j, j < cc → fc j = lN (C j)) : Met l yX0_pairCoins wsX0_pairCoins ({ frames := 1, cells := 0, slots := 0, locals := 13 }) (va_Pc [.ref h0, .int (nI cc)] (fun U => U.heap.size = sz ∧ va_P (dC, dI) vwCl [(h0, .inr (0, [.ref a1, .int n, .int lim, .ref a3, .ref a4, .ref a5])), (a1, .inl (c1, 32, .inl fw)), (a3, .inl (c3, 16, .inr (.inl fs))), (a4, .inl (c4, 32, .inr (.inl fc))), (a5, .inl (c5, 16, .inr (.inl fp)))] U.heap ∧ va_K (dC, dI) vwCl [(c1, .int), (c3, .long), (c4, .long), (c5, .long)] U ∧ va_D (fun _ => True) [(h0, .inr (0, [.ref a1, .int n, .int lim, .ref a3, .ref a4, .ref a5])), (a1, .inl (c1, 32, .inl fw)), (a3, .inl (c3, 16, .inr (.inl fs))), (a4, .inl (c4, 32, .inr (.inl fc))), (a5, .inl (c5, 16, .inr (.inl fp)))])) (va_Qi (fun (r : Int32) (u : Nat → Int64) => r = nI (cc / 2) ∧ ∀ j, j < cc / 2 → u j = lN (tc_pr C j)) (fun (u : Nat → Int64) (t : State) => va_P (dC, dI) vwCl [(h0, .inr (0, [.ref a1, .int n, .int lim, .ref a3, .ref a4, .ref a5])), (a1, .inl (c1, 32, .inl fw)), (a3, .inl (c3, 16, .inr (.inl fs))), (a4, .inl (c4, 32, .inr (.inl fc))), (a5, .inl (c5, 16, .inr (.inl u)))] t.heap ∧ va_K (dC, dI) vwCl [(c1, .int), (c3, .long), (c4, .long), (c5, .long)] t ∧ va_D (va_A [(h0, .inr (0, [.ref a1, .int n, .int lim, .ref a3, .ref a4, .ref a5])), (a1, .inl (c1, 32, .inl fw)), (a3, .inl (c3, 16, .inr (.inl fs))), (a4, .inl (c4, 32, .inr (.inl fc))), (a5, .inl (c5, 16, .inr (.inl fp)))] sz) [(h0, .inr (0, [.ref a1, .int n, .int lim, .ref a3, .ref a4, .ref a5])), (a1, .inl (c1, 32, .inl fw)), (a3, .inl (c3, 16, .inr (.inl fs))), (a4, .inl (c4, 32, .inr (.inl fc))), (a5, .inl (c5, 16, .inr (.inl u)))]) (va_A [(h0, .inr (0, [.ref a1, .int n, .int lim, .ref a3, .ref a4, .ref a5])), (a1, .inl (c1, 32, .inl fw)), (a3, .inl (c3, 16, .inr (.inl fs))), (a4, .inl (c4, 32, .inr (.inl fc))), (a5, .inl (c5, 16, .inr (.inl fp)))] sz)) 0 0 (va_A [(h0, .inr (0, [.ref a1, .int n, .int lim, .ref a3, .ref a4, .ref a5])), (a1, .inl (c1, 32, .inl fw)), (a3, .inl (c3, 16, .inr (.inl fs))), (a4, .inl (c4, 32, .inr (.inl fc))), (a5, .inl (c5, 16, .inr (.inl fp)))] sz) := by
  refine Met.ofW (cc := cX0_pairCoins) (maxL := 4) (ret := (some .int)) (by decide) rfl ?_
  intro p e s m args below meth c s₁ B hml hv
  obtain ⟨rfl, hsz, hP, hK, hD0⟩ := hv
  have hx := B.exec
  have hb := B.bytes
  have hr := B.returns
  have hts := atoms_spec (ws := wsX0_pairCoins) B.pre
  have hown : s.vm.findClass RX0 = some m.cls := findClass_of_methodNamed B.named
  have hlocks := B.notSynchronized
  subst hsz
  have hD := hD0.self (sz := s.heap.size)
  generalize hAe : va_A [(h0, .inr (0, [.ref a1, .int n, .int lim, .ref a3, .ref a4, .ref a5])), (a1, .inl (c1, 32, .inl fw)), (a3, .inl (c3, 16, .inr (.inl fs))), (a4, .inl (c4, 32, .inr (.inl fc))), (a5, .inl (c5, 16, .inr (.inl fp)))] s.heap.size = A at hD ⊢
  have hA : ∀ q : Nat, s.heap.size ≤ q → A q := fun q h => by rw [← hAe]; exact Or.inr h
  have hS : va_S A s.heap s.heap [] := va_S.rf
  have hP : va_P (dC, dI) vwCl [(h0, .inr (0, [.ref a1, .int n, .int lim, .ref a3, .ref a4, .ref a5])), (a1, .inl (c1, 32, .inl fw)), (a3, .inl (c3, 16, .inr (.inl fs))), (a4, .inl (c4, 32, .inr (.inl fc))), (a5, .inl (c5, 16, .inr (.inl fp)))] s.heap := hP
  have hl := lv_entry ([.ref h0, .int (nI cc)]) (n := 4) (Nat.le_of_ble_eq_true rfl)
  rw [lg_entry_eq]
  generalize (lg_sl ([.ref h0, .int (nI cc)]) ++ List.replicate (4 - (lg_sl ([.ref h0, .int (nI cc)])).length) Slot.unset).toArray = ls at hl ⊢
  have hl : lv_has ls 4 [(0, .ref h0), (1, .int (nI cc))] := hl
  refine lv_iload_n hx hb dX0_pairCoins_0 rfl (lv_at hl 1 rfl) ?_
  refine lv_iconst (v := nI 2) hx hb dX0_pairCoins_1 (by decide) ?_
  refine lv_idiv hx hb dX0_pairCoins_2 (by decide) ?_
  refine tw_i (nI (cc / 2)) (pk_div (by omega) (by decide) (by decide)) ?_
  refine lv_aload_n hx hb dX0_pairCoins_3 rfl (lv_at hl 0 rfl) ?_
  refine va_get (D := (dC, dI)) (ci := 0) (v := .ref a5) (C := RX0) (T := TX0) (N := 6) hx hb hts hinX0_pairCoins hown hK hP 0 rfl rfl 5 (by decide) (hts _ mmX0_pairCoins_1) (fun _ h9 => h9) rfl dX0_pairCoins_4 ?_
  refine va_alen hx hb hK hP 4 3 rfl rfl (v := nI 16) rfl dX0_pairCoins_7 ?_
  refine va_mmin hx hb (by rw [hml]; exact hl.1.symm) hown (hts _ mmX0_pairCoins_2) (hts _ mmX0_pairCoins_3) (hts _ mmX0_pairCoins_4) (hts _ mmX0_pairCoins_5) (Nat.le_of_ble_eq_true rfl) (Nat.le_of_ble_eq_true rfl) (Nat.le_of_ble_eq_true rfl) (Nat.le_of_ble_eq_true rfl) dX0_pairCoins_8 ?_
  refine tw_i (nI (cc / 2)) ((tn_min (by decide) (by omega)).trans (congrArg nI (Nat.min_eq_left (by omega)))) ?_
  refine lv_istore_n (lv' := [(2, .int (nI (cc / 2))), (0, .ref h0), (1, .int (nI cc))]) hx hb dX0_pairCoins_11 rfl hl (by decide) rfl (fun ls hl => ?_)
  refine lv_iconst (v := nI 0) hx hb dX0_pairCoins_12 (by decide) ?_
  refine lv_istore_n (lv' := [(3, .int (nI 0)), (2, .int (nI (cc / 2))), (0, .ref h0), (1, .int (nI cc))]) hx hb dX0_pairCoins_13 rfl hl (by decide) rfl (fun ls hl => ?_)
  refine lp_X0_pairCoins hx hb hml hown hts hA h0 a1 a3 a4 a5 c1 c3 c4 c5 n lim fw fs fc (cc / 2) C (by omega) (fun j hj => hfc j (by omega)) hK ?_ (cc / 2 + 1) 0 fp s.heap [] ls (by omega) (Nat.zero_le _) (fun j hj => absurd hj (Nat.not_lt_zero _)) hP hD hS (lv_sub hl [0, 1, 2] rfl)
  intro g H locs ls hg hP hD hS hl
  refine lv_iload_n hx hb dX0_pairCoins_63 rfl (lv_at hl 0 rfl) ?_
  exact W.iret (v := nI (cc / 2)) hx hb hr (fun t ht hW => ⟨⟨nI (cc / 2), g, rfl, ⟨rfl, hg⟩, by rw [ht]; exact hP, va_K.moved hW.alike hK, hD⟩, hS.F ht⟩) hS.2.2 dX0_pairCoins_64
set_option maxHeartbeats 4000000 in
set_option maxRecDepth 100000 in
/-- costAt(row, i, count) -/
theorem c_X0_costAt (l : Launch) (dC : Nat → ClassId) (dI : Nat → Nat → Nat) (a0 : Nat) (c0 : ClassId) (len : Nat) (f : Nat → Int64) (sz : Nat) (i cn : Nat) (hlen : len ≤ 1000) (hcn : cn ≤ len) (hi : i ≤ 1000) : Met l yX0_costAt wsX0_costAt ({ frames := 0, cells := 0, slots := 0, locals := 0 }) (va_Pc [.ref a0, .int (nI i), .int (nI cn)] (fun U => U.heap.size = sz ∧ va_P (dC, dI) vwCl [(a0, .inl (c0, len, .inr (.inl f)))] U.heap ∧ va_K (dC, dI) vwCl [(c0, .long)] U ∧ va_D (fun _ => True) [(a0, .inl (c0, len, .inr (.inl f)))])) (va_Ql (fun (r : Int64) (u : Unit) => r = if i < cn then f i else 9223372036854775807) (fun (u : Unit) (t : State) => va_P (dC, dI) vwCl [(a0, .inl (c0, len, .inr (.inl f)))] t.heap ∧ va_K (dC, dI) vwCl [(c0, .long)] t ∧ va_D (va_A [(a0, .inl (c0, len, .inr (.inl f)))] sz) [(a0, .inl (c0, len, .inr (.inl f)))]) (va_A [(a0, .inl (c0, len, .inr (.inl f)))] sz)) 0 0 (va_A [(a0, .inl (c0, len, .inr (.inl f)))] sz) := by
  refine Met.ofW (cc := cX0_costAt) (maxL := 3) (ret := (some .long)) (by decide) rfl ?_
  intro p e s m args below meth c s₁ B hml hv
  obtain ⟨rfl, hsz, hP, hK, hD0⟩ := hv
  have hx := B.exec
  have hb := B.bytes
  have hr := B.returns
  have hts := atoms_spec (ws := wsX0_costAt) B.pre
  have hown : s.vm.findClass RX0 = some m.cls := findClass_of_methodNamed B.named
  have hlocks := B.notSynchronized
  subst hsz
  have hD := hD0.self (sz := s.heap.size)
  generalize hAe : va_A [(a0, .inl (c0, len, .inr (.inl f)))] s.heap.size = A at hD ⊢
  have hA : ∀ q : Nat, s.heap.size ≤ q → A q := fun q h => by rw [← hAe]; exact Or.inr h
  have hS : va_S A s.heap s.heap [] := va_S.rf
  have hP : va_P (dC, dI) vwCl [(a0, .inl (c0, len, .inr (.inl f)))] s.heap := hP
  have hl := lv_entry ([.ref a0, .int (nI i), .int (nI cn)]) (n := 3) (Nat.le_of_ble_eq_true rfl)
  rw [lg_entry_eq]
  generalize (lg_sl ([.ref a0, .int (nI i), .int (nI cn)]) ++ List.replicate (3 - (lg_sl ([.ref a0, .int (nI i), .int (nI cn)])).length) Slot.unset).toArray = ls at hl ⊢
  have hl : lv_has ls 3 [(0, .ref a0), (1, .int (nI i)), (2, .int (nI cn))] := hl
  refine lv_iload_n hx hb dX0_costAt_0 rfl (lv_at hl 1 rfl) ?_
  refine tw_if_lt hx hb i (tgt := 15) dX0_costAt_1 (by decide) (by omega) ?_
  refine lv_iload_n hx hb dX0_costAt_4 rfl (lv_at hl 1 rfl) ?_
  refine lv_iload_n hx hb dX0_costAt_5 rfl (lv_at hl 2 rfl) ?_
  refine tw_icmp_ge hx hb i cn (tgt := 15) dX0_costAt_6 (by decide) (by omega) (by omega) (fun hc => ?_) (fun hc => ?_)
  · refine lv_ldc2 hx hb hown (hts _ mmX0_costAt_0) dX0_costAt_15 ?_
    refine tw_l (if i < cn then f i else 9223372036854775807) ((if_neg (by omega)).symm) ?_
    exact W.lret (v := if i < cn then f i else 9223372036854775807) hx hb hr (fun t ht hW => ⟨⟨if i < cn then f i else 9223372036854775807, (), rfl, rfl, by rw [ht]; exact hP, va_K.moved hW.alike hK, hD⟩, hS.F ht⟩) hS.2.2 dX0_costAt_18
  · refine lv_iload_n hx hb dX0_costAt_9 rfl (lv_at hl 1 rfl) ?_
    refine lv_aload_n hx hb dX0_costAt_10 rfl (lv_at hl 0 rfl) ?_
    refine va_alen hx hb hK hP 0 0 rfl rfl (v := nI len) rfl dX0_costAt_11 ?_
    refine tw_icmp_lt hx hb i len (tgt := 19) dX0_costAt_12 (by decide) (by omega) (by omega) (fun hc2 => ?_) (fun hc2 => ?_)
    · refine lv_aload_n hx hb dX0_costAt_19 rfl (lv_at hl 0 rfl) ?_
      refine lv_iload_n hx hb dX0_costAt_20 rfl (lv_at hl 1 rfl) ?_
      refine va_lald hx hb hK hP 0 0 rfl rfl (tn_in len (by omega) hlen) dX0_costAt_21 ?_
      refine tw_l (f i) (congrArg f (tn_cl (by omega))) ?_
      refine tw_l (if i < cn then f i else 9223372036854775807) ((if_pos hc).symm) ?_
      exact W.lret (v := if i < cn then f i else 9223372036854775807) hx hb hr (fun t ht hW => ⟨⟨if i < cn then f i else 9223372036854775807, (), rfl, rfl, by rw [ht]; exact hP, va_K.moved hW.alike hK, hD⟩, hS.F ht⟩) hS.2.2 dX0_costAt_22
    · exact absurd hc2 (by omega)
set_option maxHeartbeats 4000000 in
set_option maxRecDepth 100000 in
/-- the first i coins stand -/
theorem lp_X0_mergeLettersAndPairs {p : Program} {l : Launch} {e : Env} {R : Room} {s : State} {m : MethodId} {args : Array Value} {below : List Frame} {meth : Method} {c : Code} {Q : State → Prop} {A : Nat → Prop} {dC : Nat → ClassId} {dI : Nat → Nat → Nat} (hx : p.tables.exec = Jvm.exec) (hb : c.code = cX0_mergeLettersAndPairs) (hml : c.maxLocals = 10) (hown : s.vm.findClass RX0 = some m.cls) (hts : ∀ w ∈ wsX0_mergeLettersAndPairs, w.before args s = true) (hA : ∀ q : Nat, s.heap.size ≤ q → A q) (hfr : 1 ≤ R.frames) (hlo : 22 ≤ R.locals) (h0 a1 a3 a4 a5 : Nat) (c1 c3 c4 c5 : ClassId) (lim : Int32) (fw : Nat → Int32) (fs fp : Nat → Int64) (nn q M : Nat) (ss Bp : Nat → Nat) (hn16 : nn ≤ 16) (hq16 : q ≤ 16) (hnq : nn + q ≤ 32) (hM : M ≤ 2 ^ 61) (hfs : ∀ j, j < nn → fs j = lN (ss j) ∧ ss j < M) (hfp : ∀ j, j < q → fp j = lN (Bp j) ∧ Bp j < M) (hsa : tc_asc ss nn) (hBa : tc_asc Bp q) (hK : va_K (dC, dI) vwCl [(c1, .int), (c3, .long), (c4, .long), (c5, .long)] s) (K : ∀ (x y : Nat) (C : Nat → Nat) (g : Nat → Int64) (H : Heap) (locs : List Loc) (ls : Array Slot), tc_mi ss Bp nn q (nn + q) x y C → (∀ j, j < nn + q → g j = lN (C j) ∧ C j < M) → va_P (dC, dI) vwCl [(h0, .inr (0, [.ref a1, .int (nI nn), .int lim, .ref a3, .ref a4, .ref a5])), (a1, .inl (c1, 32, .inl fw)), (a3, .inl (c3, 16, .inr (.inl fs))), (a4, .inl (c4, 32, .inr (.inl g))), (a5, .inl (c5, 16, .inr (.inl fp)))] H → va_D A [(h0, .inr (0, [.ref a1, .int (nI nn), .int lim, .ref a3, .ref a4, .ref a5])), (a1, .inl (c1, 32, .inl fw)), (a3, .inl (c3, 16, .inr (.inl fs))), (a4, .inl (c4, 32, .inr (.inl g))), (a5, .inl (c5, 16, .inr (.inl fp)))] → va_S A s.heap H locs → lv_has ls 10 [(2, .int (nI (nn + q))), (0, .ref h0)] → W p l e R s m args below meth c H locs 0 0 Q (F0 m 96 ls [])) :
    ∀ (fu : Nat) (i x y : Nat) (C : Nat → Nat) (g : Nat → Int64) (H : Heap) (locs : List Loc) (ls : Array Slot), (nn + q - i) < fu → i ≤ nn + q → tc_mi ss Bp nn q i x y C → (∀ j, j < i → g j = lN (C j) ∧ C j < M) → va_P (dC, dI) vwCl [(h0, .inr (0, [.ref a1, .int (nI nn), .int lim, .ref a3, .ref a4, .ref a5])), (a1, .inl (c1, 32, .inl fw)), (a3, .inl (c3, 16, .inr (.inl fs))), (a4, .inl (c4, 32, .inr (.inl g))), (a5, .inl (c5, 16, .inr (.inl fp)))] H → va_D A [(h0, .inr (0, [.ref a1, .int (nI nn), .int lim, .ref a3, .ref a4, .ref a5])), (a1, .inl (c1, 32, .inl fw)), (a3, .inl (c3, 16, .inr (.inl fs))), (a4, .inl (c4, 32, .inr (.inl g))), (a5, .inl (c5, 16, .inr (.inl fp)))] → va_S A s.heap H locs → lv_has ls 10 [(5, .int (nI i)), (4, .int (nI y)), (3, .int (nI x)), (2, .int (nI (nn + q))), (0, .ref h0), (1, .int (nI q))] → W p l e R s m args below meth c H locs 0 0 Q (F0 m 23 ls []) := by
  intro fu
  induction fu with
  | zero =>
    intro i x y C g H locs ls hfu
    exact absurd hfu (Nat.not_lt_zero _)
  | succ fu ih =>
    intro i x y C g H locs ls hfu hi hmi hg hP hD hS hl
    have hxn : x ≤ nn := hmi.2.1
    have hyq : y ≤ q := hmi.2.2.1
    have hxy : x + y = i := hmi.1
    refine lv_iload hx hb dX0_mergeLettersAndPairs_23 (lv_at hl 0 rfl) ?_
    refine lv_iload_n hx hb dX0_mergeLettersAndPairs_25 rfl (lv_at hl 3 rfl) ?_
    refine tw_icmp_ge hx hb i (nn + q) (tgt := 96) dX0_mergeLettersAndPairs_26 (by decide) (by omega) (by omega) (fun hc => ?_) (fun hc => ?_)
    · have e : i = nn + q := by omega
      rw [e] at hmi hg
      exact K x y C g H locs ls hmi hg hP hD hS (lv_sub hl [3, 4] rfl)
    · refine lv_aload_n hx hb dX0_mergeLettersAndPairs_29 rfl (lv_at hl 4 rfl) ?_
      refine va_get (D := (dC, dI)) (ci := 0) (v := .ref a3) (C := RX0) (T := TX0) (N := 6) hx hb hts hinX0_mergeLettersAndPairs hown hK hP 0 rfl rfl 3 (by decide) (hts _ mmX0_mergeLettersAndPairs_0) (fun _ h9 => h9) rfl dX0_mergeLettersAndPairs_30 ?_
      refine lv_iload_n hx hb dX0_mergeLettersAndPairs_33 rfl (lv_at hl 2 rfl) ?_
      refine lv_aload_n hx hb dX0_mergeLettersAndPairs_34 rfl (lv_at hl 4 rfl) ?_
      refine va_get (D := (dC, dI)) (ci := 0) (v := .int (nI nn)) (C := RX0) (T := TX0) (N := 6) hx hb hts hinX0_mergeLettersAndPairs hown hK hP 0 rfl rfl 1 (by decide) (hts _ mmX0_mergeLettersAndPairs_1) (fun _ h9 => h9) rfl dX0_mergeLettersAndPairs_35 ?_
      have hPc := hP.sub (ws' := [(a3, .inl (c3, 16, .inr (.inl fs)))]) [2] rfl
      have hDc := hD.sub (ws' := [(a3, .inl (c3, 16, .inr (.inl fs)))]) [2] (by decide) rfl
      have hKc := hK.sub (tys' := [(c3, .long)]) [1] rfl
      have hFc := va_free (wc := [(a3, .inl (c3, 16, .inr (.inl fs)))]) hD hS hA [2] rfl
      refine va_calll (va_runS (As := [.ref a3, .int (nI x), .int (nI nn)]) (rest := []) ⟨hx, hb, hml, hown, hts⟩ (c_X0_costAt l dC dI a3 c3 16 fs H.size x nn (by decide) (by omega) (by omega)) (va_cwS 3 hts gX0_mergeLettersAndPairs_X0_costAt rfl rfl rfl (by decide +kernel) ⟨hfr, hlo⟩) ⟨fun a U g mk q => by obtain ⟨q0, q1, qP, qK, qD⟩ := q; exact ⟨q0, q1, qP, va_K.moved (u := U) (U := U.calling g mk a) (Vm.Alike.refl U.vm) qK, qD⟩, fun U hU hW => ⟨rfl, by rw [hU], by rw [hU]; exact hPc, va_K.moved hW.alike hKc, hDc.weaken (fun _ _ _ _ => trivial)⟩⟩ rfl rfl hl.1 rfl (lv_room (Nat.le_of_ble_eq_true rfl)) dX0_mergeLettersAndPairs_38 ⟨(Nat.zero_le _), (Nat.zero_le _)⟩) hS (fun q _ h => hFc q h) hFc (fun r1 u t H1 locs ht hvm hw hB hz1 hk1 hS => ?_)
      obtain ⟨hP1, hK1, hD1⟩ := hB
      rw [ht] at hP1
      have hK1 := va_K.moved hvm.symm hK1
      obtain ⟨hP, hD⟩ := va_join (wr := [(h0, .inr (0, [.ref a1, .int (nI nn), .int lim, .ref a3, .ref a4, .ref a5])), (a1, .inl (c1, 32, .inl fw)), (a4, .inl (c4, 32, .inr (.inl g))), (a5, .inl (c5, 16, .inr (.inl fp)))]) (w1 := [(a3, .inl (c3, 16, .inr (.inl fs)))]) hP hD [2] [0, 1, 3, 4] rfl rfl (by decide) (by decide) hk1 hFc hP1 hD1
      generalize H1 = H at hP hS ⊢
      have hP := hP.sub (ws' := [(h0, .inr (0, [.ref a1, .int (nI nn), .int lim, .ref a3, .ref a4, .ref a5])), (a1, .inl (c1, 32, .inl fw)), (a3, .inl (c3, 16, .inr (.inl fs))), (a4, .inl (c4, 32, .inr (.inl g))), (a5, .inl (c5, 16, .inr (.inl fp)))]) [0, 1, 4, 2, 3] rfl
      have hD := hD.sub (ws' := [(h0, .inr (0, [.ref a1, .int (nI nn), .int lim, .ref a3, .ref a4, .ref a5])), (a1, .inl (c1, 32, .inl fw)), (a3, .inl (c3, 16, .inr (.inl fs))), (a4, .inl (c4, 32, .inr (.inl g))), (a5, .inl (c5, 16, .inr (.inl fp)))]) [0, 1, 4, 2, 3] (by decide) rfl
      subst hw
      refine lv_topl (fun z1 ez1 => ?_)
      refine lv_lstore (lv' := [(6, .long z1), (5, .int (nI i)), (4, .int (nI y)), (3, .int (nI x)), (2, .int (nI (nn + q))), (0, .ref h0), (1, .int (nI q))]) hx hb dX0_mergeLettersAndPairs_41 hl (by decide) rfl (fun ls hl => ?_)
      refine lv_aload_n hx hb dX0_mergeLettersAndPairs_43 rfl (lv_at hl 5 rfl) ?_
      refine va_get (D := (dC, dI)) (ci := 0) (v := .ref a5) (C := RX0) (T := TX0) (N := 6) hx hb hts hinX0_mergeLettersAndPairs hown hK hP 0 rfl rfl 5 (by decide) (hts _ mmX0_mergeLettersAndPairs_2) (fun _ h9 => h9) rfl dX0_mergeLettersAndPairs_44 ?_
      refine lv_iload hx hb dX0_mergeLettersAndPairs_47 (lv_at hl 2 rfl) ?_
      refine lv_iload_n hx hb dX0_mergeLettersAndPairs_49 rfl (lv_at hl 6 rfl) ?_
      have hPc := hP.sub (ws' := [(a5, .inl (c5, 16, .inr (.inl fp)))]) [4] rfl
      have hDc := hD.sub (ws' := [(a5, .inl (c5, 16, .inr (.inl fp)))]) [4] (by decide) rfl
      have hKc := hK.sub (tys' := [(c5, .long)]) [3] rfl
      have hFc := va_free (wc := [(a5, .inl (c5, 16, .inr (.inl fp)))]) hD hS hA [4] rfl
      refine va_calll (va_runS (As := [.ref a5, .int (nI y), .int (nI q)]) (rest := []) ⟨hx, hb, hml, hown, hts⟩ (c_X0_costAt l dC dI a5 c5 16 fp H.size y q (by decide) (by omega) (by omega)) (va_cwS 3 hts gX0_mergeLettersAndPairs_X0_costAt rfl rfl rfl (by decide +kernel) ⟨hfr, hlo⟩) ⟨fun a U g mk q => by obtain ⟨q0, q1, qP, qK, qD⟩ := q; exact ⟨q0, q1, qP, va_K.moved (u := U) (U := U.calling g mk a) (Vm.Alike.refl U.vm) qK, qD⟩, fun U hU hW => ⟨rfl, by rw [hU], by rw [hU]; exact hPc, va_K.moved hW.alike hKc, hDc.weaken (fun _ _ _ _ => trivial)⟩⟩ rfl rfl hl.1 rfl (lv_room (Nat.le_of_ble_eq_true rfl)) dX0_mergeLettersAndPairs_50 ⟨(Nat.zero_le _), (Nat.zero_le _)⟩) hS (fun q _ h => hFc q h) hFc (fun r2 u t H1 locs ht hvm hw hB hz1 hk1 hS => ?_)
      obtain ⟨hP1, hK1, hD1⟩ := hB
      rw [ht] at hP1
      have hK1 := va_K.moved hvm.symm hK1
      obtain ⟨hP, hD⟩ := va_join (wr := [(h0, .inr (0, [.ref a1, .int (nI nn), .int lim, .ref a3, .ref a4, .ref a5])), (a1, .inl (c1, 32, .inl fw)), (a3, .inl (c3, 16, .inr (.inl fs))), (a4, .inl (c4, 32, .inr (.inl g)))]) (w1 := [(a5, .inl (c5, 16, .inr (.inl fp)))]) hP hD [4] [0, 1, 2, 3] rfl rfl (by decide) (by decide) hk1 hFc hP1 hD1
      generalize H1 = H at hP hS ⊢
      have hP : va_P (dC, dI) vwCl [(h0, .inr (0, [.ref a1, .int (nI nn), .int lim, .ref a3, .ref a4, .ref a5])), (a1, .inl (c1, 32, .inl fw)), (a3, .inl (c3, 16, .inr (.inl fs))), (a4, .inl (c4, 32, .inr (.inl g))), (a5, .inl (c5, 16, .inr (.inl fp)))] H := hP
      have hD : va_D A [(h0, .inr (0, [.ref a1, .int (nI nn), .int lim, .ref a3, .ref a4, .ref a5])), (a1, .inl (c1, 32, .inl fw)), (a3, .inl (c3, 16, .inr (.inl fs))), (a4, .inl (c4, 32, .inr (.inl g))), (a5, .inl (c5, 16, .inr (.inl fp)))] := hD
      subst hw
      refine lv_topl (fun z2 ez2 => ?_)
      refine lv_lstore (lv' := [(8, .long z2), (6, .long z1), (5, .int (nI i)), (4, .int (nI y)), (3, .int (nI x)), (2, .int (nI (nn + q))), (0, .ref h0), (1, .int (nI q))]) hx hb dX0_mergeLettersAndPairs_53 hl (by decide) rfl (fun ls hl => ?_)
      refine lv_lload hx hb dX0_mergeLettersAndPairs_55 (lv_at hl 1 rfl) ?_
      refine lv_lload hx hb dX0_mergeLettersAndPairs_57 (lv_at hl 0 rfl) ?_
      refine tw_lif_gt hx hb (tgt := 78) dX0_mergeLettersAndPairs_59 dX0_mergeLettersAndPairs_60 (by decide) (fun hc2 => ?_) (fun hc2 => ?_)
      · have hy : y < q := by
          refine Nat.lt_of_not_le (fun hq => ?_)
          have hxlt : x < nn := by omega
          rw [ez1, ez2, if_pos hxlt, if_neg (by omega), (hfs x hxlt).1] at hc2
          exact Int64.not_lt.mpr (tn_max' (by have := (hfs x hxlt).2; omega)) hc2
        have ez : z2 = lN (Bp y) := by rw [ez2, if_pos hy]; exact (hfp y hy).1
        have hle : x < nn → Bp y ≤ ss x := fun hxlt => by
          rw [ez, ez1, if_pos hxlt, (hfs x hxlt).1] at hc2
          have h1 := (tn_lt (by have := (hfp y hy).2; omega) (by have := (hfs x hxlt).2; omega)).mp hc2
          omega
        subst ez
        refine lv_aload_n hx hb dX0_mergeLettersAndPairs_78 rfl (lv_at hl 6 rfl) ?_
        refine va_get (D := (dC, dI)) (ci := 0) (v := .ref a4) (C := RX0) (T := TX0) (N := 6) hx hb hts hinX0_mergeLettersAndPairs hown hK hP 0 rfl rfl 4 (by decide) (hts _ mmX0_mergeLettersAndPairs_3) (fun _ h9 => h9) rfl dX0_mergeLettersAndPairs_79 ?_
        refine lv_iload hx hb dX0_mergeLettersAndPairs_82 (lv_at hl 2 rfl) ?_
        refine lv_lload hx hb dX0_mergeLettersAndPairs_84 (lv_at hl 0 rfl) ?_
        refine va_last hx hb hK hP hD hS 3 2 rfl rfl (tn_in 32 (by omega) (by decide)) dX0_mergeLettersAndPairs_86 (fun H locs hP hD hS => ?_)
        rw [tn_cl (show i < 2 ^ 31 by omega)] at hP hD
        have hP : va_P (dC, dI) vwCl [(h0, .inr (0, [.ref a1, .int (nI nn), .int lim, .ref a3, .ref a4, .ref a5])), (a1, .inl (c1, 32, .inl fw)), (a3, .inl (c3, 16, .inr (.inl fs))), (a4, .inl (c4, 32, .inr (.inl (vp_updL g i (lN (Bp y)))))), (a5, .inl (c5, 16, .inr (.inl fp)))] H := hP
        have hD : va_D A [(h0, .inr (0, [.ref a1, .int (nI nn), .int lim, .ref a3, .ref a4, .ref a5])), (a1, .inl (c1, 32, .inl fw)), (a3, .inl (c3, 16, .inr (.inl fs))), (a4, .inl (c4, 32, .inr (.inl (vp_updL g i (lN (Bp y)))))), (a5, .inl (c5, 16, .inr (.inl fp)))] := hD
        refine lv_iinc (v := nI (y + 1)) (lv' := [(4, .int (nI (y + 1))), (8, .long (lN (Bp y))), (6, .long z1), (5, .int (nI i)), (3, .int (nI x)), (2, .int (nI (nn + q))), (0, .ref h0), (1, .int (nI q))]) hx hb dX0_mergeLettersAndPairs_87 hl (k := 3) rfl (tn_p1 _) (by decide) rfl (fun ls hl => ?_)
        refine lv_iinc (v := nI (i + 1)) (lv' := [(5, .int (nI (i + 1))), (4, .int (nI (y + 1))), (8, .long (lN (Bp y))), (6, .long z1), (3, .int (nI x)), (2, .int (nI (nn + q))), (0, .ref h0), (1, .int (nI q))]) hx hb dX0_mergeLettersAndPairs_90 hl (k := 3) rfl (tn_p1 _) (by decide) rfl (fun ls hl => ?_)
        refine lv_goto (tgt := 23) hx hb dX0_mergeLettersAndPairs_93 (by decide) ?_
        exact ih (i + 1) x (y + 1) _ _ H locs ls (by omega) (by omega) (tc_mi_r hBa hmi hy hle) (fun j hj => by
          by_cases hji : j = i
          · subst hji; rw [pk_uLs, tc_up_at]; exact ⟨rfl, (hfp y hy).2⟩
          · rw [pk_uLn hji, tc_up_ne _ _ hji]; exact hg j (by omega)) hP hD hS (lv_sub hl [0, 1, 4, 5, 6, 7] rfl)
      · have hx1 : x < nn := by
          refine Nat.lt_of_not_le (fun hq => ?_)
          have hylt : y < q := by omega
          refine hc2 ?_
          rw [ez1, ez2, if_pos hylt, if_neg (by omega), (hfp y hylt).1]
          exact Int64.not_le.mp (tn_max (by have := (hfp y hylt).2; omega))
        have ez : z1 = lN (ss x) := by rw [ez1, if_pos hx1]; exact (hfs x hx1).1
        have hle : y < q → ss x ≤ Bp y := fun hylt => by
          rw [ez, ez2, if_pos hylt, (hfp y hylt).1] at hc2
          exact Nat.le_of_not_lt (fun h1 => hc2 ((tn_lt (by have := (hfp y hylt).2; omega) (by have := (hfs x hx1).2; omega)).mpr h1))
        subst ez
        refine lv_aload_n hx hb dX0_mergeLettersAndPairs_63 rfl (lv_at hl 6 rfl) ?_
        refine va_get (D := (dC, dI)) (ci := 0) (v := .ref a4) (C := RX0) (T := TX0) (N := 6) hx hb hts hinX0_mergeLettersAndPairs hown hK hP 0 rfl rfl 4 (by decide) (hts _ mmX0_mergeLettersAndPairs_3) (fun _ h9 => h9) rfl dX0_mergeLettersAndPairs_64 ?_
        refine lv_iload hx hb dX0_mergeLettersAndPairs_67 (lv_at hl 2 rfl) ?_
        refine lv_lload hx hb dX0_mergeLettersAndPairs_69 (lv_at hl 1 rfl) ?_
        refine va_last hx hb hK hP hD hS 3 2 rfl rfl (tn_in 32 (by omega) (by decide)) dX0_mergeLettersAndPairs_71 (fun H locs hP hD hS => ?_)
        rw [tn_cl (show i < 2 ^ 31 by omega)] at hP hD
        have hP : va_P (dC, dI) vwCl [(h0, .inr (0, [.ref a1, .int (nI nn), .int lim, .ref a3, .ref a4, .ref a5])), (a1, .inl (c1, 32, .inl fw)), (a3, .inl (c3, 16, .inr (.inl fs))), (a4, .inl (c4, 32, .inr (.inl (vp_updL g i (lN (ss x)))))), (a5, .inl (c5, 16, .inr (.inl fp)))] H := hP
        have hD : va_D A [(h0, .inr (0, [.ref a1, .int (nI nn), .int lim, .ref a3, .ref a4, .ref a5])), (a1, .inl (c1, 32, .inl fw)), (a3, .inl (c3, 16, .inr (.inl fs))), (a4, .inl (c4, 32, .inr (.inl (vp_updL g i (lN (ss x)))))), (a5, .inl (c5, 16, .inr (.inl fp)))] := hD
        refine lv_iinc (v := nI (x + 1)) (lv' := [(3, .int (nI (x + 1))), (8, .long z2), (6, .long (lN (ss x))), (5, .int (nI i)), (4, .int (nI y)), (2, .int (nI (nn + q))), (0, .ref h0), (1, .int (nI q))]) hx hb dX0_mergeLettersAndPairs_72 hl (k := 4) rfl (tn_p1 _) (by decide) rfl (fun ls hl => ?_)
        refine lv_goto (tgt := 90) hx hb dX0_mergeLettersAndPairs_75 (by decide) ?_
        refine lv_iinc (v := nI (i + 1)) (lv' := [(5, .int (nI (i + 1))), (3, .int (nI (x + 1))), (8, .long z2), (6, .long (lN (ss x))), (4, .int (nI y)), (2, .int (nI (nn + q))), (0, .ref h0), (1, .int (nI q))]) hx hb dX0_mergeLettersAndPairs_90 hl (k := 3) rfl (tn_p1 _) (by decide) rfl (fun ls hl => ?_)
        refine lv_goto (tgt := 23) hx hb dX0_mergeLettersAndPairs_93 (by decide) ?_
        exact ih (i + 1) (x + 1) y _ _ H locs ls (by omega) (by omega) (tc_mi_l hsa hmi hx1 hle) (fun j hj => by
          by_cases hji : j = i
          · subst hji; rw [pk_uLs, tc_up_at]; exact ⟨rfl, (hfs x hx1).2⟩
          · rw [pk_uLn hji, tc_up_ne _ _ hji]; exact hg j (by omega)) hP hD hS (lv_sub hl [0, 4, 1, 5, 6, 7] rfl)
set_option maxHeartbeats 4000000 in
set_option maxRecDepth 100000 in
/-- mergeLettersAndPairs(pairCount) -/
theorem c_X0_mergeLettersAndPairs (l : Launch) (dC : Nat → ClassId) (dI : Nat → Nat → Nat) (h0 a1 a3 a4 a5 : Nat) (c1 c3 c4 c5 : ClassId) (lim : Int32) (fw : Nat → Int32) (fs fc fp : Nat → Int64) (sz : Nat) (nn q M : Nat) (ss Bp : Nat → Nat) (hn16 : nn ≤ 16) (hq16 : q ≤ 16) (hnq : nn + q ≤ 32) (hM : M ≤ 2 ^ 61) (hfs : ∀ j, j < nn → fs j = lN (ss j) ∧ ss j < M) (hfp : ∀ j, j < q → fp j = lN (Bp j) ∧ Bp j < M) (hsa : tc_asc ss nn) (hBa : tc_asc Bp q) : Met l yX0_mergeLettersAndPairs wsX0_mergeLettersAndPairs ({ frames := 1, cells := 0, slots := 0, locals := 22 }) (va_Pc [.ref h0, .int (nI q)] (fun U => U.heap.size = sz ∧ va_P (dC, dI) vwCl [(h0, .inr (0, [.ref a1, .int (nI nn), .int lim, .ref a3, .ref a4, .ref a5])), (a1, .inl (c1, 32, .inl fw)), (a3, .inl (c3, 16, .inr (.inl fs))), (a4, .inl (c4, 32, .inr (.inl fc))), (a5, .inl (c5, 16, .inr (.inl fp)))] U.heap ∧ va_K (dC, dI) vwCl [(c1, .int), (c3, .long), (c4, .long), (c5, .long)] U ∧ va_D (fun _ => True) [(h0, .inr (0, [.ref a1, .int (nI nn), .int lim, .ref a3, .ref a4, .ref a5])), (a1, .inl (c1, 32, .inl fw)), (a3, .inl (c3, 16, .inr (.inl fs))), (a4, .inl (c4, 32, .inr (.inl fc))), (a5, .inl (c5, 16, .inr (.inl fp)))])) (va_Qi (fun (r : Int32) (u : Nat → Int64) => r = nI (nn + q) ∧ ∃ (x y : Nat) (C : Nat → Nat), tc_mi ss Bp nn q (nn + q) x y C ∧ ∀ j, j < nn + q → u j = lN (C j) ∧ C j < M) (fun (u : Nat → Int64) (t : State) => va_P (dC, dI) vwCl [(h0, .inr (0, [.ref a1, .int (nI nn), .int lim, .ref a3, .ref a4, .ref a5])), (a1, .inl (c1, 32, .inl fw)), (a3, .inl (c3, 16, .inr (.inl fs))), (a4, .inl (c4, 32, .inr (.inl u))), (a5, .inl (c5, 16, .inr (.inl fp)))] t.heap ∧ va_K (dC, dI) vwCl [(c1, .int), (c3, .long), (c4, .long), (c5, .long)] t ∧ va_D (va_A [(h0, .inr (0, [.ref a1, .int (nI nn), .int lim, .ref a3, .ref a4, .ref a5])), (a1, .inl (c1, 32, .inl fw)), (a3, .inl (c3, 16, .inr (.inl fs))), (a4, .inl (c4, 32, .inr (.inl fc))), (a5, .inl (c5, 16, .inr (.inl fp)))] sz) [(h0, .inr (0, [.ref a1, .int (nI nn), .int lim, .ref a3, .ref a4, .ref a5])), (a1, .inl (c1, 32, .inl fw)), (a3, .inl (c3, 16, .inr (.inl fs))), (a4, .inl (c4, 32, .inr (.inl u))), (a5, .inl (c5, 16, .inr (.inl fp)))]) (va_A [(h0, .inr (0, [.ref a1, .int (nI nn), .int lim, .ref a3, .ref a4, .ref a5])), (a1, .inl (c1, 32, .inl fw)), (a3, .inl (c3, 16, .inr (.inl fs))), (a4, .inl (c4, 32, .inr (.inl fc))), (a5, .inl (c5, 16, .inr (.inl fp)))] sz)) 0 0 (va_A [(h0, .inr (0, [.ref a1, .int (nI nn), .int lim, .ref a3, .ref a4, .ref a5])), (a1, .inl (c1, 32, .inl fw)), (a3, .inl (c3, 16, .inr (.inl fs))), (a4, .inl (c4, 32, .inr (.inl fc))), (a5, .inl (c5, 16, .inr (.inl fp)))] sz) := by
  refine Met.ofW (cc := cX0_mergeLettersAndPairs) (maxL := 10) (ret := (some .int)) (by decide) rfl ?_
  intro p e s m args below meth c s₁ B hml hv
  obtain ⟨rfl, hsz, hP, hK, hD0⟩ := hv
  have hx := B.exec
  have hb := B.bytes
  have hr := B.returns
  have hts := atoms_spec (ws := wsX0_mergeLettersAndPairs) B.pre
  have hown : s.vm.findClass RX0 = some m.cls := findClass_of_methodNamed B.named
  have hlocks := B.notSynchronized
  subst hsz
  have hD := hD0.self (sz := s.heap.size)
  generalize hAe : va_A [(h0, .inr (0, [.ref a1, .int (nI nn), .int lim, .ref a3, .ref a4, .ref a5])), (a1, .inl (c1, 32, .inl fw)), (a3, .inl (c3, 16, .inr (.inl fs))), (a4, .inl (c4, 32, .inr (.inl fc))), (a5, .inl (c5, 16, .inr (.inl fp)))] s.heap.size = A at hD ⊢
  have hA : ∀ q : Nat, s.heap.size ≤ q → A q := fun q h => by rw [← hAe]; exact Or.inr h
  have hS : va_S A s.heap s.heap [] := va_S.rf
  have hP : va_P (dC, dI) vwCl [(h0, .inr (0, [.ref a1, .int (nI nn), .int lim, .ref a3, .ref a4, .ref a5])), (a1, .inl (c1, 32, .inl fw)), (a3, .inl (c3, 16, .inr (.inl fs))), (a4, .inl (c4, 32, .inr (.inl fc))), (a5, .inl (c5, 16, .inr (.inl fp)))] s.heap := hP
  have hl := lv_entry ([.ref h0, .int (nI q)]) (n := 10) (Nat.le_of_ble_eq_true rfl)
  rw [lg_entry_eq]
  generalize (lg_sl ([.ref h0, .int (nI q)]) ++ List.replicate (10 - (lg_sl ([.ref h0, .int (nI q)])).length) Slot.unset).toArray = ls at hl ⊢
  have hl : lv_has ls 10 [(0, .ref h0), (1, .int (nI q))] := hl
  refine lv_aload_n hx hb dX0_mergeLettersAndPairs_0 rfl (lv_at hl 0 rfl) ?_
  refine va_get (D := (dC, dI)) (ci := 0) (v := .int (nI nn)) (C := RX0) (T := TX0) (N := 6) hx hb hts hinX0_mergeLettersAndPairs hown hK hP 0 rfl rfl 1 (by decide) (hts _ mmX0_mergeLettersAndPairs_1) (fun _ h9 => h9) rfl dX0_mergeLettersAndPairs_1 ?_
  refine lv_iload_n hx hb dX0_mergeLettersAndPairs_4 rfl (lv_at hl 1 rfl) ?_
  refine lv_iadd hx hb dX0_mergeLettersAndPairs_5 ?_
  refine tw_i (nI (nn + q)) (nI_add _ _) ?_
  refine lv_aload_n hx hb dX0_mergeLettersAndPairs_6 rfl (lv_at hl 0 rfl) ?_
  refine va_get (D := (dC, dI)) (ci := 0) (v := .ref a4) (C := RX0) (T := TX0) (N := 6) hx hb hts hinX0_mergeLettersAndPairs hown hK hP 0 rfl rfl 4 (by decide) (hts _ mmX0_mergeLettersAndPairs_3) (fun _ h9 => h9) rfl dX0_mergeLettersAndPairs_7 ?_
  refine va_alen hx hb hK hP 3 2 rfl rfl (v := nI 32) rfl dX0_mergeLettersAndPairs_10 ?_
  refine va_mmin hx hb (by rw [hml]; exact hl.1.symm) hown (hts _ mmX0_mergeLettersAndPairs_4) (hts _ mmX0_mergeLettersAndPairs_5) (hts _ mmX0_mergeLettersAndPairs_6) (hts _ mmX0_mergeLettersAndPairs_7) (Nat.le_of_ble_eq_true rfl) (Nat.le_of_ble_eq_true rfl) (Nat.le_of_ble_eq_true rfl) (Nat.le_of_ble_eq_true rfl) dX0_mergeLettersAndPairs_11 ?_
  refine tw_i (nI (nn + q)) ((tn_min (by decide) (by omega)).trans (congrArg nI (Nat.min_eq_left (by omega)))) ?_
  refine lv_istore_n (lv' := [(2, .int (nI (nn + q))), (0, .ref h0), (1, .int (nI q))]) hx hb dX0_mergeLettersAndPairs_14 rfl hl (by decide) rfl (fun ls hl => ?_)
  refine lv_iconst (v := nI 0) hx hb dX0_mergeLettersAndPairs_15 (by decide) ?_
  refine lv_istore_n (lv' := [(3, .int (nI 0)), (2, .int (nI (nn + q))), (0, .ref h0), (1, .int (nI q))]) hx hb dX0_mergeLettersAndPairs_16 rfl hl (by decide) rfl (fun ls hl => ?_)
  refine lv_iconst (v := nI 0) hx hb dX0_mergeLettersAndPairs_17 (by decide) ?_
  refine lv_istore (lv' := [(4, .int (nI 0)), (3, .int (nI 0)), (2, .int (nI (nn + q))), (0, .ref h0), (1, .int (nI q))]) hx hb dX0_mergeLettersAndPairs_18 hl (by decide) rfl (fun ls hl => ?_)
  refine lv_iconst (v := nI 0) hx hb dX0_mergeLettersAndPairs_20 (by decide) ?_
  refine lv_istore (lv' := [(5, .int (nI 0)), (4, .int (nI 0)), (3, .int (nI 0)), (2, .int (nI (nn + q))), (0, .ref h0), (1, .int (nI q))]) hx hb dX0_mergeLettersAndPairs_21 hl (by decide) rfl (fun ls hl => ?_)
  refine lp_X0_mergeLettersAndPairs hx hb hml hown hts hA (Nat.le_of_ble_eq_true rfl) (Nat.le_of_ble_eq_true rfl) h0 a1 a3 a4 a5 c1 c3 c4 c5 lim fw fs fp nn q M ss Bp hn16 hq16 hnq hM hfs hfp hsa hBa hK ?_ (nn + q + 1) 0 0 0 (fun _ => 0) fc s.heap [] ls (by omega) (Nat.zero_le _) (tc_mi_0 _ _ _ _ _) (fun j hj => absurd hj (Nat.not_lt_zero _)) hP hD hS (lv_sub hl [0, 1, 2, 3, 4, 5] rfl)
  intro x y C g H locs ls hmi hg hP hD hS hl
  refine lv_iload_n hx hb dX0_mergeLettersAndPairs_96 rfl (lv_at hl 0 rfl) ?_
  exact W.iret (v := nI (nn + q)) hx hb hr (fun t ht hW => ⟨⟨nI (nn + q), g, rfl, ⟨rfl, x, y, C, hmi, hg⟩, by rw [ht]; exact hP, va_K.moved hW.alike hK, hD⟩, hS.F ht⟩) hS.2.2 dX0_mergeLettersAndPairs_97
set_option maxHeartbeats 4000000 in
set_option maxRecDepth 100000 in
/-- the first i coins are added -/
theorem lp_X0_costOfCheapest {p : Program} {l : Launch} {e : Env} {R : Room} {s : State} {m : MethodId} {args : Array Value} {below : List Frame} {meth : Method} {c : Code} {Q : State → Prop} {A : Nat → Prop} {dC : Nat → ClassId} {dI : Nat → Nat → Nat} (hx : p.tables.exec = Jvm.exec) (hb : c.code = cX0_costOfCheapest) (hml : c.maxLocals = 5) (hown : s.vm.findClass RX0 = some m.cls) (hts : ∀ w ∈ wsX0_costOfCheapest, w.before args s = true) (hA : ∀ q : Nat, s.heap.size ≤ q → A q)  (h0 a1 a3 a4 a5 : Nat) (c1 c3 c4 c5 : ClassId) (n lim : Int32) (fw : Nat → Int32) (fs fc fp : Nat → Int64) (q : Nat) (C : Nat → Nat) (hq : q ≤ 32) (hfc : ∀ j, j < q → fc j = lN (C j)) (hK : va_K (dC, dI) vwCl [(c1, .int), (c3, .long), (c4, .long), (c5, .long)] s) (K : ∀ (H : Heap) (locs : List Loc) (ls : Array Slot), va_P (dC, dI) vwCl [(h0, .inr (0, [.ref a1, .int n, .int lim, .ref a3, .ref a4, .ref a5])), (a1, .inl (c1, 32, .inl fw)), (a3, .inl (c3, 16, .inr (.inl fs))), (a4, .inl (c4, 32, .inr (.inl fc))), (a5, .inl (c5, 16, .inr (.inl fp)))] H → va_D A [(h0, .inr (0, [.ref a1, .int n, .int lim, .ref a3, .ref a4, .ref a5])), (a1, .inl (c1, 32, .inl fw)), (a3, .inl (c3, 16, .inr (.inl fs))), (a4, .inl (c4, 32, .inr (.inl fc))), (a5, .inl (c5, 16, .inr (.inl fp)))] → va_S A s.heap H locs → lv_has ls 5 [(2, .long (lN (tc_sum C q))), (0, .ref h0)] → W p l e R s m args below meth c H locs 0 0 Q (F0 m 37 ls [])) :
    ∀ (fu : Nat) (i : Nat) (H : Heap) (locs : List Loc) (ls : Array Slot), (q - i) < fu → i ≤ q → va_P (dC, dI) vwCl [(h0, .inr (0, [.ref a1, .int n, .int lim, .ref a3, .ref a4, .ref a5])), (a1, .inl (c1, 32, .inl fw)), (a3, .inl (c3, 16, .inr (.inl fs))), (a4, .inl (c4, 32, .inr (.inl fc))), (a5, .inl (c5, 16, .inr (.inl fp)))] H → va_D A [(h0, .inr (0, [.ref a1, .int n, .int lim, .ref a3, .ref a4, .ref a5])), (a1, .inl (c1, 32, .inl fw)), (a3, .inl (c3, 16, .inr (.inl fs))), (a4, .inl (c4, 32, .inr (.inl fc))), (a5, .inl (c5, 16, .inr (.inl fp)))] → va_S A s.heap H locs → lv_has ls 5 [(4, .int (nI i)), (2, .long (lN (tc_sum C i))), (0, .ref h0), (1, .int (nI q))] → W p l e R s m args below meth c H locs 0 0 Q (F0 m 5 ls []) := by
  intro fu
  induction fu with
  | zero =>
    intro i H locs ls hfu
    exact absurd hfu (Nat.not_lt_zero _)
  | succ fu ih =>
    intro i H locs ls hfu hi hP hD hS hl
    refine lv_iload hx hb dX0_costOfCheapest_5 (lv_at hl 0 rfl) ?_
    refine lv_iload_n hx hb dX0_costOfCheapest_7 rfl (lv_at hl 3 rfl) ?_
    refine tw_icmp_ge hx hb i q (tgt := 37) dX0_costOfCheapest_8 (by decide) (by omega) (by omega) (fun hc => ?_) (fun hc => ?_)
    · have e : i = q := by omega
      subst e
      exact K H locs ls hP hD hS (lv_sub hl [1, 2] rfl)
    · refine lv_iload hx hb dX0_costOfCheapest_11 (lv_at hl 0 rfl) ?_
      refine lv_aload_n hx hb dX0_costOfCheapest_13 rfl (lv_at hl 2 rfl) ?_
      refine va_get (D := (dC, dI)) (ci := 0) (v := .ref a4) (C := RX0) (T := TX0) (N := 6) hx hb hts hinX0_costOfCheapest hown hK hP 0 rfl rfl 4 (by decide) (hts _ mmX0_costOfCheapest_0) (fun _ h9 => h9) rfl dX0_costOfCheapest_14 ?_
      refine va_alen hx hb hK hP 3 2 rfl rfl (v := nI 32) rfl dX0_costOfCheapest_17 ?_
      refine tw_icmp_ge hx hb i 32 (tgt := 37) dX0_costOfCheapest_18 (by decide) (by omega) (by decide) (fun hc2 => ?_) (fun hc2 => ?_)
      · exact absurd hc2 (by omega)
      · refine lv_lload_n hx hb dX0_costOfCheapest_21 rfl (lv_at hl 1 rfl) ?_
        refine lv_aload_n hx hb dX0_costOfCheapest_22 rfl (lv_at hl 2 rfl) ?_
        refine va_get (D := (dC, dI)) (ci := 0) (v := .ref a4) (C := RX0) (T := TX0) (N := 6) hx hb hts hinX0_costOfCheapest hown hK hP 0 rfl rfl 4 (by decide) (hts _ mmX0_costOfCheapest_0) (fun _ h9 => h9) rfl dX0_costOfCheapest_23 ?_
        refine lv_iload hx hb dX0_costOfCheapest_26 (lv_at hl 0 rfl) ?_
        refine va_lald hx hb hK hP 3 2 rfl rfl (tn_in 32 (by omega) (by decide)) dX0_costOfCheapest_28 ?_
        refine tw_l (fc i) (congrArg fc (tn_cl (by omega))) ?_
        refine tw_l (lN (C i)) (hfc i (by omega)) ?_
        refine lv_ladd hx hb dX0_costOfCheapest_29 ?_
        refine tw_l (lN ((tc_sum C i) + (C i))) (lN_add _ _) ?_
        refine lv_lstore_n (lv' := [(2, .long (lN ((tc_sum C i) + (C i)))), (4, .int (nI i)), (0, .ref h0), (1, .int (nI q))]) hx hb dX0_costOfCheapest_30 rfl hl (by decide) rfl (fun ls hl => ?_)
        refine lv_iinc (v := nI (i + 1)) (lv' := [(4, .int (nI (i + 1))), (2, .long (lN ((tc_sum C i) + (C i)))), (0, .ref h0), (1, .int (nI q))]) hx hb dX0_costOfCheapest_31 hl (k := 1) rfl (tn_p1 _) (by decide) rfl (fun ls hl => ?_)
        refine lv_goto (tgt := 5) hx hb dX0_costOfCheapest_34 (by decide) ?_
        exact ih (i + 1) H locs ls (by omega) (by omega) hP hD hS (lv_sub hl [0, 1, 2, 3] rfl)
set_option maxHeartbeats 4000000 in
set_option maxRecDepth 100000 in
/-- costOfCheapest(count) -/
theorem c_X0_costOfCheapest (l : Launch) (dC : Nat → ClassId) (dI : Nat → Nat → Nat) (h0 a1 a3 a4 a5 : Nat) (c1 c3 c4 c5 : ClassId) (n lim : Int32) (fw : Nat → Int32) (fs fc fp : Nat → Int64) (sz : Nat) (q : Nat) (C : Nat → Nat) (hq : q ≤ 32) (hfc : ∀ j, j < q → fc j = lN (C j)) : Met l yX0_costOfCheapest wsX0_costOfCheapest ({ frames := 0, cells := 0, slots := 0, locals := 0 }) (va_Pc [.ref h0, .int (nI q)] (fun U => U.heap.size = sz ∧ va_P (dC, dI) vwCl [(h0, .inr (0, [.ref a1, .int n, .int lim, .ref a3, .ref a4, .ref a5])), (a1, .inl (c1, 32, .inl fw)), (a3, .inl (c3, 16, .inr (.inl fs))), (a4, .inl (c4, 32, .inr (.inl fc))), (a5, .inl (c5, 16, .inr (.inl fp)))] U.heap ∧ va_K (dC, dI) vwCl [(c1, .int), (c3, .long), (c4, .long), (c5, .long)] U ∧ va_D (fun _ => True) [(h0, .inr (0, [.ref a1, .int n, .int lim, .ref a3, .ref a4, .ref a5])), (a1, .inl (c1, 32, .inl fw)), (a3, .inl (c3, 16, .inr (.inl fs))), (a4, .inl (c4, 32, .inr (.inl fc))), (a5, .inl (c5, 16, .inr (.inl fp)))])) (va_Ql (fun (r : Int64) (u : Unit) => r = lN (tc_sum C q)) (fun (u : Unit) (t : State) => va_P (dC, dI) vwCl [(h0, .inr (0, [.ref a1, .int n, .int lim, .ref a3, .ref a4, .ref a5])), (a1, .inl (c1, 32, .inl fw)), (a3, .inl (c3, 16, .inr (.inl fs))), (a4, .inl (c4, 32, .inr (.inl fc))), (a5, .inl (c5, 16, .inr (.inl fp)))] t.heap ∧ va_K (dC, dI) vwCl [(c1, .int), (c3, .long), (c4, .long), (c5, .long)] t ∧ va_D (va_A [(h0, .inr (0, [.ref a1, .int n, .int lim, .ref a3, .ref a4, .ref a5])), (a1, .inl (c1, 32, .inl fw)), (a3, .inl (c3, 16, .inr (.inl fs))), (a4, .inl (c4, 32, .inr (.inl fc))), (a5, .inl (c5, 16, .inr (.inl fp)))] sz) [(h0, .inr (0, [.ref a1, .int n, .int lim, .ref a3, .ref a4, .ref a5])), (a1, .inl (c1, 32, .inl fw)), (a3, .inl (c3, 16, .inr (.inl fs))), (a4, .inl (c4, 32, .inr (.inl fc))), (a5, .inl (c5, 16, .inr (.inl fp)))]) (va_A [(h0, .inr (0, [.ref a1, .int n, .int lim, .ref a3, .ref a4, .ref a5])), (a1, .inl (c1, 32, .inl fw)), (a3, .inl (c3, 16, .inr (.inl fs))), (a4, .inl (c4, 32, .inr (.inl fc))), (a5, .inl (c5, 16, .inr (.inl fp)))] sz)) 0 0 (va_A [(h0, .inr (0, [.ref a1, .int n, .int lim, .ref a3, .ref a4, .ref a5])), (a1, .inl (c1, 32, .inl fw)), (a3, .inl (c3, 16, .inr (.inl fs))), (a4, .inl (c4, 32, .inr (.inl fc))), (a5, .inl (c5, 16, .inr (.inl fp)))] sz) := by
  refine Met.ofW (cc := cX0_costOfCheapest) (maxL := 5) (ret := (some .long)) (by decide) rfl ?_
  intro p e s m args below meth c s₁ B hml hv
  obtain ⟨rfl, hsz, hP, hK, hD0⟩ := hv
  have hx := B.exec
  have hb := B.bytes
  have hr := B.returns
  have hts := atoms_spec (ws := wsX0_costOfCheapest) B.pre
  have hown : s.vm.findClass RX0 = some m.cls := findClass_of_methodNamed B.named
  have hlocks := B.notSynchronized
  subst hsz
  have hD := hD0.self (sz := s.heap.size)
  generalize hAe : va_A [(h0, .inr (0, [.ref a1, .int n, .int lim, .ref a3, .ref a4, .ref a5])), (a1, .inl (c1, 32, .inl fw)), (a3, .inl (c3, 16, .inr (.inl fs))), (a4, .inl (c4, 32, .inr (.inl fc))), (a5, .inl (c5, 16, .inr (.inl fp)))] s.heap.size = A at hD ⊢
  have hA : ∀ q : Nat, s.heap.size ≤ q → A q := fun q h => by rw [← hAe]; exact Or.inr h
  have hS : va_S A s.heap s.heap [] := va_S.rf
  have hP : va_P (dC, dI) vwCl [(h0, .inr (0, [.ref a1, .int n, .int lim, .ref a3, .ref a4, .ref a5])), (a1, .inl (c1, 32, .inl fw)), (a3, .inl (c3, 16, .inr (.inl fs))), (a4, .inl (c4, 32, .inr (.inl fc))), (a5, .inl (c5, 16, .inr (.inl fp)))] s.heap := hP
  have hl := lv_entry ([.ref h0, .int (nI q)]) (n := 5) (Nat.le_of_ble_eq_true rfl)
  rw [lg_entry_eq]
  generalize (lg_sl ([.ref h0, .int (nI q)]) ++ List.replicate (5 - (lg_sl ([.ref h0, .int (nI q)])).length) Slot.unset).toArray = ls at hl ⊢
  have hl : lv_has ls 5 [(0, .ref h0), (1, .int (nI q))] := hl
  refine lv_lconst (v := lN 0) hx hb dX0_costOfCheapest_0 (by decide) ?_
  refine lv_lstore_n (lv' := [(2, .long (lN 0)), (0, .ref h0), (1, .int (nI q))]) hx hb dX0_costOfCheapest_1 rfl hl (by decide) rfl (fun ls hl => ?_)
  refine lv_iconst (v := nI 0) hx hb dX0_costOfCheapest_2 (by decide) ?_
  refine lv_istore (lv' := [(4, .int (nI 0)), (2, .long (lN 0)), (0, .ref h0), (1, .int (nI q))]) hx hb dX0_costOfCheapest_3 hl (by decide) rfl (fun ls hl => ?_)
  refine lp_X0_costOfCheapest hx hb hml hown hts hA h0 a1 a3 a4 a5 c1 c3 c4 c5 n lim fw fs fc fp q C hq hfc hK ?_ (q + 1) 0 s.heap [] ls (by omega) (Nat.zero_le _) hP hD hS (lv_sub hl [0, 1, 2, 3] rfl)
  intro H locs ls hP hD hS hl
  refine lv_lload_n hx hb dX0_costOfCheapest_37 rfl (lv_at hl 0 rfl) ?_
  exact W.lret (v := lN (tc_sum C q)) hx hb hr (fun t ht hW => ⟨⟨lN (tc_sum C q), (), rfl, rfl, by rw [ht]; exact hP, va_K.moved hW.alike hK, hD⟩, hS.F ht⟩) hS.2.2 dX0_costOfCheapest_38
