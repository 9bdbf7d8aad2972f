theorem hinX0_insertSorted : ∀ w ∈ wsX00, w ∈ wsX0_insertSorted := by decide +kernel
theorem hinX0_sortWeights : ∀ w ∈ wsX00, w ∈ wsX0_sortWeights := by decide +kernel
theorem mmX0_insertSorted_0 : Cond.fieldLink RX0 20 "TrimCodes" "sortedWeights" "[J" ∈ wsX0_insertSorted := by decide +kernel
theorem mmX0_sortWeights_0 : Cond.fieldLink RX0 13 "TrimCodes" "letterCount" "I" ∈ wsX0_sortWeights := by decide +kernel
theorem mmX0_sortWeights_1 : Cond.fieldLink RX0 9 "TrimCodes" "weights" "[I" ∈ wsX0_sortWeights := by decide +kernel
set_option maxHeartbeats 4000000 in
set_option maxRecDepth 100000 in
/-- the place of a new weight is sought from above -/
theorem lp_X0_insertSorted {p : Program} {l : Launch} {e : Env} {R : Room} {s : State} {m : MethodId} {args : Array Value} {below : List Frame} {meth : Method} {c : Code} {Q : State → Prop} {A : Nat → Prop} {dC : Nat → ClassId} {dI : Nat → Nat → Nat} (hx : p.tables.exec = Jvm.exec) (hb : c.code = cX0_insertSorted) (hml : c.maxLocals = 5) (hown : s.vm.findClass RX0 = some m.cls) (hts : ∀ w ∈ wsX0_insertSorted, w.before args s = true) (hA : ∀ q : Nat, s.heap.size ≤ q → A q)  (h0 a1 a3 a4 a5 : Nat) (c1 c3 c4 c5 : ClassId) (n lim : Int32) (fw : Nat → Int32) (fc fp : Nat → Int64) (i x : Nat) (ss : Nat → Nat) (hi : i < 16) (hss : ∀ j, j < i → ss j < 2 ^ 31) (hxx : x < 2 ^ 31) (hK : va_K (dC, dI) vwCl [(c1, .int), (c3, .long), (c4, .long), (c5, .long)] s) (K : ∀ (pl : Nat) (g : Nat → Int64) (H : Heap) (locs : List Loc) (ls : Array Slot), pl ≤ i → (∀ j, j < pl → g j = lN (ss j)) → (∀ j, pl < j → j < i + 1 → g j = lN (ss (j - 1))) → (pl < i → x ≤ ss pl) → (0 < pl → ss (pl - 1) ≤ x) → va_P (dC, dI) vwCl [(h0, .inr (0, [.ref a1, .int n, .int lim, .ref a3, .ref a4, .ref a5])), (a1, .inl (c1, 32, .inl fw)), (a3, .inl (c3, 16, .inr (.inl g))), (a4, .inl (c4, 32, .inr (.inl fc))), (a5, .inl (c5, 16, .inr (.inl fp)))] H → va_D A [(h0, .inr (0, [.ref a1, .int n, .int lim, .ref a3, .ref a4, .ref a5])), (a1, .inl (c1, 32, .inl fw)), (a3, .inl (c3, 16, .inr (.inl g))), (a4, .inl (c4, 32, .inr (.inl fc))), (a5, .inl (c5, 16, .inr (.inl fp)))] → va_S A s.heap H locs → lv_has ls 5 [(4, .int (nI pl)), (0, .ref h0), (1, .int (nI i)), (2, .long (lN x))] → W p l e R s m args below meth c H locs 0 0 Q (F0 m 54 ls [])) :
    ∀ (fu : Nat) (pl : Nat) (g : Nat → Int64) (H : Heap) (locs : List Loc) (ls : Array Slot), pl < fu → pl ≤ i → (∀ j, j < pl → g j = lN (ss j)) → (∀ j, pl < j → j < i + 1 → g j = lN (ss (j - 1))) → (pl < i → x ≤ ss pl) → va_P (dC, dI) vwCl [(h0, .inr (0, [.ref a1, .int n, .int lim, .ref a3, .ref a4, .ref a5])), (a1, .inl (c1, 32, .inl fw)), (a3, .inl (c3, 16, .inr (.inl g))), (a4, .inl (c4, 32, .inr (.inl fc))), (a5, .inl (c5, 16, .inr (.inl fp)))] H → va_D A [(h0, .inr (0, [.ref a1, .int n, .int lim, .ref a3, .ref a4, .ref a5])), (a1, .inl (c1, 32, .inl fw)), (a3, .inl (c3, 16, .inr (.inl g))), (a4, .inl (c4, 32, .inr (.inl fc))), (a5, .inl (c5, 16, .inr (.inl fp)))] → va_S A s.heap H locs → lv_has ls 5 [(4, .int (nI pl)), (0, .ref h0), (1, .int (nI i)), (2, .long (lN x))] → W p l e R s m args below meth c H locs 0 0 Q (F0 m 13 ls []) := by
  intro fu
  induction fu with
  | zero =>
    intro pl g H locs ls hfu
    exact absurd hfu (Nat.not_lt_zero _)
  | succ fu ih =>
    intro pl g H locs ls hfu hpl hlo hhi hup hP hD hS hl
    refine lv_iload hx hb dX0_insertSorted_13 (lv_at hl 0 rfl) ?_
    refine tw_if_le hx hb pl (tgt := 54) dX0_insertSorted_15 (by decide) (by omega) (fun h0p => ?_) (fun h0p => ?_)
    · exact K pl g H locs ls hpl hlo hhi hup (fun q => absurd q (by omega)) hP hD hS hl
    · refine lv_aload_n hx hb dX0_insertSorted_18 rfl (lv_at hl 1 rfl) ?_
      refine va_get (D := (dC, dI)) (ci := 0) (v := .ref a3) (C := RX0) (T := TX0) (N := 6) hx hb hts hinX0_insertSorted hown hK hP 0 rfl rfl 3 (by decide) (hts _ mmX0_insertSorted_0) (fun _ h9 => h9) rfl dX0_insertSorted_19 ?_
      refine lv_iload hx hb dX0_insertSorted_22 (lv_at hl 0 rfl) ?_
      refine lv_iconst (v := nI 1) hx hb dX0_insertSorted_24 (by decide) ?_
      refine lv_isub hx hb dX0_insertSorted_25 ?_
      refine tw_i (nI (pl - 1)) (pk_sub (by omega)) ?_
      refine va_lald hx hb hK hP 2 1 rfl rfl (tn_in 16 (by omega) (by decide)) dX0_insertSorted_26 ?_
      refine tw_l (g (pl - 1)) (congrArg g (tn_cl (by omega))) ?_
      refine tw_l (lN (ss (pl - 1))) (hlo (pl - 1) (by omega)) ?_
      refine lv_lload_n hx hb dX0_insertSorted_27 rfl (lv_at hl 3 rfl) ?_
      have hb1 := hss (pl - 1) (by omega)
      refine tw_lif_le hx hb (tgt := 54) dX0_insertSorted_28 dX0_insertSorted_29 (by decide) (fun hc => ?_) (fun hc => ?_)
      · exact K pl g H locs ls hpl hlo hhi hup (fun _ => (tn_le (by omega) (by omega)).mp hc) hP hD hS hl
      · have hc2 : x < ss (pl - 1) := Nat.lt_of_not_le (fun q => hc ((tn_le (by omega) (by omega)).mpr q))
        refine lv_aload_n hx hb dX0_insertSorted_32 rfl (lv_at hl 1 rfl) ?_
        refine va_get (D := (dC, dI)) (ci := 0) (v := .ref a3) (C := RX0) (T := TX0) (N := 6) hx hb hts hinX0_insertSorted hown hK hP 0 rfl rfl 3 (by decide) (hts _ mmX0_insertSorted_0) (fun _ h9 => h9) rfl dX0_insertSorted_33 ?_
        refine lv_iload hx hb dX0_insertSorted_36 (lv_at hl 0 rfl) ?_
        refine lv_aload_n hx hb dX0_insertSorted_38 rfl (lv_at hl 1 rfl) ?_
        refine va_get (D := (dC, dI)) (ci := 0) (v := .ref a3) (C := RX0) (T := TX0) (N := 6) hx hb hts hinX0_insertSorted hown hK hP 0 rfl rfl 3 (by decide) (hts _ mmX0_insertSorted_0) (fun _ h9 => h9) rfl dX0_insertSorted_39 ?_
        refine lv_iload hx hb dX0_insertSorted_42 (lv_at hl 0 rfl) ?_
        refine lv_iconst (v := nI 1) hx hb dX0_insertSorted_44 (by decide) ?_
        refine lv_isub hx hb dX0_insertSorted_45 ?_
        refine tw_i (nI (pl - 1)) (pk_sub (by omega)) ?_
        refine va_lald hx hb hK hP 2 1 rfl rfl (tn_in 16 (by omega) (by decide)) dX0_insertSorted_46 ?_
        refine tw_l (g (pl - 1)) (congrArg g (tn_cl (by omega))) ?_
        refine tw_l (lN (ss (pl - 1))) (hlo (pl - 1) (by omega)) ?_
        refine va_last hx hb hK hP hD hS 2 1 rfl rfl (tn_in 16 (by omega) (by decide)) dX0_insertSorted_47 (fun H locs hP hD hS => ?_)
        rw [tn_cl (show pl < 2 ^ 31 by omega)] at hP hD
        have hP : va_P (dC, dI) vwCl [(h0, .inr (0, [.ref a1, .int n, .int lim, .ref a3, .ref a4, .ref a5])), (a1, .inl (c1, 32, .inl fw)), (a3, .inl (c3, 16, .inr (.inl (vp_updL g pl (lN (ss (pl - 1))))))), (a4, .inl (c4, 32, .inr (.inl fc))), (a5, .inl (c5, 16, .inr (.inl fp)))] H := hP
        have hD : va_D A [(h0, .inr (0, [.ref a1, .int n, .int lim, .ref a3, .ref a4, .ref a5])), (a1, .inl (c1, 32, .inl fw)), (a3, .inl (c3, 16, .inr (.inl (vp_updL g pl (lN (ss (pl - 1))))))), (a4, .inl (c4, 32, .inr (.inl fc))), (a5, .inl (c5, 16, .inr (.inl fp)))] := hD
        refine lv_iinc (v := nI (pl - 1)) (lv' := [(4, .int (nI (pl - 1))), (0, .ref h0), (1, .int (nI i)), (2, .long (lN x))]) hx hb dX0_insertSorted_48 hl (k := 0) rfl (tn_m1 (by omega)) (by decide) rfl (fun ls hl => ?_)
        refine lv_goto (tgt := 13) hx hb dX0_insertSorted_51 (by decide) ?_
        exact ih (pl - 1) _ H locs ls (by omega) (by omega) (fun j hj => by rw [pk_uLn (by omega)]; exact hlo j (by omega)) (fun j hj1 hj2 => by
          by_cases hjp : j = pl
          · subst hjp; rw [pk_uLs]
          · rw [pk_uLn hjp]; exact hhi j (by omega) hj2) (fun _ => by omega) hP hD hS (lv_sub hl [0, 1, 2, 3] rfl)
set_option maxHeartbeats 4000000 in
set_option maxRecDepth 100000 in
/-- insertSorted(i, x): x is put into the rising row of the first i -/
theorem c_X0_insertSorted (l : Launch) (dC : Nat → ClassId) (dI : Nat → Nat → Nat) (h0 a1 a3 a4 a5 : Nat) (c1 c3 c4 c5 : ClassId) (n lim : Int32) (fw : Nat → Int32) (fs fc fp : Nat → Int64) (sz : Nat) (i x : Nat) (ss : Nat → Nat) (hfs : ∀ j, j < i → fs j = lN (ss j)) (hi : i < 16) (hss : ∀ j, j < i → ss j < 2 ^ 31) (hxx : x < 2 ^ 31) : Met l yX0_insertSorted wsX0_insertSorted ({ frames := 0, cells := 0, slots := 0, locals := 0 }) (va_Pc [.ref h0, .int (nI i), .long (lN x)] (fun U => U.heap.size = sz ∧ va_P (dC, dI) vwCl [(h0, .inr (0, [.ref a1, .int n, .int lim, .ref a3, .ref a4, .ref a5])), (a1, .inl (c1, 32, .inl fw)), (a3, .inl (c3, 16, .inr (.inl fs))), (a4, .inl (c4, 32, .inr (.inl fc))), (a5, .inl (c5, 16, .inr (.inl fp)))] U.heap ∧ va_K (dC, dI) vwCl [(c1, .int), (c3, .long), (c4, .long), (c5, .long)] U ∧ va_D (fun _ => True) [(h0, .inr (0, [.ref a1, .int n, .int lim, .ref a3, .ref a4, .ref a5])), (a1, .inl (c1, 32, .inl fw)), (a3, .inl (c3, 16, .inr (.inl fs))), (a4, .inl (c4, 32, .inr (.inl fc))), (a5, .inl (c5, 16, .inr (.inl fp)))])) (va_Qv (fun u : Nat → Int64 => ∃ pl : Nat, pl ≤ i ∧ (0 < pl → ss (pl - 1) ≤ x) ∧ (pl < i → x ≤ ss pl) ∧ ∀ j, j < i + 1 → u j = lN (tc_ins ss pl x j)) (fun (u : Nat → Int64) (t : State) => va_P (dC, dI) vwCl [(h0, .inr (0, [.ref a1, .int n, .int lim, .ref a3, .ref a4, .ref a5])), (a1, .inl (c1, 32, .inl fw)), (a3, .inl (c3, 16, .inr (.inl u))), (a4, .inl (c4, 32, .inr (.inl fc))), (a5, .inl (c5, 16, .inr (.inl fp)))] t.heap ∧ va_K (dC, dI) vwCl [(c1, .int), (c3, .long), (c4, .long), (c5, .long)] t ∧ va_D (va_A [(h0, .inr (0, [.ref a1, .int n, .int lim, .ref a3, .ref a4, .ref a5])), (a1, .inl (c1, 32, .inl fw)), (a3, .inl (c3, 16, .inr (.inl fs))), (a4, .inl (c4, 32, .inr (.inl fc))), (a5, .inl (c5, 16, .inr (.inl fp)))] sz) [(h0, .inr (0, [.ref a1, .int n, .int lim, .ref a3, .ref a4, .ref a5])), (a1, .inl (c1, 32, .inl fw)), (a3, .inl (c3, 16, .inr (.inl u))), (a4, .inl (c4, 32, .inr (.inl fc))), (a5, .inl (c5, 16, .inr (.inl fp)))]) (va_A [(h0, .inr (0, [.ref a1, .int n, .int lim, .ref a3, .ref a4, .ref a5])), (a1, .inl (c1, 32, .inl fw)), (a3, .inl (c3, 16, .inr (.inl fs))), (a4, .inl (c4, 32, .inr (.inl fc))), (a5, .inl (c5, 16, .inr (.inl fp)))] sz)) 0 0 (va_A [(h0, .inr (0, [.ref a1, .int n, .int lim, .ref a3, .ref a4, .ref a5])), (a1, .inl (c1, 32, .inl fw)), (a3, .inl (c3, 16, .inr (.inl fs))), (a4, .inl (c4, 32, .inr (.inl fc))), (a5, .inl (c5, 16, .inr (.inl fp)))] sz) := by
  refine Met.ofW (cc := cX0_insertSorted) (maxL := 5) (ret := none) (by decide) rfl ?_
  intro p e s m args below meth c s₁ B hml hv
  obtain ⟨rfl, hsz, hP, hK, hD0⟩ := hv
  have hx := B.exec
  have hb := B.bytes
  have hr := B.returns
  have hts := atoms_spec (ws := wsX0_insertSorted) B.pre
  have hown : s.vm.findClass RX0 = some m.cls := findClass_of_methodNamed B.named
  have hlocks := B.notSynchronized
  subst hsz
  have hD := hD0.self (sz := s.heap.size)
  generalize hAe : va_A [(h0, .inr (0, [.ref a1, .int n, .int lim, .ref a3, .ref a4, .ref a5])), (a1, .inl (c1, 32, .inl fw)), (a3, .inl (c3, 16, .inr (.inl fs))), (a4, .inl (c4, 32, .inr (.inl fc))), (a5, .inl (c5, 16, .inr (.inl fp)))] s.heap.size = A at hD ⊢
  have hA : ∀ q : Nat, s.heap.size ≤ q → A q := fun q h => by rw [← hAe]; exact Or.inr h
  have hS : va_S A s.heap s.heap [] := va_S.rf
  have hP : va_P (dC, dI) vwCl [(h0, .inr (0, [.ref a1, .int n, .int lim, .ref a3, .ref a4, .ref a5])), (a1, .inl (c1, 32, .inl fw)), (a3, .inl (c3, 16, .inr (.inl fs))), (a4, .inl (c4, 32, .inr (.inl fc))), (a5, .inl (c5, 16, .inr (.inl fp)))] s.heap := hP
  have hl := lv_entry ([.ref h0, .int (nI i), .long (lN x)]) (n := 5) (Nat.le_of_ble_eq_true rfl)
  rw [lg_entry_eq]
  generalize (lg_sl ([.ref h0, .int (nI i), .long (lN x)]) ++ List.replicate (5 - (lg_sl ([.ref h0, .int (nI i), .long (lN x)])).length) Slot.unset).toArray = ls at hl ⊢
  have hl : lv_has ls 5 [(0, .ref h0), (1, .int (nI i)), (2, .long (lN x))] := hl
  refine lv_iload_n hx hb dX0_insertSorted_0 rfl (lv_at hl 1 rfl) ?_
  refine lv_aload_n hx hb dX0_insertSorted_1 rfl (lv_at hl 0 rfl) ?_
  refine va_get (D := (dC, dI)) (ci := 0) (v := .ref a3) (C := RX0) (T := TX0) (N := 6) hx hb hts hinX0_insertSorted hown hK hP 0 rfl rfl 3 (by decide) (hts _ mmX0_insertSorted_0) (fun _ h9 => h9) rfl dX0_insertSorted_2 ?_
  refine va_alen hx hb hK hP 2 1 rfl rfl (v := nI 16) rfl dX0_insertSorted_5 ?_
  refine tw_icmp_lt hx hb i 16 (tgt := 10) dX0_insertSorted_6 (by decide) (by omega) (by omega) (fun hc => ?_) (fun hc => ?_)
  · refine lv_iload_n hx hb dX0_insertSorted_10 rfl (lv_at hl 1 rfl) ?_
    refine lv_istore (lv' := [(4, .int (nI i)), (0, .ref h0), (1, .int (nI i)), (2, .long (lN x))]) hx hb dX0_insertSorted_11 hl (by decide) rfl (fun ls hl => ?_)
    refine lp_X0_insertSorted hx hb hml hown hts hA h0 a1 a3 a4 a5 c1 c3 c4 c5 n lim fw fc fp i x ss hi hss hxx hK ?_ (i + 1) i fs s.heap [] ls (by omega) (Nat.le_refl _) hfs (fun j h1 h2 => absurd h1 (by omega)) (fun h => absurd h (by omega)) hP hD hS (lv_sub hl [0, 1, 2, 3] rfl)
    intro pl g H locs ls hpl hlo hhi hup hdn hP hD hS hl
    refine lv_aload_n hx hb dX0_insertSorted_54 rfl (lv_at hl 1 rfl) ?_
    refine va_get (D := (dC, dI)) (ci := 0) (v := .ref a3) (C := RX0) (T := TX0) (N := 6) hx hb hts hinX0_insertSorted hown hK hP 0 rfl rfl 3 (by decide) (hts _ mmX0_insertSorted_0) (fun _ h9 => h9) rfl dX0_insertSorted_55 ?_
    refine lv_iload hx hb dX0_insertSorted_58 (lv_at hl 0 rfl) ?_
    refine lv_lload_n hx hb dX0_insertSorted_60 rfl (lv_at hl 3 rfl) ?_
    refine va_last hx hb hK hP hD hS 2 1 rfl rfl (tn_in 16 (by omega) (by decide)) dX0_insertSorted_61 (fun H locs hP hD hS => ?_)
    rw [tn_cl (show pl < 2 ^ 31 by omega)] at hP hD
    have hP : va_P (dC, dI) vwCl [(h0, .inr (0, [.ref a1, .int n, .int lim, .ref a3, .ref a4, .ref a5])), (a1, .inl (c1, 32, .inl fw)), (a3, .inl (c3, 16, .inr (.inl (vp_updL g pl (lN x))))), (a4, .inl (c4, 32, .inr (.inl fc))), (a5, .inl (c5, 16, .inr (.inl fp)))] H := hP
    have hD : va_D A [(h0, .inr (0, [.ref a1, .int n, .int lim, .ref a3, .ref a4, .ref a5])), (a1, .inl (c1, 32, .inl fw)), (a3, .inl (c3, 16, .inr (.inl (vp_updL g pl (lN x))))), (a4, .inl (c4, 32, .inr (.inl fc))), (a5, .inl (c5, 16, .inr (.inl fp)))] := hD
    exact W.vret hx hb hr (fun t ht hW => ⟨⟨vp_updL g pl (lN x), rfl, ⟨pl, hpl, hdn, hup, fun j hj => by
      by_cases h1 : j < pl
      · rw [pk_uLn (by omega), tc_ins_lt h1]; exact hlo j h1
      · by_cases h2 : j = pl
        · subst h2; rw [pk_uLs, tc_ins_eq]
        · rw [pk_uLn h2, tc_ins_gt (by omega)]; exact hhi j (by omega) hj⟩, by rw [ht]; exact hP, va_K.moved hW.alike hK, hD⟩, hS.F ht⟩) hS.2.2 dX0_insertSorted_62
  · exact absurd hc (by omega)
set_option maxHeartbeats 4000000 in
set_option maxRecDepth 100000 in
/-- the first i weights stand sorted -/
theorem lp_X0_sortWeights {p : Program} {l : Launch} {e : Env} {R : Room} {s : State} {m : MethodId} {args : Array Value} {below : List Frame} {meth : Method} {c : Code} {Q : State → Prop} {A : Nat → Prop} {dC : Nat → ClassId} {dI : Nat → Nat → Nat} (hx : p.tables.exec = Jvm.exec) (hb : c.code = cX0_sortWeights) (hml : c.maxLocals = 2) (hown : s.vm.findClass RX0 = some m.cls) (hts : ∀ w ∈ wsX0_sortWeights, w.before args s = true) (hA : ∀ q : Nat, s.heap.size ≤ q → A q) (hfr : 1 ≤ R.frames) (hlo : 24 ≤ R.locals) (h0 a1 a3 a4 a5 : Nat) (c1 c3 c4 c5 : ClassId) (lim : Int32) (fw : Nat → Int32) (fc fp : Nat → Int64) (nn : Nat) (w : Nat → Nat) (hn16 : nn ≤ 16) (hfw : ∀ j, j < 32 → fw j = nI (w j)) (hw31 : ∀ j, w j < 2 ^ 31) (hK : va_K (dC, dI) vwCl [(c1, .int), (c3, .long), (c4, .long), (c5, .long)] s) (K : ∀ (ss : Nat → Nat) (g : Nat → Int64) (H : Heap) (locs : List Loc) (ls : Array Slot), tc_srt w ss nn → (∀ j, j < nn → g j = lN (ss j) ∧ ss j < 2 ^ 31) → va_P (dC, dI) vwCl [(h0, .inr (0, [.ref a1, .int (nI nn), .int lim, .ref a3, .ref a4, .ref a5])), (a1, .inl (c1, 32, .inl fw)), (a3, .inl (c3, 16, .inr (.inl g))), (a4, .inl (c4, 32, .inr (.inl fc))), (a5, .inl (c5, 16, .inr (.inl fp)))] H → va_D A [(h0, .inr (0, [.ref a1, .int (nI nn), .int lim, .ref a3, .ref a4, .ref a5])), (a1, .inl (c1, 32, .inl fw)), (a3, .inl (c3, 16, .inr (.inl g))), (a4, .inl (c4, 32, .inr (.inl fc))), (a5, .inl (c5, 16, .inr (.inl fp)))] → va_S A s.heap H locs → lv_has ls 2 [(0, .ref h0)] → W p l e R s m args below meth c H locs 0 0 Q (F0 m 37 ls [])) :
    ∀ (fu : Nat) (i : Nat) (ss : Nat → Nat) (g : Nat → Int64) (H : Heap) (locs : List Loc) (ls : Array Slot), (nn - i) < fu → i ≤ nn → tc_srt w ss i → (∀ j, j < i → g j = lN (ss j) ∧ ss j < 2 ^ 31) → va_P (dC, dI) vwCl [(h0, .inr (0, [.ref a1, .int (nI nn), .int lim, .ref a3, .ref a4, .ref a5])), (a1, .inl (c1, 32, .inl fw)), (a3, .inl (c3, 16, .inr (.inl g))), (a4, .inl (c4, 32, .inr (.inl fc))), (a5, .inl (c5, 16, .inr (.inl fp)))] H → va_D A [(h0, .inr (0, [.ref a1, .int (nI nn), .int lim, .ref a3, .ref a4, .ref a5])), (a1, .inl (c1, 32, .inl fw)), (a3, .inl (c3, 16, .inr (.inl g))), (a4, .inl (c4, 32, .inr (.inl fc))), (a5, .inl (c5, 16, .inr (.inl fp)))] → va_S A s.heap H locs → lv_has ls 2 [(1, .int (nI i)), (0, .ref h0)] → W p l e R s m args below meth c H locs 0 0 Q (F0 m 2 ls []) := by
  intro fu
  induction fu with
  | zero =>
    intro i ss g H locs ls hfu
    exact absurd hfu (Nat.not_lt_zero _)
  | succ fu ih =>
    intro i ss g H locs ls hfu hi hst hg hP hD hS hl
    refine lv_iload_n hx hb dX0_sortWeights_2 rfl (lv_at hl 0 rfl) ?_
    refine lv_aload_n hx hb dX0_sortWeights_3 rfl (lv_at hl 1 rfl) ?_
    refine va_get (D := (dC, dI)) (ci := 0) (v := .int (nI nn)) (C := RX0) (T := TX0) (N := 6) hx hb hts hinX0_sortWeights hown hK hP 0 rfl rfl 1 (by decide) (hts _ mmX0_sortWeights_0) (fun _ h9 => h9) rfl dX0_sortWeights_4 ?_
    refine tw_icmp_ge hx hb i nn (tgt := 37) dX0_sortWeights_7 (by decide) (by omega) (by omega) (fun hc => ?_) (fun hc => ?_)
    · have e : i = nn := by omega
      subst e
      exact K ss g H locs ls hst hg hP hD hS (lv_sub hl [1] rfl)
    · refine lv_iload_n hx hb dX0_sortWeights_10 rfl (lv_at hl 0 rfl) ?_
      refine lv_aload_n hx hb dX0_sortWeights_11 rfl (lv_at hl 1 rfl) ?_
      refine va_get (D := (dC, dI)) (ci := 0) (v := .ref a1) (C := RX0) (T := TX0) (N := 6) hx hb hts hinX0_sortWeights hown hK hP 0 rfl rfl 0 (by decide) (hts _ mmX0_sortWeights_1) (fun _ h9 => h9) rfl dX0_sortWeights_12 ?_
      refine va_alen hx hb hK hP 1 0 rfl rfl (v := nI 32) rfl dX0_sortWeights_15 ?_
      refine tw_icmp_ge hx hb i 32 (tgt := 37) dX0_sortWeights_16 (by decide) (by omega) (by omega) (fun hc2 => ?_) (fun hc2 => ?_)
      · exact absurd hc2 (by omega)
      · refine lv_aload_n hx hb dX0_sortWeights_19 rfl (lv_at hl 1 rfl) ?_
        refine lv_iload_n hx hb dX0_sortWeights_20 rfl (lv_at hl 0 rfl) ?_
        refine lv_aload_n hx hb dX0_sortWeights_21 rfl (lv_at hl 1 rfl) ?_
        refine va_get (D := (dC, dI)) (ci := 0) (v := .ref a1) (C := RX0) (T := TX0) (N := 6) hx hb hts hinX0_sortWeights hown hK hP 0 rfl rfl 0 (by decide) (hts _ mmX0_sortWeights_1) (fun _ h9 => h9) rfl dX0_sortWeights_22 ?_
        refine lv_iload_n hx hb dX0_sortWeights_25 rfl (lv_at hl 0 rfl) ?_
        refine va_iald hx hb hK hP 1 0 rfl rfl (tn_in 32 (by omega) (by decide)) dX0_sortWeights_26 ?_
        refine tw_i (fw i) (congrArg fw (tn_cl (by omega))) ?_
        refine tw_i (nI (w i)) (hfw i (by omega)) ?_
        refine lv_i2l (v := lN (w i)) hx hb dX0_sortWeights_27 (tn_i2l (hw31 i)) ?_
        have hPc := hP.sub (ws' := [(h0, .inr (0, [.ref a1, .int (nI nn), .int lim, .ref a3, .ref a4, .ref a5])), (a1, .inl (c1, 32, .inl fw)), (a3, .inl (c3, 16, .inr (.inl g))), (a4, .inl (c4, 32, .inr (.inl fc))), (a5, .inl (c5, 16, .inr (.inl fp)))]) [0, 1, 2, 3, 4] rfl
        have hDc := hD.sub (ws' := [(h0, .inr (0, [.ref a1, .int (nI nn), .int lim, .ref a3, .ref a4, .ref a5])), (a1, .inl (c1, 32, .inl fw)), (a3, .inl (c3, 16, .inr (.inl g))), (a4, .inl (c4, 32, .inr (.inl fc))), (a5, .inl (c5, 16, .inr (.inl fp)))]) [0, 1, 2, 3, 4] (by decide) rfl
        have hKc := hK.sub (tys' := [(c1, .int), (c3, .long), (c4, .long), (c5, .long)]) [0, 1, 2, 3] rfl
        have hFc := va_free (wc := [(h0, .inr (0, [.ref a1, .int (nI nn), .int lim, .ref a3, .ref a4, .ref a5])), (a1, .inl (c1, 32, .inl fw)), (a3, .inl (c3, 16, .inr (.inl g))), (a4, .inl (c4, 32, .inr (.inl fc))), (a5, .inl (c5, 16, .inr (.inl fp)))]) hD hS hA [0, 1, 2, 3, 4] rfl
        refine va_callv (va_runV (As := [.int (nI i), .long (lN (w i))]) (rest := []) ⟨hx, hb, hml, hown, hts⟩ (c_X0_insertSorted l dC dI h0 a1 a3 a4 a5 c1 c3 c4 c5 (nI nn) lim fw g fc fp H.size i (w i) ss (fun j hj => (hg j hj).1) (by omega) (fun j hj => (hg j hj).2) (hw31 i)) (cwV 2 hts gX0_sortWeights_X0_insertSorted rfl rfl rfl (by decide +kernel) ⟨hfr, hlo⟩) ⟨fun a U g mk q => by obtain ⟨q0, q1, qP, qK, qD⟩ := q; exact ⟨q0, q1, qP, va_K.moved (u := U) (U := U.calling g mk a) (Vm.Alike.refl U.vm) qK, qD⟩, va_recv hKc hPc (ci := 0) (q0 := 0) rfl rfl, fun U hU hW => ⟨rfl, by rw [hU], by rw [hU]; exact hPc, va_K.moved hW.alike hKc, hDc.weaken (fun _ _ _ _ => trivial)⟩⟩ rfl rfl hl.1 rfl (lv_room (Nat.le_of_ble_eq_true rfl)) dX0_sortWeights_28 ⟨(Nat.zero_le _), (Nat.zero_le _)⟩) hS (fun q _ h => hFc q h) hFc (fun u t H1 locs ht hvm hw hB hz1 hk1 hS => ?_)
        obtain ⟨g2, hg2⟩ : ∃ z, z = u := ⟨_, rfl⟩
        rw [← hg2] at hw hB
        obtain ⟨hP1, hK1, hD1⟩ := hB
        rw [ht] at hP1
        have hK1 := va_K.moved hvm.symm hK1
        obtain ⟨hP, hD⟩ := va_join (wr := []) (w1 := [(h0, .inr (0, [.ref a1, .int (nI nn), .int lim, .ref a3, .ref a4, .ref a5])), (a1, .inl (c1, 32, .inl fw)), (a3, .inl (c3, 16, .inr (.inl g2))), (a4, .inl (c4, 32, .inr (.inl fc))), (a5, .inl (c5, 16, .inr (.inl fp)))]) hP hD [0, 1, 2, 3, 4] [] rfl rfl (by decide) (by decide) hk1 hFc hP1 hD1
        generalize H1 = H at hP hS ⊢
        have hP : va_P (dC, dI) vwCl [(h0, .inr (0, [.ref a1, .int (nI nn), .int lim, .ref a3, .ref a4, .ref a5])), (a1, .inl (c1, 32, .inl fw)), (a3, .inl (c3, 16, .inr (.inl g2))), (a4, .inl (c4, 32, .inr (.inl fc))), (a5, .inl (c5, 16, .inr (.inl fp)))] H := hP
        have hD : va_D A [(h0, .inr (0, [.ref a1, .int (nI nn), .int lim, .ref a3, .ref a4, .ref a5])), (a1, .inl (c1, 32, .inl fw)), (a3, .inl (c3, 16, .inr (.inl g2))), (a4, .inl (c4, 32, .inr (.inl fc))), (a5, .inl (c5, 16, .inr (.inl fp)))] := hD
        obtain ⟨pl, w1, w2, w3, w4⟩ := hw
        refine lv_iinc (v := nI (i + 1)) (lv' := [(1, .int (nI (i + 1))), (0, .ref h0)]) hx hb dX0_sortWeights_31 hl (k := 0) rfl (tn_p1 _) (by decide) rfl (fun ls hl => ?_)
        refine lv_goto (tgt := 2) hx hb dX0_sortWeights_34 (by decide) ?_
        exact ih (i + 1) (tc_ins ss pl (w i)) g2 H locs ls (by omega) (by omega) (tc_srt_s hst w1 w2 w3 (fun _ _ => rfl)) (fun j hj => ⟨w4 j hj, by
          by_cases h1 : j < pl
          · rw [tc_ins_lt h1]; exact (hg j (by omega)).2
          · by_cases h2 : j = pl
            · subst h2; rw [tc_ins_eq]; exact hw31 i
            · rw [tc_ins_gt (by omega)]; exact (hg (j - 1) (by omega)).2⟩) hP hD hS (lv_sub hl [0, 1] rfl)
set_option maxHeartbeats 4000000 in
set_option maxRecDepth 100000 in
/-- sortWeights() -/
theorem c_X0_sortWeights (l : Launch) (dC : Nat → ClassId) (dI : Nat → Nat → Nat) (h0 a1 a3 a4 a5 : Nat) (c1 c3 c4 c5 : ClassId) (lim : Int32) (fw : Nat → Int32) (fs fc fp : Nat → Int64) (sz : Nat) (nn : Nat) (w : Nat → Nat) (hn16 : nn ≤ 16) (hfw : ∀ j, j < 32 → fw j = nI (w j)) (hw31 : ∀ j, w j < 2 ^ 31) : Met l yX0_sortWeights wsX0_sortWeights ({ frames := 1, cells := 0, slots := 0, locals := 24 }) (va_Pc [.ref h0] (fun U => U.heap.size = sz ∧ va_P (dC, dI) vwCl [(h0, .inr (0, [.ref a1, .int (nI nn), .int lim, .ref a3, .ref a4, .ref a5])), (a1, .inl (c1, 32, .inl fw)), (a3, .inl (c3, 16, .inr (.inl fs))), (a4, .inl (c4, 32, .inr (.inl fc))), (a5, .inl (c5, 16, .inr (.inl fp)))] U.heap ∧ va_K (dC, dI) vwCl [(c1, .int), (c3, .long), (c4, .long), (c5, .long)] U ∧ va_D (fun _ => True) [(h0, .inr (0, [.ref a1, .int (nI nn), .int lim, .ref a3, .ref a4, .ref a5])), (a1, .inl (c1, 32, .inl fw)), (a3, .inl (c3, 16, .inr (.inl fs))), (a4, .inl (c4, 32, .inr (.inl fc))), (a5, .inl (c5, 16, .inr (.inl fp)))])) (va_Qv (fun u : Nat → Int64 => ∃ ss : Nat → Nat, tc_srt w ss nn ∧ ∀ j, j < nn → u j = lN (ss j) ∧ ss j < 2 ^ 31) (fun (u : Nat → Int64) (t : State) => va_P (dC, dI) vwCl [(h0, .inr (0, [.ref a1, .int (nI nn), .int lim, .ref a3, .ref a4, .ref a5])), (a1, .inl (c1, 32, .inl fw)), (a3, .inl (c3, 16, .inr (.inl u))), (a4, .inl (c4, 32, .inr (.inl fc))), (a5, .inl (c5, 16, .inr (.inl fp)))] t.heap ∧ va_K (dC, dI) vwCl [(c1, .int), (c3, .long), (c4, .long), (c5, .long)] t ∧ va_D (va_A [(h0, .inr (0, [.ref a1, .int (nI nn), .int lim, .ref a3, .ref a4, .ref a5])), (a1, .inl (c1, 32, .inl fw)), (a3, .inl (c3, 16, .inr (.inl fs))), (a4, .inl (c4, 32, .inr (.inl fc))), (a5, .inl (c5, 16, .inr (.inl fp)))] sz) [(h0, .inr (0, [.ref a1, .int (nI nn), .int lim, .ref a3, .ref a4, .ref a5])), (a1, .inl (c1, 32, .inl fw)), (a3, .inl (c3, 16, .inr (.inl u))), (a4, .inl (c4, 32, .inr (.inl fc))), (a5, .inl (c5, 16, .inr (.inl fp)))]) (va_A [(h0, .inr (0, [.ref a1, .int (nI nn), .int lim, .ref a3, .ref a4, .ref a5])), (a1, .inl (c1, 32, .inl fw)), (a3, .inl (c3, 16, .inr (.inl fs))), (a4, .inl (c4, 32, .inr (.inl fc))), (a5, .inl (c5, 16, .inr (.inl fp)))] sz)) 0 0 (va_A [(h0, .inr (0, [.ref a1, .int (nI nn), .int lim, .ref a3, .ref a4, .ref a5])), (a1, .inl (c1, 32, .inl fw)), (a3, .inl (c3, 16, .inr (.inl fs))), (a4, .inl (c4, 32, .inr (.inl fc))), (a5, .inl (c5, 16, .inr (.inl fp)))] sz) := by
  refine Met.ofW (cc := cX0_sortWeights) (maxL := 2) (ret := none) (by decide) rfl ?_
  intro p e s m args below meth c s₁ B hml hv
  obtain ⟨rfl, hsz, hP, hK, hD0⟩ := hv
  have hx := B.exec
  have hb := B.bytes
  have hr := B.returns
  have hts := atoms_spec (ws := wsX0_sortWeights) B.pre
  have hown : s.vm.findClass RX0 = some m.cls := findClass_of_methodNamed B.named
  have hlocks := B.notSynchronized
  subst hsz
  have hD := hD0.self (sz := s.heap.size)
  generalize hAe : va_A [(h0, .inr (0, [.ref a1, .int (nI nn), .int lim, .ref a3, .ref a4, .ref a5])), (a1, .inl (c1, 32, .inl fw)), (a3, .inl (c3, 16, .inr (.inl fs))), (a4, .inl (c4, 32, .inr (.inl fc))), (a5, .inl (c5, 16, .inr (.inl fp)))] s.heap.size = A at hD ⊢
  have hA : ∀ q : Nat, s.heap.size ≤ q → A q := fun q h => by rw [← hAe]; exact Or.inr h
  have hS : va_S A s.heap s.heap [] := va_S.rf
  have hP : va_P (dC, dI) vwCl [(h0, .inr (0, [.ref a1, .int (nI nn), .int lim, .ref a3, .ref a4, .ref a5])), (a1, .inl (c1, 32, .inl fw)), (a3, .inl (c3, 16, .inr (.inl fs))), (a4, .inl (c4, 32, .inr (.inl fc))), (a5, .inl (c5, 16, .inr (.inl fp)))] s.heap := hP
  have hl := lv_entry ([.ref h0]) (n := 2) (Nat.le_of_ble_eq_true rfl)
  rw [lg_entry_eq]
  generalize (lg_sl ([.ref h0]) ++ List.replicate (2 - (lg_sl ([.ref h0])).length) Slot.unset).toArray = ls at hl ⊢
  have hl : lv_has ls 2 [(0, .ref h0)] := hl
  refine lv_iconst (v := nI 0) hx hb dX0_sortWeights_0 (by decide) ?_
  refine lv_istore_n (lv' := [(1, .int (nI 0)), (0, .ref h0)]) hx hb dX0_sortWeights_1 rfl hl (by decide) rfl (fun ls hl => ?_)
  refine lp_X0_sortWeights hx hb hml hown hts hA (Nat.le_of_ble_eq_true rfl) (Nat.le_of_ble_eq_true rfl) h0 a1 a3 a4 a5 c1 c3 c4 c5 lim fw fc fp nn w hn16 hfw hw31 hK ?_ (nn + 1) 0 (fun _ => 0) fs s.heap [] ls (by omega) (Nat.zero_le _) (tc_srt_0 _ _) (fun j hj => absurd hj (Nat.not_lt_zero _)) hP hD hS hl
  intro ss g H locs ls hst hg hP hD hS hl
  exact W.vret hx hb hr (fun t ht hW => ⟨⟨g, rfl, ⟨ss, hst, hg⟩, by rw [ht]; exact hP, va_K.moved hW.alike hK, hD⟩, hS.F ht⟩) hS.2.2 dX0_sortWeights_37
