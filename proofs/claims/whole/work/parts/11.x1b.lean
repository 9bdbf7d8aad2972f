theorem hinX1_least : ∀ w ∈ wsX10, w ∈ wsX1_least := by decide +kernel
theorem mmX1_least_0 : Cond.fieldLink RX1 7 "TrimCodesModel" "weight" "[I" ∈ wsX1_least := by decide +kernel
theorem mmX1_least_1 : Cond.fieldLink RX1 27 "TrimCodesModel" "order" "[I" ∈ wsX1_least := by decide +kernel
theorem mmX1_least_2 : Cond.fieldLink RX1 13 "TrimCodesModel" "n" "I" ∈ wsX1_least := by decide +kernel
theorem mmX1_least_3 : Cond.fieldLink RX1 20 "TrimCodesModel" "best" "[J" ∈ wsX1_least := by decide +kernel
theorem mmX1_least_4 : Cond.constantLong RX1 31 (-1) ∈ wsX1_least := by decide +kernel
theorem mmX1_least_5 : Cond.fieldLink RX1 24 "TrimCodesModel" "next" "[J" ∈ wsX1_least := by decide +kernel
theorem mmX1_least_6 : Cond.fieldLink RX1 17 "TrimCodesModel" "limit" "I" ∈ wsX1_least := by decide +kernel
set_option maxHeartbeats 4000000 in
set_option maxRecDepth 100000 in
/-- the reference sorts: the place of the letter i -/
theorem lp_X1_in {p : Program} {l : Launch} {e : Env} {R : Room} {s : State} {m : MethodId} {args : Array Value} {below : List Frame} {meth : Method} {c : Code} {Q : State → Prop} {A : Nat → Prop} {dC : Nat → ClassId} {dI : Nat → Nat → Nat} (hx : p.tables.exec = Jvm.exec) (hb : c.code = cX1_least) (hml : c.maxLocals = 13) (hown : s.vm.findClass RX1 = some m.cls) (hts : ∀ w ∈ wsX1_least, w.before args s = true) (hA : ∀ q : Nat, s.heap.size ≤ q → A q)  (h0 b1 b4 b5 b6 : Nat) (d1 d4 d5 d6 : ClassId) (fw : Nat → Int32) (fb fx : Nat → Int64) (nn li i : Nat) (w o : Nat → Nat) (hi : i < 16) (hfw : ∀ j, j < 32 → fw j = nI (w j)) (hw31 : ∀ j, w j < 2 ^ 31) (hob : ∀ j, j < i → o j < 32) (hK : va_K (dC, dI) vwCl [(d1, .int), (d4, .long), (d5, .long), (d6, .int)] s) (K : ∀ (pl : Nat) (g : Nat → Int32) (H : Heap) (locs : List Loc) (ls : Array Slot), pl ≤ i → (∀ j, j < pl → g j = nI (o j)) → (∀ j, pl < j → j < i + 1 → g j = nI (o (j - 1))) → (pl < i → w (o pl) ≤ w i) → (0 < pl → w i ≤ w (o (pl - 1))) → va_P (dC, dI) vwCl [(h0, .inr (1, [.ref b1, .int (nI nn), .int (nI li), .ref b4, .ref b5, .ref b6])), (b1, .inl (d1, 32, .inl fw)), (b4, .inl (d4, 289, .inr (.inl fb))), (b5, .inl (d5, 289, .inr (.inl fx))), (b6, .inl (d6, 32, .inl g))] H → va_D A [(h0, .inr (1, [.ref b1, .int (nI nn), .int (nI li), .ref b4, .ref b5, .ref b6])), (b1, .inl (d1, 32, .inl fw)), (b4, .inl (d4, 289, .inr (.inl fb))), (b5, .inl (d5, 289, .inr (.inl fx))), (b6, .inl (d6, 32, .inl g))] → va_S A s.heap H locs → lv_has ls 13 [(2, .int (nI pl)), (0, .ref h0), (1, .int (nI i))] → W p l e R s m args below meth c H locs 0 0 Q (F0 m 76 ls [])) :
    ∀ (fu : Nat) (pl : Nat) (g : Nat → Int32) (H : Heap) (locs : List Loc) (ls : Array Slot), pl < fu → pl ≤ i → (∀ j, j < pl → g j = nI (o j)) → (∀ j, pl < j → j < i + 1 → g j = nI (o (j - 1))) → (pl < i → w (o pl) ≤ w i) → va_P (dC, dI) vwCl [(h0, .inr (1, [.ref b1, .int (nI nn), .int (nI li), .ref b4, .ref b5, .ref b6])), (b1, .inl (d1, 32, .inl fw)), (b4, .inl (d4, 289, .inr (.inl fb))), (b5, .inl (d5, 289, .inr (.inl fx))), (b6, .inl (d6, 32, .inl g))] H → va_D A [(h0, .inr (1, [.ref b1, .int (nI nn), .int (nI li), .ref b4, .ref b5, .ref b6])), (b1, .inl (d1, 32, .inl fw)), (b4, .inl (d4, 289, .inr (.inl fb))), (b5, .inl (d5, 289, .inr (.inl fx))), (b6, .inl (d6, 32, .inl g))] → va_S A s.heap H locs → lv_has ls 13 [(2, .int (nI pl)), (0, .ref h0), (1, .int (nI i))] → W p l e R s m args below meth c H locs 0 0 Q (F0 m 29 ls []) := by
  intro fu
  induction fu with
  | zero =>
    intro pl g H locs ls hfu
    exact absurd hfu (Nat.not_lt_zero _)
  | succ fu ih =>
    intro pl g H locs ls hfu hpl hlo hhi hup hP hD hS hl
    refine lv_iload_n hx hb dX1_least_29 rfl (lv_at hl 0 rfl) ?_
    refine tw_if_le hx hb pl (tgt := 76) dX1_least_30 (by decide) (by omega) (fun hc => ?_) (fun hc => ?_)
    · exact K pl g H locs ls hpl hlo hhi hup (fun q => absurd q (by omega)) hP hD hS hl
    · have hob1 := hob (pl - 1) (by omega)
      refine lv_aload_n hx hb dX1_least_33 rfl (lv_at hl 1 rfl) ?_
      refine va_get (D := (dC, dI)) (ci := 1) (v := .ref b1) (C := RX1) (T := TX1) (N := 6) hx hb hts hinX1_least hown hK hP 0 rfl rfl 0 (by decide) (hts _ mmX1_least_0) (fun _ h9 => h9) rfl dX1_least_34 ?_
      refine lv_aload_n hx hb dX1_least_37 rfl (lv_at hl 1 rfl) ?_
      refine va_get (D := (dC, dI)) (ci := 1) (v := .ref b6) (C := RX1) (T := TX1) (N := 6) hx hb hts hinX1_least hown hK hP 0 rfl rfl 5 (by decide) (hts _ mmX1_least_1) (fun _ h9 => h9) rfl dX1_least_38 ?_
      refine lv_iload_n hx hb dX1_least_41 rfl (lv_at hl 0 rfl) ?_
      refine lv_iconst (v := nI 1) hx hb dX1_least_42 (by decide) ?_
      refine lv_isub hx hb dX1_least_43 ?_
      refine tw_i (nI (pl - 1)) (pk_sub (by omega)) ?_
      refine va_iald hx hb hK hP 4 3 rfl rfl (tn_in 32 (by omega) (by decide)) dX1_least_44 ?_
      refine tw_i (g (pl - 1)) (congrArg g (tn_cl (by omega))) ?_
      refine tw_i (nI (o (pl - 1))) (hlo (pl - 1) (by omega)) ?_
      refine va_iald hx hb hK hP 1 0 rfl rfl (tn_in 32 (by omega) (by decide)) dX1_least_45 ?_
      refine tw_i (fw (o (pl - 1))) (congrArg fw (tn_cl (by omega))) ?_
      refine tw_i (nI (w (o (pl - 1)))) (hfw _ hob1) ?_
      refine lv_aload_n hx hb dX1_least_46 rfl (lv_at hl 1 rfl) ?_
      refine va_get (D := (dC, dI)) (ci := 1) (v := .ref b1) (C := RX1) (T := TX1) (N := 6) hx hb hts hinX1_least hown hK hP 0 rfl rfl 0 (by decide) (hts _ mmX1_least_0) (fun _ h9 => h9) rfl dX1_least_47 ?_
      refine lv_iload_n hx hb dX1_least_50 rfl (lv_at hl 2 rfl) ?_
      refine va_iald hx hb hK hP 1 0 rfl rfl (tn_in 32 (by omega) (by decide)) dX1_least_51 ?_
      refine tw_i (fw i) (congrArg fw (tn_cl (by omega))) ?_
      refine tw_i (nI (w i)) (hfw i (by omega)) ?_
      have hw1 := hw31 (o (pl - 1))
      have hw2 := hw31 i
      refine tw_icmp_ge hx hb (w (o (pl - 1))) (w i) (tgt := 76) dX1_least_52 (by decide) (by omega) (by omega) (fun hc2 => ?_) (fun hc2 => ?_)
      · exact K pl g H locs ls hpl hlo hhi hup (fun _ => hc2) hP hD hS hl
      · refine lv_aload_n hx hb dX1_least_55 rfl (lv_at hl 1 rfl) ?_
        refine va_get (D := (dC, dI)) (ci := 1) (v := .ref b6) (C := RX1) (T := TX1) (N := 6) hx hb hts hinX1_least hown hK hP 0 rfl rfl 5 (by decide) (hts _ mmX1_least_1) (fun _ h9 => h9) rfl dX1_least_56 ?_
        refine lv_iload_n hx hb dX1_least_59 rfl (lv_at hl 0 rfl) ?_
        refine lv_aload_n hx hb dX1_least_60 rfl (lv_at hl 1 rfl) ?_
        refine va_get (D := (dC, dI)) (ci := 1) (v := .ref b6) (C := RX1) (T := TX1) (N := 6) hx hb hts hinX1_least hown hK hP 0 rfl rfl 5 (by decide) (hts _ mmX1_least_1) (fun _ h9 => h9) rfl dX1_least_61 ?_
        refine lv_iload_n hx hb dX1_least_64 rfl (lv_at hl 0 rfl) ?_
        refine lv_iconst (v := nI 1) hx hb dX1_least_65 (by decide) ?_
        refine lv_isub hx hb dX1_least_66 ?_
        refine tw_i (nI (pl - 1)) (pk_sub (by omega)) ?_
        refine va_iald hx hb hK hP 4 3 rfl rfl (tn_in 32 (by omega) (by decide)) dX1_least_67 ?_
        refine tw_i (g (pl - 1)) (congrArg g (tn_cl (by omega))) ?_
        refine tw_i (nI (o (pl - 1))) (hlo (pl - 1) (by omega)) ?_
        refine va_iast hx hb hK hP hD hS 4 3 rfl rfl (tn_in 32 (by omega) (by decide)) dX1_least_68 (fun H locs hP hD hS => ?_)
        rw [tn_cl (show pl < 2 ^ 31 by omega)] at hP hD
        have hP : va_P (dC, dI) vwCl [(h0, .inr (1, [.ref b1, .int (nI nn), .int (nI li), .ref b4, .ref b5, .ref b6])), (b1, .inl (d1, 32, .inl fw)), (b4, .inl (d4, 289, .inr (.inl fb))), (b5, .inl (d5, 289, .inr (.inl fx))), (b6, .inl (d6, 32, .inl (upd g pl (nI (o (pl - 1))))))] H := hP
        have hD : va_D A [(h0, .inr (1, [.ref b1, .int (nI nn), .int (nI li), .ref b4, .ref b5, .ref b6])), (b1, .inl (d1, 32, .inl fw)), (b4, .inl (d4, 289, .inr (.inl fb))), (b5, .inl (d5, 289, .inr (.inl fx))), (b6, .inl (d6, 32, .inl (upd g pl (nI (o (pl - 1))))))] := hD
        refine lv_iload_n hx hb dX1_least_69 rfl (lv_at hl 0 rfl) ?_
        refine lv_iconst (v := nI 1) hx hb dX1_least_70 (by decide) ?_
        refine lv_isub hx hb dX1_least_71 ?_
        refine tw_i (nI (pl - 1)) (pk_sub (by omega)) ?_
        refine lv_istore_n (lv' := [(2, .int (nI (pl - 1))), (0, .ref h0), (1, .int (nI i))]) hx hb dX1_least_72 rfl hl (by decide) rfl (fun ls hl => ?_)
        refine lv_goto (tgt := 29) hx hb dX1_least_73 (by decide) ?_
        exact ih (pl - 1) _ H locs ls (by omega) (by omega) (fun j hj => by rw [pk_un (by omega)]; exact hlo j (by omega)) (fun j hj1 hj2 => by
          by_cases hjp : j = pl
          · subst hjp; rw [pk_us]
          · rw [pk_un hjp]; exact hhi j (by omega) hj2) (fun _ => by omega) hP hD hS (lv_sub hl [0, 1, 2] rfl)
set_option maxHeartbeats 4000000 in
set_option maxRecDepth 100000 in
/-- the reference sorts: the first i letters -/
theorem lp_X1_out {p : Program} {l : Launch} {e : Env} {R : Room} {s : State} {m : MethodId} {args : Array Value} {below : List Frame} {meth : Method} {c : Code} {Q : State → Prop} {A : Nat → Prop} {dC : Nat → ClassId} {dI : Nat → Nat → Nat} (hx : p.tables.exec = Jvm.exec) (hb : c.code = cX1_least) (hml : c.maxLocals = 13) (hown : s.vm.findClass RX1 = some m.cls) (hts : ∀ w ∈ wsX1_least, w.before args s = true) (hA : ∀ q : Nat, s.heap.size ≤ q → A q)  (h0 b1 b4 b5 b6 : Nat) (d1 d4 d5 d6 : ClassId) (fw : Nat → Int32) (fb fx : Nat → Int64) (nn li : Nat) (w : Nat → Nat) (hn16 : nn ≤ 16) (hfw : ∀ j, j < 32 → fw j = nI (w j)) (hw31 : ∀ j, w j < 2 ^ 31) (hK : va_K (dC, dI) vwCl [(d1, .int), (d4, .long), (d5, .long), (d6, .int)] s) (K : ∀ (o : Nat → Nat) (g : Nat → Int32) (H : Heap) (locs : List Loc) (ls : Array Slot), tc_ord w o nn → (∀ j, j < nn → g j = nI (o j)) → va_P (dC, dI) vwCl [(h0, .inr (1, [.ref b1, .int (nI nn), .int (nI li), .ref b4, .ref b5, .ref b6])), (b1, .inl (d1, 32, .inl fw)), (b4, .inl (d4, 289, .inr (.inl fb))), (b5, .inl (d5, 289, .inr (.inl fx))), (b6, .inl (d6, 32, .inl g))] H → va_D A [(h0, .inr (1, [.ref b1, .int (nI nn), .int (nI li), .ref b4, .ref b5, .ref b6])), (b1, .inl (d1, 32, .inl fw)), (b4, .inl (d4, 289, .inr (.inl fb))), (b5, .inl (d5, 289, .inr (.inl fx))), (b6, .inl (d6, 32, .inl g))] → va_S A s.heap H locs → lv_has ls 13 [(0, .ref h0)] → W p l e R s m args below meth c H locs 0 0 Q (F0 m 89 ls [])) :
    ∀ (fu : Nat) (i : Nat) (o : Nat → Nat) (g : Nat → Int32) (H : Heap) (locs : List Loc) (ls : Array Slot), (nn - i) < fu → i ≤ nn → tc_ord w o i → (∀ j, j < i → g j = nI (o j)) → va_P (dC, dI) vwCl [(h0, .inr (1, [.ref b1, .int (nI nn), .int (nI li), .ref b4, .ref b5, .ref b6])), (b1, .inl (d1, 32, .inl fw)), (b4, .inl (d4, 289, .inr (.inl fb))), (b5, .inl (d5, 289, .inr (.inl fx))), (b6, .inl (d6, 32, .inl g))] H → va_D A [(h0, .inr (1, [.ref b1, .int (nI nn), .int (nI li), .ref b4, .ref b5, .ref b6])), (b1, .inl (d1, 32, .inl fw)), (b4, .inl (d4, 289, .inr (.inl fb))), (b5, .inl (d5, 289, .inr (.inl fx))), (b6, .inl (d6, 32, .inl g))] → va_S A s.heap H locs → lv_has ls 13 [(1, .int (nI i)), (0, .ref h0)] → W p l e R s m args below meth c H locs 0 0 Q (F0 m 19 ls []) := by
  intro fu
  induction fu with
  | zero =>
    intro i o g H locs ls hfu
    exact absurd hfu (Nat.not_lt_zero _)
  | succ fu ih =>
    intro i o g H locs ls hfu hi hod hg hP hD hS hl
    refine lv_iload_n hx hb dX1_least_19 rfl (lv_at hl 0 rfl) ?_
    refine lv_aload_n hx hb dX1_least_20 rfl (lv_at hl 1 rfl) ?_
    refine va_get (D := (dC, dI)) (ci := 1) (v := .int (nI nn)) (C := RX1) (T := TX1) (N := 6) hx hb hts hinX1_least hown hK hP 0 rfl rfl 1 (by decide) (hts _ mmX1_least_2) (fun _ h9 => h9) rfl dX1_least_21 ?_
    refine tw_icmp_ge hx hb i nn (tgt := 89) dX1_least_24 (by decide) (by omega) (by omega) (fun hc => ?_) (fun hc => ?_)
    · have e : i = nn := by omega
      subst e
      exact K o g H locs ls hod hg hP hD hS (lv_sub hl [1] rfl)
    · refine lv_iload_n hx hb dX1_least_27 rfl (lv_at hl 0 rfl) ?_
      refine lv_istore_n (lv' := [(2, .int (nI i)), (1, .int (nI i)), (0, .ref h0)]) hx hb dX1_least_28 rfl hl (by decide) rfl (fun ls hl => ?_)
      refine lp_X1_in hx hb hml hown hts hA h0 b1 b4 b5 b6 d1 d4 d5 d6 fw fb fx nn li i w o (by omega) hfw hw31 (fun j hj => by have := hod.2.2 j hj; omega) hK ?_ (i + 1) i g H locs ls (by omega) (Nat.le_refl _) hg (fun j h1 h2 => absurd h1 (by omega)) (fun h => absurd h (by omega)) hP hD hS (lv_sub hl [0, 2, 1] rfl)
      intro pl g H locs ls hpl hlo hhi hup hdn hP hD hS hl
      refine lv_aload_n hx hb dX1_least_76 rfl (lv_at hl 1 rfl) ?_
      refine va_get (D := (dC, dI)) (ci := 1) (v := .ref b6) (C := RX1) (T := TX1) (N := 6) hx hb hts hinX1_least hown hK hP 0 rfl rfl 5 (by decide) (hts _ mmX1_least_1) (fun _ h9 => h9) rfl dX1_least_77 ?_
      refine lv_iload_n hx hb dX1_least_80 rfl (lv_at hl 0 rfl) ?_
      refine lv_iload_n hx hb dX1_least_81 rfl (lv_at hl 2 rfl) ?_
      refine va_iast hx hb hK hP hD hS 4 3 rfl rfl (tn_in 32 (by omega) (by decide)) dX1_least_82 (fun H locs hP hD hS => ?_)
      rw [tn_cl (show pl < 2 ^ 31 by omega)] at hP hD
      have hP : va_P (dC, dI) vwCl [(h0, .inr (1, [.ref b1, .int (nI nn), .int (nI li), .ref b4, .ref b5, .ref b6])), (b1, .inl (d1, 32, .inl fw)), (b4, .inl (d4, 289, .inr (.inl fb))), (b5, .inl (d5, 289, .inr (.inl fx))), (b6, .inl (d6, 32, .inl (upd g pl (nI i))))] H := hP
      have hD : va_D A [(h0, .inr (1, [.ref b1, .int (nI nn), .int (nI li), .ref b4, .ref b5, .ref b6])), (b1, .inl (d1, 32, .inl fw)), (b4, .inl (d4, 289, .inr (.inl fb))), (b5, .inl (d5, 289, .inr (.inl fx))), (b6, .inl (d6, 32, .inl (upd g pl (nI i))))] := hD
      refine lv_iinc (v := nI (i + 1)) (lv' := [(1, .int (nI (i + 1))), (2, .int (nI pl)), (0, .ref h0)]) hx hb dX1_least_83 hl (k := 2) rfl (tn_p1 _) (by decide) rfl (fun ls hl => ?_)
      refine lv_goto (tgt := 19) hx hb dX1_least_86 (by decide) ?_
      exact ih (i + 1) (tc_ins o pl i) _ H locs ls (by omega) (by omega) (tc_ord_s hod hpl hdn hup (fun _ _ => rfl)) (fun j hj => by
        by_cases h1 : j < pl
        · rw [pk_un (by omega), tc_ins_lt h1]; exact hlo j h1
        · by_cases h2 : j = pl
          · subst h2; rw [pk_us, tc_ins_eq]
          · rw [pk_un h2, tc_ins_gt (by omega)]; exact hhi j (by omega) hj) hP hD hS (lv_sub hl [0, 2] rfl)
set_option maxHeartbeats 4000000 in
set_option maxRecDepth 100000 in
/-- the reference: best is filled -/
theorem lp_X1_fb {p : Program} {l : Launch} {e : Env} {R : Room} {s : State} {m : MethodId} {args : Array Value} {below : List Frame} {meth : Method} {c : Code} {Q : State → Prop} {A : Nat → Prop} {dC : Nat → ClassId} {dI : Nat → Nat → Nat} (hx : p.tables.exec = Jvm.exec) (hb : c.code = cX1_least) (hml : c.maxLocals = 13) (hown : s.vm.findClass RX1 = some m.cls) (hts : ∀ w ∈ wsX1_least, w.before args s = true) (hA : ∀ q : Nat, s.heap.size ≤ q → A q)  (h0 b1 b4 b5 b6 : Nat) (d1 d4 d5 d6 : ClassId) (fw : Nat → Int32) (fx : Nat → Int64) (fo : Nat → Int32) (nn li : Nat) (hK : va_K (dC, dI) vwCl [(d1, .int), (d4, .long), (d5, .long), (d6, .int)] s) (K : ∀ (g : Nat → Int64) (H : Heap) (locs : List Loc) (ls : Array Slot), (∀ q, q < 289 → g q = -1) → va_P (dC, dI) vwCl [(h0, .inr (1, [.ref b1, .int (nI nn), .int (nI li), .ref b4, .ref b5, .ref b6])), (b1, .inl (d1, 32, .inl fw)), (b4, .inl (d4, 289, .inr (.inl g))), (b5, .inl (d5, 289, .inr (.inl fx))), (b6, .inl (d6, 32, .inl fo))] H → va_D A [(h0, .inr (1, [.ref b1, .int (nI nn), .int (nI li), .ref b4, .ref b5, .ref b6])), (b1, .inl (d1, 32, .inl fw)), (b4, .inl (d4, 289, .inr (.inl g))), (b5, .inl (d5, 289, .inr (.inl fx))), (b6, .inl (d6, 32, .inl fo))] → va_S A s.heap H locs → lv_has ls 13 [(0, .ref h0)] → W p l e R s m args below meth c H locs 0 0 Q (F0 m 113 ls [])) :
    ∀ (fu : Nat) (i : Nat) (g : Nat → Int64) (H : Heap) (locs : List Loc) (ls : Array Slot), (289 - i) < fu → i ≤ 289 → (∀ q, q < i → g q = -1) → va_P (dC, dI) vwCl [(h0, .inr (1, [.ref b1, .int (nI nn), .int (nI li), .ref b4, .ref b5, .ref b6])), (b1, .inl (d1, 32, .inl fw)), (b4, .inl (d4, 289, .inr (.inl g))), (b5, .inl (d5, 289, .inr (.inl fx))), (b6, .inl (d6, 32, .inl fo))] H → va_D A [(h0, .inr (1, [.ref b1, .int (nI nn), .int (nI li), .ref b4, .ref b5, .ref b6])), (b1, .inl (d1, 32, .inl fw)), (b4, .inl (d4, 289, .inr (.inl g))), (b5, .inl (d5, 289, .inr (.inl fx))), (b6, .inl (d6, 32, .inl fo))] → va_S A s.heap H locs → lv_has ls 13 [(1, .int (nI i)), (0, .ref h0)] → W p l e R s m args below meth c H locs 0 0 Q (F0 m 91 ls []) := by
  intro fu
  induction fu with
  | zero =>
    intro i g H locs ls hfu
    exact absurd hfu (Nat.not_lt_zero _)
  | succ fu ih =>
    intro i g H locs ls hfu hi hg hP hD hS hl
    refine lv_iload_n hx hb dX1_least_91 rfl (lv_at hl 0 rfl) ?_
    refine lv_sipush (v := nI 289) hx hb dX1_least_92 (by decide) ?_
    refine tw_icmp_ge hx hb i 289 (tgt := 113) dX1_least_95 (by decide) (by omega) (by decide) (fun hc => ?_) (fun hc => ?_)
    · have e : i = 289 := by omega
      subst e
      exact K g H locs ls hg hP hD hS (lv_sub hl [1] rfl)
    · refine lv_aload_n hx hb dX1_least_98 rfl (lv_at hl 1 rfl) ?_
      refine va_get (D := (dC, dI)) (ci := 1) (v := .ref b4) (C := RX1) (T := TX1) (N := 6) hx hb hts hinX1_least hown hK hP 0 rfl rfl 3 (by decide) (hts _ mmX1_least_3) (fun _ h9 => h9) rfl dX1_least_99 ?_
      refine lv_iload_n hx hb dX1_least_102 rfl (lv_at hl 0 rfl) ?_
      refine lv_ldc2 hx hb hown (hts _ mmX1_least_4) dX1_least_103 ?_
      refine va_last hx hb hK hP hD hS 2 1 rfl rfl (tn_in 289 (by omega) (by decide)) dX1_least_106 (fun H locs hP hD hS => ?_)
      rw [tn_cl (show i < 2 ^ 31 by omega)] at hP hD
      have hP : va_P (dC, dI) vwCl [(h0, .inr (1, [.ref b1, .int (nI nn), .int (nI li), .ref b4, .ref b5, .ref b6])), (b1, .inl (d1, 32, .inl fw)), (b4, .inl (d4, 289, .inr (.inl (vp_updL g i (-1))))), (b5, .inl (d5, 289, .inr (.inl fx))), (b6, .inl (d6, 32, .inl fo))] H := hP
      have hD : va_D A [(h0, .inr (1, [.ref b1, .int (nI nn), .int (nI li), .ref b4, .ref b5, .ref b6])), (b1, .inl (d1, 32, .inl fw)), (b4, .inl (d4, 289, .inr (.inl (vp_updL g i (-1))))), (b5, .inl (d5, 289, .inr (.inl fx))), (b6, .inl (d6, 32, .inl fo))] := hD
      refine lv_iinc (v := nI (i + 1)) (lv' := [(1, .int (nI (i + 1))), (0, .ref h0)]) hx hb dX1_least_107 hl (k := 0) rfl (tn_p1 _) (by decide) rfl (fun ls hl => ?_)
      refine lv_goto (tgt := 91) hx hb dX1_least_110 (by decide) ?_
      exact ih (i + 1) _ H locs ls (by omega) (by omega) (fun q hq => by
        by_cases hqi : q = i
        · subst hqi; rw [pk_uLs]
        · rw [pk_uLn hqi]; exact hg q (by omega)) hP hD hS (lv_sub hl [0, 1] rfl)
set_option maxHeartbeats 4000000 in
set_option maxRecDepth 100000 in
/-- the reference: next is filled -/
theorem lp_X1_fx {p : Program} {l : Launch} {e : Env} {R : Room} {s : State} {m : MethodId} {args : Array Value} {below : List Frame} {meth : Method} {c : Code} {Q : State → Prop} {A : Nat → Prop} {dC : Nat → ClassId} {dI : Nat → Nat → Nat} (hx : p.tables.exec = Jvm.exec) (hb : c.code = cX1_least) (hml : c.maxLocals = 13) (hown : s.vm.findClass RX1 = some m.cls) (hts : ∀ w ∈ wsX1_least, w.before args s = true) (hA : ∀ q : Nat, s.heap.size ≤ q → A q)  (h0 b1 b4 b5 b6 : Nat) (d1 d4 d5 d6 : ClassId) (fw : Nat → Int32) (fb : Nat → Int64) (fo : Nat → Int32) (nn li d : Nat) (x : Int64) (hK : va_K (dC, dI) vwCl [(d1, .int), (d4, .long), (d5, .long), (d6, .int)] s) (K : ∀ (g : Nat → Int64) (H : Heap) (locs : List Loc) (ls : Array Slot), (∀ q, q < 289 → g q = -1) → va_P (dC, dI) vwCl [(h0, .inr (1, [.ref b1, .int (nI nn), .int (nI li), .ref b4, .ref b5, .ref b6])), (b1, .inl (d1, 32, .inl fw)), (b4, .inl (d4, 289, .inr (.inl fb))), (b5, .inl (d5, 289, .inr (.inl g))), (b6, .inl (d6, 32, .inl fo))] H → va_D A [(h0, .inr (1, [.ref b1, .int (nI nn), .int (nI li), .ref b4, .ref b5, .ref b6])), (b1, .inl (d1, 32, .inl fw)), (b4, .inl (d4, 289, .inr (.inl fb))), (b5, .inl (d5, 289, .inr (.inl g))), (b6, .inl (d6, 32, .inl fo))] → va_S A s.heap H locs → lv_has ls 13 [(3, .int (nI d)), (1, .long x), (0, .ref h0)] → W p l e R s m args below meth c H locs 0 0 Q (F0 m 161 ls [])) :
    ∀ (fu : Nat) (i : Nat) (g : Nat → Int64) (H : Heap) (locs : List Loc) (ls : Array Slot), (289 - i) < fu → i ≤ 289 → (∀ q, q < i → g q = -1) → va_P (dC, dI) vwCl [(h0, .inr (1, [.ref b1, .int (nI nn), .int (nI li), .ref b4, .ref b5, .ref b6])), (b1, .inl (d1, 32, .inl fw)), (b4, .inl (d4, 289, .inr (.inl fb))), (b5, .inl (d5, 289, .inr (.inl g))), (b6, .inl (d6, 32, .inl fo))] H → va_D A [(h0, .inr (1, [.ref b1, .int (nI nn), .int (nI li), .ref b4, .ref b5, .ref b6])), (b1, .inl (d1, 32, .inl fw)), (b4, .inl (d4, 289, .inr (.inl fb))), (b5, .inl (d5, 289, .inr (.inl g))), (b6, .inl (d6, 32, .inl fo))] → va_S A s.heap H locs → lv_has ls 13 [(4, .int (nI i)), (3, .int (nI d)), (1, .long x), (0, .ref h0)] → W p l e R s m args below meth c H locs 0 0 Q (F0 m 137 ls []) := by
  intro fu
  induction fu with
  | zero =>
    intro i g H locs ls hfu
    exact absurd hfu (Nat.not_lt_zero _)
  | succ fu ih =>
    intro i g H locs ls hfu hi hg hP hD hS hl
    refine lv_iload hx hb dX1_least_137 (lv_at hl 0 rfl) ?_
    refine lv_sipush (v := nI 289) hx hb dX1_least_139 (by decide) ?_
    refine tw_icmp_ge hx hb i 289 (tgt := 161) dX1_least_142 (by decide) (by omega) (by decide) (fun hc => ?_) (fun hc => ?_)
    · have e : i = 289 := by omega
      subst e
      exact K g H locs ls hg hP hD hS (lv_sub hl [1, 2, 3] rfl)
    · refine lv_aload_n hx hb dX1_least_145 rfl (lv_at hl 3 rfl) ?_
      refine va_get (D := (dC, dI)) (ci := 1) (v := .ref b5) (C := RX1) (T := TX1) (N := 6) hx hb hts hinX1_least hown hK hP 0 rfl rfl 4 (by decide) (hts _ mmX1_least_5) (fun _ h9 => h9) rfl dX1_least_146 ?_
      refine lv_iload hx hb dX1_least_149 (lv_at hl 0 rfl) ?_
      refine lv_ldc2 hx hb hown (hts _ mmX1_least_4) dX1_least_151 ?_
      refine va_last hx hb hK hP hD hS 3 2 rfl rfl (tn_in 289 (by omega) (by decide)) dX1_least_154 (fun H locs hP hD hS => ?_)
      rw [tn_cl (show i < 2 ^ 31 by omega)] at hP hD
      have hP : va_P (dC, dI) vwCl [(h0, .inr (1, [.ref b1, .int (nI nn), .int (nI li), .ref b4, .ref b5, .ref b6])), (b1, .inl (d1, 32, .inl fw)), (b4, .inl (d4, 289, .inr (.inl fb))), (b5, .inl (d5, 289, .inr (.inl (vp_updL g i (-1))))), (b6, .inl (d6, 32, .inl fo))] H := hP
      have hD : va_D A [(h0, .inr (1, [.ref b1, .int (nI nn), .int (nI li), .ref b4, .ref b5, .ref b6])), (b1, .inl (d1, 32, .inl fw)), (b4, .inl (d4, 289, .inr (.inl fb))), (b5, .inl (d5, 289, .inr (.inl (vp_updL g i (-1))))), (b6, .inl (d6, 32, .inl fo))] := hD
      refine lv_iinc (v := nI (i + 1)) (lv' := [(4, .int (nI (i + 1))), (3, .int (nI d)), (1, .long x), (0, .ref h0)]) hx hb dX1_least_155 hl (k := 0) rfl (tn_p1 _) (by decide) rfl (fun ls hl => ?_)
      refine lv_goto (tgt := 137) hx hb dX1_least_158 (by decide) ?_
      exact ih (i + 1) _ H locs ls (by omega) (by omega) (fun q hq => by
        by_cases hqi : q = i
        · subst hqi; rw [pk_uLs]
        · rw [pk_uLn hqi]; exact hg q (by omega)) hP hD hS (lv_sub hl [0, 1, 2, 3] rfl)
set_option maxHeartbeats 4000000 in
set_option maxRecDepth 100000 in
/-- the reference: next becomes best -/
theorem lp_X1_cp {p : Program} {l : Launch} {e : Env} {R : Room} {s : State} {m : MethodId} {args : Array Value} {below : List Frame} {meth : Method} {c : Code} {Q : State → Prop} {A : Nat → Prop} {dC : Nat → ClassId} {dI : Nat → Nat → Nat} (hx : p.tables.exec = Jvm.exec) (hb : c.code = cX1_least) (hml : c.maxLocals = 13) (hown : s.vm.findClass RX1 = some m.cls) (hts : ∀ w ∈ wsX1_least, w.before args s = true) (hA : ∀ q : Nat, s.heap.size ≤ q → A q)  (h0 b1 b4 b5 b6 : Nat) (d1 d4 d5 d6 : ClassId) (fw : Nat → Int32) (fx : Nat → Int64) (fo : Nat → Int32) (nn li d : Nat) (x : Int64) (hK : va_K (dC, dI) vwCl [(d1, .int), (d4, .long), (d5, .long), (d6, .int)] s) (K : ∀ (g : Nat → Int64) (H : Heap) (locs : List Loc) (ls : Array Slot), (∀ q, q < 289 → g q = fx q) → va_P (dC, dI) vwCl [(h0, .inr (1, [.ref b1, .int (nI nn), .int (nI li), .ref b4, .ref b5, .ref b6])), (b1, .inl (d1, 32, .inl fw)), (b4, .inl (d4, 289, .inr (.inl g))), (b5, .inl (d5, 289, .inr (.inl fx))), (b6, .inl (d6, 32, .inl fo))] H → va_D A [(h0, .inr (1, [.ref b1, .int (nI nn), .int (nI li), .ref b4, .ref b5, .ref b6])), (b1, .inl (d1, 32, .inl fw)), (b4, .inl (d4, 289, .inr (.inl g))), (b5, .inl (d5, 289, .inr (.inl fx))), (b6, .inl (d6, 32, .inl fo))] → va_S A s.heap H locs → lv_has ls 13 [(3, .int (nI d)), (1, .long x), (0, .ref h0)] → W p l e R s m args below meth c H locs 0 0 Q (F0 m 441 ls [])) :
    ∀ (fu : Nat) (i : Nat) (g : Nat → Int64) (H : Heap) (locs : List Loc) (ls : Array Slot), (289 - i) < fu → i ≤ 289 → (∀ q, q < i → g q = fx q) → va_P (dC, dI) vwCl [(h0, .inr (1, [.ref b1, .int (nI nn), .int (nI li), .ref b4, .ref b5, .ref b6])), (b1, .inl (d1, 32, .inl fw)), (b4, .inl (d4, 289, .inr (.inl g))), (b5, .inl (d5, 289, .inr (.inl fx))), (b6, .inl (d6, 32, .inl fo))] H → va_D A [(h0, .inr (1, [.ref b1, .int (nI nn), .int (nI li), .ref b4, .ref b5, .ref b6])), (b1, .inl (d1, 32, .inl fw)), (b4, .inl (d4, 289, .inr (.inl g))), (b5, .inl (d5, 289, .inr (.inl fx))), (b6, .inl (d6, 32, .inl fo))] → va_S A s.heap H locs → lv_has ls 13 [(4, .int (nI i)), (3, .int (nI d)), (1, .long x), (0, .ref h0)] → W p l e R s m args below meth c H locs 0 0 Q (F0 m 413 ls []) := by
  intro fu
  induction fu with
  | zero =>
    intro i g H locs ls hfu
    exact absurd hfu (Nat.not_lt_zero _)
  | succ fu ih =>
    intro i g H locs ls hfu hi hg hP hD hS hl
    refine lv_iload hx hb dX1_least_413 (lv_at hl 0 rfl) ?_
    refine lv_sipush (v := nI 289) hx hb dX1_least_415 (by decide) ?_
    refine tw_icmp_ge hx hb i 289 (tgt := 441) dX1_least_418 (by decide) (by omega) (by decide) (fun hc => ?_) (fun hc => ?_)
    · have e : i = 289 := by omega
      subst e
      exact K g H locs ls hg hP hD hS (lv_sub hl [1, 2, 3] rfl)
    · refine lv_aload_n hx hb dX1_least_421 rfl (lv_at hl 3 rfl) ?_
      refine va_get (D := (dC, dI)) (ci := 1) (v := .ref b4) (C := RX1) (T := TX1) (N := 6) hx hb hts hinX1_least hown hK hP 0 rfl rfl 3 (by decide) (hts _ mmX1_least_3) (fun _ h9 => h9) rfl dX1_least_422 ?_
      refine lv_iload hx hb dX1_least_425 (lv_at hl 0 rfl) ?_
      refine lv_aload_n hx hb dX1_least_427 rfl (lv_at hl 3 rfl) ?_
      refine va_get (D := (dC, dI)) (ci := 1) (v := .ref b5) (C := RX1) (T := TX1) (N := 6) hx hb hts hinX1_least hown hK hP 0 rfl rfl 4 (by decide) (hts _ mmX1_least_5) (fun _ h9 => h9) rfl dX1_least_428 ?_
      refine lv_iload hx hb dX1_least_431 (lv_at hl 0 rfl) ?_
      refine va_lald hx hb hK hP 3 2 rfl rfl (tn_in 289 (by omega) (by decide)) dX1_least_433 ?_
      refine tw_l (fx i) (congrArg fx (tn_cl (by omega))) ?_
      refine va_last hx hb hK hP hD hS 2 1 rfl rfl (tn_in 289 (by omega) (by decide)) dX1_least_434 (fun H locs hP hD hS => ?_)
      rw [tn_cl (show i < 2 ^ 31 by omega)] at hP hD
      have hP : va_P (dC, dI) vwCl [(h0, .inr (1, [.ref b1, .int (nI nn), .int (nI li), .ref b4, .ref b5, .ref b6])), (b1, .inl (d1, 32, .inl fw)), (b4, .inl (d4, 289, .inr (.inl (vp_updL g i (fx i))))), (b5, .inl (d5, 289, .inr (.inl fx))), (b6, .inl (d6, 32, .inl fo))] H := hP
      have hD : va_D A [(h0, .inr (1, [.ref b1, .int (nI nn), .int (nI li), .ref b4, .ref b5, .ref b6])), (b1, .inl (d1, 32, .inl fw)), (b4, .inl (d4, 289, .inr (.inl (vp_updL g i (fx i))))), (b5, .inl (d5, 289, .inr (.inl fx))), (b6, .inl (d6, 32, .inl fo))] := hD
      refine lv_iinc (v := nI (i + 1)) (lv' := [(4, .int (nI (i + 1))), (3, .int (nI d)), (1, .long x), (0, .ref h0)]) hx hb dX1_least_435 hl (k := 0) rfl (tn_p1 _) (by decide) rfl (fun ls hl => ?_)
      refine lv_goto (tgt := 413) hx hb dX1_least_438 (by decide) ?_
      exact ih (i + 1) _ H locs ls (by omega) (by omega) (fun q hq => by
        by_cases hqi : q = i
        · subst hqi; rw [pk_uLs]
        · rw [pk_uLn hqi]; exact hg q (by omega)) hP hD hS (lv_sub hl [0, 1, 2, 3] rfl)
set_option maxHeartbeats 4000000 in
set_option maxRecDepth 100000 in
/-- the reference: a letters get their codes -/
theorem lp_X1_a {p : Program} {l : Launch} {e : Env} {R : Room} {s : State} {m : MethodId} {args : Array Value} {below : List Frame} {meth : Method} {c : Code} {Q : State → Prop} {A : Nat → Prop} {dC : Nat → ClassId} {dI : Nat → Nat → Nat} (hx : p.tables.exec = Jvm.exec) (hb : c.code = cX1_least) (hml : c.maxLocals = 13) (hown : s.vm.findClass RX1 = some m.cls) (hts : ∀ w ∈ wsX1_least, w.before args s = true) (hA : ∀ q : Nat, s.heap.size ≤ q → A q)  (h0 b1 b4 b5 b6 : Nat) (d1 d4 d5 d6 : ClassId) (fw : Nat → Int32) (fb : Nat → Int64) (fo : Nat → Int32) (nn li d jj kk c0 : Nat) (w o : Nat → Nat) (hn16 : nn ≤ 16) (hd : d ≤ 15) (hfw : ∀ j, j < 32 → fw j = nI (w j)) (hw31 : ∀ j, w j < 2 ^ 31) (hfo : ∀ j, j < nn → fo j = nI (o j) ∧ o j < 32) (hjj : jj ≤ nn) (hkk : kk ≤ 16) (hrc : tc_rch (fun i => w (o i)) nn d jj kk c0) (hmin : ∀ c1, tc_rch (fun i => w (o i)) nn d jj kk c1 → c0 ≤ c1) (hK : va_K (dC, dI) vwCl [(d1, .int), (d4, .long), (d5, .long), (d6, .int)] s) (K : ∀ (g : Nat → Int64) (x : Int64) (H : Heap) (locs : List Loc) (ls : Array Slot), tc_st (fun i => w (o i)) nn d jj (kk + 1) 0 g x → va_P (dC, dI) vwCl [(h0, .inr (1, [.ref b1, .int (nI nn), .int (nI li), .ref b4, .ref b5, .ref b6])), (b1, .inl (d1, 32, .inl fw)), (b4, .inl (d4, 289, .inr (.inl fb))), (b5, .inl (d5, 289, .inr (.inl g))), (b6, .inl (d6, 32, .inl fo))] H → va_D A [(h0, .inr (1, [.ref b1, .int (nI nn), .int (nI li), .ref b4, .ref b5, .ref b6])), (b1, .inl (d1, 32, .inl fw)), (b4, .inl (d4, 289, .inr (.inl fb))), (b5, .inl (d5, 289, .inr (.inl g))), (b6, .inl (d6, 32, .inl fo))] → va_S A s.heap H locs → lv_has ls 13 [(5, .int (nI kk)), (4, .int (nI jj)), (3, .int (nI d)), (1, .long x), (0, .ref h0)] → W p l e R s m args below meth c H locs 0 0 Q (F0 m 398 ls [])) :
    ∀ (fu : Nat) (a : Nat) (g : Nat → Int64) (x : Int64) (H : Heap) (locs : List Loc) (ls : Array Slot), (kk + 1 - a) < fu → a ≤ kk + 1 → tc_st (fun i => w (o i)) nn d jj kk a g x → va_P (dC, dI) vwCl [(h0, .inr (1, [.ref b1, .int (nI nn), .int (nI li), .ref b4, .ref b5, .ref b6])), (b1, .inl (d1, 32, .inl fw)), (b4, .inl (d4, 289, .inr (.inl fb))), (b5, .inl (d5, 289, .inr (.inl g))), (b6, .inl (d6, 32, .inl fo))] H → va_D A [(h0, .inr (1, [.ref b1, .int (nI nn), .int (nI li), .ref b4, .ref b5, .ref b6])), (b1, .inl (d1, 32, .inl fw)), (b4, .inl (d4, 289, .inr (.inl fb))), (b5, .inl (d5, 289, .inr (.inl g))), (b6, .inl (d6, 32, .inl fo))] → va_S A s.heap H locs → lv_has ls 13 [(10, .int (nI a)), (8, .long (lN (tc_hv (fun i => w (o i)) jj (a - 1) * d))), (6, .long (lN c0)), (5, .int (nI kk)), (4, .int (nI jj)), (3, .int (nI d)), (1, .long x), (0, .ref h0)] → W p l e R s m args below meth c H locs 0 0 Q (F0 m 211 ls []) := by
  intro fu
  induction fu with
  | zero =>
    intro a g x H locs ls hfu
    exact absurd hfu (Nat.not_lt_zero _)
  | succ fu ih =>
    intro a g x H locs ls hfu hab hst hP hD hS hl
    refine lv_iload hx hb dX1_least_211 (lv_at hl 0 rfl) ?_
    refine lv_iload hx hb dX1_least_213 (lv_at hl 3 rfl) ?_
    refine tw_icmp_gt hx hb a kk (tgt := 398) dX1_least_215 (by decide) (by omega) (by omega) (fun hc1 => ?_) (fun hc1 => ?_)
    · exact K g x H locs ls (tc_st_k hst (Or.inl hc1)) hP hD hS (lv_sub hl [3, 4, 5, 6, 7] rfl)
    · refine lv_iload hx hb dX1_least_218 (lv_at hl 4 rfl) ?_
      refine lv_iload hx hb dX1_least_220 (lv_at hl 0 rfl) ?_
      refine lv_iadd hx hb dX1_least_222 ?_
      refine tw_i (nI (jj + a)) (nI_add _ _) ?_
      refine lv_aload_n hx hb dX1_least_223 rfl (lv_at hl 7 rfl) ?_
      refine va_get (D := (dC, dI)) (ci := 1) (v := .int (nI nn)) (C := RX1) (T := TX1) (N := 6) hx hb hts hinX1_least hown hK hP 0 rfl rfl 1 (by decide) (hts _ mmX1_least_2) (fun _ h9 => h9) rfl dX1_least_224 ?_
      refine tw_icmp_gt hx hb (jj + a) nn (tgt := 398) dX1_least_227 (by decide) (by omega) (by omega) (fun hc2 => ?_) (fun hc2 => ?_)
      · exact K g x H locs ls (tc_st_k hst (Or.inr (Or.inl hc2))) hP hD hS (lv_sub hl [3, 4, 5, 6, 7] rfl)
      · have hv31 : ∀ i, i < nn → (fun i => w (o i)) i ≤ 2 ^ 31 := fun i _ => Nat.le_of_lt (hw31 _)
        have he := tc_e_lt hn16 hv31 hd hrc hc2
        have K392 : ∀ (g : Nat → Int64) (x : Int64) (H : Heap) (locs : List Loc) (ls : Array Slot), tc_st (fun i => w (o i)) nn d jj kk (a + 1) g x → va_P (dC, dI) vwCl [(h0, .inr (1, [.ref b1, .int (nI nn), .int (nI li), .ref b4, .ref b5, .ref b6])), (b1, .inl (d1, 32, .inl fw)), (b4, .inl (d4, 289, .inr (.inl fb))), (b5, .inl (d5, 289, .inr (.inl g))), (b6, .inl (d6, 32, .inl fo))] H → va_D A [(h0, .inr (1, [.ref b1, .int (nI nn), .int (nI li), .ref b4, .ref b5, .ref b6])), (b1, .inl (d1, 32, .inl fw)), (b4, .inl (d4, 289, .inr (.inl fb))), (b5, .inl (d5, 289, .inr (.inl g))), (b6, .inl (d6, 32, .inl fo))] → va_S A s.heap H locs → lv_has ls 13 [(10, .int (nI a)), (8, .long (lN (tc_hv (fun i => w (o i)) jj a * d))), (6, .long (lN c0)), (5, .int (nI kk)), (4, .int (nI jj)), (3, .int (nI d)), (1, .long x), (0, .ref h0)] → W p l e R s m args below meth c H locs 0 0 Q (F0 m 392 ls []) := by
          intro g x H locs ls hst hP hD hS hl
          refine lv_iinc (v := nI (a + 1)) (lv' := [(10, .int (nI (a + 1))), (8, .long (lN (tc_hv (fun i => w (o i)) jj a * d))), (6, .long (lN c0)), (5, .int (nI kk)), (4, .int (nI jj)), (3, .int (nI d)), (1, .long x), (0, .ref h0)]) hx hb dX1_least_392 hl (k := 0) rfl (tn_p1 _) (by decide) rfl (fun ls hl => ?_)
          refine lv_goto (tgt := 211) hx hb dX1_least_395 (by decide) ?_
          exact ih (a + 1) g x H locs ls (by omega) (by omega) hst hP hD hS (lv_sub hl [0, 1, 2, 3, 4, 5, 6, 7] rfl)
        have K334 : ∀ (op : Nat) (ls : Array Slot), jj + a < nn → op = min (2 * (kk - a)) (nn - (jj + a)) → lv_has ls 13 [(11, .int (nI op)), (10, .int (nI a)), (8, .long (lN (tc_hv (fun i => w (o i)) jj a * d))), (6, .long (lN c0)), (5, .int (nI kk)), (4, .int (nI jj)), (3, .int (nI d)), (1, .long x), (0, .ref h0)] → W p l e R s m args below meth c H locs 0 0 Q (F0 m 334 ls []) := by
          intro op ls hlt hop hl
          have hop16 : op ≤ 16 := by omega
          refine lv_bipush (v := nI 17) hx hb dX1_least_334 (by decide) ?_
          refine lv_iload hx hb dX1_least_336 (lv_at hl 5 rfl) ?_
          refine lv_iload hx hb dX1_least_338 (lv_at hl 1 rfl) ?_
          refine lv_iadd hx hb dX1_least_340 ?_
          refine tw_i (nI (jj + a)) (nI_add _ _) ?_
          refine lv_imul hx hb dX1_least_341 ?_
          refine tw_i (nI (17 * (jj + a))) (pk_mul _ _) ?_
          refine lv_iload hx hb dX1_least_342 (lv_at hl 0 rfl) ?_
          refine lv_iadd hx hb dX1_least_344 ?_
          refine tw_i (nI ((17 * (jj + a)) + op)) (nI_add _ _) ?_
          refine lv_istore (lv' := [(12, .int (nI ((17 * (jj + a)) + op))), (11, .int (nI op)), (10, .int (nI a)), (8, .long (lN (tc_hv (fun i => w (o i)) jj a * d))), (6, .long (lN c0)), (5, .int (nI kk)), (4, .int (nI jj)), (3, .int (nI d)), (1, .long x), (0, .ref h0)]) hx hb dX1_least_345 hl (by decide) rfl (fun ls hl => ?_)
          refine lv_iload hx hb dX1_least_347 (lv_at hl 1 rfl) ?_
          refine tw_if_le hx hb op (tgt := 392) dX1_least_349 (by decide) (by omega) (fun hc3 => ?_) (fun hc3 => ?_)
          · exact K392 g x H locs ls (tc_st_o0 hst hjj hkk hlt hop hc3) hP hD hS (lv_sub hl [2, 3, 4, 5, 6, 7, 8, 9] rfl)
          · refine lv_aload_n hx hb dX1_least_352 rfl (lv_at hl 9 rfl) ?_
            refine va_get (D := (dC, dI)) (ci := 1) (v := .ref b5) (C := RX1) (T := TX1) (N := 6) hx hb hts hinX1_least hown hK hP 0 rfl rfl 4 (by decide) (hts _ mmX1_least_5) (fun _ h9 => h9) rfl dX1_least_353 ?_
            refine lv_iload hx hb dX1_least_356 (lv_at hl 0 rfl) ?_
            refine va_lald hx hb hK hP 3 2 rfl rfl (tn_in 289 (by omega) (by decide)) dX1_least_358 ?_
            refine tw_l (g ((17 * (jj + a)) + op)) (congrArg g (tn_cl (by omega))) ?_
            refine lv_lconst (v := lN 0) hx hb dX1_least_359 (by decide) ?_
            refine tw_lif_lt hx hb (tgt := 380) dX1_least_360 dX1_least_361 (by decide) (fun hc4 => ?_) (fun hc4 => ?_)
            · refine lv_aload_n hx hb dX1_least_380 rfl (lv_at hl 9 rfl) ?_
              refine va_get (D := (dC, dI)) (ci := 1) (v := .ref b5) (C := RX1) (T := TX1) (N := 6) hx hb hts hinX1_least hown hK hP 0 rfl rfl 4 (by decide) (hts _ mmX1_least_5) (fun _ h9 => h9) rfl dX1_least_381 ?_
              refine lv_iload hx hb dX1_least_384 (lv_at hl 0 rfl) ?_
              refine lv_lload hx hb dX1_least_386 (lv_at hl 4 rfl) ?_
              refine lv_lload hx hb dX1_least_388 (lv_at hl 3 rfl) ?_
              refine lv_ladd hx hb dX1_least_390 ?_
              refine tw_l (lN (c0 + (tc_hv (fun i => w (o i)) jj a * d))) (lN_add _ _) ?_
              refine va_last hx hb hK hP hD hS 3 2 rfl rfl (tn_in 289 (by omega) (by decide)) dX1_least_391 (fun H locs hP hD hS => ?_)
              rw [tn_cl (show (17 * (jj + a)) + op < 2 ^ 31 by omega)] at hP hD
              have hP : va_P (dC, dI) vwCl [(h0, .inr (1, [.ref b1, .int (nI nn), .int (nI li), .ref b4, .ref b5, .ref b6])), (b1, .inl (d1, 32, .inl fw)), (b4, .inl (d4, 289, .inr (.inl fb))), (b5, .inl (d5, 289, .inr (.inl (vp_updL g ((17 * (jj + a)) + op) (lN (c0 + (tc_hv (fun i => w (o i)) jj a * d))))))), (b6, .inl (d6, 32, .inl fo))] H := hP
              have hD : va_D A [(h0, .inr (1, [.ref b1, .int (nI nn), .int (nI li), .ref b4, .ref b5, .ref b6])), (b1, .inl (d1, 32, .inl fw)), (b4, .inl (d4, 289, .inr (.inl fb))), (b5, .inl (d5, 289, .inr (.inl (vp_updL g ((17 * (jj + a)) + op) (lN (c0 + (tc_hv (fun i => w (o i)) jj a * d))))))), (b6, .inl (d6, 32, .inl fo))] := hD
              exact K392 _ x H locs ls (tc_st_o hst hjj hkk hn16 hrc hmin hc1 hlt hop hc3 he (Or.inl hc4)) hP hD hS (lv_sub hl [2, 3, 4, 5, 6, 7, 8, 9] rfl)
            · refine lv_lload hx hb dX1_least_364 (lv_at hl 4 rfl) ?_
              refine lv_lload hx hb dX1_least_366 (lv_at hl 3 rfl) ?_
              refine lv_ladd hx hb dX1_least_368 ?_
              refine tw_l (lN (c0 + (tc_hv (fun i => w (o i)) jj a * d))) (lN_add _ _) ?_
              refine lv_aload_n hx hb dX1_least_369 rfl (lv_at hl 9 rfl) ?_
              refine va_get (D := (dC, dI)) (ci := 1) (v := .ref b5) (C := RX1) (T := TX1) (N := 6) hx hb hts hinX1_least hown hK hP 0 rfl rfl 4 (by decide) (hts _ mmX1_least_5) (fun _ h9 => h9) rfl dX1_least_370 ?_
              refine lv_iload hx hb dX1_least_373 (lv_at hl 0 rfl) ?_
              refine va_lald hx hb hK hP 3 2 rfl rfl (tn_in 289 (by omega) (by decide)) dX1_least_375 ?_
              refine tw_l (g ((17 * (jj + a)) + op)) (congrArg g (tn_cl (by omega))) ?_
              refine tw_lif_ge hx hb (tgt := 392) dX1_least_376 dX1_least_377 (by decide) (fun hc5 => ?_) (fun hc5 => ?_)
              · exact K392 g x H locs ls (tc_st_ok hst hjj hkk hn16 hrc hmin hc1 hlt hop hc3 he hc4 (Int64.not_lt.mpr hc5)) hP hD hS (lv_sub hl [2, 3, 4, 5, 6, 7, 8, 9] rfl)
              · refine lv_aload_n hx hb dX1_least_380 rfl (lv_at hl 9 rfl) ?_
                refine va_get (D := (dC, dI)) (ci := 1) (v := .ref b5) (C := RX1) (T := TX1) (N := 6) hx hb hts hinX1_least hown hK hP 0 rfl rfl 4 (by decide) (hts _ mmX1_least_5) (fun _ h9 => h9) rfl dX1_least_381 ?_
                refine lv_iload hx hb dX1_least_384 (lv_at hl 0 rfl) ?_
                refine lv_lload hx hb dX1_least_386 (lv_at hl 4 rfl) ?_
                refine lv_lload hx hb dX1_least_388 (lv_at hl 3 rfl) ?_
                refine lv_ladd hx hb dX1_least_390 ?_
                refine tw_l (lN (c0 + (tc_hv (fun i => w (o i)) jj a * d))) (lN_add _ _) ?_
                refine va_last hx hb hK hP hD hS 3 2 rfl rfl (tn_in 289 (by omega) (by decide)) dX1_least_391 (fun H locs hP hD hS => ?_)
                rw [tn_cl (show (17 * (jj + a)) + op < 2 ^ 31 by omega)] at hP hD
                have hP : va_P (dC, dI) vwCl [(h0, .inr (1, [.ref b1, .int (nI nn), .int (nI li), .ref b4, .ref b5, .ref b6])), (b1, .inl (d1, 32, .inl fw)), (b4, .inl (d4, 289, .inr (.inl fb))), (b5, .inl (d5, 289, .inr (.inl (vp_updL g ((17 * (jj + a)) + op) (lN (c0 + (tc_hv (fun i => w (o i)) jj a * d))))))), (b6, .inl (d6, 32, .inl fo))] H := hP
                have hD : va_D A [(h0, .inr (1, [.ref b1, .int (nI nn), .int (nI li), .ref b4, .ref b5, .ref b6])), (b1, .inl (d1, 32, .inl fw)), (b4, .inl (d4, 289, .inr (.inl fb))), (b5, .inl (d5, 289, .inr (.inl (vp_updL g ((17 * (jj + a)) + op) (lN (c0 + (tc_hv (fun i => w (o i)) jj a * d))))))), (b6, .inl (d6, 32, .inl fo))] := hD
                exact K392 _ x H locs ls (tc_st_o hst hjj hkk hn16 hrc hmin hc1 hlt hop hc3 he (Or.inr (Int64.not_le.mp hc5))) hP hD hS (lv_sub hl [2, 3, 4, 5, 6, 7, 8, 9] rfl)
        have K261 : ∀ (ls : Array Slot), lv_has ls 13 [(8, .long (lN (tc_hv (fun i => w (o i)) jj a * d))), (10, .int (nI a)), (6, .long (lN c0)), (5, .int (nI kk)), (4, .int (nI jj)), (3, .int (nI d)), (1, .long x), (0, .ref h0)] → W p l e R s m args below meth c H locs 0 0 Q (F0 m 261 ls []) := by
          intro ls hl
          refine lv_iload hx hb dX1_least_261 (lv_at hl 4 rfl) ?_
          refine lv_iload hx hb dX1_least_263 (lv_at hl 1 rfl) ?_
          refine lv_iadd hx hb dX1_least_265 ?_
          refine tw_i (nI (jj + a)) (nI_add _ _) ?_
          refine lv_aload_n hx hb dX1_least_266 rfl (lv_at hl 7 rfl) ?_
          refine va_get (D := (dC, dI)) (ci := 1) (v := .int (nI nn)) (C := RX1) (T := TX1) (N := 6) hx hb hts hinX1_least hown hK hP 0 rfl rfl 1 (by decide) (hts _ mmX1_least_2) (fun _ h9 => h9) rfl dX1_least_267 ?_
          refine tw_icmp_ne hx hb (jj + a) nn (tgt := 298) dX1_least_270 (by decide) (by omega) (by omega) (fun hc6 => ?_) (fun hc6 => ?_)
          · have hlt : jj + a < nn := by omega
            refine lv_iconst (v := nI 2) hx hb dX1_least_298 (by decide) ?_
            refine lv_iload hx hb dX1_least_299 (lv_at hl 3 rfl) ?_
            refine lv_iload hx hb dX1_least_301 (lv_at hl 1 rfl) ?_
            refine lv_isub hx hb dX1_least_303 ?_
            refine tw_i (nI (kk - a)) (pk_sub (by omega)) ?_
            refine lv_imul hx hb dX1_least_304 ?_
            refine tw_i (nI (2 * (kk - a))) (pk_mul _ _) ?_
            refine lv_istore (lv' := [(11, .int (nI (2 * (kk - a)))), (8, .long (lN (tc_hv (fun i => w (o i)) jj a * d))), (10, .int (nI a)), (6, .long (lN c0)), (5, .int (nI kk)), (4, .int (nI jj)), (3, .int (nI d)), (1, .long x), (0, .ref h0)]) hx hb dX1_least_305 hl (by decide) rfl (fun ls hl => ?_)
            refine lv_iload hx hb dX1_least_307 (lv_at hl 0 rfl) ?_
            refine lv_aload_n hx hb dX1_least_309 rfl (lv_at hl 8 rfl) ?_
            refine va_get (D := (dC, dI)) (ci := 1) (v := .int (nI nn)) (C := RX1) (T := TX1) (N := 6) hx hb hts hinX1_least hown hK hP 0 rfl rfl 1 (by decide) (hts _ mmX1_least_2) (fun _ h9 => h9) rfl dX1_least_310 ?_
            refine lv_iload hx hb dX1_least_313 (lv_at hl 5 rfl) ?_
            refine lv_isub hx hb dX1_least_315 ?_
            refine tw_i (nI (nn - jj)) (pk_sub (by omega)) ?_
            refine lv_iload hx hb dX1_least_316 (lv_at hl 2 rfl) ?_
            refine lv_isub hx hb dX1_least_318 ?_
            refine tw_i (nI ((nn - jj) - a)) (pk_sub (by omega)) ?_
            refine tw_icmp_le hx hb (2 * (kk - a)) ((nn - jj) - a) (tgt := 334) dX1_least_319 (by decide) (by omega) (by omega) (fun hc7 => ?_) (fun hc7 => ?_)
            · exact K334 (2 * (kk - a)) ls hlt (by omega) (lv_sub hl [0, 2, 1, 3, 4, 5, 6, 7, 8] rfl)
            · refine lv_aload_n hx hb dX1_least_322 rfl (lv_at hl 8 rfl) ?_
              refine va_get (D := (dC, dI)) (ci := 1) (v := .int (nI nn)) (C := RX1) (T := TX1) (N := 6) hx hb hts hinX1_least hown hK hP 0 rfl rfl 1 (by decide) (hts _ mmX1_least_2) (fun _ h9 => h9) rfl dX1_least_323 ?_
              refine lv_iload hx hb dX1_least_326 (lv_at hl 5 rfl) ?_
              refine lv_isub hx hb dX1_least_328 ?_
              refine tw_i (nI (nn - jj)) (pk_sub (by omega)) ?_
              refine lv_iload hx hb dX1_least_329 (lv_at hl 2 rfl) ?_
              refine lv_isub hx hb dX1_least_331 ?_
              refine tw_i (nI ((nn - jj) - a)) (pk_sub (by omega)) ?_
              refine lv_istore (lv' := [(11, .int (nI ((nn - jj) - a))), (8, .long (lN (tc_hv (fun i => w (o i)) jj a * d))), (10, .int (nI a)), (6, .long (lN c0)), (5, .int (nI kk)), (4, .int (nI jj)), (3, .int (nI d)), (1, .long x), (0, .ref h0)]) hx hb dX1_least_332 hl (by decide) rfl (fun ls hl => ?_)
              exact K334 (nn - jj - a) ls hlt (by omega) (lv_sub hl [0, 2, 1, 3, 4, 5, 6, 7, 8] rfl)
          · refine lv_lload_n hx hb dX1_least_273 rfl (lv_at hl 6 rfl) ?_
            refine lv_lconst (v := lN 0) hx hb dX1_least_274 (by decide) ?_
            refine tw_lif_lt hx hb (tgt := 289) dX1_least_275 dX1_least_276 (by decide) (fun hc8 => ?_) (fun hc8 => ?_)
            · refine lv_lload hx hb dX1_least_289 (lv_at hl 2 rfl) ?_
              refine lv_lload hx hb dX1_least_291 (lv_at hl 0 rfl) ?_
              refine lv_ladd hx hb dX1_least_293 ?_
              refine tw_l (lN (c0 + (tc_hv (fun i => w (o i)) jj a * d))) (lN_add _ _) ?_
              refine lv_lstore_n (lv' := [(1, .long (lN (c0 + (tc_hv (fun i => w (o i)) jj a * d)))), (8, .long (lN (tc_hv (fun i => w (o i)) jj a * d))), (10, .int (nI a)), (6, .long (lN c0)), (5, .int (nI kk)), (4, .int (nI jj)), (3, .int (nI d)), (0, .ref h0)]) hx hb dX1_least_294 rfl hl (by decide) rfl (fun ls hl => ?_)
              refine lv_goto (tgt := 392) hx hb dX1_least_295 (by decide) ?_
              exact K392 g _ H locs ls (tc_st_f hst hjj hkk hrc hmin hc1 hc6 he (Or.inl hc8)) hP hD hS (lv_sub hl [2, 1, 3, 4, 5, 6, 0, 7] rfl)
            · refine lv_lload hx hb dX1_least_279 (lv_at hl 2 rfl) ?_
              refine lv_lload hx hb dX1_least_281 (lv_at hl 0 rfl) ?_
              refine lv_ladd hx hb dX1_least_283 ?_
              refine tw_l (lN (c0 + (tc_hv (fun i => w (o i)) jj a * d))) (lN_add _ _) ?_
              refine lv_lload_n hx hb dX1_least_284 rfl (lv_at hl 6 rfl) ?_
              refine tw_lif_ge hx hb (tgt := 392) dX1_least_285 dX1_least_286 (by decide) (fun hc9 => ?_) (fun hc9 => ?_)
              · exact K392 g x H locs ls (tc_st_fk hst hjj hkk hrc hmin hc1 hc6 he hc8 (Int64.not_lt.mpr hc9)) hP hD hS (lv_sub hl [1, 0, 2, 3, 4, 5, 6, 7] rfl)
              · refine lv_lload hx hb dX1_least_289 (lv_at hl 2 rfl) ?_
                refine lv_lload hx hb dX1_least_291 (lv_at hl 0 rfl) ?_
                refine lv_ladd hx hb dX1_least_293 ?_
                refine tw_l (lN (c0 + (tc_hv (fun i => w (o i)) jj a * d))) (lN_add _ _) ?_
                refine lv_lstore_n (lv' := [(1, .long (lN (c0 + (tc_hv (fun i => w (o i)) jj a * d)))), (8, .long (lN (tc_hv (fun i => w (o i)) jj a * d))), (10, .int (nI a)), (6, .long (lN c0)), (5, .int (nI kk)), (4, .int (nI jj)), (3, .int (nI d)), (0, .ref h0)]) hx hb dX1_least_294 rfl hl (by decide) rfl (fun ls hl => ?_)
                refine lv_goto (tgt := 392) hx hb dX1_least_295 (by decide) ?_
                exact K392 g _ H locs ls (tc_st_f hst hjj hkk hrc hmin hc1 hc6 he (Or.inr (Int64.not_le.mp hc9))) hP hD hS (lv_sub hl [2, 1, 3, 4, 5, 6, 0, 7] rfl)
        refine lv_iload hx hb dX1_least_230 (lv_at hl 0 rfl) ?_
        refine tw_if_le hx hb a (tgt := 261) dX1_least_232 (by decide) (by omega) (fun hc10 => ?_) (fun hc10 => ?_)
        · subst hc10
          exact K261 ls (lv_sub hl [1, 0, 2, 3, 4, 5, 6, 7] rfl)
        · have hob := (hfo (jj + a - 1) (by omega)).2
          have hw1 := hw31 (o (jj + a - 1))
          refine lv_lload hx hb dX1_least_235 (lv_at hl 1 rfl) ?_
          refine lv_aload_n hx hb dX1_least_237 rfl (lv_at hl 7 rfl) ?_
          refine va_get (D := (dC, dI)) (ci := 1) (v := .ref b1) (C := RX1) (T := TX1) (N := 6) hx hb hts hinX1_least hown hK hP 0 rfl rfl 0 (by decide) (hts _ mmX1_least_0) (fun _ h9 => h9) rfl dX1_least_238 ?_
          refine lv_aload_n hx hb dX1_least_241 rfl (lv_at hl 7 rfl) ?_
          refine va_get (D := (dC, dI)) (ci := 1) (v := .ref b6) (C := RX1) (T := TX1) (N := 6) hx hb hts hinX1_least hown hK hP 0 rfl rfl 5 (by decide) (hts _ mmX1_least_1) (fun _ h9 => h9) rfl dX1_least_242 ?_
          refine lv_iload hx hb dX1_least_245 (lv_at hl 4 rfl) ?_
          refine lv_iload hx hb dX1_least_247 (lv_at hl 0 rfl) ?_
          refine lv_iadd hx hb dX1_least_249 ?_
          refine tw_i (nI (jj + a)) (nI_add _ _) ?_
          refine lv_iconst (v := nI 1) hx hb dX1_least_250 (by decide) ?_
          refine lv_isub hx hb dX1_least_251 ?_
          refine tw_i (nI ((jj + a) - 1)) (pk_sub (by omega)) ?_
          refine va_iald hx hb hK hP 4 3 rfl rfl (tn_in 32 (by omega) (by decide)) dX1_least_252 ?_
          refine tw_i (fo ((jj + a) - 1)) (congrArg fo (tn_cl (by omega))) ?_
          refine tw_i (nI (o (jj + a - 1))) ((hfo (jj + a - 1) (by omega)).1) ?_
          refine va_iald hx hb hK hP 1 0 rfl rfl (tn_in 32 (by omega) (by decide)) dX1_least_253 ?_
          refine tw_i (fw (o (jj + a - 1))) (congrArg fw (tn_cl (by omega))) ?_
          refine tw_i (nI (w (o (jj + a - 1)))) (hfw _ hob) ?_
          refine lv_i2l (v := lN (w (o (jj + a - 1)))) hx hb dX1_least_254 (tn_i2l (by omega)) ?_
          refine lv_iload_n hx hb dX1_least_255 rfl (lv_at hl 5 rfl) ?_
          refine lv_i2l (v := lN d) hx hb dX1_least_256 (tn_i2l (by omega)) ?_
          refine lv_lmul hx hb dX1_least_257 ?_
          refine tw_l (lN ((w (o (jj + a - 1))) * d)) (lN_mul _ _) ?_
          refine lv_ladd hx hb dX1_least_258 ?_
          refine tw_l (lN ((tc_hv (fun i => w (o i)) jj (a - 1) * d) + ((w (o (jj + a - 1))) * d))) (lN_add _ _) ?_
          refine tw_l (lN (tc_hv (fun i => w (o i)) jj a * d)) (congrArg lN (tc_hv_s (fun i => w (o i)) d jj hc10)) ?_
          refine lv_lstore (lv' := [(8, .long (lN (tc_hv (fun i => w (o i)) jj a * d))), (10, .int (nI a)), (6, .long (lN c0)), (5, .int (nI kk)), (4, .int (nI jj)), (3, .int (nI d)), (1, .long x), (0, .ref h0)]) hx hb dX1_least_259 hl (by decide) rfl (fun ls hl => ?_)
          exact K261 ls (lv_sub hl [0, 1, 2, 3, 4, 5, 6, 7] rfl)
set_option maxHeartbeats 4000000 in
set_option maxRecDepth 100000 in
/-- the reference: k places -/
theorem lp_X1_k {p : Program} {l : Launch} {e : Env} {R : Room} {s : State} {m : MethodId} {args : Array Value} {below : List Frame} {meth : Method} {c : Code} {Q : State → Prop} {A : Nat → Prop} {dC : Nat → ClassId} {dI : Nat → Nat → Nat} (hx : p.tables.exec = Jvm.exec) (hb : c.code = cX1_least) (hml : c.maxLocals = 13) (hown : s.vm.findClass RX1 = some m.cls) (hts : ∀ w ∈ wsX1_least, w.before args s = true) (hA : ∀ q : Nat, s.heap.size ≤ q → A q)  (h0 b1 b4 b5 b6 : Nat) (d1 d4 d5 d6 : ClassId) (fw : Nat → Int32) (fb : Nat → Int64) (fo : Nat → Int32) (nn li d jj : Nat) (w o : Nat → Nat) (hn16 : nn ≤ 16) (hd : d ≤ 15) (hfw : ∀ j, j < 32 → fw j = nI (w j)) (hw31 : ∀ j, w j < 2 ^ 31) (hfo : ∀ j, j < nn → fo j = nI (o j) ∧ o j < 32) (hjj : jj ≤ nn) (hbest : ∀ j k, j ≤ nn → k ≤ 16 → tc_mo (tc_rch (fun i => w (o i)) nn d j k) (fb (17 * j + k))) (hK : va_K (dC, dI) vwCl [(d1, .int), (d4, .long), (d5, .long), (d6, .int)] s) (K : ∀ (g : Nat → Int64) (x : Int64) (H : Heap) (locs : List Loc) (ls : Array Slot), tc_st (fun i => w (o i)) nn d (jj + 1) 0 0 g x → va_P (dC, dI) vwCl [(h0, .inr (1, [.ref b1, .int (nI nn), .int (nI li), .ref b4, .ref b5, .ref b6])), (b1, .inl (d1, 32, .inl fw)), (b4, .inl (d4, 289, .inr (.inl fb))), (b5, .inl (d5, 289, .inr (.inl g))), (b6, .inl (d6, 32, .inl fo))] H → va_D A [(h0, .inr (1, [.ref b1, .int (nI nn), .int (nI li), .ref b4, .ref b5, .ref b6])), (b1, .inl (d1, 32, .inl fw)), (b4, .inl (d4, 289, .inr (.inl fb))), (b5, .inl (d5, 289, .inr (.inl g))), (b6, .inl (d6, 32, .inl fo))] → va_S A s.heap H locs → lv_has ls 13 [(4, .int (nI jj)), (3, .int (nI d)), (1, .long x), (0, .ref h0)] → W p l e R s m args below meth c H locs 0 0 Q (F0 m 404 ls [])) :
    ∀ (fu : Nat) (kk : Nat) (g : Nat → Int64) (x : Int64) (H : Heap) (locs : List Loc) (ls : Array Slot), (17 - kk) < fu → kk ≤ 17 → tc_st (fun i => w (o i)) nn d jj kk 0 g x → va_P (dC, dI) vwCl [(h0, .inr (1, [.ref b1, .int (nI nn), .int (nI li), .ref b4, .ref b5, .ref b6])), (b1, .inl (d1, 32, .inl fw)), (b4, .inl (d4, 289, .inr (.inl fb))), (b5, .inl (d5, 289, .inr (.inl g))), (b6, .inl (d6, 32, .inl fo))] H → va_D A [(h0, .inr (1, [.ref b1, .int (nI nn), .int (nI li), .ref b4, .ref b5, .ref b6])), (b1, .inl (d1, 32, .inl fw)), (b4, .inl (d4, 289, .inr (.inl fb))), (b5, .inl (d5, 289, .inr (.inl g))), (b6, .inl (d6, 32, .inl fo))] → va_S A s.heap H locs → lv_has ls 13 [(5, .int (nI kk)), (4, .int (nI jj)), (3, .int (nI d)), (1, .long x), (0, .ref h0)] → W p l e R s m args below meth c H locs 0 0 Q (F0 m 176 ls []) := by
  intro fu
  induction fu with
  | zero =>
    intro kk g x H locs ls hfu
    exact absurd hfu (Nat.not_lt_zero _)
  | succ fu ih =>
    intro kk g x H locs ls hfu hkk hst hP hD hS hl
    refine lv_iload hx hb dX1_least_176 (lv_at hl 0 rfl) ?_
    refine lv_bipush (v := nI 16) hx hb dX1_least_178 (by decide) ?_
    refine tw_icmp_gt hx hb kk 16 (tgt := 404) dX1_least_180 (by decide) (by omega) (by decide) (fun hc1 => ?_) (fun hc1 => ?_)
    · have e : kk = 17 := by omega
      subst e
      exact K g x H locs ls (tc_st_j hst) hP hD hS (lv_sub hl [1, 2, 3, 4] rfl)
    · have K398 : ∀ (g : Nat → Int64) (x : Int64) (H : Heap) (locs : List Loc) (ls : Array Slot), tc_st (fun i => w (o i)) nn d jj (kk + 1) 0 g x → va_P (dC, dI) vwCl [(h0, .inr (1, [.ref b1, .int (nI nn), .int (nI li), .ref b4, .ref b5, .ref b6])), (b1, .inl (d1, 32, .inl fw)), (b4, .inl (d4, 289, .inr (.inl fb))), (b5, .inl (d5, 289, .inr (.inl g))), (b6, .inl (d6, 32, .inl fo))] H → va_D A [(h0, .inr (1, [.ref b1, .int (nI nn), .int (nI li), .ref b4, .ref b5, .ref b6])), (b1, .inl (d1, 32, .inl fw)), (b4, .inl (d4, 289, .inr (.inl fb))), (b5, .inl (d5, 289, .inr (.inl g))), (b6, .inl (d6, 32, .inl fo))] → va_S A s.heap H locs → lv_has ls 13 [(5, .int (nI kk)), (4, .int (nI jj)), (3, .int (nI d)), (1, .long x), (0, .ref h0)] → W p l e R s m args below meth c H locs 0 0 Q (F0 m 398 ls []) := by
        intro g x H locs ls hst hP hD hS hl
        refine lv_iinc (v := nI (kk + 1)) (lv' := [(5, .int (nI (kk + 1))), (4, .int (nI jj)), (3, .int (nI d)), (1, .long x), (0, .ref h0)]) hx hb dX1_least_398 hl (k := 0) rfl (tn_p1 _) (by decide) rfl (fun ls hl => ?_)
        refine lv_goto (tgt := 176) hx hb dX1_least_401 (by decide) ?_
        exact ih (kk + 1) g x H locs ls (by omega) (by omega) hst hP hD hS (lv_sub hl [0, 1, 2, 3, 4] rfl)
      have hbk := hbest jj kk hjj hc1
      refine lv_aload_n hx hb dX1_least_183 rfl (lv_at hl 4 rfl) ?_
      refine va_get (D := (dC, dI)) (ci := 1) (v := .ref b4) (C := RX1) (T := TX1) (N := 6) hx hb hts hinX1_least hown hK hP 0 rfl rfl 3 (by decide) (hts _ mmX1_least_3) (fun _ h9 => h9) rfl dX1_least_184 ?_
      refine lv_bipush (v := nI 17) hx hb dX1_least_187 (by decide) ?_
      refine lv_iload hx hb dX1_least_189 (lv_at hl 1 rfl) ?_
      refine lv_imul hx hb dX1_least_191 ?_
      refine tw_i (nI (17 * jj)) (pk_mul _ _) ?_
      refine lv_iload hx hb dX1_least_192 (lv_at hl 0 rfl) ?_
      refine lv_iadd hx hb dX1_least_194 ?_
      refine tw_i (nI ((17 * jj) + kk)) (nI_add _ _) ?_
      refine va_lald hx hb hK hP 2 1 rfl rfl (tn_in 289 (by omega) (by decide)) dX1_least_195 ?_
      refine tw_l (fb ((17 * jj) + kk)) (congrArg fb (tn_cl (by omega))) ?_
      obtain ⟨z1, ez1⟩ : ∃ z, z = fb (17 * jj + kk) := ⟨_, rfl⟩
      refine tw_l (z1) (ez1.symm) ?_
      rw [← ez1] at hbk
      refine lv_lstore (lv' := [(6, .long z1), (5, .int (nI kk)), (4, .int (nI jj)), (3, .int (nI d)), (1, .long x), (0, .ref h0)]) hx hb dX1_least_196 hl (by decide) rfl (fun ls hl => ?_)
      refine lv_lload hx hb dX1_least_198 (lv_at hl 0 rfl) ?_
      refine lv_lconst (v := lN 0) hx hb dX1_least_200 (by decide) ?_
      refine tw_lif_lt hx hb (tgt := 398) dX1_least_201 dX1_least_202 (by decide) (fun hc2 => ?_) (fun hc2 => ?_)
      · rcases hbk with ⟨h1, h2⟩ | ⟨c0, h1, h2, h3, h4⟩
        · exact K398 g x H locs ls (tc_st_k hst (Or.inr (Or.inr h2))) hP hD hS (lv_sub hl [1, 2, 3, 4, 5] rfl)
        · rw [h2] at hc2; exact absurd hc2 (tn_neg (by omega))
      · rcases hbk with ⟨h1, h2⟩ | ⟨c0, h1, h2, h3, h4⟩
        · rw [h1] at hc2; exact absurd tn_m hc2
        · subst h2
          refine lv_lconst (v := lN 0) hx hb dX1_least_205 (by decide) ?_
          refine tw_l (lN (tc_hv (fun i => w (o i)) jj (0 - 1) * d)) (by show lN 0 = lN (0 * d); rw [Nat.zero_mul]) ?_
          refine lv_lstore (lv' := [(8, .long (lN (tc_hv (fun i => w (o i)) jj (0 - 1) * d))), (6, .long (lN c0)), (5, .int (nI kk)), (4, .int (nI jj)), (3, .int (nI d)), (1, .long x), (0, .ref h0)]) hx hb dX1_least_206 hl (by decide) rfl (fun ls hl => ?_)
          refine lv_iconst (v := nI 0) hx hb dX1_least_208 (by decide) ?_
          refine lv_istore (lv' := [(10, .int (nI 0)), (8, .long (lN (tc_hv (fun i => w (o i)) jj (0 - 1) * d))), (6, .long (lN c0)), (5, .int (nI kk)), (4, .int (nI jj)), (3, .int (nI d)), (1, .long x), (0, .ref h0)]) hx hb dX1_least_209 hl (by decide) rfl (fun ls hl => ?_)
          exact lp_X1_a hx hb hml hown hts hA h0 b1 b4 b5 b6 d1 d4 d5 d6 fw fb fo nn li d jj kk c0 w o hn16 hd hfw hw31 hfo hjj hc1 h3 h4 hK K398 (kk + 1 + 1) 0 g x H locs ls (by omega) (Nat.zero_le _) hst hP hD hS (lv_sub hl [0, 1, 2, 3, 4, 5, 6, 7] rfl)
set_option maxHeartbeats 4000000 in
set_option maxRecDepth 100000 in
/-- the reference: j letters -/
theorem lp_X1_j {p : Program} {l : Launch} {e : Env} {R : Room} {s : State} {m : MethodId} {args : Array Value} {below : List Frame} {meth : Method} {c : Code} {Q : State → Prop} {A : Nat → Prop} {dC : Nat → ClassId} {dI : Nat → Nat → Nat} (hx : p.tables.exec = Jvm.exec) (hb : c.code = cX1_least) (hml : c.maxLocals = 13) (hown : s.vm.findClass RX1 = some m.cls) (hts : ∀ w ∈ wsX1_least, w.before args s = true) (hA : ∀ q : Nat, s.heap.size ≤ q → A q)  (h0 b1 b4 b5 b6 : Nat) (d1 d4 d5 d6 : ClassId) (fw : Nat → Int32) (fb : Nat → Int64) (fo : Nat → Int32) (nn li d : Nat) (w o : Nat → Nat) (hn16 : nn ≤ 16) (hd : d ≤ 15) (hfw : ∀ j, j < 32 → fw j = nI (w j)) (hw31 : ∀ j, w j < 2 ^ 31) (hfo : ∀ j, j < nn → fo j = nI (o j) ∧ o j < 32) (hbest : ∀ j k, j ≤ nn → k ≤ 16 → tc_mo (tc_rch (fun i => w (o i)) nn d j k) (fb (17 * j + k))) (hK : va_K (dC, dI) vwCl [(d1, .int), (d4, .long), (d5, .long), (d6, .int)] s) (K : ∀ (g : Nat → Int64) (x : Int64) (H : Heap) (locs : List Loc) (ls : Array Slot), tc_st (fun i => w (o i)) nn d (nn + 1) 0 0 g x → va_P (dC, dI) vwCl [(h0, .inr (1, [.ref b1, .int (nI nn), .int (nI li), .ref b4, .ref b5, .ref b6])), (b1, .inl (d1, 32, .inl fw)), (b4, .inl (d4, 289, .inr (.inl fb))), (b5, .inl (d5, 289, .inr (.inl g))), (b6, .inl (d6, 32, .inl fo))] H → va_D A [(h0, .inr (1, [.ref b1, .int (nI nn), .int (nI li), .ref b4, .ref b5, .ref b6])), (b1, .inl (d1, 32, .inl fw)), (b4, .inl (d4, 289, .inr (.inl fb))), (b5, .inl (d5, 289, .inr (.inl g))), (b6, .inl (d6, 32, .inl fo))] → va_S A s.heap H locs → lv_has ls 13 [(3, .int (nI d)), (1, .long x), (0, .ref h0)] → W p l e R s m args below meth c H locs 0 0 Q (F0 m 410 ls [])) :
    ∀ (fu : Nat) (jj : Nat) (g : Nat → Int64) (x : Int64) (H : Heap) (locs : List Loc) (ls : Array Slot), (nn + 1 - jj) < fu → jj ≤ nn + 1 → tc_st (fun i => w (o i)) nn d jj 0 0 g x → va_P (dC, dI) vwCl [(h0, .inr (1, [.ref b1, .int (nI nn), .int (nI li), .ref b4, .ref b5, .ref b6])), (b1, .inl (d1, 32, .inl fw)), (b4, .inl (d4, 289, .inr (.inl fb))), (b5, .inl (d5, 289, .inr (.inl g))), (b6, .inl (d6, 32, .inl fo))] H → va_D A [(h0, .inr (1, [.ref b1, .int (nI nn), .int (nI li), .ref b4, .ref b5, .ref b6])), (b1, .inl (d1, 32, .inl fw)), (b4, .inl (d4, 289, .inr (.inl fb))), (b5, .inl (d5, 289, .inr (.inl g))), (b6, .inl (d6, 32, .inl fo))] → va_S A s.heap H locs → lv_has ls 13 [(4, .int (nI jj)), (3, .int (nI d)), (1, .long x), (0, .ref h0)] → W p l e R s m args below meth c H locs 0 0 Q (F0 m 164 ls []) := by
  intro fu
  induction fu with
  | zero =>
    intro jj g x H locs ls hfu
    exact absurd hfu (Nat.not_lt_zero _)
  | succ fu ih =>
    intro jj g x H locs ls hfu hjj hst hP hD hS hl
    refine lv_iload hx hb dX1_least_164 (lv_at hl 0 rfl) ?_
    refine lv_aload_n hx hb dX1_least_166 rfl (lv_at hl 3 rfl) ?_
    refine va_get (D := (dC, dI)) (ci := 1) (v := .int (nI nn)) (C := RX1) (T := TX1) (N := 6) hx hb hts hinX1_least hown hK hP 0 rfl rfl 1 (by decide) (hts _ mmX1_least_2) (fun _ h9 => h9) rfl dX1_least_167 ?_
    refine tw_icmp_gt hx hb jj nn (tgt := 410) dX1_least_170 (by decide) (by omega) (by omega) (fun hc1 => ?_) (fun hc1 => ?_)
    · have e : jj = nn + 1 := by omega
      subst e
      exact K g x H locs ls hst hP hD hS (lv_sub hl [1, 2, 3] rfl)
    · refine lv_iconst (v := nI 0) hx hb dX1_least_173 (by decide) ?_
      refine lv_istore (lv' := [(5, .int (nI 0)), (4, .int (nI jj)), (3, .int (nI d)), (1, .long x), (0, .ref h0)]) hx hb dX1_least_174 hl (by decide) rfl (fun ls hl => ?_)
      refine lp_X1_k hx hb hml hown hts hA h0 b1 b4 b5 b6 d1 d4 d5 d6 fw fb fo nn li d jj w o hn16 hd hfw hw31 hfo hc1 hbest hK ?_ 18 0 g x H locs ls (by omega) (by omega) hst hP hD hS (lv_sub hl [0, 1, 2, 3, 4] rfl)
      intro g x H locs ls hst hP hD hS hl
      refine lv_iinc (v := nI (jj + 1)) (lv' := [(4, .int (nI (jj + 1))), (3, .int (nI d)), (1, .long x), (0, .ref h0)]) hx hb dX1_least_404 hl (k := 0) rfl (tn_p1 _) (by decide) rfl (fun ls hl => ?_)
      refine lv_goto (tgt := 164) hx hb dX1_least_407 (by decide) ?_
      exact ih (jj + 1) g x H locs ls (by omega) (by omega) hst hP hD hS (lv_sub hl [0, 1, 2, 3] rfl)
set_option maxHeartbeats 4000000 in
set_option maxRecDepth 100000 in
/-- the reference: the depths -/
theorem lp_X1_d {p : Program} {l : Launch} {e : Env} {R : Room} {s : State} {m : MethodId} {args : Array Value} {below : List Frame} {meth : Method} {c : Code} {Q : State → Prop} {A : Nat → Prop} {dC : Nat → ClassId} {dI : Nat → Nat → Nat} (hx : p.tables.exec = Jvm.exec) (hb : c.code = cX1_least) (hml : c.maxLocals = 13) (hown : s.vm.findClass RX1 = some m.cls) (hts : ∀ w ∈ wsX1_least, w.before args s = true) (hA : ∀ q : Nat, s.heap.size ≤ q → A q)  (h0 b1 b4 b5 b6 : Nat) (d1 d4 d5 d6 : ClassId) (fw : Nat → Int32) (fo : Nat → Int32) (nn li : Nat) (w o : Nat → Nat) (hn16 : nn ≤ 16) (hli : li ≤ 15) (hfw : ∀ j, j < 32 → fw j = nI (w j)) (hw31 : ∀ j, w j < 2 ^ 31) (hfo : ∀ j, j < nn → fo j = nI (o j) ∧ o j < 32) (hK : va_K (dC, dI) vwCl [(d1, .int), (d4, .long), (d5, .long), (d6, .int)] s) (K : ∀ (fb fx : Nat → Int64) (x : Int64) (H : Heap) (locs : List Loc) (ls : Array Slot), tc_mo (tc_ans (fun i => w (o i)) nn (li + 1)) x → va_P (dC, dI) vwCl [(h0, .inr (1, [.ref b1, .int (nI nn), .int (nI li), .ref b4, .ref b5, .ref b6])), (b1, .inl (d1, 32, .inl fw)), (b4, .inl (d4, 289, .inr (.inl fb))), (b5, .inl (d5, 289, .inr (.inl fx))), (b6, .inl (d6, 32, .inl fo))] H → va_D A [(h0, .inr (1, [.ref b1, .int (nI nn), .int (nI li), .ref b4, .ref b5, .ref b6])), (b1, .inl (d1, 32, .inl fw)), (b4, .inl (d4, 289, .inr (.inl fb))), (b5, .inl (d5, 289, .inr (.inl fx))), (b6, .inl (d6, 32, .inl fo))] → va_S A s.heap H locs → lv_has ls 13 [(1, .long x), (0, .ref h0)] → W p l e R s m args below meth c H locs 0 0 Q (F0 m 447 ls [])) :
    ∀ (fu : Nat) (d : Nat) (fb fx : Nat → Int64) (x : Int64) (H : Heap) (locs : List Loc) (ls : Array Slot), (li + 1 - d) < fu → d ≤ li + 1 → (∀ j k, j ≤ nn → k ≤ 16 → tc_mo (tc_rch (fun i => w (o i)) nn d j k) (fb (17 * j + k))) → tc_mo (tc_ans (fun i => w (o i)) nn d) x → va_P (dC, dI) vwCl [(h0, .inr (1, [.ref b1, .int (nI nn), .int (nI li), .ref b4, .ref b5, .ref b6])), (b1, .inl (d1, 32, .inl fw)), (b4, .inl (d4, 289, .inr (.inl fb))), (b5, .inl (d5, 289, .inr (.inl fx))), (b6, .inl (d6, 32, .inl fo))] H → va_D A [(h0, .inr (1, [.ref b1, .int (nI nn), .int (nI li), .ref b4, .ref b5, .ref b6])), (b1, .inl (d1, 32, .inl fw)), (b4, .inl (d4, 289, .inr (.inl fb))), (b5, .inl (d5, 289, .inr (.inl fx))), (b6, .inl (d6, 32, .inl fo))] → va_S A s.heap H locs → lv_has ls 13 [(3, .int (nI d)), (1, .long x), (0, .ref h0)] → W p l e R s m args below meth c H locs 0 0 Q (F0 m 126 ls []) := by
  intro fu
  induction fu with
  | zero =>
    intro d fb fx x H locs ls hfu
    exact absurd hfu (Nat.not_lt_zero _)
  | succ fu ih =>
    intro d fb fx x H locs ls hfu hd hbest hans hP hD hS hl
    refine lv_iload_n hx hb dX1_least_126 rfl (lv_at hl 0 rfl) ?_
    refine lv_aload_n hx hb dX1_least_127 rfl (lv_at hl 2 rfl) ?_
    refine va_get (D := (dC, dI)) (ci := 1) (v := .int (nI li)) (C := RX1) (T := TX1) (N := 6) hx hb hts hinX1_least hown hK hP 0 rfl rfl 2 (by decide) (hts _ mmX1_least_6) (fun _ h9 => h9) rfl dX1_least_128 ?_
    refine tw_icmp_gt hx hb d li (tgt := 447) dX1_least_131 (by decide) (by omega) (by omega) (fun hc1 => ?_) (fun hc1 => ?_)
    · have e : d = li + 1 := by omega
      subst e
      exact K fb fx x H locs ls hans hP hD hS (lv_sub hl [1, 2] rfl)
    · refine lv_iconst (v := nI 0) hx hb dX1_least_134 (by decide) ?_
      refine lv_istore (lv' := [(4, .int (nI 0)), (3, .int (nI d)), (1, .long x), (0, .ref h0)]) hx hb dX1_least_135 hl (by decide) rfl (fun ls hl => ?_)
      refine lp_X1_fx hx hb hml hown hts hA h0 b1 b4 b5 b6 d1 d4 d5 d6 fw fb fo nn li d x hK ?_ 290 0 fx H locs ls (by omega) (by omega) (fun q hq => absurd hq (Nat.not_lt_zero _)) hP hD hS (lv_sub hl [0, 1, 2, 3] rfl)
      intro g H locs ls hg hP hD hS hl
      refine lv_iconst (v := nI 0) hx hb dX1_least_161 (by decide) ?_
      refine lv_istore (lv' := [(4, .int (nI 0)), (3, .int (nI d)), (1, .long x), (0, .ref h0)]) hx hb dX1_least_162 hl (by decide) rfl (fun ls hl => ?_)
      refine lp_X1_j hx hb hml hown hts hA h0 b1 b4 b5 b6 d1 d4 d5 d6 fw fb fo nn li d w o hn16 (by omega) hfw hw31 hfo hbest hK ?_ (nn + 2) 0 g x H locs ls (by omega) (by omega) (tc_st_0 hn16 hg hans) hP hD hS (lv_sub hl [0, 1, 2, 3] rfl)
      intro g2 x2 H locs ls hst hP hD hS hl
      obtain ⟨hrow, hans2⟩ := tc_st_end hst
      refine lv_iconst (v := nI 0) hx hb dX1_least_410 (by decide) ?_
      refine lv_istore (lv' := [(4, .int (nI 0)), (3, .int (nI d)), (1, .long x2), (0, .ref h0)]) hx hb dX1_least_411 hl (by decide) rfl (fun ls hl => ?_)
      refine lp_X1_cp hx hb hml hown hts hA h0 b1 b4 b5 b6 d1 d4 d5 d6 fw g2 fo nn li d x2 hK ?_ 290 0 fb H locs ls (by omega) (by omega) (fun q hq => absurd hq (Nat.not_lt_zero _)) hP hD hS (lv_sub hl [0, 1, 2, 3] rfl)
      intro g3 H locs ls hg3 hP hD hS hl
      refine lv_iinc (v := nI (d + 1)) (lv' := [(3, .int (nI (d + 1))), (1, .long x2), (0, .ref h0)]) hx hb dX1_least_441 hl (k := 0) rfl (tn_p1 _) (by decide) rfl (fun ls hl => ?_)
      refine lv_goto (tgt := 126) hx hb dX1_least_444 (by decide) ?_
      exact ih (d + 1) g3 g2 x2 H locs ls (by omega) (by omega) (fun j k hj hk => by rw [hg3 _ (by omega)]; exact hrow j k hj hk) hans2 hP hD hS (lv_sub hl [0, 1, 2] rfl)
set_option maxHeartbeats 4000000 in
set_option maxRecDepth 100000 in
/-- the reference: least() -/
theorem c_X1_least (l : Launch) (dC : Nat → ClassId) (dI : Nat → Nat → Nat) (h0 b1 b4 b5 b6 : Nat) (d1 d4 d5 d6 : ClassId) (fw : Nat → Int32) (fb fx : Nat → Int64) (fo : Nat → Int32) (sz : Nat) (nn li : Nat) (w : Nat → Nat) (hn16 : nn ≤ 16) (hli : li < 16) (hfw : ∀ j, j < 32 → fw j = nI (w j)) (hw31 : ∀ j, w j < 2 ^ 31) : Met l yX1_least wsX1_least ({ frames := 0, cells := 0, slots := 0, locals := 0 }) (va_Pc [.ref h0] (fun U => U.heap.size = sz ∧ va_P (dC, dI) vwCl [(h0, .inr (1, [.ref b1, .int (nI nn), .int (nI li), .ref b4, .ref b5, .ref b6])), (b1, .inl (d1, 32, .inl fw)), (b4, .inl (d4, 289, .inr (.inl fb))), (b5, .inl (d5, 289, .inr (.inl fx))), (b6, .inl (d6, 32, .inl fo))] U.heap ∧ va_K (dC, dI) vwCl [(d1, .int), (d4, .long), (d5, .long), (d6, .int)] U ∧ va_D (fun _ => True) [(h0, .inr (1, [.ref b1, .int (nI nn), .int (nI li), .ref b4, .ref b5, .ref b6])), (b1, .inl (d1, 32, .inl fw)), (b4, .inl (d4, 289, .inr (.inl fb))), (b5, .inl (d5, 289, .inr (.inl fx))), (b6, .inl (d6, 32, .inl fo))])) (va_Ql (fun (r : Int64) (_ : (Nat → Int64) × (Nat → Int64) × (Nat → Int32)) => (2 ^ li < nn ∧ r = -1) ∨ (nn ≤ 2 ^ li ∧ ∃ o : Nat → Nat, tc_ord w o nn ∧ tc_mo (tc_ans (fun i => w (o i)) nn (li + 1)) r)) (fun (u : (Nat → Int64) × (Nat → Int64) × (Nat → Int32)) (t : State) => va_P (dC, dI) vwCl [(h0, .inr (1, [.ref b1, .int (nI nn), .int (nI li), .ref b4, .ref b5, .ref b6])), (b1, .inl (d1, 32, .inl fw)), (b4, .inl (d4, 289, .inr (.inl (u.1)))), (b5, .inl (d5, 289, .inr (.inl (u.2.1)))), (b6, .inl (d6, 32, .inl (u.2.2)))] t.heap ∧ va_K (dC, dI) vwCl [(d1, .int), (d4, .long), (d5, .long), (d6, .int)] t ∧ va_D (va_A [(h0, .inr (1, [.ref b1, .int (nI nn), .int (nI li), .ref b4, .ref b5, .ref b6])), (b1, .inl (d1, 32, .inl fw)), (b4, .inl (d4, 289, .inr (.inl fb))), (b5, .inl (d5, 289, .inr (.inl fx))), (b6, .inl (d6, 32, .inl fo))] sz) [(h0, .inr (1, [.ref b1, .int (nI nn), .int (nI li), .ref b4, .ref b5, .ref b6])), (b1, .inl (d1, 32, .inl fw)), (b4, .inl (d4, 289, .inr (.inl (u.1)))), (b5, .inl (d5, 289, .inr (.inl (u.2.1)))), (b6, .inl (d6, 32, .inl (u.2.2)))]) (va_A [(h0, .inr (1, [.ref b1, .int (nI nn), .int (nI li), .ref b4, .ref b5, .ref b6])), (b1, .inl (d1, 32, .inl fw)), (b4, .inl (d4, 289, .inr (.inl fb))), (b5, .inl (d5, 289, .inr (.inl fx))), (b6, .inl (d6, 32, .inl fo))] sz)) 0 0 (va_A [(h0, .inr (1, [.ref b1, .int (nI nn), .int (nI li), .ref b4, .ref b5, .ref b6])), (b1, .inl (d1, 32, .inl fw)), (b4, .inl (d4, 289, .inr (.inl fb))), (b5, .inl (d5, 289, .inr (.inl fx))), (b6, .inl (d6, 32, .inl fo))] sz) := by
  refine Met.ofW (cc := cX1_least) (maxL := 13) (ret := (some .long)) (by decide) rfl ?_
  intro p e s m args below meth c s₁ B hml hv
  obtain ⟨rfl, hsz, hP, hK, hD0⟩ := hv
  have hx := B.exec
  have hb := B.bytes
  have hr := B.returns
  have hts := atoms_spec (ws := wsX1_least) B.pre
  have hown : s.vm.findClass RX1 = some m.cls := findClass_of_methodNamed B.named
  have hlocks := B.notSynchronized
  subst hsz
  have hD := hD0.self (sz := s.heap.size)
  generalize hAe : va_A [(h0, .inr (1, [.ref b1, .int (nI nn), .int (nI li), .ref b4, .ref b5, .ref b6])), (b1, .inl (d1, 32, .inl fw)), (b4, .inl (d4, 289, .inr (.inl fb))), (b5, .inl (d5, 289, .inr (.inl fx))), (b6, .inl (d6, 32, .inl fo))] s.heap.size = A at hD ⊢
  have hA : ∀ q : Nat, s.heap.size ≤ q → A q := fun q h => by rw [← hAe]; exact Or.inr h
  have hS : va_S A s.heap s.heap [] := va_S.rf
  have hP : va_P (dC, dI) vwCl [(h0, .inr (1, [.ref b1, .int (nI nn), .int (nI li), .ref b4, .ref b5, .ref b6])), (b1, .inl (d1, 32, .inl fw)), (b4, .inl (d4, 289, .inr (.inl fb))), (b5, .inl (d5, 289, .inr (.inl fx))), (b6, .inl (d6, 32, .inl fo))] s.heap := hP
  have hl := lv_entry ([.ref h0]) (n := 13) (Nat.le_of_ble_eq_true rfl)
  rw [lg_entry_eq]
  generalize (lg_sl ([.ref h0]) ++ List.replicate (13 - (lg_sl ([.ref h0])).length) Slot.unset).toArray = ls at hl ⊢
  have hl : lv_has ls 13 [(0, .ref h0)] := hl
  have hp16 : (2 : Nat) ^ li ≤ 2 ^ 15 := Nat.pow_le_pow_right (by decide) (by omega)
  refine lv_iconst (v := nI 1) hx hb dX1_least_0 (by decide) ?_
  refine lv_aload_n hx hb dX1_least_1 rfl (lv_at hl 0 rfl) ?_
  refine va_get (D := (dC, dI)) (ci := 1) (v := .int (nI li)) (C := RX1) (T := TX1) (N := 6) hx hb hts hinX1_least hown hK hP 0 rfl rfl 2 (by decide) (hts _ mmX1_least_6) (fun _ h9 => h9) rfl dX1_least_2 ?_
  refine lv_ishl hx hb dX1_least_5 ?_
  refine tw_i (nI (2 ^ li)) (tn_shl hli) ?_
  refine lv_aload_n hx hb dX1_least_6 rfl (lv_at hl 0 rfl) ?_
  refine va_get (D := (dC, dI)) (ci := 1) (v := .int (nI nn)) (C := RX1) (T := TX1) (N := 6) hx hb hts hinX1_least hown hK hP 0 rfl rfl 1 (by decide) (hts _ mmX1_least_2) (fun _ h9 => h9) rfl dX1_least_7 ?_
  refine tw_icmp_ge hx hb (2 ^ li) nn (tgt := 17) dX1_least_10 (by decide) (by omega) (by omega) (fun hc => ?_) (fun hc => ?_)
  · refine lv_iconst (v := nI 0) hx hb dX1_least_17 (by decide) ?_
    refine lv_istore_n (lv' := [(1, .int (nI 0)), (0, .ref h0)]) hx hb dX1_least_18 rfl hl (by decide) rfl (fun ls hl => ?_)
    refine lp_X1_out hx hb hml hown hts hA h0 b1 b4 b5 b6 d1 d4 d5 d6 fw fb fx nn li w hn16 hfw hw31 hK ?_ (nn + 1) 0 (fun _ => 0) fo s.heap [] ls (by omega) (Nat.zero_le _) (tc_ord_0 _ _) (fun j hj => absurd hj (Nat.not_lt_zero _)) hP hD hS (lv_sub hl [0, 1] rfl)
    intro o g H locs ls hod hg hP hD hS hl
    have hfo : ∀ j, j < nn → g j = nI (o j) ∧ o j < 32 := fun j hj => ⟨hg j hj, by have := hod.2.2 j hj; omega⟩
    refine lv_iconst (v := nI 0) hx hb dX1_least_89 (by decide) ?_
    refine lv_istore_n (lv' := [(1, .int (nI 0)), (0, .ref h0)]) hx hb dX1_least_90 rfl hl (by decide) rfl (fun ls hl => ?_)
    refine lp_X1_fb hx hb hml hown hts hA h0 b1 b4 b5 b6 d1 d4 d5 d6 fw fx g nn li hK ?_ 290 0 fb H locs ls (by omega) (by omega) (fun q hq => absurd hq (Nat.not_lt_zero _)) hP hD hS (lv_sub hl [0, 1] rfl)
    intro g1 H locs ls hg1 hP hD hS hl
    refine lv_aload_n hx hb dX1_least_113 rfl (lv_at hl 0 rfl) ?_
    refine va_get (D := (dC, dI)) (ci := 1) (v := .ref b4) (C := RX1) (T := TX1) (N := 6) hx hb hts hinX1_least hown hK hP 0 rfl rfl 3 (by decide) (hts _ mmX1_least_3) (fun _ h9 => h9) rfl dX1_least_114 ?_
    refine lv_iconst (v := nI 1) hx hb dX1_least_117 (by decide) ?_
    refine lv_lconst (v := lN 0) hx hb dX1_least_118 (by decide) ?_
    refine va_last hx hb hK hP hD hS 2 1 rfl rfl (tn_in 289 (by omega) (by decide)) dX1_least_119 (fun H locs hP hD hS => ?_)
    rw [tn_cl (show 1 < 2 ^ 31 by omega)] at hP hD
    have hP : va_P (dC, dI) vwCl [(h0, .inr (1, [.ref b1, .int (nI nn), .int (nI li), .ref b4, .ref b5, .ref b6])), (b1, .inl (d1, 32, .inl fw)), (b4, .inl (d4, 289, .inr (.inl (vp_updL g1 1 (lN 0))))), (b5, .inl (d5, 289, .inr (.inl fx))), (b6, .inl (d6, 32, .inl g))] H := hP
    have hD : va_D A [(h0, .inr (1, [.ref b1, .int (nI nn), .int (nI li), .ref b4, .ref b5, .ref b6])), (b1, .inl (d1, 32, .inl fw)), (b4, .inl (d4, 289, .inr (.inl (vp_updL g1 1 (lN 0))))), (b5, .inl (d5, 289, .inr (.inl fx))), (b6, .inl (d6, 32, .inl g))] := hD
    refine lv_ldc2 hx hb hown (hts _ mmX1_least_4) dX1_least_120 ?_
    refine lv_lstore_n (lv' := [(1, .long (-1)), (0, .ref h0)]) hx hb dX1_least_123 rfl hl (by decide) rfl (fun ls hl => ?_)
    refine lv_iconst (v := nI 0) hx hb dX1_least_124 (by decide) ?_
    refine lv_istore_n (lv' := [(3, .int (nI 0)), (1, .long (-1)), (0, .ref h0)]) hx hb dX1_least_125 rfl hl (by decide) rfl (fun ls hl => ?_)
    refine lp_X1_d hx hb hml hown hts hA h0 b1 b4 b5 b6 d1 d4 d5 d6 fw g nn li w o hn16 (by omega) hfw hw31 hfo hK ?_ (li + 2) 0 _ fx (-1) H locs ls (by omega) (by omega) (tc_row_0 hn16 hg1) (tc_ans_0 _ _) hP hD hS (lv_sub hl [0, 1, 2] rfl)
    intro g2 g3 x H locs ls hans hP hD hS hl
    refine lv_lload_n hx hb dX1_least_447 rfl (lv_at hl 0 rfl) ?_
    exact W.lret (v := x) hx hb hr (fun t ht hW => ⟨⟨x, (g2, g3, g), rfl, Or.inr ⟨hc, o, hod, hans⟩, by rw [ht]; exact hP, va_K.moved hW.alike hK, hD⟩, hS.F ht⟩) hS.2.2 dX1_least_448
  · refine lv_ldc2 hx hb hown (hts _ mmX1_least_4) dX1_least_13 ?_
    exact W.lret (v := -1) hx hb hr (fun t ht hW => ⟨⟨-1, (fb, fx, fo), rfl, Or.inl ⟨hc, rfl⟩, by rw [ht]; exact hP, va_K.moved hW.alike hK, hD⟩, hS.F ht⟩) hS.2.2 dX1_least_16
