theorem hinX0_least : ∀ w ∈ wsX00, w ∈ wsX0_least := by decide +kernel
theorem mmX0_least_0 : Cond.fieldLink RX0 17 "TrimCodes" "lengthLimit" "I" ∈ wsX0_least := by decide +kernel
theorem mmX0_least_1 : Cond.fieldLink RX0 13 "TrimCodes" "letterCount" "I" ∈ wsX0_least := by decide +kernel
theorem mmX0_least_2 : Cond.constantLong RX0 35 (-1) ∈ wsX0_least := by decide +kernel
set_option maxHeartbeats 4000000 in
set_option maxRecDepth 100000 in
/-- the level t stands -/
theorem lp_X0_least {p : Program} {l : Launch} {e : Env} {R : Room} {s : State} {m : MethodId} {args : Array Value} {below : List Frame} {meth : Method} {c : Code} {Q : State → Prop} {A : Nat → Prop} {dC : Nat → ClassId} {dI : Nat → Nat → Nat} (hx : p.tables.exec = Jvm.exec) (hb : c.code = cX0_least) (hml : c.maxLocals = 4) (hown : s.vm.findClass RX0 = some m.cls) (hts : ∀ w ∈ wsX0_least, w.before args s = true) (hA : ∀ q : Nat, s.heap.size ≤ q → A q) (hfr : 2 ≤ R.frames) (hlo : 51 ≤ R.locals) (h0 a1 a3 a4 a5 : Nat) (c1 c3 c4 c5 : ClassId) (fw : Nat → Int32) (fs : Nat → Int64) (nn li : Nat) (w ss : Nat → Nat) (hn2 : 2 ≤ nn) (hn16 : nn ≤ 16) (hli : li < 16) (hst : tc_srt w ss nn) (hfs : ∀ j, j < nn → fs j = lN (ss j) ∧ ss j < 2 ^ 31) (hK : va_K (dC, dI) vwCl [(c1, .int), (c3, .long), (c4, .long), (c5, .long)] s) (K : ∀ (C : Nat → Nat) (g hh : Nat → Int64) (H : Heap) (locs : List Loc) (ls : Array Slot), tc_lev ss nn li C → (∀ j, j < tc_cnt nn li → g j = lN (C j) ∧ C j < 2 ^ (31 + li)) → va_P (dC, dI) vwCl [(h0, .inr (0, [.ref a1, .int (nI nn), .int (nI li), .ref a3, .ref a4, .ref a5])), (a1, .inl (c1, 32, .inl fw)), (a3, .inl (c3, 16, .inr (.inl fs))), (a4, .inl (c4, 32, .inr (.inl g))), (a5, .inl (c5, 16, .inr (.inl hh)))] H → va_D A [(h0, .inr (0, [.ref a1, .int (nI nn), .int (nI li), .ref a3, .ref a4, .ref a5])), (a1, .inl (c1, 32, .inl fw)), (a3, .inl (c3, 16, .inr (.inl fs))), (a4, .inl (c4, 32, .inr (.inl g))), (a5, .inl (c5, 16, .inr (.inl hh)))] → va_S A s.heap H locs → lv_has ls 4 [(0, .ref h0)] → W p l e R s m args below meth c H locs 0 0 Q (F0 m 50 ls [])) :
    ∀ (fu : Nat) (tt : Nat) (C : Nat → Nat) (g hh : Nat → Int64) (H : Heap) (locs : List Loc) (ls : Array Slot), (li - tt) < fu → tt ≤ li → tc_lev ss nn tt C → (∀ j, j < tc_cnt nn tt → g j = lN (C j) ∧ C j < 2 ^ (31 + tt)) → va_P (dC, dI) vwCl [(h0, .inr (0, [.ref a1, .int (nI nn), .int (nI li), .ref a3, .ref a4, .ref a5])), (a1, .inl (c1, 32, .inl fw)), (a3, .inl (c3, 16, .inr (.inl fs))), (a4, .inl (c4, 32, .inr (.inl g))), (a5, .inl (c5, 16, .inr (.inl hh)))] H → va_D A [(h0, .inr (0, [.ref a1, .int (nI nn), .int (nI li), .ref a3, .ref a4, .ref a5])), (a1, .inl (c1, 32, .inl fw)), (a3, .inl (c3, 16, .inr (.inl fs))), (a4, .inl (c4, 32, .inr (.inl g))), (a5, .inl (c5, 16, .inr (.inl hh)))] → va_S A s.heap H locs → lv_has ls 4 [(1, .int (nI (tc_cnt nn tt))), (2, .int (nI (li - tt))), (0, .ref h0)] → W p l e R s m args below meth c H locs 0 0 Q (F0 m 28 ls []) := by
  intro fu
  induction fu with
  | zero =>
    intro tt C g hh H locs ls hfu
    exact absurd hfu (Nat.not_lt_zero _)
  | succ fu ih =>
    intro tt C g hh H locs ls hfu ht hC hg hP hD hS hl
    have hcn := tc_cnt_lt (n := nn) (by omega) tt
    refine lv_iload_n hx hb dX0_least_28 rfl (lv_at hl 1 rfl) ?_
    refine tw_if_le hx hb (li - tt) (tgt := 50) dX0_least_29 (by decide) (by omega) (fun hc => ?_) (fun hc => ?_)
    · have e : tt = li := by omega
      subst e
      exact K C g hh H locs ls hC hg hP hD hS (lv_sub hl [2] rfl)
    · refine lv_aload_n hx hb dX0_least_32 rfl (lv_at hl 2 rfl) ?_
      refine lv_iload_n hx hb dX0_least_33 rfl (lv_at hl 0 rfl) ?_
      have hPc := hP.sub (ws' := [(h0, .inr (0, [.ref a1, .int (nI nn), .int (nI li), .ref a3, .ref a4, .ref a5])), (a1, .inl (c1, 32, .inl fw)), (a3, .inl (c3, 16, .inr (.inl fs))), (a4, .inl (c4, 32, .inr (.inl g))), (a5, .inl (c5, 16, .inr (.inl hh)))]) [0, 1, 2, 3, 4] rfl
      have hDc := hD.sub (ws' := [(h0, .inr (0, [.ref a1, .int (nI nn), .int (nI li), .ref a3, .ref a4, .ref a5])), (a1, .inl (c1, 32, .inl fw)), (a3, .inl (c3, 16, .inr (.inl fs))), (a4, .inl (c4, 32, .inr (.inl g))), (a5, .inl (c5, 16, .inr (.inl hh)))]) [0, 1, 2, 3, 4] (by decide) rfl
      have hKc := hK.sub (tys' := [(c1, .int), (c3, .long), (c4, .long), (c5, .long)]) [0, 1, 2, 3] rfl
      have hFc := va_free (wc := [(h0, .inr (0, [.ref a1, .int (nI nn), .int (nI li), .ref a3, .ref a4, .ref a5])), (a1, .inl (c1, 32, .inl fw)), (a3, .inl (c3, 16, .inr (.inl fs))), (a4, .inl (c4, 32, .inr (.inl g))), (a5, .inl (c5, 16, .inr (.inl hh)))]) hD hS hA [0, 1, 2, 3, 4] rfl
      refine va_calli (va_runV (As := [.int (nI (tc_cnt nn tt))]) (rest := []) ⟨hx, hb, hml, hown, hts⟩ (c_X0_pairCoins l dC dI h0 a1 a3 a4 a5 c1 c3 c4 c5 (nI nn) (nI li) fw fs g hh H.size (tc_cnt nn tt) C (by omega) (fun j hj => (hg j hj).1)) (cwV 1 hts gX0_least_X0_pairCoins rfl rfl rfl (by decide +kernel) ⟨hfr, Nat.le_trans (Nat.le_of_ble_eq_true rfl) hlo⟩) ⟨fun a U g mk q => by obtain ⟨q0, q1, qP, qK, qD⟩ := q; exact ⟨q0, q1, qP, va_K.moved (u := U) (U := U.calling g mk a) (Vm.Alike.refl U.vm) qK, qD⟩, va_recv hKc hPc (ci := 0) (q0 := 0) rfl rfl, fun U hU hW => ⟨rfl, by rw [hU], by rw [hU]; exact hPc, va_K.moved hW.alike hKc, hDc.weaken (fun _ _ _ _ => trivial)⟩⟩ rfl rfl hl.1 rfl (lv_room (Nat.le_of_ble_eq_true rfl)) dX0_least_34 ⟨(Nat.zero_le _), (Nat.zero_le _)⟩) hS (fun q _ h => hFc q h) hFc (fun r1 u t H1 locs ht hvm hw hB hz1 hk1 hS => ?_)
      obtain ⟨h2, eh2⟩ : ∃ z, z = u := ⟨_, rfl⟩
      rw [← eh2] at hw hB
      obtain ⟨hP1, hK1, hD1⟩ := hB
      rw [ht] at hP1
      have hK1 := va_K.moved hvm.symm hK1
      obtain ⟨hP, hD⟩ := va_join (wr := []) (w1 := [(h0, .inr (0, [.ref a1, .int (nI nn), .int (nI li), .ref a3, .ref a4, .ref a5])), (a1, .inl (c1, 32, .inl fw)), (a3, .inl (c3, 16, .inr (.inl fs))), (a4, .inl (c4, 32, .inr (.inl g))), (a5, .inl (c5, 16, .inr (.inl h2)))]) hP hD [0, 1, 2, 3, 4] [] rfl rfl (by decide) (by decide) hk1 hFc hP1 hD1
      generalize H1 = H at hP hS ⊢
      have hP : va_P (dC, dI) vwCl [(h0, .inr (0, [.ref a1, .int (nI nn), .int (nI li), .ref a3, .ref a4, .ref a5])), (a1, .inl (c1, 32, .inl fw)), (a3, .inl (c3, 16, .inr (.inl fs))), (a4, .inl (c4, 32, .inr (.inl g))), (a5, .inl (c5, 16, .inr (.inl h2)))] H := hP
      have hD : va_D A [(h0, .inr (0, [.ref a1, .int (nI nn), .int (nI li), .ref a3, .ref a4, .ref a5])), (a1, .inl (c1, 32, .inl fw)), (a3, .inl (c3, 16, .inr (.inl fs))), (a4, .inl (c4, 32, .inr (.inl g))), (a5, .inl (c5, 16, .inr (.inl h2)))] := hD
      obtain ⟨hr1, hu1⟩ := hw
      subst hr1
      refine lv_istore_n (lv' := [(3, .int (nI (tc_cnt nn tt / 2))), (1, .int (nI (tc_cnt nn tt))), (2, .int (nI (li - tt))), (0, .ref h0)]) hx hb dX0_least_37 rfl hl (by decide) rfl (fun ls hl => ?_)
      refine lv_aload_n hx hb dX0_least_38 rfl (lv_at hl 3 rfl) ?_
      refine lv_iload_n hx hb dX0_least_39 rfl (lv_at hl 0 rfl) ?_
      have hpw : (2 : Nat) ^ (31 + (tt + 1)) = 2 * 2 ^ (31 + tt) := by rw [show 31 + (tt + 1) = (31 + tt) + 1 by omega, Nat.pow_succ, Nat.mul_comm]
      have hpl : (2 : Nat) ^ 31 ≤ 2 ^ (31 + tt) := Nat.pow_le_pow_right (by decide) (by omega)
      have hpm : (2 : Nat) ^ (31 + (tt + 1)) ≤ 2 ^ 61 := Nat.pow_le_pow_right (by decide) (by omega)
      have hPc := hP.sub (ws' := [(h0, .inr (0, [.ref a1, .int (nI nn), .int (nI li), .ref a3, .ref a4, .ref a5])), (a1, .inl (c1, 32, .inl fw)), (a3, .inl (c3, 16, .inr (.inl fs))), (a4, .inl (c4, 32, .inr (.inl g))), (a5, .inl (c5, 16, .inr (.inl h2)))]) [0, 1, 2, 3, 4] rfl
      have hDc := hD.sub (ws' := [(h0, .inr (0, [.ref a1, .int (nI nn), .int (nI li), .ref a3, .ref a4, .ref a5])), (a1, .inl (c1, 32, .inl fw)), (a3, .inl (c3, 16, .inr (.inl fs))), (a4, .inl (c4, 32, .inr (.inl g))), (a5, .inl (c5, 16, .inr (.inl h2)))]) [0, 1, 2, 3, 4] (by decide) rfl
      have hKc := hK.sub (tys' := [(c1, .int), (c3, .long), (c4, .long), (c5, .long)]) [0, 1, 2, 3] rfl
      have hFc := va_free (wc := [(h0, .inr (0, [.ref a1, .int (nI nn), .int (nI li), .ref a3, .ref a4, .ref a5])), (a1, .inl (c1, 32, .inl fw)), (a3, .inl (c3, 16, .inr (.inl fs))), (a4, .inl (c4, 32, .inr (.inl g))), (a5, .inl (c5, 16, .inr (.inl h2)))]) hD hS hA [0, 1, 2, 3, 4] rfl
      refine va_calli (va_runV (As := [.int (nI (tc_cnt nn tt / 2))]) (rest := []) ⟨hx, hb, hml, hown, hts⟩ (c_X0_mergeLettersAndPairs l dC dI h0 a1 a3 a4 a5 c1 c3 c4 c5 (nI li) fw fs g h2 H.size nn (tc_cnt nn tt / 2) (2 ^ (31 + (tt + 1))) ss (tc_pr C) hn16 (by omega) (by omega) hpm (fun j hj => ⟨(hfs j hj).1, by have := (hfs j hj).2; omega⟩) (fun j hj => ⟨hu1 j hj, by
        have h1 := (hg (2 * j) (by omega)).2
        have h2 := (hg (2 * j + 1) (by omega)).2
        show C (2 * j) + C (2 * j + 1) < _
        omega⟩) hst.1 (tc_pr_asc hC.1 (by omega))) (cwV 1 hts gX0_least_X0_mergeLettersAndPairs rfl rfl rfl (by decide +kernel) ⟨hfr, Nat.le_trans (Nat.le_of_ble_eq_true rfl) hlo⟩) ⟨fun a U g mk q => by obtain ⟨q0, q1, qP, qK, qD⟩ := q; exact ⟨q0, q1, qP, va_K.moved (u := U) (U := U.calling g mk a) (Vm.Alike.refl U.vm) qK, qD⟩, va_recv hKc hPc (ci := 0) (q0 := 0) rfl rfl, fun U hU hW => ⟨rfl, by rw [hU], by rw [hU]; exact hPc, va_K.moved hW.alike hKc, hDc.weaken (fun _ _ _ _ => trivial)⟩⟩ rfl rfl hl.1 rfl (lv_room (Nat.le_of_ble_eq_true rfl)) dX0_least_40 ⟨(Nat.zero_le _), (Nat.zero_le _)⟩) hS (fun q _ h => hFc q h) hFc (fun r2 u t H1 locs ht hvm hw hB hz1 hk1 hS => ?_)
      obtain ⟨g2, eg2⟩ : ∃ z, z = u := ⟨_, rfl⟩
      rw [← eg2] at hw hB
      obtain ⟨hP1, hK1, hD1⟩ := hB
      rw [ht] at hP1
      have hK1 := va_K.moved hvm.symm hK1
      obtain ⟨hP, hD⟩ := va_join (wr := []) (w1 := [(h0, .inr (0, [.ref a1, .int (nI nn), .int (nI li), .ref a3, .ref a4, .ref a5])), (a1, .inl (c1, 32, .inl fw)), (a3, .inl (c3, 16, .inr (.inl fs))), (a4, .inl (c4, 32, .inr (.inl g2))), (a5, .inl (c5, 16, .inr (.inl h2)))]) hP hD [0, 1, 2, 3, 4] [] rfl rfl (by decide) (by decide) hk1 hFc hP1 hD1
      generalize H1 = H at hP hS ⊢
      have hP : va_P (dC, dI) vwCl [(h0, .inr (0, [.ref a1, .int (nI nn), .int (nI li), .ref a3, .ref a4, .ref a5])), (a1, .inl (c1, 32, .inl fw)), (a3, .inl (c3, 16, .inr (.inl fs))), (a4, .inl (c4, 32, .inr (.inl g2))), (a5, .inl (c5, 16, .inr (.inl h2)))] H := hP
      have hD : va_D A [(h0, .inr (0, [.ref a1, .int (nI nn), .int (nI li), .ref a3, .ref a4, .ref a5])), (a1, .inl (c1, 32, .inl fw)), (a3, .inl (c3, 16, .inr (.inl fs))), (a4, .inl (c4, 32, .inr (.inl g2))), (a5, .inl (c5, 16, .inr (.inl h2)))] := hD
      obtain ⟨hr2, x, y, C2, hmi, hg2⟩ := hw
      subst hr2
      refine lv_istore_n (lv' := [(1, .int (nI (nn + tc_cnt nn tt / 2))), (3, .int (nI (tc_cnt nn tt / 2))), (2, .int (nI (li - tt))), (0, .ref h0)]) hx hb dX0_least_43 rfl hl (by decide) rfl (fun ls hl => ?_)
      refine lv_iinc (v := nI ((li - tt) - 1)) (lv' := [(2, .int (nI ((li - tt) - 1))), (1, .int (nI (nn + tc_cnt nn tt / 2))), (3, .int (nI (tc_cnt nn tt / 2))), (0, .ref h0)]) hx hb dX0_least_44 hl (k := 2) rfl (tn_m1 (by omega)) (by decide) rfl (fun ls hl => ?_)
      refine lv_goto (tgt := 28) hx hb dX0_least_47 (by decide) ?_
      have e : li - tt - 1 = li - (tt + 1) := by omega
      rw [e] at hl
      exact ih (tt + 1) C2 g2 h2 H locs ls (by omega) (by omega) (tc_lev_s hst.1 hC hmi) hg2 hP hD hS (lv_sub hl [1, 0, 3] rfl)
set_option maxHeartbeats 4000000 in
set_option maxRecDepth 100000 in
/-- least() -/
theorem c_X0_least (l : Launch) (dC : Nat → ClassId) (dI : Nat → Nat → Nat) (h0 a1 a3 a4 a5 : Nat) (c1 c3 c4 c5 : ClassId) (fw : Nat → Int32) (fs fc fp : Nat → Int64) (sz : Nat) (nn li : Nat) (w : Nat → Nat) (hn2 : 2 ≤ nn) (hn16 : nn ≤ 16) (hli : li < 16) (hfw : ∀ j, j < 32 → fw j = nI (w j)) (hw31 : ∀ j, w j < 2 ^ 31) : Met l yX0_least wsX0_least ({ frames := 2, cells := 0, slots := 0, locals := 51 }) (va_Pc [.ref h0] (fun U => U.heap.size = sz ∧ va_P (dC, dI) vwCl [(h0, .inr (0, [.ref a1, .int (nI nn), .int (nI li), .ref a3, .ref a4, .ref a5])), (a1, .inl (c1, 32, .inl fw)), (a3, .inl (c3, 16, .inr (.inl fs))), (a4, .inl (c4, 32, .inr (.inl fc))), (a5, .inl (c5, 16, .inr (.inl fp)))] U.heap ∧ va_K (dC, dI) vwCl [(c1, .int), (c3, .long), (c4, .long), (c5, .long)] U ∧ va_D (fun _ => True) [(h0, .inr (0, [.ref a1, .int (nI nn), .int (nI li), .ref a3, .ref a4, .ref a5])), (a1, .inl (c1, 32, .inl fw)), (a3, .inl (c3, 16, .inr (.inl fs))), (a4, .inl (c4, 32, .inr (.inl fc))), (a5, .inl (c5, 16, .inr (.inl fp)))])) (va_Ql (fun (r : Int64) (_ : (Nat → Int64) × (Nat → Int64) × (Nat → Int64)) => (2 ^ li < nn ∧ r = -1) ∨ (nn ≤ 2 ^ li ∧ ∃ ss C : Nat → Nat, tc_srt w ss nn ∧ tc_lev ss nn li C ∧ r = lN (tc_sum C (2 * nn - 2)))) (fun (u : (Nat → Int64) × (Nat → Int64) × (Nat → Int64)) (t : State) => va_P (dC, dI) vwCl [(h0, .inr (0, [.ref a1, .int (nI nn), .int (nI li), .ref a3, .ref a4, .ref a5])), (a1, .inl (c1, 32, .inl fw)), (a3, .inl (c3, 16, .inr (.inl (u.1)))), (a4, .inl (c4, 32, .inr (.inl (u.2.1)))), (a5, .inl (c5, 16, .inr (.inl (u.2.2))))] t.heap ∧ va_K (dC, dI) vwCl [(c1, .int), (c3, .long), (c4, .long), (c5, .long)] t ∧ va_D (va_A [(h0, .inr (0, [.ref a1, .int (nI nn), .int (nI li), .ref a3, .ref a4, .ref a5])), (a1, .inl (c1, 32, .inl fw)), (a3, .inl (c3, 16, .inr (.inl fs))), (a4, .inl (c4, 32, .inr (.inl fc))), (a5, .inl (c5, 16, .inr (.inl fp)))] sz) [(h0, .inr (0, [.ref a1, .int (nI nn), .int (nI li), .ref a3, .ref a4, .ref a5])), (a1, .inl (c1, 32, .inl fw)), (a3, .inl (c3, 16, .inr (.inl (u.1)))), (a4, .inl (c4, 32, .inr (.inl (u.2.1)))), (a5, .inl (c5, 16, .inr (.inl (u.2.2))))]) (va_A [(h0, .inr (0, [.ref a1, .int (nI nn), .int (nI li), .ref a3, .ref a4, .ref a5])), (a1, .inl (c1, 32, .inl fw)), (a3, .inl (c3, 16, .inr (.inl fs))), (a4, .inl (c4, 32, .inr (.inl fc))), (a5, .inl (c5, 16, .inr (.inl fp)))] sz)) 0 0 (va_A [(h0, .inr (0, [.ref a1, .int (nI nn), .int (nI li), .ref a3, .ref a4, .ref a5])), (a1, .inl (c1, 32, .inl fw)), (a3, .inl (c3, 16, .inr (.inl fs))), (a4, .inl (c4, 32, .inr (.inl fc))), (a5, .inl (c5, 16, .inr (.inl fp)))] sz) := by
  refine Met.ofW (cc := cX0_least) (maxL := 4) (ret := (some .long)) (by decide) rfl ?_
  intro p e s m args below meth c s₁ B hml hv
  obtain ⟨rfl, hsz, hP, hK, hD0⟩ := hv
  have hx := B.exec
  have hb := B.bytes
  have hr := B.returns
  have hts := atoms_spec (ws := wsX0_least) B.pre
  have hown : s.vm.findClass RX0 = some m.cls := findClass_of_methodNamed B.named
  have hlocks := B.notSynchronized
  subst hsz
  have hD := hD0.self (sz := s.heap.size)
  generalize hAe : va_A [(h0, .inr (0, [.ref a1, .int (nI nn), .int (nI li), .ref a3, .ref a4, .ref a5])), (a1, .inl (c1, 32, .inl fw)), (a3, .inl (c3, 16, .inr (.inl fs))), (a4, .inl (c4, 32, .inr (.inl fc))), (a5, .inl (c5, 16, .inr (.inl fp)))] s.heap.size = A at hD ⊢
  have hA : ∀ q : Nat, s.heap.size ≤ q → A q := fun q h => by rw [← hAe]; exact Or.inr h
  have hS : va_S A s.heap s.heap [] := va_S.rf
  have hP : va_P (dC, dI) vwCl [(h0, .inr (0, [.ref a1, .int (nI nn), .int (nI li), .ref a3, .ref a4, .ref a5])), (a1, .inl (c1, 32, .inl fw)), (a3, .inl (c3, 16, .inr (.inl fs))), (a4, .inl (c4, 32, .inr (.inl fc))), (a5, .inl (c5, 16, .inr (.inl fp)))] s.heap := hP
  have hl := lv_entry ([.ref h0]) (n := 4) (Nat.le_of_ble_eq_true rfl)
  rw [lg_entry_eq]
  generalize (lg_sl ([.ref h0]) ++ List.replicate (4 - (lg_sl ([.ref h0])).length) Slot.unset).toArray = ls at hl ⊢
  have hl : lv_has ls 4 [(0, .ref h0)] := hl
  have hp16 : (2 : Nat) ^ li ≤ 2 ^ 15 := Nat.pow_le_pow_right (by decide) (by omega)
  refine lv_iconst (v := nI 1) hx hb dX0_least_0 (by decide) ?_
  refine lv_aload_n hx hb dX0_least_1 rfl (lv_at hl 0 rfl) ?_
  refine va_get (D := (dC, dI)) (ci := 0) (v := .int (nI li)) (C := RX0) (T := TX0) (N := 6) hx hb hts hinX0_least hown hK hP 0 rfl rfl 2 (by decide) (hts _ mmX0_least_0) (fun _ h9 => h9) rfl dX0_least_2 ?_
  refine lv_ishl hx hb dX0_least_5 ?_
  refine tw_i (nI (2 ^ li)) (tn_shl hli) ?_
  refine lv_aload_n hx hb dX0_least_6 rfl (lv_at hl 0 rfl) ?_
  refine va_get (D := (dC, dI)) (ci := 0) (v := .int (nI nn)) (C := RX0) (T := TX0) (N := 6) hx hb hts hinX0_least hown hK hP 0 rfl rfl 1 (by decide) (hts _ mmX0_least_1) (fun _ h9 => h9) rfl dX0_least_7 ?_
  refine tw_icmp_ge hx hb (2 ^ li) nn (tgt := 17) dX0_least_10 (by decide) (by omega) (by omega) (fun hc => ?_) (fun hc => ?_)
  · refine lv_aload_n hx hb dX0_least_17 rfl (lv_at hl 0 rfl) ?_
    have hPc := hP.sub (ws' := [(h0, .inr (0, [.ref a1, .int (nI nn), .int (nI li), .ref a3, .ref a4, .ref a5])), (a1, .inl (c1, 32, .inl fw)), (a3, .inl (c3, 16, .inr (.inl fs))), (a4, .inl (c4, 32, .inr (.inl fc))), (a5, .inl (c5, 16, .inr (.inl fp)))]) [0, 1, 2, 3, 4] rfl
    have hDc := hD.sub (ws' := [(h0, .inr (0, [.ref a1, .int (nI nn), .int (nI li), .ref a3, .ref a4, .ref a5])), (a1, .inl (c1, 32, .inl fw)), (a3, .inl (c3, 16, .inr (.inl fs))), (a4, .inl (c4, 32, .inr (.inl fc))), (a5, .inl (c5, 16, .inr (.inl fp)))]) [0, 1, 2, 3, 4] (by decide) rfl
    have hKc := hK.sub (tys' := [(c1, .int), (c3, .long), (c4, .long), (c5, .long)]) [0, 1, 2, 3] rfl
    have hFc := va_free (wc := [(h0, .inr (0, [.ref a1, .int (nI nn), .int (nI li), .ref a3, .ref a4, .ref a5])), (a1, .inl (c1, 32, .inl fw)), (a3, .inl (c3, 16, .inr (.inl fs))), (a4, .inl (c4, 32, .inr (.inl fc))), (a5, .inl (c5, 16, .inr (.inl fp)))]) hD hS hA [0, 1, 2, 3, 4] rfl
    refine va_callv (va_runV (As := []) (rest := []) ⟨hx, hb, hml, hown, hts⟩ (c_X0_sortWeights l dC dI h0 a1 a3 a4 a5 c1 c3 c4 c5 (nI li) fw fs fc fp s.heap.size nn w hn16 hfw hw31) (cwV 0 hts gX0_least_X0_sortWeights rfl rfl rfl (by decide +kernel) ⟨Nat.le_of_ble_eq_true rfl, Nat.le_of_ble_eq_true rfl⟩) ⟨fun a U g mk q => by obtain ⟨q0, q1, qP, qK, qD⟩ := q; exact ⟨q0, q1, qP, va_K.moved (u := U) (U := U.calling g mk a) (Vm.Alike.refl U.vm) qK, qD⟩, va_recv hKc hPc (ci := 0) (q0 := 0) rfl rfl, fun U hU hW => ⟨rfl, by rw [hU], by rw [hU]; exact hPc, va_K.moved hW.alike hKc, hDc.weaken (fun _ _ _ _ => trivial)⟩⟩ rfl rfl hl.1 rfl (lv_room (Nat.le_of_ble_eq_true rfl)) dX0_least_18 ⟨(Nat.zero_le _), (Nat.zero_le _)⟩) hS (fun q _ h => hFc q h) hFc (fun u t H1 locs ht hvm hw hB hz1 hk1 hS => ?_)
    obtain ⟨f2, ef2⟩ : ∃ z, z = u := ⟨_, rfl⟩
    rw [← ef2] at hw hB
    obtain ⟨hP1, hK1, hD1⟩ := hB
    rw [ht] at hP1
    have hK1 := va_K.moved hvm.symm hK1
    obtain ⟨hP, hD⟩ := va_join (wr := []) (w1 := [(h0, .inr (0, [.ref a1, .int (nI nn), .int (nI li), .ref a3, .ref a4, .ref a5])), (a1, .inl (c1, 32, .inl fw)), (a3, .inl (c3, 16, .inr (.inl f2))), (a4, .inl (c4, 32, .inr (.inl fc))), (a5, .inl (c5, 16, .inr (.inl fp)))]) hP hD [0, 1, 2, 3, 4] [] rfl rfl (by decide) (by decide) hk1 hFc hP1 hD1
    generalize H1 = H at hP hS ⊢
    have hP : va_P (dC, dI) vwCl [(h0, .inr (0, [.ref a1, .int (nI nn), .int (nI li), .ref a3, .ref a4, .ref a5])), (a1, .inl (c1, 32, .inl fw)), (a3, .inl (c3, 16, .inr (.inl f2))), (a4, .inl (c4, 32, .inr (.inl fc))), (a5, .inl (c5, 16, .inr (.inl fp)))] H := hP
    have hD : va_D A [(h0, .inr (0, [.ref a1, .int (nI nn), .int (nI li), .ref a3, .ref a4, .ref a5])), (a1, .inl (c1, 32, .inl fw)), (a3, .inl (c3, 16, .inr (.inl f2))), (a4, .inl (c4, 32, .inr (.inl fc))), (a5, .inl (c5, 16, .inr (.inl fp)))] := hD
    obtain ⟨ss, hst, hf2⟩ := hw
    refine lv_iconst (v := nI 0) hx hb dX0_least_21 (by decide) ?_
    refine lv_istore_n (lv' := [(1, .int (nI 0)), (0, .ref h0)]) hx hb dX0_least_22 rfl hl (by decide) rfl (fun ls hl => ?_)
    refine lv_aload_n hx hb dX0_least_23 rfl (lv_at hl 1 rfl) ?_
    refine va_get (D := (dC, dI)) (ci := 0) (v := .int (nI li)) (C := RX0) (T := TX0) (N := 6) hx hb hts hinX0_least hown hK hP 0 rfl rfl 2 (by decide) (hts _ mmX0_least_0) (fun _ h9 => h9) rfl dX0_least_24 ?_
    refine lv_istore_n (lv' := [(2, .int (nI li)), (1, .int (nI 0)), (0, .ref h0)]) hx hb dX0_least_27 rfl hl (by decide) rfl (fun ls hl => ?_)
    refine lp_X0_least hx hb hml hown hts hA (Nat.le_of_ble_eq_true rfl) (Nat.le_of_ble_eq_true rfl) h0 a1 a3 a4 a5 c1 c3 c4 c5 fw f2 nn li w ss hn2 hn16 hli hst hf2 hK ?_ (li + 1) 0 (fun _ => 0) fc fp H locs ls (by omega) (Nat.zero_le _) (tc_lev_0 _ _ _) (fun j hj => absurd hj (Nat.not_lt_zero _)) hP hD hS (lv_sub hl [1, 0, 2] rfl)
    intro C g hh H locs ls hC hg hP hD hS hl
    have hroom := tc_cnt_room (n := nn) li 2 (by omega)
    refine lv_aload_n hx hb dX0_least_50 rfl (lv_at hl 0 rfl) ?_
    refine lv_iconst (v := nI 2) hx hb dX0_least_51 (by decide) ?_
    refine lv_aload_n hx hb dX0_least_52 rfl (lv_at hl 0 rfl) ?_
    refine va_get (D := (dC, dI)) (ci := 0) (v := .int (nI nn)) (C := RX0) (T := TX0) (N := 6) hx hb hts hinX0_least hown hK hP 0 rfl rfl 1 (by decide) (hts _ mmX0_least_1) (fun _ h9 => h9) rfl dX0_least_53 ?_
    refine lv_imul hx hb dX0_least_56 ?_
    refine tw_i (nI (2 * nn)) (pk_mul _ _) ?_
    refine lv_iconst (v := nI 2) hx hb dX0_least_57 (by decide) ?_
    refine lv_isub hx hb dX0_least_58 ?_
    refine tw_i (nI ((2 * nn) - 2)) (pk_sub (by omega)) ?_
    have hPc := hP.sub (ws' := [(h0, .inr (0, [.ref a1, .int (nI nn), .int (nI li), .ref a3, .ref a4, .ref a5])), (a1, .inl (c1, 32, .inl fw)), (a3, .inl (c3, 16, .inr (.inl f2))), (a4, .inl (c4, 32, .inr (.inl g))), (a5, .inl (c5, 16, .inr (.inl hh)))]) [0, 1, 2, 3, 4] rfl
    have hDc := hD.sub (ws' := [(h0, .inr (0, [.ref a1, .int (nI nn), .int (nI li), .ref a3, .ref a4, .ref a5])), (a1, .inl (c1, 32, .inl fw)), (a3, .inl (c3, 16, .inr (.inl f2))), (a4, .inl (c4, 32, .inr (.inl g))), (a5, .inl (c5, 16, .inr (.inl hh)))]) [0, 1, 2, 3, 4] (by decide) rfl
    have hKc := hK.sub (tys' := [(c1, .int), (c3, .long), (c4, .long), (c5, .long)]) [0, 1, 2, 3] rfl
    have hFc := va_free (wc := [(h0, .inr (0, [.ref a1, .int (nI nn), .int (nI li), .ref a3, .ref a4, .ref a5])), (a1, .inl (c1, 32, .inl fw)), (a3, .inl (c3, 16, .inr (.inl f2))), (a4, .inl (c4, 32, .inr (.inl g))), (a5, .inl (c5, 16, .inr (.inl hh)))]) hD hS hA [0, 1, 2, 3, 4] rfl
    refine va_calll (va_runV (As := [.int (nI ((2 * nn) - 2))]) (rest := []) ⟨hx, hb, hml, hown, hts⟩ (c_X0_costOfCheapest l dC dI h0 a1 a3 a4 a5 c1 c3 c4 c5 (nI nn) (nI li) fw f2 g hh H.size (2 * nn - 2) C (by omega) (fun j hj => (hg j (by omega)).1)) (cwV 1 hts gX0_least_X0_costOfCheapest rfl rfl rfl (by decide +kernel) ⟨Nat.le_of_ble_eq_true rfl, Nat.le_of_ble_eq_true rfl⟩) ⟨fun a U g mk q => by obtain ⟨q0, q1, qP, qK, qD⟩ := q; exact ⟨q0, q1, qP, va_K.moved (u := U) (U := U.calling g mk a) (Vm.Alike.refl U.vm) qK, qD⟩, va_recv hKc hPc (ci := 0) (q0 := 0) rfl rfl, fun U hU hW => ⟨rfl, by rw [hU], by rw [hU]; exact hPc, va_K.moved hW.alike hKc, hDc.weaken (fun _ _ _ _ => trivial)⟩⟩ rfl rfl hl.1 rfl (lv_room (Nat.le_of_ble_eq_true rfl)) dX0_least_59 ⟨(Nat.zero_le _), (Nat.zero_le _)⟩) hS (fun q _ h => hFc q h) hFc (fun r1 u t H1 locs ht hvm hw hB hz1 hk1 hS => ?_)
    obtain ⟨hP1, hK1, hD1⟩ := hB
    rw [ht] at hP1
    have hK1 := va_K.moved hvm.symm hK1
    obtain ⟨hP, hD⟩ := va_join (wr := []) (w1 := [(h0, .inr (0, [.ref a1, .int (nI nn), .int (nI li), .ref a3, .ref a4, .ref a5])), (a1, .inl (c1, 32, .inl fw)), (a3, .inl (c3, 16, .inr (.inl f2))), (a4, .inl (c4, 32, .inr (.inl g))), (a5, .inl (c5, 16, .inr (.inl hh)))]) hP hD [0, 1, 2, 3, 4] [] rfl rfl (by decide) (by decide) hk1 hFc hP1 hD1
    generalize H1 = H at hP hS ⊢
    have hP : va_P (dC, dI) vwCl [(h0, .inr (0, [.ref a1, .int (nI nn), .int (nI li), .ref a3, .ref a4, .ref a5])), (a1, .inl (c1, 32, .inl fw)), (a3, .inl (c3, 16, .inr (.inl f2))), (a4, .inl (c4, 32, .inr (.inl g))), (a5, .inl (c5, 16, .inr (.inl hh)))] H := hP
    have hD : va_D A [(h0, .inr (0, [.ref a1, .int (nI nn), .int (nI li), .ref a3, .ref a4, .ref a5])), (a1, .inl (c1, 32, .inl fw)), (a3, .inl (c3, 16, .inr (.inl f2))), (a4, .inl (c4, 32, .inr (.inl g))), (a5, .inl (c5, 16, .inr (.inl hh)))] := hD
    subst hw
    exact W.lret (v := lN (tc_sum C (2 * nn - 2))) hx hb hr (fun t ht hW => ⟨⟨lN (tc_sum C (2 * nn - 2)), (f2, g, hh), rfl, Or.inr ⟨hc, ss, C, hst, hC, rfl⟩, by rw [ht]; exact hP, va_K.moved hW.alike hK, hD⟩, hS.F ht⟩) hS.2.2 dX0_least_62
  · refine lv_ldc2 hx hb hown (hts _ mmX0_least_2) dX0_least_13 ?_
    exact W.lret (v := -1) hx hb hr (fun t ht hW => ⟨⟨-1, (fs, fc, fp), rfl, Or.inl ⟨hc, rfl⟩, by rw [ht]; exact hP, va_K.moved hW.alike hK, hD⟩, hS.F ht⟩) hS.2.2 dX0_least_16
