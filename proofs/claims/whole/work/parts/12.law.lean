/-! THE CLAIM OUT OF ONE WALK OF THE LAW'S BODY. Your part is whole_start (and what it stands on); all else here is the same for every law, but numbers. -/
def R_law : String := "TrimCodesLaw"
def lw_P (b : Addr) (xs : List Int32) (args : Array Value) (s : State) : Prop := args = #[.ref b] ∧ s.IntsAt b xs ∧ xs.length ≤ 384 ∧ (Jvm.Cond.and given_1 narrow_1).before args s = true
def lw_Q (_ : Array Value) (s : State) (o : Outcome) (t : State) : Prop := o = .returned (some (.int 1)) ∧ Framed s o t [] 10 750
def lw_Z (below : List Frame) (a : Array Value) (s : State) : State → Prop := fun t => ∃ o, t.status = .running ∧ Ended t below o ∧ lw_Q a s o t
/-- the law's own end, with 1 on the stack, nothing written that was there before, its room as the claim has it -/
theorem lw_ret {p : Program} {l : Launch} {e : Env} {s : State} {m : MethodId} {below : List Frame} {meth : Method} {c : Code} {b : Nat} (hx : p.tables.exec = Jvm.exec) (hb : c.code = code) (hr : meth.sig.returnType = ret) (hlocks : meth.locks = false) {pc : Nat} {H : Heap} {ls : Array Slot} (hdg : decode code pc = .ok (.ireturn, 1)) : W p l e room_1 s m #[Value.ref b] below meth c H [] 10 750 (lw_Z below #[Value.ref b] s) (F0 m pc ls [.int 1]) := by
  intro T hT X
  obtain ⟨fs, hret, hrun, hended, hW, hframe⟩ := X.leave (v := some (.int 1)) (hlocks := hlocks) (fun h => by rw [hr] at h; cases h)
  have hmeth' : T.vm.method? m = some meth := X.method'
  refine ⟨T.setFrames fs, ?_, .returned (some (.int 1)), hrun, hended, rfl, ⟨_, rfl⟩, hW, hframe⟩
  jvm_step X.here [X.here.top, hx, hb, hdg, hmeth', hr, ret, narrow_b1]
  (try refine ⟨rfl, ?_⟩); (try refine ⟨rfl, ?_⟩)
  first | (intro acts; rw [hret _ acts rfl rfl rfl]) | rw [hret _ _ rfl rfl rfl]
  exact Steps.refl _
/-- what holds at the law's entry: the machine, the code, the tables' words (any of lw_tbl by 'hts w (by decide +kernel)'), the script of L ints xs at the cell b, what the Statement gives of the start (any of its parts by flat_of_before) -/
def lw_At (p : Program) (s : State) (m : MethodId) (meth : Method) (c : Code) (b L : Nat) (xs : Nat → Int32) : Prop :=
  p.tables.exec = Jvm.exec ∧ c.code = code ∧ meth.sig.returnType = ret ∧ c.maxLocals = 4 ∧ s.vm.findClass R_law = some m.cls ∧ (∀ w ∈ lw_tbl, w.before #[Value.ref b] s = true) ∧ va_X b L xs s s.heap ∧ b < s.heap.size ∧ meth.locks = false ∧ (Jvm.Cond.and given_1 narrow_1).before #[Value.ref b] s = true
/-- both answers are one -/
theorem tc_final {nn li : Nat} {w : Nat → Nat} {r1 r2 : Int64} (hn2 : 2 ≤ nn) (hn16 : nn ≤ 16)
    (h1 : (2 ^ li < nn ∧ r1 = -1) ∨ (nn ≤ 2 ^ li ∧ ∃ ss C : Nat → Nat, tc_srt w ss nn ∧ tc_lev ss nn li C ∧ r1 = lN (tc_sum C (2 * nn - 2))))
    (h2 : (2 ^ li < nn ∧ r2 = -1) ∨ (nn ≤ 2 ^ li ∧ ∃ o : Nat → Nat, tc_ord w o nn ∧ tc_mo (tc_ans (fun i => w (o i)) nn (li + 1)) r2)) : r1 = r2 := by
  rcases h1 with ⟨a1, a2⟩ | ⟨a1, ss, C, a2, a3, a4⟩
  · rcases h2 with ⟨b1, b2⟩ | ⟨b1, -⟩
    · rw [a2, b2]
    · exact absurd b1 (Nat.not_le.mpr a1)
  · rcases h2 with ⟨b1, -⟩ | ⟨b1, o, b2, b3⟩
    · exact absurd a1 (Nat.not_le.mpr b1)
    · obtain ⟨g1, g2⟩ := tc_same hn2 hn16 a1 (tc_link a2 b2) a3
      rcases b3 with ⟨-, c2⟩ | ⟨c, c1, c2, c3, c4⟩
      · exact absurd g1 (c2 _)
      · have e : c = tc_sum C (2 * nn - 2) := Nat.le_antisymm (c4 _ g1) (g2 _ c3)
        rw [a4, c2, e]
theorem tn_upd {f : Nat → Int32} {w : Nat → Nat} (h : ∀ j, j < 32 → f j = nI (w j)) (k x : Nat) : ∀ j, j < 32 → upd f k (nI x) j = nI (tc_up w k x j) := by
  intro j hj
  by_cases hjk : j = k
  · subst hjk; rw [pk_us, tc_up_at]
  · rw [pk_un hjk, tc_up_ne _ _ hjk]; exact h j hj
theorem tn_upd31 {w : Nat → Nat} (h : ∀ j, w j < 2 ^ 31) (k : Nat) {x : Nat} (hx : x < 2 ^ 31) : ∀ j, tc_up w k x j < 2 ^ 31 := by
  intro j
  by_cases hjk : j = k
  · subst hjk; rw [tc_up_at]; exact hx
  · rw [tc_up_ne _ _ hjk]; exact h j
theorem tn_wt_ok {f : Nat → Int32} {w : Nat → Nat} (h : ∀ j, j < 32 → f j = nI (w j)) (h31 : ∀ j, w j < 2 ^ 31) (i a b c d : Int32) : ∃ w' : Nat → Nat, (∀ j, j < 32 → tn_wt f i a b c d j = nI (w' j)) ∧ ∀ j, w' j < 2 ^ 31 :=
  ⟨_, tn_upd (tn_upd (tn_upd (tn_upd h _ _) _ _) _ _) _ _, tn_upd31 (tn_upd31 (tn_upd31 (tn_upd31 h31 _ (tn_k_lt _)) _ (tn_k_lt _)) _ (tn_k_lt _)) _ (tn_k_lt _)⟩
theorem tn_q4 (x : Int32) : ∃ q : Nat, q < 4 ∧ x &&& nI 3 = nI q := pk_andE x 2 (by decide)
theorem tn_room6 {L i : Nat} (hL : L ≤ 384) (hi : i ≤ 400) (h : ¬ nI L - nI 6 < nI i) : i + 6 ≤ L := by
  rw [Int32.lt_iff_toInt_lt, pk_sub_toInt (by omega) (by decide), nI_toInt (by omega)] at h
  omega
theorem mmL_law_0 : Cond.instantiable RX0 6 ∈ wsL_law := by decide +kernel
theorem mmL_law_1 : Cond.instantiable RX1 6 ∈ wsL_law := by decide +kernel
theorem mmL_law_2 : Cond.classLink RL 7 RX0 ∈ wsL_law := by decide +kernel
theorem mmL_law_3 : Cond.initialized RX0 ∈ wsL_law := by decide +kernel
theorem mmL_law_4 : Cond.methodLink RL 9 yX0_init ∈ wsL_law := by decide +kernel
theorem mmL_law_5 : Cond.instanceMethod yX0_init ∈ wsL_law := by decide +kernel
theorem mmL_law_6 : Cond.classLink RL 10 RX1 ∈ wsL_law := by decide +kernel
theorem mmL_law_7 : Cond.initialized RX1 ∈ wsL_law := by decide +kernel
theorem mmL_law_8 : Cond.methodLink RL 12 yX1_init ∈ wsL_law := by decide +kernel
theorem mmL_law_9 : Cond.instanceMethod yX1_init ∈ wsL_law := by decide +kernel
set_option maxHeartbeats 4000000 in
set_option maxRecDepth 100000 in
/-- THE LAW'S LOOP: class and reference hold the same numbers and weights -/
theorem law_loop {p : Program} {l : Launch} {e : Env} {s : State} {m : MethodId} {below : List Frame} {meth : Method} {c : Code} {dC : Nat → ClassId} {dI : Nat → Nat → Nat} {b L : Nat} {xs : Nat → Int32} (hL : L ≤ 384) (C0 : lw_At p s m meth c b L xs) (h0 a1 a3 a4 a5 g0 b1 b4 b5 b6 : Nat) (c1 c3 c4 c5 d1 d4 d5 d6 : ClassId) (hK : va_K (dC, dI) vwCl [(c1, .int), (c3, .long), (c4, .long), (c5, .long), (d1, .int), (d4, .long), (d5, .long), (d6, .int)] s) :
    ∀ (fu i nn li : Nat) (w : Nat → Nat) (fw : Nat → Int32) (fs fc fp fb fx : Nat → Int64) (fo : Nat → Int32) (H : Heap) (locs : List Loc) (ls : Array Slot), L + 6 - i < fu → i ≤ L + 5 → 2 ≤ nn → nn ≤ 16 → li < 16 → (∀ j, j < 32 → fw j = nI (w j)) → (∀ j, w j < 2 ^ 31) → va_P (dC, dI) vwCl [(h0, .inr (0, [.ref a1, .int (nI nn), .int (nI li), .ref a3, .ref a4, .ref a5])), (a1, .inl (c1, 32, .inl fw)), (a3, .inl (c3, 16, .inr (.inl fs))), (a4, .inl (c4, 32, .inr (.inl fc))), (a5, .inl (c5, 16, .inr (.inl fp))), (g0, .inr (1, [.ref b1, .int (nI nn), .int (nI li), .ref b4, .ref b5, .ref b6])), (b1, .inl (d1, 32, .inl fw)), (b4, .inl (d4, 289, .inr (.inl fb))), (b5, .inl (d5, 289, .inr (.inl fx))), (b6, .inl (d6, 32, .inl fo))] H → va_D (fun q : Nat => s.heap.size ≤ q) [(h0, .inr (0, [.ref a1, .int (nI nn), .int (nI li), .ref a3, .ref a4, .ref a5])), (a1, .inl (c1, 32, .inl fw)), (a3, .inl (c3, 16, .inr (.inl fs))), (a4, .inl (c4, 32, .inr (.inl fc))), (a5, .inl (c5, 16, .inr (.inl fp))), (g0, .inr (1, [.ref b1, .int (nI nn), .int (nI li), .ref b4, .ref b5, .ref b6])), (b1, .inl (d1, 32, .inl fw)), (b4, .inl (d4, 289, .inr (.inl fb))), (b5, .inl (d5, 289, .inr (.inl fx))), (b6, .inl (d6, 32, .inl fo))] → va_S (fun q : Nat => s.heap.size ≤ q) s.heap H locs → lv_has ls 4 [(3, .int (nI i)), (0, .ref b), (1, .ref h0), (2, .ref g0)] → W p l e room_1 s m #[Value.ref b] below meth c H locs 10 750 (lw_Z below #[Value.ref b] s) (F0 m 18 ls []) := by
  obtain ⟨hx, hb, hr, hml, hown, hts0, hX, hbl, hlocks, hgv⟩ := C0
  have hts : ∀ w ∈ wsL_law, w.before #[Value.ref b] s = true := fun w h => hts0 w (wsL_law_in w h)
  have hA : ∀ q : Nat, s.heap.size ≤ q → (fun q : Nat => s.heap.size ≤ q) q := fun _ h => h
  have hbA : ¬ (fun q : Nat => s.heap.size ≤ q) b := Nat.not_le.mpr hbl
  intro fu
  induction fu with
  | zero =>
    intro i nn li w fw fs fc fp fb fx fo H locs ls hfu
    exact absurd hfu (Nat.not_lt_zero _)
  | succ fu ih =>
    intro i nn li w fw fs fc fp fb fx fo H locs ls hfu hi hn2 hn16 hli hfw hw31 hP hD hS hl
    refine lv_iload_n hx hb dL_law_18 rfl (lv_at hl 0 rfl) ?_
    refine lv_aload_n hx hb dL_law_19 rfl (lv_at hl 1 rfl) ?_
    refine va_slen hx hb hX hbl hbA hS dL_law_20 ?_
    refine lv_bipush (v := nI 6) hx hb dL_law_21 (by decide) ?_
    refine lv_isub hx hb dL_law_23 ?_
    refine tw_i (nI L - nI 6) (rfl) ?_
    refine lv_icmp_gt (tgt := 187) hx hb dL_law_24 (by decide) (fun hc => ?_) (fun hc => ?_)
    · refine lv_iconst (v := 1) hx hb dL_law_187 (by decide) ?_
      refine va_forget (fun q hq => hS.2.2 q hq) ?_
      exact lw_ret hx hb hr hlocks dL_law_188
    · have hroom : i + 6 ≤ L := tn_room6 hL (by omega) hc
      refine lv_aload_n hx hb dL_law_27 rfl (lv_at hl 1 rfl) ?_
      refine lv_iload_n hx hb dL_law_28 rfl (lv_at hl 0 rfl) ?_
      refine va_sld hx hb hX hbl hbA hS (vp_in_nI (show i < L by omega) (by omega)) dL_law_29 ?_
      refine tw_i (xs i) (congrArg xs (tn_cl (by omega))) ?_
      refine lv_iconst (v := nI 3) hx hb dL_law_30 (by decide) ?_
      obtain ⟨q, hq4, eq4⟩ := tn_q4 (xs i)
      refine lv_iand hx hb dL_law_31 ?_
      refine tw_i (nI q) (eq4) ?_
      rcases (show q = 0 ∨ q = 1 ∨ q = 2 ∨ q = 3 by omega) with rfl | rfl | rfl | rfl
      · refine lv_tableIn hx hb (off := 32) (tgt := 64) dL_law_32 (by decide) (by decide) (by decide) (by decide) ?_
        refine lv_aload_n hx hb dL_law_64 rfl (lv_at hl 2 rfl) ?_
        refine lv_aload_n hx hb dL_law_65 rfl (lv_at hl 1 rfl) ?_
        refine lv_iload_n hx hb dL_law_66 rfl (lv_at hl 0 rfl) ?_
        refine lv_iconst (v := nI 1) hx hb dL_law_67 (by decide) ?_
        refine lv_iadd hx hb dL_law_68 ?_
        refine tw_i (nI (i + 1)) (nI_add _ _) ?_
        refine va_sld hx hb hX hbl hbA hS (vp_in_nI (show i + 1 < L by omega) (by omega)) dL_law_69 ?_
        refine tw_i (xs (i + 1)) (congrArg xs (tn_cl (by omega))) ?_
        have hPc := hP.sub (ws' := [(h0, .inr (0, [.ref a1, .int (nI nn), .int (nI li), .ref a3, .ref a4, .ref a5])), (a1, .inl (c1, 32, .inl fw)), (a3, .inl (c3, 16, .inr (.inl fs))), (a4, .inl (c4, 32, .inr (.inl fc))), (a5, .inl (c5, 16, .inr (.inl fp)))]) [0, 1, 2, 3, 4] rfl
        have hDc := hD.sub (ws' := [(h0, .inr (0, [.ref a1, .int (nI nn), .int (nI li), .ref a3, .ref a4, .ref a5])), (a1, .inl (c1, 32, .inl fw)), (a3, .inl (c3, 16, .inr (.inl fs))), (a4, .inl (c4, 32, .inr (.inl fc))), (a5, .inl (c5, 16, .inr (.inl fp)))]) [0, 1, 2, 3, 4] (by decide) rfl
        have hKc := hK.sub (tys' := [(c1, .int), (c3, .long), (c4, .long), (c5, .long)]) [0, 1, 2, 3] rfl
        have hFc := va_free (wc := [(h0, .inr (0, [.ref a1, .int (nI nn), .int (nI li), .ref a3, .ref a4, .ref a5])), (a1, .inl (c1, 32, .inl fw)), (a3, .inl (c3, 16, .inr (.inl fs))), (a4, .inl (c4, 32, .inr (.inl fc))), (a5, .inl (c5, 16, .inr (.inl fp)))]) hD hS hA [0, 1, 2, 3, 4] rfl
        refine va_callv (va_runV (As := [.int (xs (i + 1))]) (rest := []) ⟨hx, hb, hml, hown, hts⟩ (c_X0_letters l dC dI h0 a1 a3 a4 a5 c1 c3 c4 c5 (nI nn) (nI li) fw fs fc fp H.size (xs (i + 1))) (cwV 1 hts gL_law_X0_letters rfl rfl rfl (by decide +kernel) ⟨Nat.le_of_ble_eq_true rfl, Nat.le_of_ble_eq_true rfl⟩) ⟨fun a U g mk q => by obtain ⟨q0, q1, qP, qK, qD⟩ := q; exact ⟨q0, q1, qP, va_K.moved (u := U) (U := U.calling g mk a) (Vm.Alike.refl U.vm) qK, qD⟩, va_recv hKc hPc (ci := 0) (q0 := 0) rfl rfl, fun U hU hW => ⟨rfl, by rw [hU], by rw [hU]; exact hPc, va_K.moved hW.alike hKc, hDc.weaken (fun _ _ _ _ => trivial)⟩⟩ rfl rfl hl.1 rfl (lv_room (Nat.le_of_ble_eq_true rfl)) dL_law_70 ⟨Nat.le_of_ble_eq_true rfl, Nat.le_of_ble_eq_true rfl⟩) hS (fun q _ h => hFc q h) hFc (fun u t H1 locs ht hvm hw hB hz1 hk1 hS => ?_)
        subst hw
        obtain ⟨hP1, hK1, hD1⟩ := hB
        rw [ht] at hP1
        have hK1 := va_K.moved hvm.symm hK1
        obtain ⟨hP, hD⟩ := va_join (wr := [(g0, .inr (1, [.ref b1, .int (nI nn), .int (nI li), .ref b4, .ref b5, .ref b6])), (b1, .inl (d1, 32, .inl fw)), (b4, .inl (d4, 289, .inr (.inl fb))), (b5, .inl (d5, 289, .inr (.inl fx))), (b6, .inl (d6, 32, .inl fo))]) (w1 := [(h0, .inr (0, [.ref a1, .int (nI (2 + tn_k (xs (i + 1)) % 15)), .int (nI li), .ref a3, .ref a4, .ref a5])), (a1, .inl (c1, 32, .inl fw)), (a3, .inl (c3, 16, .inr (.inl fs))), (a4, .inl (c4, 32, .inr (.inl fc))), (a5, .inl (c5, 16, .inr (.inl fp)))]) hP hD [0, 1, 2, 3, 4] [5, 6, 7, 8, 9] rfl rfl (by decide) (by decide) hk1 hFc hP1 hD1
        generalize H1 = H at hP hS ⊢
        have hP := hP.sub (ws' := [(h0, .inr (0, [.ref a1, .int (nI (2 + tn_k (xs (i + 1)) % 15)), .int (nI li), .ref a3, .ref a4, .ref a5])), (a1, .inl (c1, 32, .inl fw)), (a3, .inl (c3, 16, .inr (.inl fs))), (a4, .inl (c4, 32, .inr (.inl fc))), (a5, .inl (c5, 16, .inr (.inl fp))), (g0, .inr (1, [.ref b1, .int (nI nn), .int (nI li), .ref b4, .ref b5, .ref b6])), (b1, .inl (d1, 32, .inl fw)), (b4, .inl (d4, 289, .inr (.inl fb))), (b5, .inl (d5, 289, .inr (.inl fx))), (b6, .inl (d6, 32, .inl fo))]) [5, 6, 7, 8, 9, 0, 1, 2, 3, 4] rfl
        have hD := hD.sub (ws' := [(h0, .inr (0, [.ref a1, .int (nI (2 + tn_k (xs (i + 1)) % 15)), .int (nI li), .ref a3, .ref a4, .ref a5])), (a1, .inl (c1, 32, .inl fw)), (a3, .inl (c3, 16, .inr (.inl fs))), (a4, .inl (c4, 32, .inr (.inl fc))), (a5, .inl (c5, 16, .inr (.inl fp))), (g0, .inr (1, [.ref b1, .int (nI nn), .int (nI li), .ref b4, .ref b5, .ref b6])), (b1, .inl (d1, 32, .inl fw)), (b4, .inl (d4, 289, .inr (.inl fb))), (b5, .inl (d5, 289, .inr (.inl fx))), (b6, .inl (d6, 32, .inl fo))]) [5, 6, 7, 8, 9, 0, 1, 2, 3, 4] (by decide) rfl
        refine lv_aload_n hx hb dL_law_73 rfl (lv_at hl 3 rfl) ?_
        refine lv_aload_n hx hb dL_law_74 rfl (lv_at hl 1 rfl) ?_
        refine lv_iload_n hx hb dL_law_75 rfl (lv_at hl 0 rfl) ?_
        refine lv_iconst (v := nI 1) hx hb dL_law_76 (by decide) ?_
        refine lv_iadd hx hb dL_law_77 ?_
        refine tw_i (nI (i + 1)) (nI_add _ _) ?_
        refine va_sld hx hb hX hbl hbA hS (vp_in_nI (show i + 1 < L by omega) (by omega)) dL_law_78 ?_
        refine tw_i (xs (i + 1)) (congrArg xs (tn_cl (by omega))) ?_
        have hPc := hP.sub (ws' := [(g0, .inr (1, [.ref b1, .int (nI nn), .int (nI li), .ref b4, .ref b5, .ref b6])), (b1, .inl (d1, 32, .inl fw)), (b4, .inl (d4, 289, .inr (.inl fb))), (b5, .inl (d5, 289, .inr (.inl fx))), (b6, .inl (d6, 32, .inl fo))]) [5, 6, 7, 8, 9] rfl
        have hDc := hD.sub (ws' := [(g0, .inr (1, [.ref b1, .int (nI nn), .int (nI li), .ref b4, .ref b5, .ref b6])), (b1, .inl (d1, 32, .inl fw)), (b4, .inl (d4, 289, .inr (.inl fb))), (b5, .inl (d5, 289, .inr (.inl fx))), (b6, .inl (d6, 32, .inl fo))]) [5, 6, 7, 8, 9] (by decide) rfl
        have hKc := hK.sub (tys' := [(d1, .int), (d4, .long), (d5, .long), (d6, .int)]) [4, 5, 6, 7] rfl
        have hFc := va_free (wc := [(g0, .inr (1, [.ref b1, .int (nI nn), .int (nI li), .ref b4, .ref b5, .ref b6])), (b1, .inl (d1, 32, .inl fw)), (b4, .inl (d4, 289, .inr (.inl fb))), (b5, .inl (d5, 289, .inr (.inl fx))), (b6, .inl (d6, 32, .inl fo))]) hD hS hA [5, 6, 7, 8, 9] rfl
        refine va_callv (va_runV (As := [.int (xs (i + 1))]) (rest := []) ⟨hx, hb, hml, hown, hts⟩ (c_X1_letters l dC dI g0 b1 b4 b5 b6 d1 d4 d5 d6 (nI nn) (nI li) fw fb fx fo H.size (xs (i + 1))) (cwV 1 hts gL_law_X1_letters rfl rfl rfl (by decide +kernel) ⟨Nat.le_of_ble_eq_true rfl, Nat.le_of_ble_eq_true rfl⟩) ⟨fun a U g mk q => by obtain ⟨q0, q1, qP, qK, qD⟩ := q; exact ⟨q0, q1, qP, va_K.moved (u := U) (U := U.calling g mk a) (Vm.Alike.refl U.vm) qK, qD⟩, va_recv hKc hPc (ci := 1) (q0 := 0) rfl rfl, fun U hU hW => ⟨rfl, by rw [hU], by rw [hU]; exact hPc, va_K.moved hW.alike hKc, hDc.weaken (fun _ _ _ _ => trivial)⟩⟩ rfl rfl hl.1 rfl (lv_room (Nat.le_of_ble_eq_true rfl)) dL_law_79 ⟨Nat.le_of_ble_eq_true rfl, Nat.le_of_ble_eq_true rfl⟩) hS (fun q _ h => hFc q h) hFc (fun u t H1 locs ht hvm hw hB hz1 hk1 hS => ?_)
        subst hw
        obtain ⟨hP1, hK1, hD1⟩ := hB
        rw [ht] at hP1
        have hK1 := va_K.moved hvm.symm hK1
        obtain ⟨hP, hD⟩ := va_join (wr := [(h0, .inr (0, [.ref a1, .int (nI (2 + tn_k (xs (i + 1)) % 15)), .int (nI li), .ref a3, .ref a4, .ref a5])), (a1, .inl (c1, 32, .inl fw)), (a3, .inl (c3, 16, .inr (.inl fs))), (a4, .inl (c4, 32, .inr (.inl fc))), (a5, .inl (c5, 16, .inr (.inl fp)))]) (w1 := [(g0, .inr (1, [.ref b1, .int (nI (2 + tn_k (xs (i + 1)) % 15)), .int (nI li), .ref b4, .ref b5, .ref b6])), (b1, .inl (d1, 32, .inl fw)), (b4, .inl (d4, 289, .inr (.inl fb))), (b5, .inl (d5, 289, .inr (.inl fx))), (b6, .inl (d6, 32, .inl fo))]) hP hD [5, 6, 7, 8, 9] [0, 1, 2, 3, 4] rfl rfl (by decide) (by decide) hk1 hFc hP1 hD1
        generalize H1 = H at hP hS ⊢
        have hP : va_P (dC, dI) vwCl [(h0, .inr (0, [.ref a1, .int (nI (2 + tn_k (xs (i + 1)) % 15)), .int (nI li), .ref a3, .ref a4, .ref a5])), (a1, .inl (c1, 32, .inl fw)), (a3, .inl (c3, 16, .inr (.inl fs))), (a4, .inl (c4, 32, .inr (.inl fc))), (a5, .inl (c5, 16, .inr (.inl fp))), (g0, .inr (1, [.ref b1, .int (nI (2 + tn_k (xs (i + 1)) % 15)), .int (nI li), .ref b4, .ref b5, .ref b6])), (b1, .inl (d1, 32, .inl fw)), (b4, .inl (d4, 289, .inr (.inl fb))), (b5, .inl (d5, 289, .inr (.inl fx))), (b6, .inl (d6, 32, .inl fo))] H := hP
        have hD : va_D (fun q : Nat => s.heap.size ≤ q) [(h0, .inr (0, [.ref a1, .int (nI (2 + tn_k (xs (i + 1)) % 15)), .int (nI li), .ref a3, .ref a4, .ref a5])), (a1, .inl (c1, 32, .inl fw)), (a3, .inl (c3, 16, .inr (.inl fs))), (a4, .inl (c4, 32, .inr (.inl fc))), (a5, .inl (c5, 16, .inr (.inl fp))), (g0, .inr (1, [.ref b1, .int (nI (2 + tn_k (xs (i + 1)) % 15)), .int (nI li), .ref b4, .ref b5, .ref b6])), (b1, .inl (d1, 32, .inl fw)), (b4, .inl (d4, 289, .inr (.inl fb))), (b5, .inl (d5, 289, .inr (.inl fx))), (b6, .inl (d6, 32, .inl fo))] := hD
        refine lv_goto (tgt := 181) hx hb dL_law_82 (by decide) ?_
        have hrem : tn_k (xs (i + 1)) % 15 < 15 := Nat.mod_lt _ (by decide)
        refine lv_iinc (v := nI (i + 6)) (lv' := [(3, .int (nI (i + 6))), (0, .ref b), (1, .ref h0), (2, .ref g0)]) hx hb dL_law_181 hl (k := 0) rfl (tn_p6 _) (by decide) rfl (fun ls hl => ?_)
        refine lv_goto (tgt := 18) hx hb dL_law_184 (by decide) ?_
        exact ih (i + 6) (2 + tn_k (xs (i + 1)) % 15) li w fw fs fc fp fb fx fo H locs ls (by omega) (by omega) (by omega) (by omega) hli hfw hw31 hP hD hS (lv_sub hl [0, 1, 2, 3] rfl)
      · refine lv_tableIn hx hb (off := 53) (tgt := 85) dL_law_32 (by decide) (by decide) (by decide) (by decide) ?_
        refine lv_aload_n hx hb dL_law_85 rfl (lv_at hl 2 rfl) ?_
        refine lv_aload_n hx hb dL_law_86 rfl (lv_at hl 1 rfl) ?_
        refine lv_iload_n hx hb dL_law_87 rfl (lv_at hl 0 rfl) ?_
        refine lv_iconst (v := nI 1) hx hb dL_law_88 (by decide) ?_
        refine lv_iadd hx hb dL_law_89 ?_
        refine tw_i (nI (i + 1)) (nI_add _ _) ?_
        refine va_sld hx hb hX hbl hbA hS (vp_in_nI (show i + 1 < L by omega) (by omega)) dL_law_90 ?_
        refine tw_i (xs (i + 1)) (congrArg xs (tn_cl (by omega))) ?_
        have hPc := hP.sub (ws' := [(h0, .inr (0, [.ref a1, .int (nI nn), .int (nI li), .ref a3, .ref a4, .ref a5])), (a1, .inl (c1, 32, .inl fw)), (a3, .inl (c3, 16, .inr (.inl fs))), (a4, .inl (c4, 32, .inr (.inl fc))), (a5, .inl (c5, 16, .inr (.inl fp)))]) [0, 1, 2, 3, 4] rfl
        have hDc := hD.sub (ws' := [(h0, .inr (0, [.ref a1, .int (nI nn), .int (nI li), .ref a3, .ref a4, .ref a5])), (a1, .inl (c1, 32, .inl fw)), (a3, .inl (c3, 16, .inr (.inl fs))), (a4, .inl (c4, 32, .inr (.inl fc))), (a5, .inl (c5, 16, .inr (.inl fp)))]) [0, 1, 2, 3, 4] (by decide) rfl
        have hKc := hK.sub (tys' := [(c1, .int), (c3, .long), (c4, .long), (c5, .long)]) [0, 1, 2, 3] rfl
        have hFc := va_free (wc := [(h0, .inr (0, [.ref a1, .int (nI nn), .int (nI li), .ref a3, .ref a4, .ref a5])), (a1, .inl (c1, 32, .inl fw)), (a3, .inl (c3, 16, .inr (.inl fs))), (a4, .inl (c4, 32, .inr (.inl fc))), (a5, .inl (c5, 16, .inr (.inl fp)))]) hD hS hA [0, 1, 2, 3, 4] rfl
        refine va_callv (va_runV (As := [.int (xs (i + 1))]) (rest := []) ⟨hx, hb, hml, hown, hts⟩ (c_X0_limit l dC dI h0 a1 a3 a4 a5 c1 c3 c4 c5 (nI nn) (nI li) fw fs fc fp H.size (xs (i + 1))) (cwV 1 hts gL_law_X0_limit rfl rfl rfl (by decide +kernel) ⟨Nat.le_of_ble_eq_true rfl, Nat.le_of_ble_eq_true rfl⟩) ⟨fun a U g mk q => by obtain ⟨q0, q1, qP, qK, qD⟩ := q; exact ⟨q0, q1, qP, va_K.moved (u := U) (U := U.calling g mk a) (Vm.Alike.refl U.vm) qK, qD⟩, va_recv hKc hPc (ci := 0) (q0 := 0) rfl rfl, fun U hU hW => ⟨rfl, by rw [hU], by rw [hU]; exact hPc, va_K.moved hW.alike hKc, hDc.weaken (fun _ _ _ _ => trivial)⟩⟩ rfl rfl hl.1 rfl (lv_room (Nat.le_of_ble_eq_true rfl)) dL_law_91 ⟨Nat.le_of_ble_eq_true rfl, Nat.le_of_ble_eq_true rfl⟩) hS (fun q _ h => hFc q h) hFc (fun u t H1 locs ht hvm hw hB hz1 hk1 hS => ?_)
        subst hw
        obtain ⟨hP1, hK1, hD1⟩ := hB
        rw [ht] at hP1
        have hK1 := va_K.moved hvm.symm hK1
        obtain ⟨hP, hD⟩ := va_join (wr := [(g0, .inr (1, [.ref b1, .int (nI nn), .int (nI li), .ref b4, .ref b5, .ref b6])), (b1, .inl (d1, 32, .inl fw)), (b4, .inl (d4, 289, .inr (.inl fb))), (b5, .inl (d5, 289, .inr (.inl fx))), (b6, .inl (d6, 32, .inl fo))]) (w1 := [(h0, .inr (0, [.ref a1, .int (nI nn), .int (nI (tn_k (xs (i + 1)) % 16)), .ref a3, .ref a4, .ref a5])), (a1, .inl (c1, 32, .inl fw)), (a3, .inl (c3, 16, .inr (.inl fs))), (a4, .inl (c4, 32, .inr (.inl fc))), (a5, .inl (c5, 16, .inr (.inl fp)))]) hP hD [0, 1, 2, 3, 4] [5, 6, 7, 8, 9] rfl rfl (by decide) (by decide) hk1 hFc hP1 hD1
        generalize H1 = H at hP hS ⊢
        have hP := hP.sub (ws' := [(h0, .inr (0, [.ref a1, .int (nI nn), .int (nI (tn_k (xs (i + 1)) % 16)), .ref a3, .ref a4, .ref a5])), (a1, .inl (c1, 32, .inl fw)), (a3, .inl (c3, 16, .inr (.inl fs))), (a4, .inl (c4, 32, .inr (.inl fc))), (a5, .inl (c5, 16, .inr (.inl fp))), (g0, .inr (1, [.ref b1, .int (nI nn), .int (nI li), .ref b4, .ref b5, .ref b6])), (b1, .inl (d1, 32, .inl fw)), (b4, .inl (d4, 289, .inr (.inl fb))), (b5, .inl (d5, 289, .inr (.inl fx))), (b6, .inl (d6, 32, .inl fo))]) [5, 6, 7, 8, 9, 0, 1, 2, 3, 4] rfl
        have hD := hD.sub (ws' := [(h0, .inr (0, [.ref a1, .int (nI nn), .int (nI (tn_k (xs (i + 1)) % 16)), .ref a3, .ref a4, .ref a5])), (a1, .inl (c1, 32, .inl fw)), (a3, .inl (c3, 16, .inr (.inl fs))), (a4, .inl (c4, 32, .inr (.inl fc))), (a5, .inl (c5, 16, .inr (.inl fp))), (g0, .inr (1, [.ref b1, .int (nI nn), .int (nI li), .ref b4, .ref b5, .ref b6])), (b1, .inl (d1, 32, .inl fw)), (b4, .inl (d4, 289, .inr (.inl fb))), (b5, .inl (d5, 289, .inr (.inl fx))), (b6, .inl (d6, 32, .inl fo))]) [5, 6, 7, 8, 9, 0, 1, 2, 3, 4] (by decide) rfl
        refine lv_aload_n hx hb dL_law_94 rfl (lv_at hl 3 rfl) ?_
        refine lv_aload_n hx hb dL_law_95 rfl (lv_at hl 1 rfl) ?_
        refine lv_iload_n hx hb dL_law_96 rfl (lv_at hl 0 rfl) ?_
        refine lv_iconst (v := nI 1) hx hb dL_law_97 (by decide) ?_
        refine lv_iadd hx hb dL_law_98 ?_
        refine tw_i (nI (i + 1)) (nI_add _ _) ?_
        refine va_sld hx hb hX hbl hbA hS (vp_in_nI (show i + 1 < L by omega) (by omega)) dL_law_99 ?_
        refine tw_i (xs (i + 1)) (congrArg xs (tn_cl (by omega))) ?_
        have hPc := hP.sub (ws' := [(g0, .inr (1, [.ref b1, .int (nI nn), .int (nI li), .ref b4, .ref b5, .ref b6])), (b1, .inl (d1, 32, .inl fw)), (b4, .inl (d4, 289, .inr (.inl fb))), (b5, .inl (d5, 289, .inr (.inl fx))), (b6, .inl (d6, 32, .inl fo))]) [5, 6, 7, 8, 9] rfl
        have hDc := hD.sub (ws' := [(g0, .inr (1, [.ref b1, .int (nI nn), .int (nI li), .ref b4, .ref b5, .ref b6])), (b1, .inl (d1, 32, .inl fw)), (b4, .inl (d4, 289, .inr (.inl fb))), (b5, .inl (d5, 289, .inr (.inl fx))), (b6, .inl (d6, 32, .inl fo))]) [5, 6, 7, 8, 9] (by decide) rfl
        have hKc := hK.sub (tys' := [(d1, .int), (d4, .long), (d5, .long), (d6, .int)]) [4, 5, 6, 7] rfl
        have hFc := va_free (wc := [(g0, .inr (1, [.ref b1, .int (nI nn), .int (nI li), .ref b4, .ref b5, .ref b6])), (b1, .inl (d1, 32, .inl fw)), (b4, .inl (d4, 289, .inr (.inl fb))), (b5, .inl (d5, 289, .inr (.inl fx))), (b6, .inl (d6, 32, .inl fo))]) hD hS hA [5, 6, 7, 8, 9] rfl
        refine va_callv (va_runV (As := [.int (xs (i + 1))]) (rest := []) ⟨hx, hb, hml, hown, hts⟩ (c_X1_limit l dC dI g0 b1 b4 b5 b6 d1 d4 d5 d6 (nI nn) (nI li) fw fb fx fo H.size (xs (i + 1))) (cwV 1 hts gL_law_X1_limit rfl rfl rfl (by decide +kernel) ⟨Nat.le_of_ble_eq_true rfl, Nat.le_of_ble_eq_true rfl⟩) ⟨fun a U g mk q => by obtain ⟨q0, q1, qP, qK, qD⟩ := q; exact ⟨q0, q1, qP, va_K.moved (u := U) (U := U.calling g mk a) (Vm.Alike.refl U.vm) qK, qD⟩, va_recv hKc hPc (ci := 1) (q0 := 0) rfl rfl, fun U hU hW => ⟨rfl, by rw [hU], by rw [hU]; exact hPc, va_K.moved hW.alike hKc, hDc.weaken (fun _ _ _ _ => trivial)⟩⟩ rfl rfl hl.1 rfl (lv_room (Nat.le_of_ble_eq_true rfl)) dL_law_100 ⟨Nat.le_of_ble_eq_true rfl, Nat.le_of_ble_eq_true rfl⟩) hS (fun q _ h => hFc q h) hFc (fun u t H1 locs ht hvm hw hB hz1 hk1 hS => ?_)
        subst hw
        obtain ⟨hP1, hK1, hD1⟩ := hB
        rw [ht] at hP1
        have hK1 := va_K.moved hvm.symm hK1
        obtain ⟨hP, hD⟩ := va_join (wr := [(h0, .inr (0, [.ref a1, .int (nI nn), .int (nI (tn_k (xs (i + 1)) % 16)), .ref a3, .ref a4, .ref a5])), (a1, .inl (c1, 32, .inl fw)), (a3, .inl (c3, 16, .inr (.inl fs))), (a4, .inl (c4, 32, .inr (.inl fc))), (a5, .inl (c5, 16, .inr (.inl fp)))]) (w1 := [(g0, .inr (1, [.ref b1, .int (nI nn), .int (nI (tn_k (xs (i + 1)) % 16)), .ref b4, .ref b5, .ref b6])), (b1, .inl (d1, 32, .inl fw)), (b4, .inl (d4, 289, .inr (.inl fb))), (b5, .inl (d5, 289, .inr (.inl fx))), (b6, .inl (d6, 32, .inl fo))]) hP hD [5, 6, 7, 8, 9] [0, 1, 2, 3, 4] rfl rfl (by decide) (by decide) hk1 hFc hP1 hD1
        generalize H1 = H at hP hS ⊢
        have hP : va_P (dC, dI) vwCl [(h0, .inr (0, [.ref a1, .int (nI nn), .int (nI (tn_k (xs (i + 1)) % 16)), .ref a3, .ref a4, .ref a5])), (a1, .inl (c1, 32, .inl fw)), (a3, .inl (c3, 16, .inr (.inl fs))), (a4, .inl (c4, 32, .inr (.inl fc))), (a5, .inl (c5, 16, .inr (.inl fp))), (g0, .inr (1, [.ref b1, .int (nI nn), .int (nI (tn_k (xs (i + 1)) % 16)), .ref b4, .ref b5, .ref b6])), (b1, .inl (d1, 32, .inl fw)), (b4, .inl (d4, 289, .inr (.inl fb))), (b5, .inl (d5, 289, .inr (.inl fx))), (b6, .inl (d6, 32, .inl fo))] H := hP
        have hD : va_D (fun q : Nat => s.heap.size ≤ q) [(h0, .inr (0, [.ref a1, .int (nI nn), .int (nI (tn_k (xs (i + 1)) % 16)), .ref a3, .ref a4, .ref a5])), (a1, .inl (c1, 32, .inl fw)), (a3, .inl (c3, 16, .inr (.inl fs))), (a4, .inl (c4, 32, .inr (.inl fc))), (a5, .inl (c5, 16, .inr (.inl fp))), (g0, .inr (1, [.ref b1, .int (nI nn), .int (nI (tn_k (xs (i + 1)) % 16)), .ref b4, .ref b5, .ref b6])), (b1, .inl (d1, 32, .inl fw)), (b4, .inl (d4, 289, .inr (.inl fb))), (b5, .inl (d5, 289, .inr (.inl fx))), (b6, .inl (d6, 32, .inl fo))] := hD
        refine lv_goto (tgt := 181) hx hb dL_law_103 (by decide) ?_
        refine lv_iinc (v := nI (i + 6)) (lv' := [(3, .int (nI (i + 6))), (0, .ref b), (1, .ref h0), (2, .ref g0)]) hx hb dL_law_181 hl (k := 0) rfl (tn_p6 _) (by decide) rfl (fun ls hl => ?_)
        refine lv_goto (tgt := 18) hx hb dL_law_184 (by decide) ?_
        exact ih (i + 6) nn (tn_k (xs (i + 1)) % 16) w fw fs fc fp fb fx fo H locs ls (by omega) (by omega) hn2 hn16 (Nat.mod_lt _ (by decide)) hfw hw31 hP hD hS (lv_sub hl [0, 1, 2, 3] rfl)
      · refine lv_tableIn hx hb (off := 74) (tgt := 106) dL_law_32 (by decide) (by decide) (by decide) (by decide) ?_
        refine lv_aload_n hx hb dL_law_106 rfl (lv_at hl 2 rfl) ?_
        refine lv_aload_n hx hb dL_law_107 rfl (lv_at hl 1 rfl) ?_
        refine lv_iload_n hx hb dL_law_108 rfl (lv_at hl 0 rfl) ?_
        refine lv_iconst (v := nI 1) hx hb dL_law_109 (by decide) ?_
        refine lv_iadd hx hb dL_law_110 ?_
        refine tw_i (nI (i + 1)) (nI_add _ _) ?_
        refine va_sld hx hb hX hbl hbA hS (vp_in_nI (show i + 1 < L by omega) (by omega)) dL_law_111 ?_
        refine tw_i (xs (i + 1)) (congrArg xs (tn_cl (by omega))) ?_
        refine lv_aload_n hx hb dL_law_112 rfl (lv_at hl 1 rfl) ?_
        refine lv_iload_n hx hb dL_law_113 rfl (lv_at hl 0 rfl) ?_
        refine lv_iconst (v := nI 2) hx hb dL_law_114 (by decide) ?_
        refine lv_iadd hx hb dL_law_115 ?_
        refine tw_i (nI (i + 2)) (nI_add _ _) ?_
        refine va_sld hx hb hX hbl hbA hS (vp_in_nI (show i + 2 < L by omega) (by omega)) dL_law_116 ?_
        refine tw_i (xs (i + 2)) (congrArg xs (tn_cl (by omega))) ?_
        refine lv_aload_n hx hb dL_law_117 rfl (lv_at hl 1 rfl) ?_
        refine lv_iload_n hx hb dL_law_118 rfl (lv_at hl 0 rfl) ?_
        refine lv_iconst (v := nI 3) hx hb dL_law_119 (by decide) ?_
        refine lv_iadd hx hb dL_law_120 ?_
        refine tw_i (nI (i + 3)) (nI_add _ _) ?_
        refine va_sld hx hb hX hbl hbA hS (vp_in_nI (show i + 3 < L by omega) (by omega)) dL_law_121 ?_
        refine tw_i (xs (i + 3)) (congrArg xs (tn_cl (by omega))) ?_
        refine lv_aload_n hx hb dL_law_122 rfl (lv_at hl 1 rfl) ?_
        refine lv_iload_n hx hb dL_law_123 rfl (lv_at hl 0 rfl) ?_
        refine lv_iconst (v := nI 4) hx hb dL_law_124 (by decide) ?_
        refine lv_iadd hx hb dL_law_125 ?_
        refine tw_i (nI (i + 4)) (nI_add _ _) ?_
        refine va_sld hx hb hX hbl hbA hS (vp_in_nI (show i + 4 < L by omega) (by omega)) dL_law_126 ?_
        refine tw_i (xs (i + 4)) (congrArg xs (tn_cl (by omega))) ?_
        refine lv_aload_n hx hb dL_law_127 rfl (lv_at hl 1 rfl) ?_
        refine lv_iload_n hx hb dL_law_128 rfl (lv_at hl 0 rfl) ?_
        refine lv_iconst (v := nI 5) hx hb dL_law_129 (by decide) ?_
        refine lv_iadd hx hb dL_law_130 ?_
        refine tw_i (nI (i + 5)) (nI_add _ _) ?_
        refine va_sld hx hb hX hbl hbA hS (vp_in_nI (show i + 5 < L by omega) (by omega)) dL_law_131 ?_
        refine tw_i (xs (i + 5)) (congrArg xs (tn_cl (by omega))) ?_
        have hPc := hP.sub (ws' := [(h0, .inr (0, [.ref a1, .int (nI nn), .int (nI li), .ref a3, .ref a4, .ref a5])), (a1, .inl (c1, 32, .inl fw)), (a3, .inl (c3, 16, .inr (.inl fs))), (a4, .inl (c4, 32, .inr (.inl fc))), (a5, .inl (c5, 16, .inr (.inl fp)))]) [0, 1, 2, 3, 4] rfl
        have hDc := hD.sub (ws' := [(h0, .inr (0, [.ref a1, .int (nI nn), .int (nI li), .ref a3, .ref a4, .ref a5])), (a1, .inl (c1, 32, .inl fw)), (a3, .inl (c3, 16, .inr (.inl fs))), (a4, .inl (c4, 32, .inr (.inl fc))), (a5, .inl (c5, 16, .inr (.inl fp)))]) [0, 1, 2, 3, 4] (by decide) rfl
        have hKc := hK.sub (tys' := [(c1, .int), (c3, .long), (c4, .long), (c5, .long)]) [0, 1, 2, 3] rfl
        have hFc := va_free (wc := [(h0, .inr (0, [.ref a1, .int (nI nn), .int (nI li), .ref a3, .ref a4, .ref a5])), (a1, .inl (c1, 32, .inl fw)), (a3, .inl (c3, 16, .inr (.inl fs))), (a4, .inl (c4, 32, .inr (.inl fc))), (a5, .inl (c5, 16, .inr (.inl fp)))]) hD hS hA [0, 1, 2, 3, 4] rfl
        refine va_callv (va_runV (As := [.int (xs (i + 1)), .int (xs (i + 2)), .int (xs (i + 3)), .int (xs (i + 4)), .int (xs (i + 5))]) (rest := []) ⟨hx, hb, hml, hown, hts⟩ (c_X0_weight l dC dI h0 a1 a3 a4 a5 c1 c3 c4 c5 (nI nn) (nI li) fw fs fc fp H.size (xs (i + 1)) (xs (i + 2)) (xs (i + 3)) (xs (i + 4)) (xs (i + 5))) (cwV 5 hts gL_law_X0_weight rfl rfl rfl (by decide +kernel) ⟨Nat.le_of_ble_eq_true rfl, Nat.le_of_ble_eq_true rfl⟩) ⟨fun a U g mk q => by obtain ⟨q0, q1, qP, qK, qD⟩ := q; exact ⟨q0, q1, qP, va_K.moved (u := U) (U := U.calling g mk a) (Vm.Alike.refl U.vm) qK, qD⟩, va_recv hKc hPc (ci := 0) (q0 := 0) rfl rfl, fun U hU hW => ⟨rfl, by rw [hU], by rw [hU]; exact hPc, va_K.moved hW.alike hKc, hDc.weaken (fun _ _ _ _ => trivial)⟩⟩ rfl rfl hl.1 rfl (lv_room (Nat.le_of_ble_eq_true rfl)) dL_law_132 ⟨Nat.le_of_ble_eq_true rfl, Nat.le_of_ble_eq_true rfl⟩) hS (fun q _ h => hFc q h) hFc (fun u t H1 locs ht hvm hw hB hz1 hk1 hS => ?_)
        subst hw
        obtain ⟨hP1, hK1, hD1⟩ := hB
        rw [ht] at hP1
        have hK1 := va_K.moved hvm.symm hK1
        obtain ⟨hP, hD⟩ := va_join (wr := [(g0, .inr (1, [.ref b1, .int (nI nn), .int (nI li), .ref b4, .ref b5, .ref b6])), (b1, .inl (d1, 32, .inl fw)), (b4, .inl (d4, 289, .inr (.inl fb))), (b5, .inl (d5, 289, .inr (.inl fx))), (b6, .inl (d6, 32, .inl fo))]) (w1 := [(h0, .inr (0, [.ref a1, .int (nI nn), .int (nI li), .ref a3, .ref a4, .ref a5])), (a1, .inl (c1, 32, .inl (tn_wt fw (xs (i + 1)) (xs (i + 2)) (xs (i + 3)) (xs (i + 4)) (xs (i + 5))))), (a3, .inl (c3, 16, .inr (.inl fs))), (a4, .inl (c4, 32, .inr (.inl fc))), (a5, .inl (c5, 16, .inr (.inl fp)))]) hP hD [0, 1, 2, 3, 4] [5, 6, 7, 8, 9] rfl rfl (by decide) (by decide) hk1 hFc hP1 hD1
        generalize H1 = H at hP hS ⊢
        have hP := hP.sub (ws' := [(h0, .inr (0, [.ref a1, .int (nI nn), .int (nI li), .ref a3, .ref a4, .ref a5])), (a1, .inl (c1, 32, .inl (tn_wt fw (xs (i + 1)) (xs (i + 2)) (xs (i + 3)) (xs (i + 4)) (xs (i + 5))))), (a3, .inl (c3, 16, .inr (.inl fs))), (a4, .inl (c4, 32, .inr (.inl fc))), (a5, .inl (c5, 16, .inr (.inl fp))), (g0, .inr (1, [.ref b1, .int (nI nn), .int (nI li), .ref b4, .ref b5, .ref b6])), (b1, .inl (d1, 32, .inl fw)), (b4, .inl (d4, 289, .inr (.inl fb))), (b5, .inl (d5, 289, .inr (.inl fx))), (b6, .inl (d6, 32, .inl fo))]) [5, 6, 7, 8, 9, 0, 1, 2, 3, 4] rfl
        have hD := hD.sub (ws' := [(h0, .inr (0, [.ref a1, .int (nI nn), .int (nI li), .ref a3, .ref a4, .ref a5])), (a1, .inl (c1, 32, .inl (tn_wt fw (xs (i + 1)) (xs (i + 2)) (xs (i + 3)) (xs (i + 4)) (xs (i + 5))))), (a3, .inl (c3, 16, .inr (.inl fs))), (a4, .inl (c4, 32, .inr (.inl fc))), (a5, .inl (c5, 16, .inr (.inl fp))), (g0, .inr (1, [.ref b1, .int (nI nn), .int (nI li), .ref b4, .ref b5, .ref b6])), (b1, .inl (d1, 32, .inl fw)), (b4, .inl (d4, 289, .inr (.inl fb))), (b5, .inl (d5, 289, .inr (.inl fx))), (b6, .inl (d6, 32, .inl fo))]) [5, 6, 7, 8, 9, 0, 1, 2, 3, 4] (by decide) rfl
        refine lv_aload_n hx hb dL_law_135 rfl (lv_at hl 3 rfl) ?_
        refine lv_aload_n hx hb dL_law_136 rfl (lv_at hl 1 rfl) ?_
        refine lv_iload_n hx hb dL_law_137 rfl (lv_at hl 0 rfl) ?_
        refine lv_iconst (v := nI 1) hx hb dL_law_138 (by decide) ?_
        refine lv_iadd hx hb dL_law_139 ?_
        refine tw_i (nI (i + 1)) (nI_add _ _) ?_
        refine va_sld hx hb hX hbl hbA hS (vp_in_nI (show i + 1 < L by omega) (by omega)) dL_law_140 ?_
        refine tw_i (xs (i + 1)) (congrArg xs (tn_cl (by omega))) ?_
        refine lv_aload_n hx hb dL_law_141 rfl (lv_at hl 1 rfl) ?_
        refine lv_iload_n hx hb dL_law_142 rfl (lv_at hl 0 rfl) ?_
        refine lv_iconst (v := nI 2) hx hb dL_law_143 (by decide) ?_
        refine lv_iadd hx hb dL_law_144 ?_
        refine tw_i (nI (i + 2)) (nI_add _ _) ?_
        refine va_sld hx hb hX hbl hbA hS (vp_in_nI (show i + 2 < L by omega) (by omega)) dL_law_145 ?_
        refine tw_i (xs (i + 2)) (congrArg xs (tn_cl (by omega))) ?_
        refine lv_aload_n hx hb dL_law_146 rfl (lv_at hl 1 rfl) ?_
        refine lv_iload_n hx hb dL_law_147 rfl (lv_at hl 0 rfl) ?_
        refine lv_iconst (v := nI 3) hx hb dL_law_148 (by decide) ?_
        refine lv_iadd hx hb dL_law_149 ?_
        refine tw_i (nI (i + 3)) (nI_add _ _) ?_
        refine va_sld hx hb hX hbl hbA hS (vp_in_nI (show i + 3 < L by omega) (by omega)) dL_law_150 ?_
        refine tw_i (xs (i + 3)) (congrArg xs (tn_cl (by omega))) ?_
        refine lv_aload_n hx hb dL_law_151 rfl (lv_at hl 1 rfl) ?_
        refine lv_iload_n hx hb dL_law_152 rfl (lv_at hl 0 rfl) ?_
        refine lv_iconst (v := nI 4) hx hb dL_law_153 (by decide) ?_
        refine lv_iadd hx hb dL_law_154 ?_
        refine tw_i (nI (i + 4)) (nI_add _ _) ?_
        refine va_sld hx hb hX hbl hbA hS (vp_in_nI (show i + 4 < L by omega) (by omega)) dL_law_155 ?_
        refine tw_i (xs (i + 4)) (congrArg xs (tn_cl (by omega))) ?_
        refine lv_aload_n hx hb dL_law_156 rfl (lv_at hl 1 rfl) ?_
        refine lv_iload_n hx hb dL_law_157 rfl (lv_at hl 0 rfl) ?_
        refine lv_iconst (v := nI 5) hx hb dL_law_158 (by decide) ?_
        refine lv_iadd hx hb dL_law_159 ?_
        refine tw_i (nI (i + 5)) (nI_add _ _) ?_
        refine va_sld hx hb hX hbl hbA hS (vp_in_nI (show i + 5 < L by omega) (by omega)) dL_law_160 ?_
        refine tw_i (xs (i + 5)) (congrArg xs (tn_cl (by omega))) ?_
        have hPc := hP.sub (ws' := [(g0, .inr (1, [.ref b1, .int (nI nn), .int (nI li), .ref b4, .ref b5, .ref b6])), (b1, .inl (d1, 32, .inl fw)), (b4, .inl (d4, 289, .inr (.inl fb))), (b5, .inl (d5, 289, .inr (.inl fx))), (b6, .inl (d6, 32, .inl fo))]) [5, 6, 7, 8, 9] rfl
        have hDc := hD.sub (ws' := [(g0, .inr (1, [.ref b1, .int (nI nn), .int (nI li), .ref b4, .ref b5, .ref b6])), (b1, .inl (d1, 32, .inl fw)), (b4, .inl (d4, 289, .inr (.inl fb))), (b5, .inl (d5, 289, .inr (.inl fx))), (b6, .inl (d6, 32, .inl fo))]) [5, 6, 7, 8, 9] (by decide) rfl
        have hKc := hK.sub (tys' := [(d1, .int), (d4, .long), (d5, .long), (d6, .int)]) [4, 5, 6, 7] rfl
        have hFc := va_free (wc := [(g0, .inr (1, [.ref b1, .int (nI nn), .int (nI li), .ref b4, .ref b5, .ref b6])), (b1, .inl (d1, 32, .inl fw)), (b4, .inl (d4, 289, .inr (.inl fb))), (b5, .inl (d5, 289, .inr (.inl fx))), (b6, .inl (d6, 32, .inl fo))]) hD hS hA [5, 6, 7, 8, 9] rfl
        refine va_callv (va_runV (As := [.int (xs (i + 1)), .int (xs (i + 2)), .int (xs (i + 3)), .int (xs (i + 4)), .int (xs (i + 5))]) (rest := []) ⟨hx, hb, hml, hown, hts⟩ (c_X1_weight l dC dI g0 b1 b4 b5 b6 d1 d4 d5 d6 (nI nn) (nI li) fw fb fx fo H.size (xs (i + 1)) (xs (i + 2)) (xs (i + 3)) (xs (i + 4)) (xs (i + 5))) (cwV 5 hts gL_law_X1_weight rfl rfl rfl (by decide +kernel) ⟨Nat.le_of_ble_eq_true rfl, Nat.le_of_ble_eq_true rfl⟩) ⟨fun a U g mk q => by obtain ⟨q0, q1, qP, qK, qD⟩ := q; exact ⟨q0, q1, qP, va_K.moved (u := U) (U := U.calling g mk a) (Vm.Alike.refl U.vm) qK, qD⟩, va_recv hKc hPc (ci := 1) (q0 := 0) rfl rfl, fun U hU hW => ⟨rfl, by rw [hU], by rw [hU]; exact hPc, va_K.moved hW.alike hKc, hDc.weaken (fun _ _ _ _ => trivial)⟩⟩ rfl rfl hl.1 rfl (lv_room (Nat.le_of_ble_eq_true rfl)) dL_law_161 ⟨Nat.le_of_ble_eq_true rfl, Nat.le_of_ble_eq_true rfl⟩) hS (fun q _ h => hFc q h) hFc (fun u t H1 locs ht hvm hw hB hz1 hk1 hS => ?_)
        subst hw
        obtain ⟨hP1, hK1, hD1⟩ := hB
        rw [ht] at hP1
        have hK1 := va_K.moved hvm.symm hK1
        obtain ⟨hP, hD⟩ := va_join (wr := [(h0, .inr (0, [.ref a1, .int (nI nn), .int (nI li), .ref a3, .ref a4, .ref a5])), (a1, .inl (c1, 32, .inl (tn_wt fw (xs (i + 1)) (xs (i + 2)) (xs (i + 3)) (xs (i + 4)) (xs (i + 5))))), (a3, .inl (c3, 16, .inr (.inl fs))), (a4, .inl (c4, 32, .inr (.inl fc))), (a5, .inl (c5, 16, .inr (.inl fp)))]) (w1 := [(g0, .inr (1, [.ref b1, .int (nI nn), .int (nI li), .ref b4, .ref b5, .ref b6])), (b1, .inl (d1, 32, .inl (tn_wt fw (xs (i + 1)) (xs (i + 2)) (xs (i + 3)) (xs (i + 4)) (xs (i + 5))))), (b4, .inl (d4, 289, .inr (.inl fb))), (b5, .inl (d5, 289, .inr (.inl fx))), (b6, .inl (d6, 32, .inl fo))]) hP hD [5, 6, 7, 8, 9] [0, 1, 2, 3, 4] rfl rfl (by decide) (by decide) hk1 hFc hP1 hD1
        generalize H1 = H at hP hS ⊢
        have hP : va_P (dC, dI) vwCl [(h0, .inr (0, [.ref a1, .int (nI nn), .int (nI li), .ref a3, .ref a4, .ref a5])), (a1, .inl (c1, 32, .inl (tn_wt fw (xs (i + 1)) (xs (i + 2)) (xs (i + 3)) (xs (i + 4)) (xs (i + 5))))), (a3, .inl (c3, 16, .inr (.inl fs))), (a4, .inl (c4, 32, .inr (.inl fc))), (a5, .inl (c5, 16, .inr (.inl fp))), (g0, .inr (1, [.ref b1, .int (nI nn), .int (nI li), .ref b4, .ref b5, .ref b6])), (b1, .inl (d1, 32, .inl (tn_wt fw (xs (i + 1)) (xs (i + 2)) (xs (i + 3)) (xs (i + 4)) (xs (i + 5))))), (b4, .inl (d4, 289, .inr (.inl fb))), (b5, .inl (d5, 289, .inr (.inl fx))), (b6, .inl (d6, 32, .inl fo))] H := hP
        have hD : va_D (fun q : Nat => s.heap.size ≤ q) [(h0, .inr (0, [.ref a1, .int (nI nn), .int (nI li), .ref a3, .ref a4, .ref a5])), (a1, .inl (c1, 32, .inl (tn_wt fw (xs (i + 1)) (xs (i + 2)) (xs (i + 3)) (xs (i + 4)) (xs (i + 5))))), (a3, .inl (c3, 16, .inr (.inl fs))), (a4, .inl (c4, 32, .inr (.inl fc))), (a5, .inl (c5, 16, .inr (.inl fp))), (g0, .inr (1, [.ref b1, .int (nI nn), .int (nI li), .ref b4, .ref b5, .ref b6])), (b1, .inl (d1, 32, .inl (tn_wt fw (xs (i + 1)) (xs (i + 2)) (xs (i + 3)) (xs (i + 4)) (xs (i + 5))))), (b4, .inl (d4, 289, .inr (.inl fb))), (b5, .inl (d5, 289, .inr (.inl fx))), (b6, .inl (d6, 32, .inl fo))] := hD
        refine lv_goto (tgt := 181) hx hb dL_law_164 (by decide) ?_
        obtain ⟨w2, hfw2, hw312⟩ := tn_wt_ok hfw hw31 (xs (i + 1)) (xs (i + 2)) (xs (i + 3)) (xs (i + 4)) (xs (i + 5))
        refine lv_iinc (v := nI (i + 6)) (lv' := [(3, .int (nI (i + 6))), (0, .ref b), (1, .ref h0), (2, .ref g0)]) hx hb dL_law_181 hl (k := 0) rfl (tn_p6 _) (by decide) rfl (fun ls hl => ?_)
        refine lv_goto (tgt := 18) hx hb dL_law_184 (by decide) ?_
        exact ih (i + 6) nn li w2 (tn_wt fw (xs (i + 1)) (xs (i + 2)) (xs (i + 3)) (xs (i + 4)) (xs (i + 5))) fs fc fp fb fx fo H locs ls (by omega) (by omega) hn2 hn16 hli hfw2 hw312 hP hD hS (lv_sub hl [0, 1, 2, 3] rfl)
      · refine lv_tableIn hx hb (off := 135) (tgt := 167) dL_law_32 (by decide) (by decide) (by decide) (by decide) ?_
        refine lv_aload_n hx hb dL_law_167 rfl (lv_at hl 2 rfl) ?_
        have hPc := hP.sub (ws' := [(h0, .inr (0, [.ref a1, .int (nI nn), .int (nI li), .ref a3, .ref a4, .ref a5])), (a1, .inl (c1, 32, .inl fw)), (a3, .inl (c3, 16, .inr (.inl fs))), (a4, .inl (c4, 32, .inr (.inl fc))), (a5, .inl (c5, 16, .inr (.inl fp)))]) [0, 1, 2, 3, 4] rfl
        have hDc := hD.sub (ws' := [(h0, .inr (0, [.ref a1, .int (nI nn), .int (nI li), .ref a3, .ref a4, .ref a5])), (a1, .inl (c1, 32, .inl fw)), (a3, .inl (c3, 16, .inr (.inl fs))), (a4, .inl (c4, 32, .inr (.inl fc))), (a5, .inl (c5, 16, .inr (.inl fp)))]) [0, 1, 2, 3, 4] (by decide) rfl
        have hKc := hK.sub (tys' := [(c1, .int), (c3, .long), (c4, .long), (c5, .long)]) [0, 1, 2, 3] rfl
        have hFc := va_free (wc := [(h0, .inr (0, [.ref a1, .int (nI nn), .int (nI li), .ref a3, .ref a4, .ref a5])), (a1, .inl (c1, 32, .inl fw)), (a3, .inl (c3, 16, .inr (.inl fs))), (a4, .inl (c4, 32, .inr (.inl fc))), (a5, .inl (c5, 16, .inr (.inl fp)))]) hD hS hA [0, 1, 2, 3, 4] rfl
        refine va_calll (va_runV (As := []) (rest := []) ⟨hx, hb, hml, hown, hts⟩ (c_X0_least l dC dI h0 a1 a3 a4 a5 c1 c3 c4 c5 fw fs fc fp H.size nn li w hn2 hn16 hli hfw hw31) (cwV 0 hts gL_law_X0_least rfl rfl rfl (by decide +kernel) ⟨Nat.le_of_ble_eq_true rfl, Nat.le_of_ble_eq_true rfl⟩) ⟨fun a U g mk q => by obtain ⟨q0, q1, qP, qK, qD⟩ := q; exact ⟨q0, q1, qP, va_K.moved (u := U) (U := U.calling g mk a) (Vm.Alike.refl U.vm) qK, qD⟩, va_recv hKc hPc (ci := 0) (q0 := 0) rfl rfl, fun U hU hW => ⟨rfl, by rw [hU], by rw [hU]; exact hPc, va_K.moved hW.alike hKc, hDc.weaken (fun _ _ _ _ => trivial)⟩⟩ rfl rfl hl.1 rfl (lv_room (Nat.le_of_ble_eq_true rfl)) dL_law_168 ⟨Nat.le_of_ble_eq_true rfl, Nat.le_of_ble_eq_true rfl⟩) hS (fun q _ h => hFc q h) hFc (fun r1 u t H1 locs ht hvm hw hB hz1 hk1 hS => ?_)
        obtain ⟨u1, eu1⟩ : ∃ z, z = u := ⟨_, rfl⟩
        rw [← eu1] at hB
        have hans1 := hw
        obtain ⟨hP1, hK1, hD1⟩ := hB
        rw [ht] at hP1
        have hK1 := va_K.moved hvm.symm hK1
        obtain ⟨hP, hD⟩ := va_join (wr := [(g0, .inr (1, [.ref b1, .int (nI nn), .int (nI li), .ref b4, .ref b5, .ref b6])), (b1, .inl (d1, 32, .inl fw)), (b4, .inl (d4, 289, .inr (.inl fb))), (b5, .inl (d5, 289, .inr (.inl fx))), (b6, .inl (d6, 32, .inl fo))]) (w1 := [(h0, .inr (0, [.ref a1, .int (nI nn), .int (nI li), .ref a3, .ref a4, .ref a5])), (a1, .inl (c1, 32, .inl fw)), (a3, .inl (c3, 16, .inr (.inl (u1.1)))), (a4, .inl (c4, 32, .inr (.inl (u1.2.1)))), (a5, .inl (c5, 16, .inr (.inl (u1.2.2))))]) hP hD [0, 1, 2, 3, 4] [5, 6, 7, 8, 9] rfl rfl (by decide) (by decide) hk1 hFc hP1 hD1
        generalize H1 = H at hP hS ⊢
        have hP := hP.sub (ws' := [(h0, .inr (0, [.ref a1, .int (nI nn), .int (nI li), .ref a3, .ref a4, .ref a5])), (a1, .inl (c1, 32, .inl fw)), (a3, .inl (c3, 16, .inr (.inl (u1.1)))), (a4, .inl (c4, 32, .inr (.inl (u1.2.1)))), (a5, .inl (c5, 16, .inr (.inl (u1.2.2)))), (g0, .inr (1, [.ref b1, .int (nI nn), .int (nI li), .ref b4, .ref b5, .ref b6])), (b1, .inl (d1, 32, .inl fw)), (b4, .inl (d4, 289, .inr (.inl fb))), (b5, .inl (d5, 289, .inr (.inl fx))), (b6, .inl (d6, 32, .inl fo))]) [5, 6, 7, 8, 9, 0, 1, 2, 3, 4] rfl
        have hD := hD.sub (ws' := [(h0, .inr (0, [.ref a1, .int (nI nn), .int (nI li), .ref a3, .ref a4, .ref a5])), (a1, .inl (c1, 32, .inl fw)), (a3, .inl (c3, 16, .inr (.inl (u1.1)))), (a4, .inl (c4, 32, .inr (.inl (u1.2.1)))), (a5, .inl (c5, 16, .inr (.inl (u1.2.2)))), (g0, .inr (1, [.ref b1, .int (nI nn), .int (nI li), .ref b4, .ref b5, .ref b6])), (b1, .inl (d1, 32, .inl fw)), (b4, .inl (d4, 289, .inr (.inl fb))), (b5, .inl (d5, 289, .inr (.inl fx))), (b6, .inl (d6, 32, .inl fo))]) [5, 6, 7, 8, 9, 0, 1, 2, 3, 4] (by decide) rfl
        refine lv_aload_n hx hb dL_law_171 rfl (lv_at hl 3 rfl) ?_
        have hPc := hP.sub (ws' := [(g0, .inr (1, [.ref b1, .int (nI nn), .int (nI li), .ref b4, .ref b5, .ref b6])), (b1, .inl (d1, 32, .inl fw)), (b4, .inl (d4, 289, .inr (.inl fb))), (b5, .inl (d5, 289, .inr (.inl fx))), (b6, .inl (d6, 32, .inl fo))]) [5, 6, 7, 8, 9] rfl
        have hDc := hD.sub (ws' := [(g0, .inr (1, [.ref b1, .int (nI nn), .int (nI li), .ref b4, .ref b5, .ref b6])), (b1, .inl (d1, 32, .inl fw)), (b4, .inl (d4, 289, .inr (.inl fb))), (b5, .inl (d5, 289, .inr (.inl fx))), (b6, .inl (d6, 32, .inl fo))]) [5, 6, 7, 8, 9] (by decide) rfl
        have hKc := hK.sub (tys' := [(d1, .int), (d4, .long), (d5, .long), (d6, .int)]) [4, 5, 6, 7] rfl
        have hFc := va_free (wc := [(g0, .inr (1, [.ref b1, .int (nI nn), .int (nI li), .ref b4, .ref b5, .ref b6])), (b1, .inl (d1, 32, .inl fw)), (b4, .inl (d4, 289, .inr (.inl fb))), (b5, .inl (d5, 289, .inr (.inl fx))), (b6, .inl (d6, 32, .inl fo))]) hD hS hA [5, 6, 7, 8, 9] rfl
        refine va_calll (va_runV (As := []) (rest := [.long r1]) ⟨hx, hb, hml, hown, hts⟩ (c_X1_least l dC dI g0 b1 b4 b5 b6 d1 d4 d5 d6 fw fb fx fo H.size nn li w hn16 hli hfw hw31) (cwV 0 hts gL_law_X1_least rfl rfl rfl (by decide +kernel) ⟨Nat.le_of_ble_eq_true rfl, Nat.le_of_ble_eq_true rfl⟩) ⟨fun a U g mk q => by obtain ⟨q0, q1, qP, qK, qD⟩ := q; exact ⟨q0, q1, qP, va_K.moved (u := U) (U := U.calling g mk a) (Vm.Alike.refl U.vm) qK, qD⟩, va_recv hKc hPc (ci := 1) (q0 := 0) rfl rfl, fun U hU hW => ⟨rfl, by rw [hU], by rw [hU]; exact hPc, va_K.moved hW.alike hKc, hDc.weaken (fun _ _ _ _ => trivial)⟩⟩ rfl rfl hl.1 rfl (lv_room (Nat.le_of_ble_eq_true rfl)) dL_law_172 ⟨Nat.le_of_ble_eq_true rfl, Nat.le_of_ble_eq_true rfl⟩) hS (fun q _ h => hFc q h) hFc (fun r2 u t H1 locs ht hvm hw hB hz1 hk1 hS => ?_)
        obtain ⟨u2, eu2⟩ : ∃ z, z = u := ⟨_, rfl⟩
        rw [← eu2] at hB
        have hans2 := hw
        obtain ⟨hP1, hK1, hD1⟩ := hB
        rw [ht] at hP1
        have hK1 := va_K.moved hvm.symm hK1
        obtain ⟨hP, hD⟩ := va_join (wr := [(h0, .inr (0, [.ref a1, .int (nI nn), .int (nI li), .ref a3, .ref a4, .ref a5])), (a1, .inl (c1, 32, .inl fw)), (a3, .inl (c3, 16, .inr (.inl (u1.1)))), (a4, .inl (c4, 32, .inr (.inl (u1.2.1)))), (a5, .inl (c5, 16, .inr (.inl (u1.2.2))))]) (w1 := [(g0, .inr (1, [.ref b1, .int (nI nn), .int (nI li), .ref b4, .ref b5, .ref b6])), (b1, .inl (d1, 32, .inl fw)), (b4, .inl (d4, 289, .inr (.inl (u2.1)))), (b5, .inl (d5, 289, .inr (.inl (u2.2.1)))), (b6, .inl (d6, 32, .inl (u2.2.2)))]) hP hD [5, 6, 7, 8, 9] [0, 1, 2, 3, 4] rfl rfl (by decide) (by decide) hk1 hFc hP1 hD1
        generalize H1 = H at hP hS ⊢
        have hP : va_P (dC, dI) vwCl [(h0, .inr (0, [.ref a1, .int (nI nn), .int (nI li), .ref a3, .ref a4, .ref a5])), (a1, .inl (c1, 32, .inl fw)), (a3, .inl (c3, 16, .inr (.inl (u1.1)))), (a4, .inl (c4, 32, .inr (.inl (u1.2.1)))), (a5, .inl (c5, 16, .inr (.inl (u1.2.2)))), (g0, .inr (1, [.ref b1, .int (nI nn), .int (nI li), .ref b4, .ref b5, .ref b6])), (b1, .inl (d1, 32, .inl fw)), (b4, .inl (d4, 289, .inr (.inl (u2.1)))), (b5, .inl (d5, 289, .inr (.inl (u2.2.1)))), (b6, .inl (d6, 32, .inl (u2.2.2)))] H := hP
        have hD : va_D (fun q : Nat => s.heap.size ≤ q) [(h0, .inr (0, [.ref a1, .int (nI nn), .int (nI li), .ref a3, .ref a4, .ref a5])), (a1, .inl (c1, 32, .inl fw)), (a3, .inl (c3, 16, .inr (.inl (u1.1)))), (a4, .inl (c4, 32, .inr (.inl (u1.2.1)))), (a5, .inl (c5, 16, .inr (.inl (u1.2.2)))), (g0, .inr (1, [.ref b1, .int (nI nn), .int (nI li), .ref b4, .ref b5, .ref b6])), (b1, .inl (d1, 32, .inl fw)), (b4, .inl (d4, 289, .inr (.inl (u2.1)))), (b5, .inl (d5, 289, .inr (.inl (u2.2.1)))), (b6, .inl (d6, 32, .inl (u2.2.2)))] := hD
        have hsame : r1 = r2 := tc_final hn2 hn16 hans1 hans2
        refine tw_lif_eq hx hb (tgt := 181) dL_law_175 dL_law_176 (by decide) (fun hc2 => ?_) (fun hc2 => ?_)
        · refine lv_iinc (v := nI (i + 6)) (lv' := [(3, .int (nI (i + 6))), (0, .ref b), (1, .ref h0), (2, .ref g0)]) hx hb dL_law_181 hl (k := 0) rfl (tn_p6 _) (by decide) rfl (fun ls hl => ?_)
          refine lv_goto (tgt := 18) hx hb dL_law_184 (by decide) ?_
          exact ih (i + 6) nn li w fw u1.1 u1.2.1 u1.2.2 u2.1 u2.2.1 u2.2.2 H locs ls (by omega) (by omega) hn2 hn16 hli hfw hw31 hP hD hS (lv_sub hl [0, 1, 2, 3] rfl)
        · exact absurd hsame hc2
set_option maxHeartbeats 4000000 in
set_option maxRecDepth 100000 in
/-- THE LAW, from its entry -/
theorem whole_start {p : Program} {e : Env} {s : State} {m : MethodId} {below : List Frame} {meth : Method} {c : Code} (l : Launch) (hflags : l.flags = flags0) {b L : Nat} {xs : Nat → Int32} (hL : L ≤ 384) (C0 : lw_At p s m meth c b L xs) : W p l e room_1 s m #[Value.ref b] below meth c s.heap [] 0 0 (lw_Z below #[Value.ref b] s) (entryFrame m ([Value.ref b] : List Value).toArray 4) := by
  obtain ⟨hx, hb, hr, hml, hown, hts0, hX, hbl, hlocks, hgv⟩ := id C0
  have hts : ∀ w ∈ wsL_law, w.before #[Value.ref b] s = true := fun w h => hts0 w (wsL_law_in w h)
  have hA : ∀ q : Nat, s.heap.size ≤ q → (fun q : Nat => s.heap.size ≤ q) q := fun _ h => h
  obtain ⟨k0, iS0, hKn0⟩ := u_known (C := RX0) (T := TX0) (N := 6) (n := 6) hts inlX0 (hts _ mmL_law_0)
  obtain ⟨k1, iS1, hKn1⟩ := u_known (C := RX1) (T := TX1) (N := 6) (n := 6) hts inlX1 (hts _ mmL_law_1)
  obtain ⟨dC, dI, hKc⟩ : ∃ (dC : Nat → ClassId) (dI : Nat → Nat → Nat), ∀ (k : Nat) (q : vw_C), vwCl[k]? = some q → u_Kn s q.1 q.2.1 q.2.2 (dC k) (dI k) := by
    refine ⟨fun k => if k = 0 then k0 else k1, fun k => if k = 0 then iS0 else iS1, ?_⟩
    intro k q hq
    match k, hq with
    | 0, hq => cases hq; exact hKn0
    | 1, hq => cases hq; exact hKn1
    | k + 2, hq => simp [vwCl] at hq
  have hS : va_S (fun q : Nat => s.heap.size ≤ q) s.heap s.heap [] := va_S.rf
  have hK : va_K (dC, dI) vwCl [] s := ⟨hKc, fun k q h => by simp at h⟩
  have hP : va_P (dC, dI) vwCl [] s.heap := fun k q h => by simp at h
  have hD : va_D (fun q : Nat => s.heap.size ≤ q) [] := ⟨fun i j p q h => by simp at h, fun k q h => by simp at h⟩
  have hl := lv_entry ([.ref b]) (n := 4) (Nat.le_of_ble_eq_true rfl)
  rw [lg_entry_eq]
  generalize (lg_sl ([.ref b]) ++ List.replicate (4 - (lg_sl ([.ref b])).length) Slot.unset).toArray = ls at hl ⊢
  have hl : lv_has ls 4 [(0, .ref b)] := hl
  refine va_new (ci := 0) (fs := [.null, .int 0, .int 0, .null, .null, .null]) (C := RX0) (T := TX0) (N := 6) hx hb hts inlX0 tyX0 tyX0_ok hown (hts _ mmL_law_2) (hts _ mmL_law_0) (hts _ mmL_law_3) hK hP hD hS hA rfl (fun j hj => by rcases (show j = 0 ∨ j = 1 ∨ j = 2 ∨ j = 3 ∨ j = 4 ∨ j = 5 by omega) with rfl | rfl | rfl | rfl | rfl | rfl <;> rfl) (Nat.le_of_ble_eq_true rfl) (Nat.le_of_ble_eq_true rfl) dL_law_0 (fun h0 H hP hD hS => ?_)
  have hP : va_P (dC, dI) vwCl [(h0, .inr (0, [.null, .int 0, .int 0, .null, .null, .null]))] H := hP
  have hD : va_D (fun q : Nat => s.heap.size ≤ q) [(h0, .inr (0, [.null, .int 0, .int 0, .null, .null, .null]))] := hD
  refine W.widen (k := 1) (n := 6) (Nat.le_of_ble_eq_true rfl) (Nat.le_of_ble_eq_true rfl) ?_
  refine lv_dup hx hb dL_law_3 rfl ?_
  have hPc := hP.sub (ws' := [(h0, .inr (0, [.null, .int 0, .int 0, .null, .null, .null]))]) [0] rfl
  have hDc := hD.sub (ws' := [(h0, .inr (0, [.null, .int 0, .int 0, .null, .null, .null]))]) [0] (by decide) rfl
  have hKc := hK.sub (tys' := []) [] rfl
  have hFc := va_free (wc := [(h0, .inr (0, [.null, .int 0, .int 0, .null, .null, .null]))]) hD hS hA [0] rfl
  refine va_callv (va_runI (As := []) (rest := [.ref h0]) ⟨hx, hb, hml, hown, hts⟩ (c_X0_init l dC dI h0 H.size) (cwI 0 hts gL_law_X0_init rfl rfl rfl (hts _ mmL_law_3) (hts _ mmL_law_4) (hts _ mmL_law_5) rfl (by decide +kernel) ⟨Nat.le_of_ble_eq_true rfl, Nat.le_of_ble_eq_true rfl⟩) ⟨fun a U g mk q => by obtain ⟨q0, q1, qP, qK, qD⟩ := q; exact ⟨q0, q1, qP, va_K.moved (u := U) (U := U.calling g mk a) (Vm.Alike.refl U.vm) qK, qD⟩, fun U hU hW => ⟨rfl, by rw [hU], by rw [hU]; exact hPc, va_K.moved hW.alike hKc, hDc.weaken (fun _ _ _ _ => trivial)⟩⟩ rfl rfl hl.1 rfl (lv_room (Nat.le_of_ble_eq_true rfl)) dL_law_4 ⟨Nat.le_of_ble_eq_true rfl, Nat.le_of_ble_eq_true rfl⟩) hS (fun q _ h => hFc q h) hFc (fun u t H1 locs ht hvm hw hB hz1 hk1 hS => ?_)
  obtain ⟨a1, a3, a4, a5, c1, c3, c4, c5, hP1, hK1, hD1⟩ := hB
  rw [ht] at hP1
  have hK1 := va_K.moved hvm.symm hK1
  obtain ⟨hP, hD⟩ := va_join (wr := []) (w1 := [(h0, .inr (0, [.ref a1, .int (nI 2), .int (nI 5), .ref a3, .ref a4, .ref a5])), (a1, .inl (c1, 32, .inl (fun _ => 0))), (a3, .inl (c3, 16, .inr (.inl (fun _ => 0)))), (a4, .inl (c4, 32, .inr (.inl (fun _ => 0)))), (a5, .inl (c5, 16, .inr (.inl (fun _ => 0))))]) hP hD [0] [] rfl rfl (by decide) (by decide) hk1 hFc hP1 hD1
  have hK := hK.app hK1
  generalize H1 = H at hP hS ⊢
  have hP : va_P (dC, dI) vwCl [(h0, .inr (0, [.ref a1, .int (nI 2), .int (nI 5), .ref a3, .ref a4, .ref a5])), (a1, .inl (c1, 32, .inl (fun _ => 0))), (a3, .inl (c3, 16, .inr (.inl (fun _ => 0)))), (a4, .inl (c4, 32, .inr (.inl (fun _ => 0)))), (a5, .inl (c5, 16, .inr (.inl (fun _ => 0))))] H := hP
  have hD : va_D (fun q : Nat => s.heap.size ≤ q) [(h0, .inr (0, [.ref a1, .int (nI 2), .int (nI 5), .ref a3, .ref a4, .ref a5])), (a1, .inl (c1, 32, .inl (fun _ => 0))), (a3, .inl (c3, 16, .inr (.inl (fun _ => 0)))), (a4, .inl (c4, 32, .inr (.inl (fun _ => 0)))), (a5, .inl (c5, 16, .inr (.inl (fun _ => 0))))] := hD
  have hK : va_K (dC, dI) vwCl [(c1, .int), (c3, .long), (c4, .long), (c5, .long)] s := hK
  refine W.widen (k := 5) (n := 102) (Nat.le_of_ble_eq_true rfl) (Nat.le_of_ble_eq_true rfl) ?_
  refine lv_astore_n (lv' := [(1, .ref h0), (0, .ref b)]) hx hb dL_law_7 rfl hl (by decide) rfl (fun ls hl => ?_)
  refine va_new (ci := 1) (fs := [.null, .int 0, .int 0, .null, .null, .null]) (C := RX1) (T := TX1) (N := 6) hx hb hts inlX1 tyX1 tyX1_ok hown (hts _ mmL_law_6) (hts _ mmL_law_1) (hts _ mmL_law_7) hK hP hD hS hA rfl (fun j hj => by rcases (show j = 0 ∨ j = 1 ∨ j = 2 ∨ j = 3 ∨ j = 4 ∨ j = 5 by omega) with rfl | rfl | rfl | rfl | rfl | rfl <;> rfl) (Nat.le_of_ble_eq_true rfl) (Nat.le_of_ble_eq_true rfl) dL_law_8 (fun g0 H hP hD hS => ?_)
  have hP : va_P (dC, dI) vwCl [(h0, .inr (0, [.ref a1, .int (nI 2), .int (nI 5), .ref a3, .ref a4, .ref a5])), (a1, .inl (c1, 32, .inl (fun _ => 0))), (a3, .inl (c3, 16, .inr (.inl (fun _ => 0)))), (a4, .inl (c4, 32, .inr (.inl (fun _ => 0)))), (a5, .inl (c5, 16, .inr (.inl (fun _ => 0)))), (g0, .inr (1, [.null, .int 0, .int 0, .null, .null, .null]))] H := hP
  have hD : va_D (fun q : Nat => s.heap.size ≤ q) [(h0, .inr (0, [.ref a1, .int (nI 2), .int (nI 5), .ref a3, .ref a4, .ref a5])), (a1, .inl (c1, 32, .inl (fun _ => 0))), (a3, .inl (c3, 16, .inr (.inl (fun _ => 0)))), (a4, .inl (c4, 32, .inr (.inl (fun _ => 0)))), (a5, .inl (c5, 16, .inr (.inl (fun _ => 0)))), (g0, .inr (1, [.null, .int 0, .int 0, .null, .null, .null]))] := hD
  refine W.widen (k := 6) (n := 108) (Nat.le_of_ble_eq_true rfl) (Nat.le_of_ble_eq_true rfl) ?_
  refine lv_dup hx hb dL_law_11 rfl ?_
  have hPc := hP.sub (ws' := [(g0, .inr (1, [.null, .int 0, .int 0, .null, .null, .null]))]) [5] rfl
  have hDc := hD.sub (ws' := [(g0, .inr (1, [.null, .int 0, .int 0, .null, .null, .null]))]) [5] (by decide) rfl
  have hKc := hK.sub (tys' := []) [] rfl
  have hFc := va_free (wc := [(g0, .inr (1, [.null, .int 0, .int 0, .null, .null, .null]))]) hD hS hA [5] rfl
  refine va_callv (va_runI (As := []) (rest := [.ref g0]) ⟨hx, hb, hml, hown, hts⟩ (c_X1_init l dC dI g0 H.size) (cwI 0 hts gL_law_X1_init rfl rfl rfl (hts _ mmL_law_7) (hts _ mmL_law_8) (hts _ mmL_law_9) rfl (by decide +kernel) ⟨Nat.le_of_ble_eq_true rfl, Nat.le_of_ble_eq_true rfl⟩) ⟨fun a U g mk q => by obtain ⟨q0, q1, qP, qK, qD⟩ := q; exact ⟨q0, q1, qP, va_K.moved (u := U) (U := U.calling g mk a) (Vm.Alike.refl U.vm) qK, qD⟩, fun U hU hW => ⟨rfl, by rw [hU], by rw [hU]; exact hPc, va_K.moved hW.alike hKc, hDc.weaken (fun _ _ _ _ => trivial)⟩⟩ rfl rfl hl.1 rfl (lv_room (Nat.le_of_ble_eq_true rfl)) dL_law_12 ⟨Nat.le_of_ble_eq_true rfl, Nat.le_of_ble_eq_true rfl⟩) hS (fun q _ h => hFc q h) hFc (fun u t H1 locs ht hvm hw hB hz1 hk1 hS => ?_)
  obtain ⟨b1, b4, b5, b6, d1, d4, d5, d6, hP1, hK1, hD1⟩ := hB
  rw [ht] at hP1
  have hK1 := va_K.moved hvm.symm hK1
  obtain ⟨hP, hD⟩ := va_join (wr := [(h0, .inr (0, [.ref a1, .int (nI 2), .int (nI 5), .ref a3, .ref a4, .ref a5])), (a1, .inl (c1, 32, .inl (fun _ => 0))), (a3, .inl (c3, 16, .inr (.inl (fun _ => 0)))), (a4, .inl (c4, 32, .inr (.inl (fun _ => 0)))), (a5, .inl (c5, 16, .inr (.inl (fun _ => 0))))]) (w1 := [(g0, .inr (1, [.ref b1, .int (nI 2), .int (nI 5), .ref b4, .ref b5, .ref b6])), (b1, .inl (d1, 32, .inl (fun _ => 0))), (b4, .inl (d4, 289, .inr (.inl (fun _ => 0)))), (b5, .inl (d5, 289, .inr (.inl (fun _ => 0)))), (b6, .inl (d6, 32, .inl (fun _ => 0)))]) hP hD [5] [0, 1, 2, 3, 4] rfl rfl (by decide) (by decide) hk1 hFc hP1 hD1
  have hK := hK.app hK1
  generalize H1 = H at hP hS ⊢
  have hP : va_P (dC, dI) vwCl [(h0, .inr (0, [.ref a1, .int (nI 2), .int (nI 5), .ref a3, .ref a4, .ref a5])), (a1, .inl (c1, 32, .inl (fun _ => 0))), (a3, .inl (c3, 16, .inr (.inl (fun _ => 0)))), (a4, .inl (c4, 32, .inr (.inl (fun _ => 0)))), (a5, .inl (c5, 16, .inr (.inl (fun _ => 0)))), (g0, .inr (1, [.ref b1, .int (nI 2), .int (nI 5), .ref b4, .ref b5, .ref b6])), (b1, .inl (d1, 32, .inl (fun _ => 0))), (b4, .inl (d4, 289, .inr (.inl (fun _ => 0)))), (b5, .inl (d5, 289, .inr (.inl (fun _ => 0)))), (b6, .inl (d6, 32, .inl (fun _ => 0)))] H := hP
  have hD : va_D (fun q : Nat => s.heap.size ≤ q) [(h0, .inr (0, [.ref a1, .int (nI 2), .int (nI 5), .ref a3, .ref a4, .ref a5])), (a1, .inl (c1, 32, .inl (fun _ => 0))), (a3, .inl (c3, 16, .inr (.inl (fun _ => 0)))), (a4, .inl (c4, 32, .inr (.inl (fun _ => 0)))), (a5, .inl (c5, 16, .inr (.inl (fun _ => 0)))), (g0, .inr (1, [.ref b1, .int (nI 2), .int (nI 5), .ref b4, .ref b5, .ref b6])), (b1, .inl (d1, 32, .inl (fun _ => 0))), (b4, .inl (d4, 289, .inr (.inl (fun _ => 0)))), (b5, .inl (d5, 289, .inr (.inl (fun _ => 0)))), (b6, .inl (d6, 32, .inl (fun _ => 0)))] := hD
  have hK : va_K (dC, dI) vwCl [(c1, .int), (c3, .long), (c4, .long), (c5, .long), (d1, .int), (d4, .long), (d5, .long), (d6, .int)] s := hK
  refine W.widen (k := 10) (n := 750) (Nat.le_of_ble_eq_true rfl) (Nat.le_of_ble_eq_true rfl) ?_
  refine lv_astore_n (lv' := [(2, .ref g0), (1, .ref h0), (0, .ref b)]) hx hb dL_law_15 rfl hl (by decide) rfl (fun ls hl => ?_)
  refine lv_iconst (v := nI 0) hx hb dL_law_16 (by decide) ?_
  refine lv_istore_n (lv' := [(3, .int (nI 0)), (2, .ref g0), (1, .ref h0), (0, .ref b)]) hx hb dL_law_17 rfl hl (by decide) rfl (fun ls hl => ?_)
  exact law_loop hL C0 h0 a1 a3 a4 a5 g0 b1 b4 b5 b6 c1 c3 c4 c5 d1 d4 d5 d6 hK (L + 7) 0 2 5 (fun _ => 0) (fun _ => 0) _ _ _ _ _ _ H _ ls (by omega) (by omega) (by decide) (by decide) (by decide) (fun _ _ => nI_0.symm) (fun _ => by decide) hP hD hS (lv_sub hl [0, 3, 2, 1] rfl)
