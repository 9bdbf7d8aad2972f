/-! PURE MATHEMATICS, second part: the depth-by-depth table, that both values are one, rows sorted by insertion -/
section
/-- the sum of v over [j, j + a) -/
def tc_hv (v : Nat → Nat) (j : Nat) : Nat → Nat
  | 0 => 0
  | a + 1 => tc_hv v j a + v (j + a)
/-- at depth d the table holds: j letters have their codes, k places are open, it has cost c -/
def tc_rch (v : Nat → Nat) (n : Nat) : Nat → Nat → Nat → Nat → Prop
  | 0, j, k, c => j = 0 ∧ k = 1 ∧ c = 0
  | d + 1, j, k, c => ∃ j0 k0 a c0, tc_rch v n d j0 k0 c0 ∧ j0 ≤ n ∧ k0 ≤ 16 ∧ a ≤ k0 ∧ j = j0 + a ∧ j < n ∧ k = min (2 * (k0 - a)) (n - j) ∧ 0 < k ∧ c = c0 + tc_hv v j0 a * d
/-- at depth d the last letters get their codes -/
def tc_fin (v : Nat → Nat) (n d c : Nat) : Prop := ∃ j k a c0, tc_rch v n d j k c0 ∧ j ≤ n ∧ k ≤ 16 ∧ a ≤ k ∧ j + a = n ∧ c = c0 + tc_hv v j a * d
theorem tc_hv_sum {s v : Nat → Nat} {n : Nat} (hv : ∀ i, i < n → v i = s (n - 1 - i)) : ∀ (j a : Nat), j + a ≤ n → tc_hv v j a + tc_sum s (n - (j + a)) = tc_sum s (n - j)
  | j, 0, _ => by
    show 0 + tc_sum s (n - (j + 0)) = _
    rw [Nat.add_zero, Nat.zero_add]
  | j, a + 1, h => by
    have h1 := tc_hv_sum hv j a (by omega)
    have e : n - (j + a) = (n - (j + (a + 1))) + 1 := by omega
    rw [e] at h1
    have h2 := hv (j + a) (by omega)
    have e2 : n - 1 - (j + a) = n - (j + (a + 1)) := by omega
    rw [e2] at h2
    have e3 : tc_sum s (n - (j + (a + 1)) + 1) = tc_sum s (n - (j + (a + 1))) + s (n - (j + (a + 1))) := rfl
    rw [e3] at h1
    show tc_hv v j a + v (j + a) + tc_sum s (n - (j + (a + 1))) = _
    omega
theorem tc_hv_le {v : Nat → Nat} {n M : Nat} (hv : ∀ i, i < n → v i ≤ M) : ∀ (j a : Nat), j + a ≤ n → tc_hv v j a ≤ a * M
  | _, 0, _ => Nat.zero_le _
  | j, a + 1, h => by
    have h1 := tc_hv_le hv j a (by omega)
    have h2 := hv (j + a) (by omega)
    show tc_hv v j a + v (j + a) ≤ (a + 1) * M
    rw [Nat.succ_mul]; omega
theorem tc_rch_j {v : Nat → Nat} {n : Nat} (hn : 0 < n) : ∀ {d j k c : Nat}, tc_rch v n d j k c → j < n ∧ 0 < k ∧ (k ≤ n - j)
  | 0, j, k, c, h => by
    obtain ⟨rfl, rfl, rfl⟩ := h
    omega
  | d + 1, j, k, c, h => by
    obtain ⟨j0, k0, a, c0, -, -, -, -, -, h1, h2, h3, -⟩ := h
    omega
theorem tc_rch_le {v : Nat → Nat} {n M D : Nat} (hv : ∀ i, i < n → v i ≤ M) : ∀ {d j k c : Nat}, d ≤ D + 1 → tc_rch v n d j k c → c ≤ j * (M * D)
  | 0, j, k, c, _, h => by
    obtain ⟨rfl, rfl, rfl⟩ := h
    exact Nat.zero_le _
  | d + 1, j, k, c, hd, h => by
    obtain ⟨j0, k0, a, c0, h0, -, -, -, rfl, h1, -, -, rfl⟩ := h
    have g1 := tc_rch_le hv (D := D) (by omega) h0
    have g2 := tc_hv_le hv j0 a (by omega)
    have g3 : tc_hv v j0 a * d ≤ a * M * D := Nat.mul_le_mul g2 (by omega)
    have e : (j0 + a) * (M * D) = j0 * (M * D) + a * M * D := by rw [Nat.add_mul, Nat.mul_assoc a M D]
    omega
/-- a way through the table is a sequence -/
theorem tc_path {s v : Nat → Nat} {n : Nat} (hv : ∀ i, i < n → v i = s (n - 1 - i)) : ∀ {d j k c : Nat}, tc_rch v n d j k c → ∃ bs : List Nat, bs.length = d ∧ tc_all n bs ∧ (∀ rest, tc_need (2 * (n - j - k)) rest → tc_need (2 * n - 2) (bs ++ rest)) ∧ c + d * tc_sum s (n - j) = tc_cost s bs
  | 0, j, k, c, h => by
    obtain ⟨rfl, rfl, rfl⟩ := h
    refine ⟨[], rfl, trivial, fun rest hr => ?_, by simp [tc_cost]⟩
    have e : 2 * (n - 0 - 1) = 2 * n - 2 := by omega
    rw [e] at hr
    exact hr
  | d + 1, j, k, c, h => by
    obtain ⟨j0, k0, a, c0, h0, -, -, ha, rfl, h1, rfl, -, rfl⟩ := h
    obtain ⟨bs, b1, b2, b3, b4⟩ := tc_path hv h0
    refine ⟨bs ++ [n - (j0 + a)], by simp [b1], tc_all_app b2 ⟨by omega, trivial⟩, fun rest hr => ?_, ?_⟩
    · rw [List.append_assoc]
      refine b3 _ ?_
      show tc_need (2 * (2 * (n - j0 - k0) - (n - (j0 + a)))) rest
      have e : 2 * (n - j0 - k0) - (n - (j0 + a)) = n - (j0 + a) - min (2 * (k0 - a)) (n - (j0 + a)) := by omega
      rw [e]; exact hr
    · rw [tc_cost_app, ← b4]
      have g := tc_hv_sum hv j0 a (by omega)
      rw [← g]
      show c0 + tc_hv v j0 a * d + (d + 1) * tc_sum s (n - (j0 + a)) = c0 + d * (tc_hv v j0 a + tc_sum s (n - (j0 + a))) + (tc_sum s (n - (j0 + a)) + 0)
      rw [Nat.mul_add, Nat.succ_mul, Nat.mul_comm d (tc_hv v j0 a)]
      omega
theorem tc_fin_seq {s v : Nat → Nat} {n : Nat} (hv : ∀ i, i < n → v i = s (n - 1 - i)) {d L c : Nat} (hd : d ≤ L) (h : tc_fin v n d c) : ∃ as : List Nat, as.length = L ∧ tc_all n as ∧ tc_need (2 * n - 2) as ∧ tc_cost s as = c := by
  obtain ⟨j, k, a, c0, h0, -, -, ha, hj, rfl⟩ := h
  obtain ⟨bs, b1, b2, b3, b4⟩ := tc_path hv h0
  refine ⟨bs ++ List.replicate (L - d) 0, by simp [b1]; omega, tc_all_app b2 (tc_all_zero n _), b3 _ ?_, ?_⟩
  · have e : 2 * (n - j - k) = 0 := by omega
    rw [e]; exact tc_need_zero _
  · rw [tc_cost_app, tc_cost_zero, ← b4]
    have g := tc_hv_sum hv j a (by omega)
    have e : n - (j + a) = 0 := by omega
    rw [e] at g
    have g : tc_hv v j a = tc_sum s (n - j) := g
    rw [← g, Nat.mul_comm (tc_hv v j a) d]
    omega
/-- a falling sequence is a way through the table -/
theorem tc_way {s v : Nat → Nat} {n : Nat} (hn16 : n ≤ 16) (hv : ∀ i, i < n → v i = s (n - 1 - i)) : ∀ (as : List Nat) (d j k c : Nat), tc_rch v n d j k c → j < n → 0 < k → k ≤ 16 → tc_desc (n - j) as → tc_need (2 * (n - j - k)) as → ∃ d' c', d' ≤ d + as.length ∧ tc_fin v n d' c' ∧ c' ≤ c + d * tc_sum s (n - j) + tc_cost s as
  | [], d, j, k, c, h0, hj, hk, hk16, _, hn => by
    have hn : 2 * (n - j - k) = 0 := hn
    refine ⟨d, c + tc_hv v j (n - j) * d, by omega, ⟨j, k, n - j, c, h0, by omega, hk16, by omega, by omega, rfl⟩, ?_⟩
    have g := tc_hv_sum hv j (n - j) (by omega)
    have e : n - (j + (n - j)) = 0 := by omega
    rw [e] at g
    have g : tc_hv v j (n - j) = tc_sum s (n - j) := g
    rw [← g, Nat.mul_comm (tc_hv v j (n - j)) d]
    show _ ≤ _ + 0
    omega
  | a1 :: rest, d, j, k, c, h0, hj, hk, hk16, hd, hn => by
    have hn : tc_need (2 * (2 * (n - j - k) - a1)) rest := hn
    have har : a1 ≤ n - j := hd.1
    have hall : tc_all a1 rest := tc_desc_all hd.2
    have ht : n - j - k ≤ a1 := by
      refine Nat.le_of_not_lt (fun h => ?_)
      exact tc_need_no hall (by omega) (by omega) hn
    by_cases h0a : a1 = 0
    · subst h0a
      refine ⟨d, c + tc_hv v j (n - j) * d, by omega, ⟨j, k, n - j, c, h0, by omega, hk16, by omega, by omega, rfl⟩, ?_⟩
      have g := tc_hv_sum hv j (n - j) (by omega)
      have e : n - (j + (n - j)) = 0 := by omega
      rw [e] at g
      have g : tc_hv v j (n - j) = tc_sum s (n - j) := g
      rw [← g, Nat.mul_comm (tc_hv v j (n - j)) d]
      omega
    · have hk' : 0 < min (2 * (k - (n - j - a1))) a1 := by
        refine Nat.pos_of_ne_zero (fun h => ?_)
        exact tc_need_no hall (m := 2 * (2 * (n - j - k) - a1)) (by omega) (by omega) hn
      have e1 : n - (j + (n - j - a1)) = a1 := by omega
      have hst : tc_rch v n (d + 1) (j + (n - j - a1)) (min (2 * (k - (n - j - a1))) a1) (c + tc_hv v j (n - j - a1) * d) :=
        ⟨j, k, n - j - a1, c, h0, by omega, hk16, by omega, rfl, by omega, by rw [e1], hk', rfl⟩
      have hneed : tc_need (2 * (n - (j + (n - j - a1)) - min (2 * (k - (n - j - a1))) a1)) rest := by
        have e : n - (j + (n - j - a1)) - min (2 * (k - (n - j - a1))) a1 = 2 * (n - j - k) - a1 := by omega
        rw [e]; exact hn
      obtain ⟨d', c', w1, w2, w3⟩ := tc_way hn16 hv rest (d + 1) _ _ _ hst (by omega) hk' (by omega) (by rw [e1]; exact hd.2) hneed
      refine ⟨d', c', by simp only [List.length_cons]; omega, w2, Nat.le_trans w3 ?_⟩
      have g := tc_hv_sum hv j (n - j - a1) (by omega)
      rw [e1] at g
      rw [e1, ← g]
      show c + tc_hv v j (n - j - a1) * d + (d + 1) * tc_sum s a1 + tc_cost s rest ≤ c + d * (tc_hv v j (n - j - a1) + tc_sum s a1) + (tc_sum s a1 + tc_cost s rest)
      rw [Nat.mul_add, Nat.succ_mul, Nat.mul_comm d (tc_hv v j (n - j - a1))]
      omega
/-- what the table can answer -/
def tc_ans (v : Nat → Nat) (n D c : Nat) : Prop := ∃ d, d < D ∧ tc_fin v n d c
/-- BOTH VALUES ARE ONE: package-merge's sum is the table's least answer -/
theorem tc_same {s v C : Nat → Nat} {n L : Nat} (h2 : 2 ≤ n) (h16 : n ≤ 16) (hL : n ≤ 2 ^ L) (hv : ∀ i, i < n → v i = s (n - 1 - i)) (hC : tc_lev s n L C) :
    tc_ans v n (L + 1) (tc_sum C (2 * n - 2)) ∧ ∀ c, tc_ans v n (L + 1) c → tc_sum C (2 * n - 2) ≤ c := by
  have hroom := tc_cnt_room (n := n) L 2 (by omega)
  have hle : ∀ c, tc_ans v n (L + 1) c → tc_sum C (2 * n - 2) ≤ c := by
    intro c hc
    obtain ⟨d, hd, hf⟩ := hc
    obtain ⟨as, a1, a2, a3, a4⟩ := tc_fin_seq hv (L := L) (by omega) hf
    rw [← a4]
    exact hC.2.2 _ as (by omega) a1 a2 a3
  refine ⟨?_, hle⟩
  obtain ⟨as, a1, a2, a3, a4⟩ := hC.2.1 (2 * n - 2) (by omega)
  obtain ⟨bs, b1, b2, b3, b4⟩ := tc_sort_seq s n as a2
  have hb := b4 _ a3
  obtain ⟨d', c', w1, w2, w3⟩ := tc_way h16 hv bs 0 0 1 0 ⟨rfl, rfl, rfl⟩ (by omega) (by omega) (by omega) (by rw [Nat.sub_zero]; exact b2) (by
    have e : 2 * (n - 0 - 1) = 2 * n - 2 := by omega
    rw [e]; exact hb)
  have hc' : tc_ans v n (L + 1) c' := ⟨d', by omega, w2⟩
  have g1 := hle c' hc'
  have g2 : c' ≤ tc_sum C (2 * n - 2) := by rw [a4, ← b3]; omega
  have e : c' = tc_sum C (2 * n - 2) := by omega
  rw [← e]; exact hc'
/-! rows sorted by insertion -/
def tc_ins (f : Nat → Nat) (p x : Nat) : Nat → Nat := fun j => if j < p then f j else if j = p then x else f (j - 1)
theorem tc_ins_lt {f : Nat → Nat} {p x j : Nat} (h : j < p) : tc_ins f p x j = f j := by simp [tc_ins, h]
theorem tc_ins_eq {f : Nat → Nat} {p x : Nat} : tc_ins f p x p = x := by simp [tc_ins]
theorem tc_ins_gt {f : Nat → Nat} {p x j : Nat} (h : p < j) : tc_ins f p x j = f (j - 1) := by
  have h1 : ¬ j < p := by omega
  have h2 : ¬ j = p := by omega
  simp [tc_ins, h1, h2]
def tc_row (f : Nat → Nat) (i : Nat) : List Nat := (List.range i).map f
theorem tc_row_s (f : Nat → Nat) (i : Nat) : tc_row f (i + 1) = tc_row f i ++ [f i] := by simp [tc_row, List.range_succ]
theorem tc_row_congr {f g : Nat → Nat} {i : Nat} (h : ∀ j, j < i → f j = g j) : tc_row f i = tc_row g i := by
  unfold tc_row
  exact List.map_congr_left (fun j hj => h j (List.mem_range.mp hj))
theorem tc_ins_perm (f : Nat → Nat) (p x : Nat) : ∀ (k : Nat), (tc_row (tc_ins f p x) (p + k + 1)).Perm (x :: tc_row f (p + k))
  | 0 => by
    rw [Nat.add_zero, tc_row_s, tc_ins_eq, tc_row_congr (g := f) (fun j hj => tc_ins_lt hj)]
    exact List.perm_append_comm (l₁ := tc_row f p) (l₂ := [x])
  | k + 1 => by
    have h := tc_ins_perm f p x k
    rw [tc_row_s, tc_ins_gt (by omega)]
    have e : p + (k + 1) - 1 + 1 = p + (k + 1) := by omega
    have e2 : tc_row f (p + (k + 1)) = tc_row f (p + k) ++ [f (p + k)] := tc_row_s f (p + k)
    have e3 : p + (k + 1) + 1 - 1 = p + (k + 1) := by omega
    have e4 : p + (k + 1) - 1 = p + k := by omega
    have e5 : f (p + (k + 1) - 1) = f (p + k) := by rw [e4]
    rw [e2, e5]
    exact h.append_right [f (p + k)]
theorem tc_ins_asc {f : Nat → Nat} {i p x : Nat} (h : tc_asc f i) (hp : p ≤ i) (h1 : 0 < p → f (p - 1) ≤ x) (h2 : p < i → x ≤ f p) : tc_asc (tc_ins f p x) (i + 1) := by
  intro a b hab hb
  by_cases hbp : b < p
  · rw [tc_ins_lt hbp, tc_ins_lt (by omega)]
    exact h a b hab (by omega)
  · by_cases hbe : b = p
    · subst hbe
      rw [tc_ins_eq]
      by_cases hae : a = b
      · subst hae; rw [tc_ins_eq]; exact Nat.le_refl _
      · rw [tc_ins_lt (by omega)]
        exact Nat.le_trans (h a (b - 1) (by omega) (by omega)) (h1 (by omega))
    · rw [tc_ins_gt (j := b) (by omega)]
      by_cases hap : a < p
      · rw [tc_ins_lt hap]
        exact h a (b - 1) (by omega) (by omega)
      · by_cases hae : a = p
        · subst hae
          rw [tc_ins_eq]
          exact Nat.le_trans (h2 (by omega)) (h a (b - 1) (by omega) (by omega))
        · rw [tc_ins_gt (j := a) (by omega)]
          exact h (a - 1) (b - 1) (by omega) (by omega)
theorem tc_ins_dsc {f : Nat → Nat} {i p x : Nat} (h : tc_dsc f i) (hp : p ≤ i) (h1 : 0 < p → x ≤ f (p - 1)) (h2 : p < i → f p ≤ x) : tc_dsc (tc_ins f p x) (i + 1) := by
  intro a b hab hb
  by_cases hbp : b < p
  · rw [tc_ins_lt hbp, tc_ins_lt (by omega)]
    exact h a b hab (by omega)
  · by_cases hbe : b = p
    · subst hbe
      rw [tc_ins_eq]
      by_cases hae : a = b
      · subst hae; rw [tc_ins_eq]; exact Nat.le_refl _
      · rw [tc_ins_lt (by omega)]
        exact Nat.le_trans (h1 (by omega)) (h a (b - 1) (by omega) (by omega))
    · rw [tc_ins_gt (j := b) (by omega)]
      by_cases hap : a < p
      · rw [tc_ins_lt hap]
        exact h a (b - 1) (by omega) (by omega)
      · by_cases hae : a = p
        · subst hae
          rw [tc_ins_eq]
          exact Nat.le_trans (h a (b - 1) (by omega) (by omega)) (h2 (by omega))
        · rw [tc_ins_gt (j := a) (by omega)]
          exact h (a - 1) (b - 1) (by omega) (by omega)
/-- the row s holds the first i of w, rising -/
def tc_srt (w s : Nat → Nat) (i : Nat) : Prop := tc_asc s i ∧ (tc_row s i).Perm (tc_row w i)
/-- the row o holds places of w, by falling weights -/
def tc_ord (w o : Nat → Nat) (i : Nat) : Prop := tc_dsc (fun j => w (o j)) i ∧ (tc_row (fun j => w (o j)) i).Perm (tc_row w i) ∧ ∀ j, j < i → o j < i
theorem tc_srt_0 (w s : Nat → Nat) : tc_srt w s 0 := ⟨fun i j _ hj => by omega, by simp [tc_row]⟩
theorem tc_ord_0 (w o : Nat → Nat) : tc_ord w o 0 := ⟨fun i j _ hj => by omega, by simp [tc_row], fun j hj => by omega⟩
theorem tc_perm_s {f g : Nat → Nat} {i : Nat} {l : List Nat} (h1 : l.Perm (g i :: tc_row f i)) (h2 : (tc_row f i).Perm (tc_row g i)) : l.Perm (tc_row g (i + 1)) := by
  rw [tc_row_s]
  exact (h1.trans (h2.cons _)).trans (List.perm_append_comm (l₁ := [g i]) (l₂ := tc_row g i))
theorem tc_srt_s {w s s' : Nat → Nat} {i p : Nat} (h : tc_srt w s i) (hp : p ≤ i) (h1 : 0 < p → s (p - 1) ≤ w i) (h2 : p < i → w i ≤ s p) (hs' : ∀ j, j < i + 1 → s' j = tc_ins s p (w i) j) : tc_srt w s' (i + 1) := by
  refine ⟨fun a b hab hb => ?_, ?_⟩
  · rw [hs' a (by omega), hs' b hb]
    exact tc_ins_asc h.1 hp h1 h2 a b hab hb
  · rw [tc_row_congr hs']
    have g := tc_ins_perm s p (w i) (i - p)
    have e : p + (i - p) = i := by omega
    rw [e] at g
    exact tc_perm_s g h.2
theorem tc_ord_s {w o o' : Nat → Nat} {i p : Nat} (h : tc_ord w o i) (hp : p ≤ i) (h1 : 0 < p → w i ≤ w (o (p - 1))) (h2 : p < i → w (o p) ≤ w i) (ho' : ∀ j, j < i + 1 → o' j = tc_ins o p i j) : tc_ord w o' (i + 1) := by
  have hc : ∀ j, j < i + 1 → w (o' j) = tc_ins (fun j => w (o j)) p (w i) j := by
    intro j hj
    rw [ho' j hj]
    by_cases hjp : j < p
    · rw [tc_ins_lt hjp, tc_ins_lt hjp]
    · by_cases hje : j = p
      · subst hje; rw [tc_ins_eq, tc_ins_eq]
      · rw [tc_ins_gt (by omega), tc_ins_gt (by omega)]
  refine ⟨fun a b hab hb => ?_, ?_, fun j hj => ?_⟩
  · show w (o' b) ≤ w (o' a)
    rw [hc a (by omega), hc b hb]
    exact tc_ins_dsc h.1 hp h1 h2 a b hab hb
  · rw [tc_row_congr hc]
    have g := tc_ins_perm (fun j => w (o j)) p (w i) (i - p)
    have e : p + (i - p) = i := by omega
    rw [e] at g
    exact tc_perm_s g h.2.1
  · rw [ho' j hj]
    by_cases hjp : j < p
    · rw [tc_ins_lt hjp]
      have := h.2.2 j (by omega)
      omega
    · by_cases hje : j = p
      · subst hje; rw [tc_ins_eq]; omega
      · rw [tc_ins_gt (by omega)]
        have := h.2.2 (j - 1) (by omega)
        omega
theorem tc_uniq : ∀ (l1 l2 : List Nat), l1.Perm l2 → l1.Pairwise (fun a b => a ≤ b) → l2.Pairwise (fun a b => a ≤ b) → l1 = l2
  | [], l2, h, _, _ => (List.nil_perm.mp h).symm
  | a :: l1, [], h, _, _ => absurd h.length_eq (by simp)
  | a :: l1, b :: l2, h, h1, h2 => by
    have e1 := List.pairwise_cons.mp h1
    have e2 := List.pairwise_cons.mp h2
    have m1 : a ∈ b :: l2 := h.mem_iff.mp List.mem_cons_self
    have m2 : b ∈ a :: l1 := h.mem_iff.mpr List.mem_cons_self
    have hab : a = b := by
      rcases List.mem_cons.mp m1 with q | q
      · exact q
      · rcases List.mem_cons.mp m2 with r | r
        · exact r.symm
        · have := e2.1 a q
          have := e1.1 b r
          omega
    subst hab
    rw [tc_uniq l1 l2 h.cons_inv e1.2 e2.2]
theorem tc_row_pw {f : Nat → Nat} {i : Nat} (h : tc_asc f i) : (tc_row f i).Pairwise (fun a b => a ≤ b) := by
  refine List.pairwise_iff_getElem.mpr (fun a b ha hb hab => ?_)
  have hb' : b < i := by simpa [tc_row] using hb
  simp only [tc_row, List.getElem_map, List.getElem_range]
  exact h a b (by omega) hb'
/-- the falling row is the rising one, read from its end -/
theorem tc_link {w s o : Nat → Nat} {n : Nat} (h1 : tc_srt w s n) (h2 : tc_ord w o n) : ∀ i, i < n → w (o i) = s (n - 1 - i) := by
  have hasc : tc_asc (fun i => w (o (n - 1 - i))) n := fun a b hab hb => h2.1 (n - 1 - b) (n - 1 - a) (by omega) (by omega)
  have hrev : tc_row (fun i => w (o (n - 1 - i))) n = (tc_row (fun i => w (o i)) n).reverse := by
    refine List.ext_getElem (by simp [tc_row]) (fun k hk1 hk2 => ?_)
    have hk : k < n := by simpa [tc_row] using hk1
    simp [tc_row, List.getElem_reverse]
  have hperm : (tc_row s n).Perm (tc_row (fun i => w (o (n - 1 - i))) n) := by
    rw [hrev]
    exact (h1.2.trans h2.2.1.symm).trans (List.reverse_perm _).symm
  have he := tc_uniq _ _ hperm (tc_row_pw h1.1) (tc_row_pw hasc)
  intro i hi
  have h3 : (tc_row s n)[n - 1 - i]? = (tc_row (fun i => w (o (n - 1 - i))) n)[n - 1 - i]? := by rw [he]
  have hlt : n - 1 - i < n := by omega
  simp [tc_row, hlt] at h3
  have e : n - 1 - (n - 1 - i) = i := by omega
  rw [e] at h3
  exact h3.symm
end
