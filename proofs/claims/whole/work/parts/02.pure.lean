/-! PURE MATHEMATICS over Nat: rows, level sequences, package-merge's rows, the depth-by-depth table -/
section
/-- the sum of f over [0, m) -/
def tc_sum (f : Nat → Nat) : Nat → Nat
  | 0 => 0
  | m + 1 => tc_sum f m + f m
/-- what a sequence of counts costs: for each depth the sum of that many lightest weights -/
def tc_cost (f : Nat → Nat) : List Nat → Nat
  | [] => 0
  | a :: as => tc_sum f a + tc_cost f as
/-- the sequence takes up m coins of the topmost depth -/
def tc_need : Nat → List Nat → Prop
  | m, [] => m = 0
  | m, a :: as => tc_need (2 * (m - a)) as
def tc_all (n : Nat) : List Nat → Prop
  | [] => True
  | a :: as => a ≤ n ∧ tc_all n as
def tc_desc : Nat → List Nat → Prop
  | _, [] => True
  | r, a :: as => a ≤ r ∧ tc_desc a as
def tc_cnt (n : Nat) : Nat → Nat
  | 0 => 0
  | t + 1 => n + tc_cnt n t / 2
def tc_asc (f : Nat → Nat) (m : Nat) : Prop := ∀ i j, i ≤ j → j < m → f i ≤ f j
def tc_dsc (f : Nat → Nat) (m : Nat) : Prop := ∀ i j, i ≤ j → j < m → f j ≤ f i
def tc_up (f : Nat → Nat) (k x : Nat) : Nat → Nat := fun j => if j = k then x else f j
theorem tc_sum_congr {f g : Nat → Nat} : ∀ {m : Nat}, (∀ i, i < m → f i = g i) → tc_sum f m = tc_sum g m
  | 0, _ => rfl
  | m + 1, h => by
    have h1 := tc_sum_congr (f := f) (g := g) (m := m) (fun i hi => h i (by omega))
    have h2 := h m (by omega)
    show tc_sum f m + f m = tc_sum g m + g m
    omega
theorem tc_sum_mono (f : Nat → Nat) {a : Nat} : ∀ {b : Nat}, a ≤ b → tc_sum f a ≤ tc_sum f b
  | 0, h => by
    have : a = 0 := by omega
    subst this; exact Nat.le_refl _
  | b + 1, h => by
    by_cases hb : a = b + 1
    · subst hb; exact Nat.le_refl _
    · have h1 := tc_sum_mono f (a := a) (b := b) (by omega)
      show tc_sum f a ≤ tc_sum f b + f b
      omega
theorem tc_sum_le (f : Nat → Nat) (M : Nat) : ∀ (m : Nat), (∀ i, i < m → f i ≤ M) → tc_sum f m ≤ m * M
  | 0, _ => Nat.zero_le _
  | m + 1, h => by
    have h1 := tc_sum_le f M m (fun i hi => h i (by omega))
    have h2 := h m (by omega)
    show tc_sum f m + f m ≤ (m + 1) * M
    rw [Nat.succ_mul]
    omega
theorem tc_cost_app (f : Nat → Nat) : ∀ (as bs : List Nat), tc_cost f (as ++ bs) = tc_cost f as + tc_cost f bs
  | [], bs => by simp [tc_cost]
  | a :: as, bs => by
    have h := tc_cost_app f as bs
    show tc_sum f a + tc_cost f (as ++ bs) = tc_sum f a + tc_cost f as + tc_cost f bs
    omega
theorem tc_all_app {n : Nat} : ∀ {as bs : List Nat}, tc_all n as → tc_all n bs → tc_all n (as ++ bs)
  | [], _, _, hb => hb
  | _ :: _, _, ha, hb => ⟨ha.1, tc_all_app ha.2 hb⟩
theorem tc_all_w {n n' : Nat} (h : n ≤ n') : ∀ {as : List Nat}, tc_all n as → tc_all n' as
  | [], _ => trivial
  | _ :: _, ha => ⟨Nat.le_trans ha.1 h, tc_all_w h ha.2⟩
theorem tc_desc_all : ∀ {as : List Nat} {r : Nat}, tc_desc r as → tc_all r as
  | [], _, _ => trivial
  | a :: as, r, h => ⟨h.1, tc_all_w h.1 (tc_desc_all h.2)⟩
theorem tc_need_mono : ∀ {as : List Nat} {m m' : Nat}, m' ≤ m → tc_need m as → tc_need m' as
  | [], m, m', h, hn => by
    have hn : m = 0 := hn
    show m' = 0
    omega
  | a :: as, m, m', h, hn => tc_need_mono (as := as) (m := 2 * (m - a)) (by omega) hn
theorem tc_need_zero : ∀ (k : Nat), tc_need 0 (List.replicate k 0)
  | 0 => rfl
  | k + 1 => by
    show tc_need (2 * (0 - 0)) (List.replicate k 0)
    exact tc_need_zero k
theorem tc_cost_zero (f : Nat → Nat) : ∀ (k : Nat), tc_cost f (List.replicate k 0) = 0
  | 0 => rfl
  | k + 1 => by
    show 0 + tc_cost f (List.replicate k 0) = 0
    rw [tc_cost_zero f k]
theorem tc_all_zero (n : Nat) : ∀ (k : Nat), tc_all n (List.replicate k 0)
  | 0 => trivial
  | k + 1 => ⟨Nat.zero_le _, tc_all_zero n k⟩
/-- sequences whose counts are at most a never take up 2a coins or more -/
theorem tc_need_no {a : Nat} : ∀ {as : List Nat} {m : Nat}, tc_all a as → 2 * a ≤ m → 0 < m → ¬ tc_need m as
  | [], m, _, _, h0, hn => by
    have hn : m = 0 := hn
    omega
  | b :: bs, m, hall, h2, h0, hn => by
    have hb : b ≤ a := hall.1
    exact tc_need_no (as := bs) (m := 2 * (m - b)) hall.2 (by omega) (by omega) hn
/-- what can be taken up at all -/
theorem tc_need_cnt {n : Nat} : ∀ {as : List Nat} {m : Nat}, tc_all n as → tc_need m as → m ≤ tc_cnt n as.length
  | [], m, _, hn => by
    have hn : m = 0 := hn
    omega
  | a :: as, m, hall, hn => by
    have h1 : 2 * (m - a) ≤ tc_cnt n as.length := tc_need_cnt (as := as) hall.2 hn
    have ha : a ≤ n := hall.1
    show m ≤ n + tc_cnt n as.length / 2
    omega
theorem tc_cnt_lt {n : Nat} (hn : 0 < n) : ∀ t, tc_cnt n t < 2 * n
  | 0 => by show 0 < 2 * n; omega
  | t + 1 => by
    have h := tc_cnt_lt hn t
    show n + tc_cnt n t / 2 < 2 * n
    omega
theorem tc_cnt_room {n : Nat} : ∀ (t k : Nat), 2 * n ≤ k * 2 ^ t → 2 * n ≤ tc_cnt n t + k
  | 0, k, h => by
    have h : 2 * n ≤ k := by simpa using h
    show 2 * n ≤ 0 + k
    omega
  | t + 1, k, h => by
    have h1 := tc_cnt_room t (2 * k) (by
      have e : 2 * k * 2 ^ t = k * 2 ^ (t + 1) := by
        rw [Nat.pow_succ, Nat.mul_comm 2 k, Nat.mul_assoc, Nat.mul_comm 2 (2 ^ t)]
      rw [e]; exact h)
    show 2 * n ≤ n + tc_cnt n t / 2 + k
    omega
/-! sorting a sequence so that it falls -/
theorem tc_ins_seq (s : Nat → Nat) : ∀ (bs : List Nat) (r a : Nat), tc_desc r bs → a ≤ r → ∃ cs : List Nat, cs.length = bs.length + 1 ∧ tc_desc r cs ∧ tc_cost s cs = tc_sum s a + tc_cost s bs ∧ ∀ m, tc_need m (a :: bs) → tc_need m cs
  | [], r, a, _, ha => ⟨[a], rfl, ⟨ha, trivial⟩, rfl, fun _ h => h⟩
  | b :: bs, r, a, hd, ha => by
    by_cases h : b ≤ a
    · exact ⟨a :: b :: bs, rfl, ⟨ha, h, hd.2⟩, rfl, fun _ h => h⟩
    · obtain ⟨cs, h1, h2, h3, h4⟩ := tc_ins_seq s bs b a hd.2 (by omega)
      refine ⟨b :: cs, by simp [h1], ⟨hd.1, h2⟩, ?_, fun m hm => ?_⟩
      · show tc_sum s b + tc_cost s cs = tc_sum s a + (tc_sum s b + tc_cost s bs)
        omega
      · show tc_need (2 * (m - b)) cs
        refine h4 _ ?_
        show tc_need (2 * (2 * (m - b) - a)) bs
        have hm : tc_need (2 * (2 * (m - a) - b)) bs := hm
        exact tc_need_mono (by omega) hm
theorem tc_sort_seq (s : Nat → Nat) (n : Nat) : ∀ (as : List Nat), tc_all n as → ∃ bs : List Nat, bs.length = as.length ∧ tc_desc n bs ∧ tc_cost s bs = tc_cost s as ∧ ∀ m, tc_need m as → tc_need m bs
  | [], _ => ⟨[], rfl, trivial, rfl, fun _ h => h⟩
  | a :: as, h => by
    obtain ⟨bs, h1, h2, h3, h4⟩ := tc_sort_seq s n as h.2
    obtain ⟨cs, g1, g2, g3, g4⟩ := tc_ins_seq s bs n a h2 h.1
    refine ⟨cs, by simp [g1, h1], g2, ?_, fun m hm => g4 m (h4 _ hm)⟩
    show tc_cost s cs = tc_sum s a + tc_cost s as
    omega
/-! package-merge's rows -/
/-- a row of the level t: it rises, and each sum of its first m coins is the least cost of a sequence that takes up m -/
def tc_lev (s : Nat → Nat) (n t : Nat) (C : Nat → Nat) : Prop :=
  tc_asc C (tc_cnt n t) ∧
  (∀ m, m ≤ tc_cnt n t → ∃ as : List Nat, as.length = t ∧ tc_all n as ∧ tc_need m as ∧ tc_sum C m = tc_cost s as) ∧
  (∀ m (as : List Nat), m ≤ tc_cnt n t → as.length = t → tc_all n as → tc_need m as → tc_sum C m ≤ tc_cost s as)
theorem tc_lev_0 (s : Nat → Nat) (n : Nat) (C : Nat → Nat) : tc_lev s n 0 C := by
  refine ⟨fun i j _ hj => absurd hj (Nat.not_lt_zero _), fun m hm => ?_, fun m as hm _ _ _ => ?_⟩
  · have hm : m ≤ 0 := hm
    have : m = 0 := by omega
    subst this
    exact ⟨[], rfl, trivial, rfl, rfl⟩
  · have hm : m ≤ 0 := hm
    have : m = 0 := by omega
    subst this
    exact Nat.zero_le _
/-- what is taken of two rising rows is no dearer than what is left -/
def tc_ok (s B : Nat → Nat) (n q x y : Nat) : Prop := (0 < x → y < q → s (x - 1) ≤ B y) ∧ (0 < y → x < n → B (y - 1) ≤ s x)
theorem tc_ok_sym {s B : Nat → Nat} {n q x y : Nat} (h : tc_ok s B n q x y) : tc_ok B s q n y x := ⟨h.2, h.1⟩
theorem tc_min_up {s B : Nat → Nat} {n q x y : Nat} (hs : tc_asc s n) (hB : tc_asc B q) (hok : tc_ok s B n q x y) (hy : y ≤ q) : ∀ k, k ≤ y → x + k ≤ n → tc_sum s x + tc_sum B y ≤ tc_sum s (x + k) + tc_sum B (y - k)
  | 0, _, _ => Nat.le_refl _
  | k + 1, hk, hx => by
    have h1 := tc_min_up hs hB hok hy k (by omega) (by omega)
    have h2 : B (y - 1) ≤ s x := hok.2 (by omega) (by omega)
    have h3 : s x ≤ s (x + k) := hs x (x + k) (by omega) (by omega)
    have h4 : B (y - k - 1) ≤ B (y - 1) := hB _ _ (by omega) (by omega)
    have e1 : tc_sum s (x + (k + 1)) = tc_sum s (x + k) + s (x + k) := rfl
    have e2 : tc_sum B (y - k) = tc_sum B (y - k - 1) + B (y - k - 1) := by
      have : y - k = (y - k - 1) + 1 := by omega
      rw [this]; rfl
    have e3 : y - (k + 1) = y - k - 1 := by omega
    rw [e1, e3]
    omega
theorem tc_min {s B : Nat → Nat} {n q x y x' y' : Nat} (hs : tc_asc s n) (hB : tc_asc B q) (hok : tc_ok s B n q x y) (hx : x ≤ n) (hy : y ≤ q) (he : x' + y' = x + y) (hx' : x' ≤ n) (hy' : y' ≤ q) : tc_sum s x + tc_sum B y ≤ tc_sum s x' + tc_sum B y' := by
  by_cases h : x ≤ x'
  · have h1 := tc_min_up hs hB hok hy (x' - x) (by omega) (by omega)
    have e1 : x + (x' - x) = x' := by omega
    have e2 : y - (x' - x) = y' := by omega
    rw [e1, e2] at h1
    exact h1
  · have h1 := tc_min_up hB hs (tc_ok_sym hok) hx (x - x') (by omega) (by omega)
    have e1 : y + (x - x') = y' := by omega
    have e2 : x - (x - x') = x' := by omega
    rw [e1, e2] at h1
    omega
/-- the merge at its i-th coin -/
def tc_mi (s B : Nat → Nat) (n q i x y : Nat) (C : Nat → Nat) : Prop :=
  x + y = i ∧ x ≤ n ∧ y ≤ q ∧ tc_ok s B n q x y ∧ tc_asc C i ∧ (0 < i → x < n → C (i - 1) ≤ s x) ∧ (0 < i → y < q → C (i - 1) ≤ B y) ∧
  ∀ m, m ≤ i → ∃ x' y', x' + y' = m ∧ x' ≤ n ∧ y' ≤ q ∧ tc_ok s B n q x' y' ∧ tc_sum C m = tc_sum s x' + tc_sum B y' ∧ (m = i → x' = x ∧ y' = y)
theorem tc_mi_0 (s B : Nat → Nat) (n q : Nat) (C : Nat → Nat) : tc_mi s B n q 0 0 0 C := by
  refine ⟨rfl, Nat.zero_le _, Nat.zero_le _, ⟨fun h => by omega, fun h => by omega⟩, fun i j _ hj => by omega, fun h => by omega, fun h => by omega, fun m hm => ?_⟩
  have : m = 0 := by omega
  subst this
  exact ⟨0, 0, rfl, Nat.zero_le _, Nat.zero_le _, ⟨fun h => by omega, fun h => by omega⟩, rfl, fun _ => ⟨rfl, rfl⟩⟩
theorem tc_up_at (f : Nat → Nat) (k x : Nat) : tc_up f k x k = x := by simp [tc_up]
theorem tc_up_ne (f : Nat → Nat) {k j : Nat} (x : Nat) (h : j ≠ k) : tc_up f k x j = f j := by simp [tc_up, h]
theorem tc_sum_up (f : Nat → Nat) (k x : Nat) {m : Nat} (h : m ≤ k) : tc_sum (tc_up f k x) m = tc_sum f m := tc_sum_congr (fun i hi => tc_up_ne f x (by omega))
theorem tc_asc_up {C : Nat → Nat} {i z : Nat} (h : tc_asc C i) (hl : 0 < i → C (i - 1) ≤ z) : tc_asc (tc_up C i z) (i + 1) := by
  intro a b hab hb
  by_cases hbi : b = i
  · subst hbi
    rw [tc_up_at]
    by_cases hai : a = b
    · subst hai; rw [tc_up_at]; exact Nat.le_refl _
    · rw [tc_up_ne _ _ hai]
      exact Nat.le_trans (h a (b - 1) (by omega) (by omega)) (hl (by omega))
  · rw [tc_up_ne _ _ hbi, tc_up_ne _ _ (by omega)]
    exact h a b hab (by omega)
theorem tc_mi_l {s B : Nat → Nat} {n q i x y : Nat} {C : Nat → Nat} (hs : tc_asc s n) (h : tc_mi s B n q i x y C) (hx : x < n) (hle : y < q → s x ≤ B y) : tc_mi s B n q (i + 1) (x + 1) y (tc_up C i (s x)) := by
  obtain ⟨h1, h2, h3, h4, h5, h6, h7, h8⟩ := h
  have hok : tc_ok s B n q (x + 1) y := ⟨fun _ hy => hle hy, fun hy hx1 => Nat.le_trans (h4.2 hy hx) (hs x (x + 1) (by omega) hx1)⟩
  refine ⟨by omega, hx, h3, hok, tc_asc_up h5 (fun h0 => h6 h0 hx), fun _ hx1 => ?_, fun _ hy => ?_, fun m hm => ?_⟩
  · show tc_up C i (s x) i ≤ _
    rw [tc_up_at]; exact hs x (x + 1) (by omega) hx1
  · show tc_up C i (s x) i ≤ _
    rw [tc_up_at]; exact hle hy
  · by_cases hmi : m = i + 1
    · subst hmi
      obtain ⟨x', y', g1, g2, g3, g4, g5, g6⟩ := h8 i (Nat.le_refl _)
      obtain ⟨rfl, rfl⟩ := g6 rfl
      refine ⟨x' + 1, y', by omega, hx, h3, hok, ?_, fun _ => ⟨rfl, rfl⟩⟩
      show tc_sum (tc_up C i (s x')) i + tc_up C i (s x') i = tc_sum s x' + s x' + tc_sum B y'
      rw [tc_sum_up _ _ _ (Nat.le_refl _), tc_up_at]
      omega
    · obtain ⟨x', y', g1, g2, g3, g4, g5, g6⟩ := h8 m (by omega)
      exact ⟨x', y', g1, g2, g3, g4, by rw [tc_sum_up _ _ _ (by omega)]; exact g5, fun h => absurd h hmi⟩
theorem tc_mi_r {s B : Nat → Nat} {n q i x y : Nat} {C : Nat → Nat} (hB : tc_asc B q) (h : tc_mi s B n q i x y C) (hy : y < q) (hle : x < n → B y ≤ s x) : tc_mi s B n q (i + 1) x (y + 1) (tc_up C i (B y)) := by
  obtain ⟨h1, h2, h3, h4, h5, h6, h7, h8⟩ := h
  have hok : tc_ok s B n q x (y + 1) := ⟨fun hx hy1 => Nat.le_trans (h4.1 hx hy) (hB y (y + 1) (by omega) hy1), fun _ hx => hle hx⟩
  refine ⟨by omega, h2, hy, hok, tc_asc_up h5 (fun h0 => h7 h0 hy), fun _ hx => ?_, fun _ hy1 => ?_, fun m hm => ?_⟩
  · show tc_up C i (B y) i ≤ _
    rw [tc_up_at]; exact hle hx
  · show tc_up C i (B y) i ≤ _
    rw [tc_up_at]; exact hB y (y + 1) (by omega) hy1
  · by_cases hmi : m = i + 1
    · subst hmi
      obtain ⟨x', y', g1, g2, g3, g4, g5, g6⟩ := h8 i (Nat.le_refl _)
      obtain ⟨rfl, rfl⟩ := g6 rfl
      refine ⟨x', y' + 1, by omega, h2, hy, hok, ?_, fun _ => ⟨rfl, rfl⟩⟩
      show tc_sum (tc_up C i (B y')) i + tc_up C i (B y') i = tc_sum s x' + (tc_sum B y' + B y')
      rw [tc_sum_up _ _ _ (Nat.le_refl _), tc_up_at]
      omega
    · obtain ⟨x', y', g1, g2, g3, g4, g5, g6⟩ := h8 m (by omega)
      exact ⟨x', y', g1, g2, g3, g4, by rw [tc_sum_up _ _ _ (by omega)]; exact g5, fun h => absurd h hmi⟩
/-- the pairs of a row -/
def tc_pr (C : Nat → Nat) : Nat → Nat := fun i => C (2 * i) + C (2 * i + 1)
theorem tc_pr_sum (C : Nat → Nat) : ∀ y, tc_sum (tc_pr C) y = tc_sum C (2 * y)
  | 0 => rfl
  | y + 1 => by
    have h := tc_pr_sum C y
    show tc_sum (tc_pr C) y + (C (2 * y) + C (2 * y + 1)) = tc_sum C (2 * y) + C (2 * y) + C (2 * y + 1)
    omega
theorem tc_pr_asc {C : Nat → Nat} {m q : Nat} (h : tc_asc C m) (hq : 2 * q ≤ m) : tc_asc (tc_pr C) q := by
  intro i j hij hj
  have h1 := h (2 * i) (2 * j) (by omega) (by omega)
  have h2 := h (2 * i + 1) (2 * j + 1) (by omega) (by omega)
  show C (2 * i) + C (2 * i + 1) ≤ C (2 * j) + C (2 * j + 1)
  omega
theorem tc_lev_s {s C C' : Nat → Nat} {n t x y : Nat} (hs : tc_asc s n) (hC : tc_lev s n t C) (h : tc_mi s (tc_pr C) n (tc_cnt n t / 2) (tc_cnt n (t + 1)) x y C') : tc_lev s n (t + 1) C' := by
  obtain ⟨c1, c2, c3⟩ := hC
  obtain ⟨-, -, -, -, h5, -, -, h8⟩ := h
  have hB : tc_asc (tc_pr C) (tc_cnt n t / 2) := tc_pr_asc c1 (by omega)
  refine ⟨h5, fun m hm => ?_, fun m as hm hlen hall hn => ?_⟩
  · obtain ⟨x', y', g1, g2, g3, g4, g5, -⟩ := h8 m hm
    obtain ⟨as, a1, a2, a3, a4⟩ := c2 (2 * y') (by omega)
    refine ⟨x' :: as, by simp [a1], ⟨g2, a2⟩, ?_, ?_⟩
    · show tc_need (2 * (m - x')) as
      have e : 2 * (m - x') = 2 * y' := by omega
      rw [e]; exact a3
    · rw [g5, tc_pr_sum, a4]; rfl
  · obtain ⟨x', y', g1, g2, g3, g4, g5, -⟩ := h8 m hm
    cases as with
    | nil => simp at hlen
    | cons a as =>
      have hlen : as.length = t := by simpa using hlen
      have ha : a ≤ n := hall.1
      have hn : tc_need (2 * (m - a)) as := hn
      have hcap := tc_need_cnt hall.2 hn
      rw [hlen] at hcap
      rw [g5]
      show _ ≤ tc_sum s a + tc_cost s as
      by_cases hma : m ≤ a
      · have h1 := tc_min hs hB g4 g2 g3 (x' := m) (y' := 0) (by omega) (by omega) (by omega)
        have h2 := tc_sum_mono s hma
        have e0 : tc_sum (tc_pr C) 0 = 0 := rfl
        omega
      · have h1 := tc_min hs hB g4 g2 g3 (x' := a) (y' := m - a) (by omega) ha (by omega)
        have h2 := c3 (2 * (m - a)) as hcap hlen hall.2 hn
        rw [tc_pr_sum C (m - a)] at h1
        omega
end
