/-! PURE, third part: the table's row, offer by offer -/
section
/-- x is the least of P, or -1 where there is none -/
def tc_mo (P : Nat → Prop) (x : Int64) : Prop := (x = -1 ∧ ∀ c, ¬ P c) ∨ ∃ c, c < 2 ^ 61 ∧ x = lN c ∧ P c ∧ ∀ c', P c' → c ≤ c'
theorem tc_mo_congr {P P' : Nat → Prop} {x : Int64} (h : ∀ c, P c ↔ P' c) (hm : tc_mo P x) : tc_mo P' x := by
  rcases hm with ⟨h1, h2⟩ | ⟨c, h1, h2, h3, h4⟩
  · exact Or.inl ⟨h1, fun c hc => h2 c ((h c).mpr hc)⟩
  · exact Or.inr ⟨c, h1, h2, (h c).mp h3, fun c' hc' => h4 c' ((h c').mpr hc')⟩
theorem tc_mo_none {P : Nat → Prop} (h : ∀ c, ¬ P c) : tc_mo P (-1) := Or.inl ⟨rfl, h⟩
theorem tc_mo_new {P P' : Nat → Prop} {x : Int64} {e : Nat} (hm : tc_mo P x) (he : e < 2 ^ 61) (hq : P' e) (hmin : ∀ c, P' c → e ≤ c) (h : x < 0 ∨ lN e < x) : tc_mo (fun c => P c ∨ P' c) (lN e) := by
  refine Or.inr ⟨e, he, rfl, Or.inr hq, fun c' hc' => ?_⟩
  rcases hc' with hc' | hc'
  · rcases hm with ⟨h1, h2⟩ | ⟨c, h1, h2, h3, h4⟩
    · exact absurd hc' (h2 c')
    · have g := h4 c' hc'
      rcases h with h | h
      · rw [h2] at h; exact absurd h (tn_neg (by omega))
      · rw [h2] at h
        have := (tn_lt (by omega) (by omega)).mp h
        omega
  · exact hmin c' hc'
theorem tc_mo_old {P P' : Nat → Prop} {x : Int64} {e : Nat} (hm : tc_mo P x) (he : e < 2 ^ 61) (hmin : ∀ c, P' c → e ≤ c) (h0 : ¬ x < 0) (h : ¬ lN e < x) : tc_mo (fun c => P c ∨ P' c) x := by
  rcases hm with ⟨h1, h2⟩ | ⟨c, h1, h2, h3, h4⟩
  · rw [h1] at h0; exact absurd tn_m h0
  · refine Or.inr ⟨c, h1, h2, Or.inl h3, fun c' hc' => ?_⟩
    rcases hc' with hc' | hc'
    · exact h4 c' hc'
    · have g := hmin c' hc'
      rw [h2] at h
      have : ¬ e < c := fun q => h ((tn_lt (by omega) (by omega)).mpr q)
      omega
/-- what j letters, k places and a new letters offer: to the next row, and as an answer -/
def tc_of (v : Nat → Nat) (n d j k a j' k' c : Nat) : Prop := ∃ c0, tc_rch v n d j k c0 ∧ a ≤ k ∧ j' = j + a ∧ j' < n ∧ k' = min (2 * (k - a)) (n - j') ∧ 0 < k' ∧ c = c0 + tc_hv v j a * d
def tc_fo (v : Nat → Nat) (n d j k a c : Nat) : Prop := ∃ c0, tc_rch v n d j k c0 ∧ a ≤ k ∧ j + a = n ∧ c = c0 + tc_hv v j a * d
def tc_dn (J K A j k a : Nat) : Prop := j < J ∨ (j = J ∧ (k < K ∨ (k = K ∧ a < A)))
def tc_nx (v : Nat → Nat) (n d J K A j' k' c : Nat) : Prop := ∃ j k a, tc_dn J K A j k a ∧ j ≤ n ∧ k ≤ 16 ∧ tc_of v n d j k a j' k' c
def tc_an (v : Nat → Nat) (n d J K A c : Nat) : Prop := tc_ans v n d c ∨ ∃ j k a, tc_dn J K A j k a ∧ j ≤ n ∧ k ≤ 16 ∧ tc_fo v n d j k a c
/-- the row and the answer once the offers before (J, K, A) are in -/
def tc_st (v : Nat → Nat) (n d J K A : Nat) (g : Nat → Int64) (x : Int64) : Prop :=
  (∀ j' k', j' ≤ n → k' ≤ 16 → tc_mo (tc_nx v n d J K A j' k') (g (17 * j' + k'))) ∧ tc_mo (tc_an v n d J K A) x
theorem tc_st_0 {v : Nat → Nat} {n d : Nat} {g : Nat → Int64} {x : Int64} (hn : n ≤ 16) (hg : ∀ q, q < 289 → g q = -1) (hx : tc_mo (tc_ans v n d) x) : tc_st v n d 0 0 0 g x := by
  refine ⟨fun j' k' hj hk => ?_, tc_mo_congr (fun c => ⟨Or.inl, fun h => ?_⟩) hx⟩
  · rw [hg _ (by omega)]
    refine tc_mo_none (fun c hc => ?_)
    obtain ⟨j, k, a, h1, -⟩ := hc
    unfold tc_dn at h1
    omega
  · rcases h with h | ⟨j, k, a, h1, -⟩
    · exact h
    · unfold tc_dn at h1
      omega
theorem tc_st_re {v : Nat → Nat} {n d J K A J' K' A' : Nat} {g : Nat → Int64} {x : Int64} (h : tc_st v n d J K A g x)
    (h1 : ∀ j k a j' k' c, j ≤ n → k ≤ 16 → tc_of v n d j k a j' k' c → (tc_dn J K A j k a ↔ tc_dn J' K' A' j k a))
    (h2 : ∀ j k a c, j ≤ n → k ≤ 16 → tc_fo v n d j k a c → (tc_dn J K A j k a ↔ tc_dn J' K' A' j k a)) : tc_st v n d J' K' A' g x := by
  refine ⟨fun j' k' hj hk => tc_mo_congr (fun c => ⟨fun q => ?_, fun q => ?_⟩) (h.1 j' k' hj hk), tc_mo_congr (fun c => ⟨fun q => ?_, fun q => ?_⟩) h.2⟩
  · obtain ⟨j, k, a, q1, q2, q3, q4⟩ := q
    exact ⟨j, k, a, (h1 j k a j' k' c q2 q3 q4).mp q1, q2, q3, q4⟩
  · obtain ⟨j, k, a, q1, q2, q3, q4⟩ := q
    exact ⟨j, k, a, (h1 j k a j' k' c q2 q3 q4).mpr q1, q2, q3, q4⟩
  · rcases q with q | ⟨j, k, a, q1, q2, q3, q4⟩
    · exact Or.inl q
    · exact Or.inr ⟨j, k, a, (h2 j k a c q2 q3 q4).mp q1, q2, q3, q4⟩
  · rcases q with q | ⟨j, k, a, q1, q2, q3, q4⟩
    · exact Or.inl q
    · exact Or.inr ⟨j, k, a, (h2 j k a c q2 q3 q4).mpr q1, q2, q3, q4⟩
/-- behind the last offer of (J, K) -/
theorem tc_st_k {v : Nat → Nat} {n d J K A : Nat} {g : Nat → Int64} {x : Int64} (h : tc_st v n d J K A g x) (ho : K < A ∨ n < J + A ∨ ∀ c, ¬ tc_rch v n d J K c) : tc_st v n d J (K + 1) 0 g x := by
  refine tc_st_re h (fun j k a j' k' c _ _ q => ?_) (fun j k a c _ _ q => ?_)
  · obtain ⟨c0, q1, q2, q3, q4, -⟩ := q
    unfold tc_dn
    rcases ho with ho | ho | ho
    · omega
    · omega
    · have : ¬ (j = J ∧ k = K) := fun z => ho c0 (by rw [← z.1, ← z.2]; exact q1)
      omega
  · obtain ⟨c0, q1, q2, q3, -⟩ := q
    unfold tc_dn
    rcases ho with ho | ho | ho
    · omega
    · omega
    · have : ¬ (j = J ∧ k = K) := fun z => ho c0 (by rw [← z.1, ← z.2]; exact q1)
      omega
theorem tc_st_j {v : Nat → Nat} {n d J : Nat} {g : Nat → Int64} {x : Int64} (h : tc_st v n d J 17 0 g x) : tc_st v n d (J + 1) 0 0 g x := by
  refine tc_st_re h (fun j k a j' k' c _ hk q => ?_) (fun j k a c _ hk q => ?_) <;> (unfold tc_dn; omega)
theorem tc_st_end {v : Nat → Nat} {n d : Nat} {g : Nat → Int64} {x : Int64} (h : tc_st v n d (n + 1) 0 0 g x) : (∀ j k, j ≤ n → k ≤ 16 → tc_mo (tc_rch v n (d + 1) j k) (g (17 * j + k))) ∧ tc_mo (tc_ans v n (d + 1)) x := by
  refine ⟨fun j k hj hk => tc_mo_congr (fun c => ⟨fun q => ?_, fun q => ?_⟩) (h.1 j k hj hk), tc_mo_congr (fun c => ⟨fun q => ?_, fun q => ?_⟩) h.2⟩
  · obtain ⟨j0, k0, a, -, q2, q3, c0, g1, g2, g3, g4, g5, g6, g7⟩ := q
    exact ⟨j0, k0, a, c0, g1, q2, q3, g2, g3, g4, g5, g6, g7⟩
  · obtain ⟨j0, k0, a, c0, g1, q2, q3, g2, g3, g4, g5, g6, g7⟩ := q
    exact ⟨j0, k0, a, Or.inl (by omega), q2, q3, c0, g1, g2, g3, g4, g5, g6, g7⟩
  · rcases q with ⟨d', hd', hf⟩ | ⟨j, k, a, -, q2, q3, c0, g1, g2, g3, g4⟩
    · exact ⟨d', by omega, hf⟩
    · exact ⟨d, by omega, j, k, a, c0, g1, q2, q3, g2, g3, g4⟩
  · obtain ⟨d', hd', hf⟩ := q
    by_cases hdd : d' < d
    · exact Or.inl ⟨d', hdd, hf⟩
    · have e : d' = d := by omega
      subst e
      obtain ⟨j, k, a, c0, g1, q2, q3, g2, g3, g4⟩ := hf
      exact Or.inr ⟨j, k, a, Or.inl (by omega), q2, q3, c0, g1, g2, g3, g4⟩
theorem tc_dn_s (J K A j k a : Nat) : tc_dn J K (A + 1) j k a ↔ tc_dn J K A j k a ∨ (j = J ∧ k = K ∧ a = A) := by
  unfold tc_dn
  omega
theorem tc_nx_s (v : Nat → Nat) (n d J K A j' k' c : Nat) (hJ : J ≤ n) (hK : K ≤ 16) : tc_nx v n d J K A j' k' c ∨ tc_of v n d J K A j' k' c ↔ tc_nx v n d J K (A + 1) j' k' c := by
  constructor
  · rintro (⟨j, k, a, h1, h2⟩ | h)
    · exact ⟨j, k, a, (tc_dn_s J K A j k a).mpr (Or.inl h1), h2⟩
    · exact ⟨J, K, A, (tc_dn_s J K A J K A).mpr (Or.inr ⟨rfl, rfl, rfl⟩), hJ, hK, h⟩
  · rintro ⟨j, k, a, h1, h2, h3, h4⟩
    rcases (tc_dn_s J K A j k a).mp h1 with h | ⟨rfl, rfl, rfl⟩
    · exact Or.inl ⟨j, k, a, h, h2, h3, h4⟩
    · exact Or.inr h4
theorem tc_an_s (v : Nat → Nat) (n d J K A c : Nat) (hJ : J ≤ n) (hK : K ≤ 16) : tc_an v n d J K A c ∨ tc_fo v n d J K A c ↔ tc_an v n d J K (A + 1) c := by
  constructor
  · rintro ((h | ⟨j, k, a, h1, h2⟩) | h)
    · exact Or.inl h
    · exact Or.inr ⟨j, k, a, (tc_dn_s J K A j k a).mpr (Or.inl h1), h2⟩
    · exact Or.inr ⟨J, K, A, (tc_dn_s J K A J K A).mpr (Or.inr ⟨rfl, rfl, rfl⟩), hJ, hK, h⟩
  · rintro (h | ⟨j, k, a, h1, h2, h3, h4⟩)
    · exact Or.inl (Or.inl h)
    · rcases (tc_dn_s J K A j k a).mp h1 with h | ⟨rfl, rfl, rfl⟩
      · exact Or.inl (Or.inr ⟨j, k, a, h, h2, h3, h4⟩)
      · exact Or.inr h4
theorem tc_row_keep {v : Nat → Nat} {n d J K A j' k' : Nat} {x : Int64} (hJ : J ≤ n) (hK : K ≤ 16) (hno : ∀ c, ¬ tc_of v n d J K A j' k' c) (h : tc_mo (tc_nx v n d J K A j' k') x) : tc_mo (tc_nx v n d J K (A + 1) j' k') x :=
  tc_mo_congr (fun c => ⟨fun q => (tc_nx_s v n d J K A j' k' c hJ hK).mp (Or.inl q), fun q => ((tc_nx_s v n d J K A j' k' c hJ hK).mpr q).resolve_right (hno c)⟩) h
theorem tc_an_keep {v : Nat → Nat} {n d J K A : Nat} {x : Int64} (hJ : J ≤ n) (hK : K ≤ 16) (hno : ∀ c, ¬ tc_fo v n d J K A c) (h : tc_mo (tc_an v n d J K A) x) : tc_mo (tc_an v n d J K (A + 1)) x :=
  tc_mo_congr (fun c => ⟨fun q => (tc_an_s v n d J K A c hJ hK).mp (Or.inl q), fun q => ((tc_an_s v n d J K A c hJ hK).mpr q).resolve_right (hno c)⟩) h
section
variable {v : Nat → Nat} {n d J K A c0 : Nat} {g : Nat → Int64} {x : Int64}
theorem tc_fo_min (hr : tc_rch v n d J K c0) (hmin : ∀ c, tc_rch v n d J K c → c0 ≤ c) (hA : A ≤ K) (hn : J + A = n) : tc_fo v n d J K A (c0 + tc_hv v J A * d) ∧ ∀ c, tc_fo v n d J K A c → c0 + tc_hv v J A * d ≤ c := by
  refine ⟨⟨c0, hr, hA, hn, rfl⟩, fun c hc => ?_⟩
  obtain ⟨c1, h1, -, -, rfl⟩ := hc
  have := hmin c1 h1
  omega
theorem tc_st_f (h : tc_st v n d J K A g x) (hJ : J ≤ n) (hK : K ≤ 16) (hr : tc_rch v n d J K c0) (hmin : ∀ c, tc_rch v n d J K c → c0 ≤ c) (hA : A ≤ K) (hn : J + A = n) (he : c0 + tc_hv v J A * d < 2 ^ 61) (hx : x < 0 ∨ lN (c0 + tc_hv v J A * d) < x) : tc_st v n d J K (A + 1) g (lN (c0 + tc_hv v J A * d)) := by
  obtain ⟨f1, f2⟩ := tc_fo_min hr hmin hA hn
  refine ⟨fun j' k' hj hk => tc_row_keep hJ hK (fun c q => ?_) (h.1 j' k' hj hk), tc_mo_congr (fun c => tc_an_s v n d J K A c hJ hK) (tc_mo_new h.2 he f1 f2 hx)⟩
  obtain ⟨c1, -, -, q3, q4, -⟩ := q
  omega
theorem tc_st_fk (h : tc_st v n d J K A g x) (hJ : J ≤ n) (hK : K ≤ 16) (hr : tc_rch v n d J K c0) (hmin : ∀ c, tc_rch v n d J K c → c0 ≤ c) (hA : A ≤ K) (hn : J + A = n) (he : c0 + tc_hv v J A * d < 2 ^ 61) (h0 : ¬ x < 0) (hx : ¬ lN (c0 + tc_hv v J A * d) < x) : tc_st v n d J K (A + 1) g x := by
  obtain ⟨f1, f2⟩ := tc_fo_min hr hmin hA hn
  refine ⟨fun j' k' hj hk => tc_row_keep hJ hK (fun c q => ?_) (h.1 j' k' hj hk), tc_mo_congr (fun c => tc_an_s v n d J K A c hJ hK) (tc_mo_old h.2 he f2 h0 hx)⟩
  obtain ⟨c1, -, -, q3, q4, -⟩ := q
  omega
theorem tc_of_min {op : Nat} (hr : tc_rch v n d J K c0) (hmin : ∀ c, tc_rch v n d J K c → c0 ≤ c) (hA : A ≤ K) (hn : J + A < n) (hop : op = min (2 * (K - A)) (n - (J + A))) (h0 : 0 < op) : tc_of v n d J K A (J + A) op (c0 + tc_hv v J A * d) ∧ ∀ c, tc_of v n d J K A (J + A) op c → c0 + tc_hv v J A * d ≤ c := by
  refine ⟨⟨c0, hr, hA, rfl, hn, hop, h0, rfl⟩, fun c hc => ?_⟩
  obtain ⟨c1, h1, -, -, -, -, -, rfl⟩ := hc
  have := hmin c1 h1
  omega
theorem tc_of_no {op j' k' : Nat} (hop : op = min (2 * (K - A)) (n - (J + A))) (hne : ¬ (j' = J + A ∧ k' = op)) : ∀ c, ¬ tc_of v n d J K A j' k' c := by
  rintro c ⟨c1, -, -, q3, -, q5, -⟩
  refine hne ⟨q3, ?_⟩
  rw [q5, hop, q3]
theorem tc_fo_no (hn : J + A < n) : ∀ c, ¬ tc_fo v n d J K A c := by
  rintro c ⟨c1, -, -, q3, -⟩
  omega
theorem tc_st_o {op : Nat} (h : tc_st v n d J K A g x) (hJ : J ≤ n) (hK : K ≤ 16) (hn16 : n ≤ 16) (hr : tc_rch v n d J K c0) (hmin : ∀ c, tc_rch v n d J K c → c0 ≤ c) (hA : A ≤ K) (hn : J + A < n) (hop : op = min (2 * (K - A)) (n - (J + A))) (h0 : 0 < op) (he : c0 + tc_hv v J A * d < 2 ^ 61) (hx : g (17 * (J + A) + op) < 0 ∨ lN (c0 + tc_hv v J A * d) < g (17 * (J + A) + op)) : tc_st v n d J K (A + 1) (vp_updL g (17 * (J + A) + op) (lN (c0 + tc_hv v J A * d))) x := by
  obtain ⟨f1, f2⟩ := tc_of_min hr hmin hA hn hop h0
  refine ⟨fun j' k' hj hk => ?_, tc_an_keep hJ hK (tc_fo_no hn) h.2⟩
  by_cases hne : j' = J + A ∧ k' = op
  · obtain ⟨rfl, rfl⟩ := hne
    rw [pk_uLs]
    exact tc_mo_congr (fun c => tc_nx_s v n d J K A (J + A) k' c hJ hK) (tc_mo_new (h.1 (J + A) k' hj hk) he f1 f2 hx)
  · rw [pk_uLn (by omega)]
    exact tc_row_keep hJ hK (tc_of_no hop hne) (h.1 j' k' hj hk)
theorem tc_st_ok {op : Nat} (h : tc_st v n d J K A g x) (hJ : J ≤ n) (hK : K ≤ 16) (hn16 : n ≤ 16) (hr : tc_rch v n d J K c0) (hmin : ∀ c, tc_rch v n d J K c → c0 ≤ c) (hA : A ≤ K) (hn : J + A < n) (hop : op = min (2 * (K - A)) (n - (J + A))) (h0 : 0 < op) (he : c0 + tc_hv v J A * d < 2 ^ 61) (hx0 : ¬ g (17 * (J + A) + op) < 0) (hx : ¬ lN (c0 + tc_hv v J A * d) < g (17 * (J + A) + op)) : tc_st v n d J K (A + 1) g x := by
  obtain ⟨f1, f2⟩ := tc_of_min hr hmin hA hn hop h0
  refine ⟨fun j' k' hj hk => ?_, tc_an_keep hJ hK (tc_fo_no hn) h.2⟩
  by_cases hne : j' = J + A ∧ k' = op
  · obtain ⟨rfl, rfl⟩ := hne
    exact tc_mo_congr (fun c => tc_nx_s v n d J K A (J + A) k' c hJ hK) (tc_mo_old (h.1 (J + A) k' hj hk) he f2 hx0 hx)
  · exact tc_row_keep hJ hK (tc_of_no hop hne) (h.1 j' k' hj hk)
theorem tc_st_o0 {op : Nat} (h : tc_st v n d J K A g x) (hJ : J ≤ n) (hK : K ≤ 16) (hn : J + A < n) (hop : op = min (2 * (K - A)) (n - (J + A))) (h0 : op = 0) : tc_st v n d J K (A + 1) g x := by
  refine ⟨fun j' k' hj hk => tc_row_keep hJ hK (fun c q => ?_) (h.1 j' k' hj hk), tc_an_keep hJ hK (tc_fo_no hn) h.2⟩
  obtain ⟨c1, -, -, q3, q4, q5, q6, -⟩ := q
  subst q3
  omega
end
theorem tc_e_lt {v : Nat → Nat} {n d j k a c : Nat} (hn : n ≤ 16) (hv : ∀ i, i < n → v i ≤ 2 ^ 31) (hd : d ≤ 15) (hr : tc_rch v n d j k c) (hj : j + a ≤ n) : c + tc_hv v j a * d < 2 ^ 61 := by
  have h1 := tc_rch_le hv (D := 15) (by omega) hr
  have h2 := tc_hv_le hv j a hj
  have h3 : tc_hv v j a * d ≤ a * 2 ^ 31 * 15 := Nat.mul_le_mul h2 hd
  omega
theorem tc_hv_s (v : Nat → Nat) (d j : Nat) {a : Nat} (h : 0 < a) : tc_hv v j (a - 1) * d + v (j + a - 1) * d = tc_hv v j a * d := by
  obtain ⟨b, rfl⟩ : ∃ b, a = b + 1 := ⟨a - 1, by omega⟩
  have e : j + (b + 1) - 1 = j + b := by omega
  rw [e, Nat.add_sub_cancel, ← Nat.add_mul]
  rfl
/-- the table's first row -/
theorem tc_row_0 {v : Nat → Nat} {n : Nat} {g : Nat → Int64} (hn : n ≤ 16) (hg : ∀ q, q < 289 → g q = -1) : ∀ j k, j ≤ n → k ≤ 16 → tc_mo (tc_rch v n 0 j k) (vp_updL g 1 (lN 0) (17 * j + k)) := by
  intro j k hj hk
  by_cases h : j = 0 ∧ k = 1
  · obtain ⟨rfl, rfl⟩ := h
    refine Or.inr ⟨0, by decide, rfl, ⟨rfl, rfl, rfl⟩, fun c' _ => Nat.zero_le _⟩
  · rw [pk_uLn (by omega), hg _ (by omega)]
    refine tc_mo_none (fun c hc => ?_)
    obtain ⟨h1, h2, -⟩ := hc
    exact h ⟨h1, h2⟩
theorem tc_ans_0 (v : Nat → Nat) (n : Nat) : tc_mo (tc_ans v n 0) (-1) := tc_mo_none (fun c hc => by
  obtain ⟨d, hd, -⟩ := hc
  omega)
end
