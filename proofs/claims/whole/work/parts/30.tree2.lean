/-! joins, same, agree, middle -/
section
variable {N : Nat}
theorem one_sh {i : Nat} (hi : i < 31) : (1 : Int32) <<< (nI i &&& 31) = nI (2 ^ i) := by
  show nI 1 <<< (nI i &&& 31) = _
  have h : 2 ^ i ≤ 2 ^ 30 := Nat.pow_le_pow_right (by omega) (by omega)
  rw [pk_shlN (nI i &&& 31) i (s_l i (by omega)) (by omega), Nat.one_mul]
theorem bt_one {i j : Nat} (hi : i < 31) (hj : j < 32) : bt ((1 : Int32) <<< (nI i &&& 31)) j = decide (j = i) := by
  rw [b_shl i (by omega) 1 hj]
  by_cases h : j = i
  · subst h; simp; decide
  · by_cases h2 : i ≤ j
    · have : bt 1 (j - i) = false := (by decide +kernel : ∀ k, k < 32 → (0 < k → bt 1 k = false)) (j - i) (by omega) (by omega)
      simp [h, this]
    · simp [h, h2]
theorem both_iff {x : Int32} {i j : Nat} (hi : i < 20) (hj : j < 20) : (x &&& (((1 : Int32) <<< (nI i &&& 31)) ||| ((1 : Int32) <<< (nI j &&& 31))) = (((1 : Int32) <<< (nI i &&& 31)) ||| ((1 : Int32) <<< (nI j &&& 31)))) ↔ (bt x i = true ∧ bt x j = true) := by
  have bo : ∀ k, k < 32 → bt (((1 : Int32) <<< (nI i &&& 31)) ||| ((1 : Int32) <<< (nI j &&& 31))) k = (decide (k = i) || decide (k = j)) := fun k hk => by
    rw [b_or, bt_one (by omega) hk, bt_one (by omega) hk]
  constructor
  · intro h
    constructor
    · have := congrArg (fun z => bt z i) h
      simp only [b_and, bo i (by omega)] at this
      simpa using this
    · have := congrArg (fun z => bt z j) h
      simp only [b_and, bo j (by omega)] at this
      simpa using this
  · rintro ⟨h1, h2⟩
    refine b_ext (fun k hk => ?_)
    rw [b_and, bo k hk]
    by_cases e : k = i
    · subst e; simp [h1]
    · by_cases e2 : k = j
      · subst e2; simp [h2]
      · simp [e, e2]
theorem J_joins {σ τ : St} (h : Rel σ τ) (hN : 3000 ≤ N) (x y z : Int32) : jt (fX7_joins N x y z σ) (fX8_joins N x y z τ) Rel := by
  unfold fX7_joins fX8_joins
  rcases slot_c (N := N) h x with ⟨e1, e2⟩ | ⟨q, t, hq, rfl, hT, hX, hM, e1, e2⟩
  · rw [e1, e2]; exact jt_no h rfl rfl
  rw [e1, e2, bd_s, bd_s, oc_some, if_neg n10]
  have hn := hT.1.1
  have gq : ∀ {α : Type} {z : Option α}, gd (ib (nI q) 4) z = z := fun {α z} => gd_t (ibn hq (by decide))
  rw [gq, cl q (by omega), hM.1.2.2.1]
  rcases ixc y (n := tN t) (by omega) with hy | ⟨i, hi, rfl⟩
  · rw [X_phas0 hX hy, M_in0 hy]; exact jt_no h rfl rfl
  rw [X_phas hT hX hi, M_in1 (by omega) hi, bd_s, bd_s, if_neg n10, if_neg n10, gq, hM.1.2.2.1]
  rcases ixc z (n := tN t) (by omega) with hz | ⟨j, hj, rfl⟩
  · rw [X_phas0 hX hz, M_in0 hz]; exact jt_no h rfl rfl
  rw [X_phas hT hX hj, M_in1 (by omega) hj, bd_s, bd_s, if_neg n10, if_neg n10]
  by_cases hij : nI i = nI j
  · rw [if_pos hij, if_pos hij]; exact jt_no h rfl rfl
  rw [if_neg hij, if_neg hij, nx_r]
  have hne : i ≠ j := fun e => hij (by rw [e])
  have h2 : 2 ≤ tN t := by omega
  -- the least step with both
  obtain ⟨k0, ⟨hk0, hb0⟩, hmin⟩ := pk_least (fun k => k + 1 < tN t ∧ bt (tB t k) i = true ∧ bt (tB t k) j = true) ⟨tN t - 2, by omega, hT.2.2.2.2.2 h2 i hi, hT.2.2.2.2.2 h2 j hj⟩
  refine jt_no h (a := nI k0) ?_ ?_
  · unfold fX4_firstWithAll
    have key : ∀ m k ρ, k ≤ k0 → k0 - k < m → ρ = σ → fX4_firstWithAll_2 N (28 + 6 * q) m (((1 : Int32) <<< (nI i &&& 31)) ||| ((1 : Int32) <<< (nI j &&& 31))) (nI k) ρ = some (nI k0, σ) := by
      refine loop_i (fun m k ρ => fX4_firstWithAll_2 N (28 + 6 * q) m (((1 : Int32) <<< (nI i &&& 31)) ||| ((1 : Int32) <<< (nI j &&& 31))) (nI k) ρ = some (nI k0, σ)) (fun _ ρ => ρ = σ) k0 ?_ ?_
      · intro m ρ e
        subst e
        rw [fX4_firstWithAll_2, hX.1.2.2.2.2.2, if_neg (nI_ge (by omega) (by omega)), gd_t (ibn (by omega) (by decide)), cl _ (by omega), (hX.2.1 k0 hk0).2.2.1, if_pos ((both_iff (by omega) (by omega)).mpr hb0)]
      · intro m k ρ hk e ih
        subst e
        have hb : ¬ (bt (tB t k) i = true ∧ bt (tB t k) j = true) := fun q => hmin k hk ⟨by omega, q⟩
        rw [fX4_firstWithAll_2, hX.1.2.2.2.2.2, if_neg (nI_ge (by omega) (by omega)), gd_t (ibn (by omega) (by decide)), cl _ (by omega), (hX.2.1 k (by omega)).2.2.1, if_neg (fun q => hb ((both_iff (by omega) (by omega)).mp q)), nx_r]
        show fX4_firstWithAll_2 N (28 + 6 * q) m _ (nI k + 1) ρ = _
        rw [nI_1]
        exact ih ρ rfl
    rw [show fX4_firstWithAll_2 N (28 + 6 * q) N (((1 : Int32) <<< (nI i &&& 31)) ||| ((1 : Int32) <<< (nI j &&& 31))) (0 : Int32) σ = some (nI k0, σ) from key N 0 σ (by omega) (by omega) rfl]
    rfl
  · have key : ∀ m k ρ, k ≤ k0 → k0 - k < m → ρ = τ → fX8_joins_53 N m (nI q) (nI k) (((1 : Int32) <<< (nI i &&& 31)) ||| ((1 : Int32) <<< (nI j &&& 31))) ρ = some (nI k0, τ) := by
      refine loop_i (fun m k ρ => fX8_joins_53 N m (nI q) (nI k) (((1 : Int32) <<< (nI i &&& 31)) ||| ((1 : Int32) <<< (nI j &&& 31))) ρ = some (nI k0, τ)) (fun _ ρ => ρ = τ) k0 ?_ ?_
      · intro m ρ e
        subst e
        rw [fX8_joins_53, i19, gd_t (ibn (by omega) (by decide)), cl _ (by omega), (hM.2.1 k0 hk0).2.2.1, if_pos ((both_iff (by omega) (by omega)).mpr hb0)]
      · intro m k ρ hk e ih
        subst e
        have hb : ¬ (bt (tB t k) i = true ∧ bt (tB t k) j = true) := fun q => hmin k hk ⟨by omega, q⟩
        rw [fX8_joins_53, i19, gd_t (ibn (by omega) (by decide)), cl _ (by omega), (hM.2.1 k (by omega)).2.2.1, if_neg (fun q => hb ((both_iff (by omega) (by omega)).mp q)), nx_r]
        show fX8_joins_53 N m (nI q) (nI k + 1) _ ρ = _
        rw [nI_1]
        exact ih ρ rfl
    exact key N 0 τ (by omega) (by omega) rfl
/-- the steps of two trees alike, below k -/
def lk (t u : Td) (k : Nat) : Prop := ∀ j, j < k → nI (tF t j) = nI (tF u j) ∧ nI (tS t j) = nI (tS u j) ∧ tT t j = tT u j ∧ tO t j = tO u j
theorem X_like {σ : St} {q r : Nat} {t u : Td} (hT : TP t) (hq : SX σ q t) (hr : SX σ r u) (hn : tN t = tN u) (hN : 3000 ≤ N) : wp (fX4_isLike N (28 + 6 * q) (28 + 6 * r) σ) (fun v σ' => σ' = σ ∧ ((v = 1 ∧ lk t u (tN t - 1)) ∨ (v = 0 ∧ ¬ lk t u (tN t - 1)))) := by
  have h20 := hT.1.1
  unfold fX4_isLike
  refine wp_t (by rw [hq.1.2.2.2.2.2, hr.1.2.2.2.2.2, hn]) ?_
  have key : ∀ m k ρ, k ≤ tN t - 1 → tN t - 1 - k < m → (ρ = σ ∧ lk t u k) → wp (fX4_isLike_15 N (28 + 6 * q) (28 + 6 * r) m (nI k) ρ) (fun v σ' => σ' = σ ∧ ((v = 1 ∧ lk t u (tN t - 1)) ∨ (v = 0 ∧ ¬ lk t u (tN t - 1)))) := by
    refine loop_i (fun m k ρ => wp (fX4_isLike_15 N (28 + 6 * q) (28 + 6 * r) m (nI k) ρ) (fun v σ' => σ' = σ ∧ ((v = 1 ∧ lk t u (tN t - 1)) ∨ (v = 0 ∧ ¬ lk t u (tN t - 1))))) (fun k ρ => ρ = σ ∧ lk t u k) (tN t - 1) ?_ ?_
    · intro m ρ e
      obtain ⟨rfl, e⟩ := e
      rw [fX4_isLike_15, hq.1.2.2.2.2.2]
      exact wp_t (nI_le (Nat.le_refl _) (by omega)) (wp_some ⟨rfl, Or.inl ⟨rfl, e⟩⟩)
    · intro m k ρ hk e ih
      obtain ⟨rfl, e⟩ := e
      have a := hq.2.1 k (by omega)
      have b := hr.2.1 k (by omega)
      have i1 : ib (nI k) 19 = true := ibn (by omega) (by decide)
      rw [fX4_isLike_15, hq.1.2.2.2.2.2, cl k (by omega), a.1, b.1, a.2.1, b.2.1, a.2.2.2.1, b.2.2.2.1, a.2.2.2.2, b.2.2.2.2]
      refine wp_f (nI_ge (by omega) (by omega)) (wp_gd i1 (wp_gd i1 (wp_i (fun c1 => wp_gd i1 (wp_gd i1 (wp_i (fun c2 => wp_gd i1 (wp_gd i1 (wp_i (fun c3 => wp_gd i1 (wp_gd i1 (wp_i (fun c4 => wp_nx ?_) (fun c4 => wp_some ⟨rfl, Or.inr ⟨rfl, fun z => ?_⟩⟩)))) (fun c3 => wp_some ⟨rfl, Or.inr ⟨rfl, fun z => ?_⟩⟩)))) (fun c2 => wp_some ⟨rfl, Or.inr ⟨rfl, fun z => ?_⟩⟩)))) (fun c1 => wp_some ⟨rfl, Or.inr ⟨rfl, fun z => ?_⟩⟩))))
      · show wp (fX4_isLike_15 N (28 + 6 * q) (28 + 6 * r) m (nI k + 1) ρ) _
        rw [nI_1]
        refine ih ρ ⟨rfl, fun j hj => ?_⟩
        by_cases ej : j = k
        · subst ej; exact ⟨c1, c2, (lg_cmp_eq _ _).mp c3, (lg_cmp_eq _ _).mp c4⟩
        · exact e j (by omega)
      · exact c4 ((lg_cmp_eq _ _).mpr (z k hk).2.2.2)
      · exact c3 ((lg_cmp_eq _ _).mpr (z k hk).2.2.1)
      · exact c2 (z k hk).2.1
      · exact c1 (z k hk).1
  exact key N 0 σ (by omega) (by omega) ⟨rfl, fun j hj => absurd hj (by omega)⟩
end
