/-! same, agree, middle -/
section
variable {N : Nat}
theorem M_like {τ : St} {q r : Nat} {t u : Td} (hq4 : q < 4) (hr4 : r < 4) (hT : TP t) (hq : SM τ q t) (hr : SM τ r u) (hn : tN t = tN u) (hN : 3000 ≤ N) : wp (fX8_same_38 N N (nI q) (nI r) 1 0 τ) (fun v σ' => σ' = τ ∧ ((v = 1 ∧ lk t u (tN t - 1)) ∨ (v = 0 ∧ ¬ lk t u (tN t - 1)))) := by
  have h20 := hT.1.1
  have key : ∀ m k (ρ : St × Int32), k ≤ tN t - 1 → tN t - 1 - k < m → (ρ.1 = τ ∧ ((ρ.2 = 1 ∧ lk t u k) ∨ (ρ.2 = 0 ∧ ¬ lk t u k))) → wp (fX8_same_38 N m (nI q) (nI r) ρ.2 (nI k) ρ.1) (fun v σ' => σ' = τ ∧ ((v = 1 ∧ lk t u (tN t - 1)) ∨ (v = 0 ∧ ¬ lk t u (tN t - 1)))) := by
    refine loop_i (fun m k (ρ : St × Int32) => wp (fX8_same_38 N m (nI q) (nI r) ρ.2 (nI k) ρ.1) (fun v σ' => σ' = τ ∧ ((v = 1 ∧ lk t u (tN t - 1)) ∨ (v = 0 ∧ ¬ lk t u (tN t - 1))))) (fun k ρ => ρ.1 = τ ∧ ((ρ.2 = 1 ∧ lk t u k) ∨ (ρ.2 = 0 ∧ ¬ lk t u k))) (tN t - 1) ?_ ?_
    · rintro m ⟨ρ, w⟩ ⟨rfl, e⟩
      rw [fX8_same_38, M_steps hq4 hT hq, bd_s]
      refine wp_t (nI_le (Nat.le_refl _) (by omega)) (wp_gd ?_ (wp_some ⟨rfl, e⟩))
      unfold zb
      rcases e with e | e
      · rw [e.1]; decide
      · rw [e.1]; decide
    · rintro m k ⟨ρ, w⟩ hk ⟨rfl, e⟩ ih
      dsimp only at e ih ⊢
      have a := hq.2.1 k (by omega)
      have b := hr.2.1 k (by omega)
      have go0 : ¬ lk t u (k + 1) → wp (fX8_same_144 N (fX8_same_38 N m) (nI q) (nI r) (nI k) ρ) (fun v σ' => σ' = ρ ∧ ((v = 1 ∧ lk t u (tN t - 1)) ∨ (v = 0 ∧ ¬ lk t u (tN t - 1)))) := by
        intro hno
        unfold fX8_same_144 fX8_same_145
        refine wp_nx ?_
        have := ih (ρ, 0) ⟨rfl, Or.inr ⟨rfl, hno⟩⟩
        rw [← nI_1] at this
        exact this
      rw [fX8_same_38, M_steps hq4 hT hq, bd_s, i19, i19]
      refine wp_f (nI_ge (by omega) (by omega)) (wp_nx (wp_nx ?_))
      have i1 : ib (nI (19 * q + k)) 76 = true := ibn (by omega) (by decide)
      have i2 : ib (nI (19 * r + k)) 76 = true := ibn (by omega) (by decide)
      rw [cl _ (by omega), cl _ (by omega), a.1, b.1, a.2.1, b.2.1, a.2.2.2.1, b.2.2.2.1, a.2.2.2.2, b.2.2.2.2]
      rcases e with ⟨rfl, e⟩ | ⟨rfl, e⟩
      · refine wp_f n10 (wp_gd i1 (wp_gd i2 (wp_i (fun c1 => wp_gd i1 (wp_gd i2 (wp_i (fun c2 => wp_gd i1 (wp_gd i2 (wp_i (fun c3 => wp_gd i1 (wp_gd i2 (wp_i (fun c4 => ?_) (fun c4 => go0 (fun z => c4 ((lg_cmp_eq _ _).mpr (z k (by omega)).2.2.2)))))) (fun c3 => go0 (fun z => c3 ((lg_cmp_eq _ _).mpr (z k (by omega)).2.2.1)))))) (fun c2 => go0 (fun z => c2 (z k (by omega)).2.1))))) (fun c1 => go0 (fun z => c1 (z k (by omega)).1)))))
        unfold fX8_same_145
        refine wp_nx ?_
        have := ih (ρ, 1) ⟨rfl, Or.inl ⟨rfl, fun j hj => ?_⟩⟩
        · rw [← nI_1] at this
          exact this
        · by_cases ej : j = k
          · subst ej; exact ⟨c1, c2, (lg_cmp_eq _ _).mp c3, (lg_cmp_eq _ _).mp c4⟩
          · exact e j (by omega)
      · exact wp_t rfl (go0 (fun z => e (fun j hj => z j (by omega))))
  exact key N 0 (τ, 1) (by omega) (by omega) ⟨rfl, Or.inl ⟨rfl, fun j hj => absurd hj (by omega)⟩⟩
theorem J_same {σ τ : St} (h : Rel σ τ) (hN : 3000 ≤ N) (x y : Int32) : jt (fX7_same N x y σ) (fX8_same N x y τ) Rel := by
  unfold fX7_same fX8_same
  rcases slot_c (N := N) h x with ⟨e1, e2⟩ | ⟨q, t, hq, rfl, hT, hX, hM, e1, e2⟩
  · rw [e1, e2, bd_s, bd_s, oc_none, if_pos rfl]
    rcases slot_c (N := N) h y with ⟨f1, f2⟩ | ⟨r, u, hr, rfl, hU, hX2, hM2, f1, f2⟩
    · rw [f1]; exact jt_no h rfl rfl
    · rw [f1]; exact jt_no h rfl rfl
  rw [e1, e2, bd_s, bd_s, oc_some, if_neg n10]
  rcases slot_c (N := N) h y with ⟨f1, f2⟩ | ⟨r, u, hr, rfl, hU, hX2, hM2, f1, f2⟩
  · rw [f1, f2]; exact jt_no h rfl rfl
  have hn := hT.1.1
  have hn2 := hU.1.1
  rw [f1, f2, bd_s, bd_s, oc_some, if_neg n10, gd_t (ibn hq (by decide)), gd_t (ibn hr (by decide)), cl q (by omega), cl r (by omega), hX.1.2.2.1, hX2.1.2.2.1, hM.1.2.2.1, hM2.1.2.2.1]
  by_cases hnn : nI (tN t) = nI (tN u)
  · rw [if_pos hnn, if_pos hnn]
    have en : tN t = tN u := (nI_eq (by omega) (by omega)).mp hnn
    refine jt_wp (P := fun v σ' => σ' = σ ∧ ((v = 1 ∧ lk t u (tN t - 1)) ∨ (v = 0 ∧ ¬ lk t u (tN t - 1)))) ?_ (M_like hq hr hT hM hM2 en hN) ?_
    · refine wp_bd (X_like hT hX hX2 en hN) (fun v s1 h1 => ?_)
      rcases h1.2 with ⟨rfl, z⟩ | ⟨rfl, z⟩
      · exact wp_f n10 (wp_some ⟨h1.1, Or.inl ⟨rfl, z⟩⟩)
      · exact wp_t rfl (wp_some ⟨h1.1, Or.inr ⟨rfl, z⟩⟩)
    · rintro a b σ' τ' ⟨rfl, hp⟩ ⟨rfl, hq2⟩
      refine ⟨?_, h⟩
      rcases hp with ⟨p1, p2⟩ | ⟨p1, p2⟩ <;> rcases hq2 with ⟨q1, q2⟩ | ⟨q1, q2⟩
      · rw [p1, q1]
      · exact absurd p2 q2
      · exact absurd q2 p2
      · rw [p1, q1]
  · rw [if_neg hnn, if_neg hnn]; exact jt_no h rfl rfl
/-- pairs told alike -/
def pb (t u : Td) (i j : Nat) : Bool := decide (tL t i = tL t j) == decide (tL u i = tL u j)
def cr (t u : Td) (i : Nat) : Nat → Nat
  | 0 => 0
  | j + 1 => cr t u i j + (if pb t u i j = true then 1 else 0)
def ca (t u : Td) : Nat → Nat
  | 0 => 0
  | i + 1 => ca t u i + cr t u i i
theorem i20' {q i : Nat} : (20 : Int32) * nI q + nI i = nI (20 * q + i) := by
  show nI 20 * nI q + nI i = _
  rw [pk_mul, nI_add]
theorem lab_eq {t : Td} (hT : TP t) (i j : Nat) : (nI (tL t i) = nI (tL t j)) ↔ tL t i = tL t j := nI_eq (by have := hT.1.2.2 i; omega) (by have := hT.1.2.2 j; omega)
theorem X_tog {σ : St} {q i j : Nat} {t : Td} (hT : TP t) (hX : SX σ q t) (hi : i < 20) (hj : j < 20) : fX6_isTogether N q (nI i) (nI j) σ = some (if tL t i = tL t j then 1 else 0, σ) := by
  unfold fX6_isTogether
  rw [gd_t (ibn hi (by decide)), gd_t (ibn hj (by decide)), cl i (by omega), cl j (by omega), hX.2.2 i hi, hX.2.2 j hj]
  by_cases e : tL t i = tL t j
  · rw [if_pos ((lab_eq hT i j).mpr e), if_pos e]
  · rw [if_neg (fun z => e ((lab_eq hT i j).mp z)), if_neg e]
theorem X_agree {σ : St} {q r : Nat} {t u : Td} (hT : TP t) (hU : TP u) (hX : SX σ q t) (hX2 : SX σ r u) (hN : 3000 ≤ N) : wp (fX7_agree_42 N q r N 0 1 σ) (fun v σ' => σ' = σ ∧ v = nI (ca t u (tN t))) := by
  have h20 := hT.1.1
  have ee : (if tN t = 0 then 1 else tN t) ≤ 20 := by split <;> omega
  have key : ∀ m i (ρ : St), i ≤ (if tN t = 0 then 1 else tN t) → (if tN t = 0 then 1 else tN t) - i < m → (1 ≤ i ∧ ρ = σ) → wp (fX7_agree_42 N q r m (nI (ca t u i)) (nI i) ρ) (fun v σ' => σ' = σ ∧ v = nI (ca t u (tN t))) := by
    refine loop_i (fun m i (ρ : St) => wp (fX7_agree_42 N q r m (nI (ca t u i)) (nI i) ρ) (fun v σ' => σ' = σ ∧ v = nI (ca t u (tN t)))) (fun i ρ => 1 ≤ i ∧ ρ = σ) (if tN t = 0 then 1 else tN t) ?_ ?_
    · rintro m ρ ⟨h1, rfl⟩
      rw [fX7_agree_42, hX.1.2.2.1]
      refine wp_t (nI_le (by split <;> omega) (by omega)) (wp_some ⟨rfl, ?_⟩)
      by_cases z : tN t = 0
      · rw [if_pos z, z]; rfl
      · rw [if_neg z]
    · rintro m i ρ hin ⟨h1, rfl⟩ ih
      have hi20 : i < tN t := by
        by_cases e : tN t = 0
        · rw [if_pos e] at hin; omega
        · rw [if_neg e] at hin; exact hin
      rw [fX7_agree_42, hX.1.2.2.1]
      refine wp_f (nI_ge hi20 (by omega)) ?_
      have inner : ∀ m2 j (π : St), j ≤ i → i - j < m2 → π = ρ → wp (fX7_agree_54 N q r (fX7_agree_42 N q r m) m2 (nI (ca t u i + cr t u i j)) (nI i) (nI j) π) (fun v σ' => σ' = ρ ∧ v = nI (ca t u (tN t))) := by
        refine loop_i (fun m2 j (π : St) => wp (fX7_agree_54 N q r (fX7_agree_42 N q r m) m2 (nI (ca t u i + cr t u i j)) (nI i) (nI j) π) (fun v σ' => σ' = ρ ∧ v = nI (ca t u (tN t)))) (fun j π => π = ρ) i ?_ ?_
        · rintro m2 π rfl
          rw [fX7_agree_54]
          refine wp_t (nI_le (Nat.le_refl i) (by omega)) (wp_nx ?_)
          show wp (fX7_agree_42 N q r m (nI (ca t u i + cr t u i i)) (nI i + 1) π) _
          rw [nI_1]
          exact ih π ⟨by omega, rfl⟩
        · rintro m2 j π hj rfl ih2
          rw [fX7_agree_54]
          refine wp_f (nI_ge hj (by omega)) (wp_bde (X_tog hT hX (by omega) (by omega)) (wp_bde (X_tog hU hX2 (by omega) (by omega)) ?_))
          unfold fX7_agree_84
          have st : (if pb t u i j = true then 1 else 0) + (ca t u i + cr t u i j) = ca t u i + cr t u i (j + 1) := by show _ = ca t u i + (cr t u i j + _); omega
          have goal : ∀ v, v = ca t u i + cr t u i (j + 1) → wp (fX7_agree_54 N q r (fX7_agree_42 N q r m) m2 (nI v) (nI i) (nI j + 1) π) (fun v σ' => σ' = π ∧ v = nI (ca t u (tN t))) := by
            intro v ev; rw [nI_1, ev]; exact ih2 π rfl
          have pbv : pb t u i j = (decide (tL t i = tL t j) == decide (tL u i = tL u j)) := rfl
          by_cases c1 : tL t i = tL t j <;> by_cases c2 : tL u i = tL u j
          · rw [if_pos c1, if_pos c2]
            refine wp_t rfl (wp_nx (wp_nx ?_))
            show wp (fX7_agree_54 N q r _ m2 (nI _ + 1) (nI i) (nI j + 1) π) _
            rw [nI_1 (ca t u i + cr t u i j)]
            exact goal _ (by rw [← st, pbv]; simp [c1, c2]; omega)
          · rw [if_pos c1, if_neg c2]
            refine wp_f (by decide) (wp_nx ?_)
            exact goal _ (by rw [← st, pbv]; simp [c1, c2])
          · rw [if_neg c1, if_pos c2]
            refine wp_f (by decide) (wp_nx ?_)
            exact goal _ (by rw [← st, pbv]; simp [c1, c2])
          · rw [if_neg c1, if_neg c2]
            refine wp_t rfl (wp_nx (wp_nx ?_))
            show wp (fX7_agree_54 N q r _ m2 (nI _ + 1) (nI i) (nI j + 1) π) _
            rw [nI_1 (ca t u i + cr t u i j)]
            exact goal _ (by rw [← st, pbv]; simp [c1, c2]; omega)
      exact inner N 0 ρ (by omega) (by omega) rfl
  exact key N 1 σ (by split <;> omega) (by omega) ⟨by omega, rfl⟩
theorem M_agree {τ : St} {q r : Nat} {t u : Td} (hq : q < 4) (hr : r < 4) (hT : TP t) (hU : TP u) (hM : SM τ q t) (hM2 : SM τ r u) (hN : 3000 ≤ N) : wp (fX8_agree_38 N N (nI q) (nI r) 0 0 τ) (fun v σ' => σ' = τ ∧ v = nI (ca t u (tN t))) := by
  have h20 := hT.1.1
  have key : ∀ m i (ρ : St), i ≤ tN t → tN t - i < m → ρ = τ → wp (fX8_agree_38 N m (nI q) (nI r) (nI (ca t u i)) (nI i) ρ) (fun v σ' => σ' = τ ∧ v = nI (ca t u (tN t))) := by
    refine loop_i (fun m i (ρ : St) => wp (fX8_agree_38 N m (nI q) (nI r) (nI (ca t u i)) (nI i) ρ) (fun v σ' => σ' = τ ∧ v = nI (ca t u (tN t)))) (fun i ρ => ρ = τ) (tN t) ?_ ?_
    · rintro m ρ rfl
      rw [fX8_agree_38, cl q (by omega), hM.1.2.2.1]
      exact wp_gd (ibn hq (by decide)) (wp_t (nI_le (Nat.le_refl _) (by omega)) (wp_some ⟨rfl, rfl⟩))
    · rintro m i ρ hin rfl ih
      rw [fX8_agree_38, cl q (by omega), hM.1.2.2.1]
      refine wp_gd (ibn hq (by decide)) (wp_f (nI_ge hin (by omega)) ?_)
      have inner : ∀ m2 j (π : St), j ≤ i → i - j < m2 → π = ρ → wp (fX8_agree_52 N (fX8_agree_38 N m) m2 (nI q) (nI r) (nI (ca t u i + cr t u i j)) (nI i) (nI j) π) (fun v σ' => σ' = ρ ∧ v = nI (ca t u (tN t))) := by
        refine loop_i (fun m2 j (π : St) => wp (fX8_agree_52 N (fX8_agree_38 N m) m2 (nI q) (nI r) (nI (ca t u i + cr t u i j)) (nI i) (nI j) π) (fun v σ' => σ' = ρ ∧ v = nI (ca t u (tN t)))) (fun j π => π = ρ) i ?_ ?_
        · rintro m2 π rfl
          rw [fX8_agree_52]
          refine wp_t (nI_le (Nat.le_refl i) (by omega)) (wp_nx ?_)
          show wp (fX8_agree_38 N m (nI q) (nI r) (nI (ca t u i + cr t u i i)) (nI i + 1) π) _
          rw [nI_1]
          exact ih π rfl
        · rintro m2 j π hj rfl ih2
          rw [fX8_agree_52, i20', i20', cl _ (by omega), cl _ (by omega), hM.2.2 i (by omega), hM.2.2 j (by omega)]
          have st : (if pb t u i j = true then 1 else 0) + (ca t u i + cr t u i j) = ca t u i + cr t u i (j + 1) := by show _ = ca t u i + (cr t u i j + _); omega
          have fin : ∀ (a b : Int32) (w : Nat), w = (if a = b then 1 else 0) → ((if a = b then 1 else 0) = (if pb t u i j = true then 1 else 0)) → wp (fX8_agree_125 N (fX8_agree_38 N m) (fX8_agree_52 N (fX8_agree_38 N m) m2) (nI q) (nI r) (nI (ca t u i + cr t u i j)) (nI i) (nI j) a b π) (fun v σ' => σ' = π ∧ v = nI (ca t u (tN t))) := by
            intro a b w ew ep
            have goal : ∀ v, v = ca t u i + cr t u i (j + 1) → wp (fX8_agree_52 N (fX8_agree_38 N m) m2 (nI q) (nI r) (nI v) (nI i) (nI j + 1) π) (fun v σ' => σ' = π ∧ v = nI (ca t u (tN t))) := by
              intro v ev; rw [nI_1, ev]; exact ih2 π rfl
            unfold fX8_agree_125 fX8_agree_140
            refine wp_i (fun c => wp_nx (wp_nx ?_)) (fun c => wp_nx (wp_nx ?_))
            · show wp (fX8_agree_52 N _ m2 (nI q) (nI r) (nI _ + 1) (nI i) (nI j + 1) π) _
              rw [nI_1 (ca t u i + cr t u i j)]
              rw [if_pos c] at ep
              exact goal _ (by rw [← st, ← ep]; omega)
            · show wp (fX8_agree_52 N _ m2 (nI q) (nI r) (nI _ + nI 0) (nI i) (nI j + 1) π) _
              rw [nI_add]
              rw [if_neg c] at ep
              exact goal _ (by rw [← st, ← ep]; omega)
          have mid : ∀ (a : Int32), (a = if tL t i = tL t j then 1 else 0) → wp (fX8_agree_91 N (fX8_agree_38 N m) (fX8_agree_52 N (fX8_agree_38 N m) m2) (nI q) (nI r) (nI (ca t u i + cr t u i j)) (nI i) (nI j) a π) (fun v σ' => σ' = π ∧ v = nI (ca t u (tN t))) := by
            intro a ea
            unfold fX8_agree_91
            rw [i20', i20', cl _ (by omega), cl _ (by omega), hM2.2.2 i (by omega), hM2.2.2 j (by omega)]
            have pbv : pb t u i j = (decide (tL t i = tL t j) == decide (tL u i = tL u j)) := rfl
            refine wp_gd (ibn (by omega) (by decide)) (wp_gd (ibn (by omega) (by decide)) (wp_i (fun c2 => ?_) (fun c2 => ?_)))
            · have c3 := (lab_eq hU i j).mp c2
              refine fin _ _ _ rfl ?_
              by_cases c1 : tL t i = tL t j
              · rw [ea, if_pos c1, if_pos rfl, pbv]; simp [c1, c3]
              · rw [ea, if_neg c1, if_neg (by decide), pbv]; simp [c1, c3]
            · have c3 : ¬ tL u i = tL u j := fun z => c2 ((lab_eq hU i j).mpr z)
              refine fin _ _ _ rfl ?_
              by_cases c1 : tL t i = tL t j
              · rw [ea, if_pos c1, if_neg (by decide), pbv]; simp [c1, c3]
              · rw [ea, if_neg c1, if_pos rfl, pbv]; simp [c1, c3]
          refine wp_f (nI_ge hj (by omega)) (wp_gd (ibn (by omega) (by decide)) (wp_gd (ibn (by omega) (by decide)) (wp_i (fun c1 => mid 1 ?_) (fun c1 => mid 0 ?_))))
          · rw [if_pos ((lab_eq hT i j).mp c1)]
          · rw [if_neg (fun z => c1 ((lab_eq hT i j).mpr z))]
      exact inner N 0 ρ (by omega) (by omega) rfl
  exact key N 0 τ (by omega) (by omega) rfl
theorem J_agree {σ τ : St} (h : Rel σ τ) (hN : 3000 ≤ N) (x y : Int32) : jt (fX7_agree N x y σ) (fX8_agree N x y τ) Rel := by
  unfold fX7_agree fX8_agree
  rcases slot_c (N := N) h x with ⟨e1, e2⟩ | ⟨q, t, hq, rfl, hT, hX, hM, e1, e2⟩
  · rw [e1, e2, bd_s, bd_s, oc_none, if_pos rfl]
    rcases slot_c (N := N) h y with ⟨f1, f2⟩ | ⟨r, u, hr, rfl, hU, hX2, hM2, f1, f2⟩
    · rw [f1]; exact jt_no h rfl rfl
    · rw [f1]; exact jt_no h rfl rfl
  rw [e1, e2, bd_s, bd_s, oc_some, if_neg n10]
  rcases slot_c (N := N) h y with ⟨f1, f2⟩ | ⟨r, u, hr, rfl, hU, hX2, hM2, f1, f2⟩
  · rw [f1, f2]; exact jt_no h rfl rfl
  have hn := hT.1.1
  have hn2 := hU.1.1
  rw [f1, f2, bd_s, bd_s, oc_some, if_neg n10, gd_t (ibn hq (by decide)), gd_t (ibn hr (by decide)), cl q (by omega), cl r (by omega), hX.1.2.2.1, hX2.1.2.2.1, hM.1.2.2.1, hM2.1.2.2.1]
  by_cases hnn : nI (tN t) = nI (tN u)
  · rw [if_pos hnn, if_pos hnn]
    refine jt_wp (X_agree hT hU hX hX2 hN) (M_agree hq hr hT hU hM hM2 hN) ?_
    rintro a b σ' τ' ⟨rfl, hp⟩ ⟨rfl, hq2⟩
    exact ⟨hp.trans hq2.symm, h⟩
  · rw [if_neg hnn, if_neg hnn]; exact jt_no h rfl rfl
end
