/-! middle -/
section
variable {N : Nat}
/-- the sum of a point's distances with the cluster of label c, over the points below k -/
def sC1 (t : Td) (d : Nat → Nat → Nat) (c p : Nat) : Nat → Nat
  | 0 => 0
  | k + 1 => sC1 t d c p k + (if tL t k = c then d p k else 0)
theorem sC1_le {t : Td} {n c p : Nat} {d : Nat → Nat → Nat} {px py : Nat → Int32} (hd : DOK n d px py) : ∀ k, sC1 t d c p k ≤ 2000000 * k
  | 0 => Nat.le_refl _
  | k + 1 => by
    have h := sC1_le (t := t) (c := c) (p := p) hd k
    have h2 := (hd.2.1 p k).1
    show sC1 t d c p k + _ ≤ _
    split <;> omega
/-- best point and least sum so far -/
def mb (t : Td) (d : Nat → Nat → Nat) (n c : Nat) : Nat → Int32 × Nat
  | 0 => (-1, 0)
  | p + 1 => if tL t p = c ∧ ((mb t d n c p).1 = -1 ∨ sC1 t d c p n < (mb t d n c p).2) then (nI p, sC1 t d c p n) else mb t d n c p
theorem mb_ok {t : Td} {n c : Nat} {d : Nat → Nat → Nat} {px py : Nat → Int32} (hd : DOK n d px py) : ∀ p, p ≤ 20 → ((mb t d n c p).1 = -1 ∨ ∃ k, k < 20 ∧ (mb t d n c p).1 = nI k) ∧ (mb t d n c p).2 ≤ 40000000
  | 0, _ => ⟨Or.inl rfl, Nat.zero_le _⟩
  | p + 1, hp => by
    have ih := mb_ok (t := t) (c := c) hd p (by omega)
    have h2 := sC1_le (t := t) (c := c) (p := p) hd n
    have h3 := hd.1
    rw [mb]
    split
    · exact ⟨Or.inr ⟨p, by omega, rfl⟩, by show sC1 t d c p n ≤ _; omega⟩
    · exact ih
theorem X_sum {σ : St} {q p n : Nat} {t : Td} {d : Nat → Nat → Nat} {px py : Nat → Int32} (hd : DOK n d px py) (hP : PX σ n d px py) (hT : TP t) (hX : SX σ q t) (hn : tN t = n) (hp : p < 20) (hN : 3000 ≤ N) : fX7_sumToCluster N q (nI p) σ = some (nI (sC1 t d (tL t p) p n), σ) := by
  have h20 := hd.1
  unfold fX7_sumToCluster
  have key : ∀ m k (ρ : St), k ≤ n → n - k < m → ρ = σ → fX7_sumToCluster_5 N q m (nI p) (nI (sC1 t d (tL t p) p k)) (nI k) ρ = some (nI (sC1 t d (tL t p) p n), σ) := by
    refine loop_i (fun m k (ρ : St) => fX7_sumToCluster_5 N q m (nI p) (nI (sC1 t d (tL t p) p k)) (nI k) ρ = some (nI (sC1 t d (tL t p) p n), σ)) (fun k ρ => ρ = σ) n ?_ ?_
    · rintro m ρ rfl
      rw [fX7_sumToCluster_5, hX.1.2.2.1, hn, if_pos (nI_le (Nat.le_refl n) (by omega))]
    · rintro m k ρ hk rfl ih
      rw [fX7_sumToCluster_5, hX.1.2.2.1, hn, if_neg (nI_ge hk (by omega)), X_tog hT hX (by omega) hp, bd_s]
      unfold fX7_sumToCluster_39
      by_cases c : tL t k = tL t p
      · rw [if_pos c, if_neg n10, gd_t (ibn hp (by decide)), gd_t (ibn (by omega) (by decide)), nx_r, nx_r, cl p (by omega), cl k (by omega), Nat.one_mul, hP.2.1 p k hp (by omega), nI_add]
        have := ih ρ rfl
        rw [← nI_1] at this
        have e : sC1 t d (tL t p) p (k + 1) = sC1 t d (tL t p) p k + d p k := by show _ + _ = _; rw [if_pos c]
        rw [e] at this
        exact this
      · rw [if_neg c, if_pos rfl, nx_r]
        have := ih ρ rfl
        rw [← nI_1] at this
        have e : sC1 t d (tL t p) p (k + 1) = sC1 t d (tL t p) p k := by show _ + _ = _; rw [if_neg c]; rfl
        rw [e] at this
        exact this
  exact key N 0 σ (by omega) (by omega) rfl
theorem X_mid {σ : St} {q i n : Nat} {t : Td} {d : Nat → Nat → Nat} {px py : Nat → Int32} (hd : DOK n d px py) (hP : PX σ n d px py) (hT : TP t) (hX : SX σ q t) (hn : tN t = n) (hi : i < 20) (hN : 3000 ≤ N) : fX7_middle_43 N q N (nI i) (-1) 0 0 σ = some ((mb t d n (tL t i) n).1, σ) := by
  have h20 := hd.1
  have key : ∀ m p (ρ : St), p ≤ n → n - p < m → ρ = σ → fX7_middle_43 N q m (nI i) (mb t d n (tL t i) p).1 (nI (mb t d n (tL t i) p).2) (nI p) ρ = some ((mb t d n (tL t i) n).1, σ) := by
    refine loop_i (fun m p (ρ : St) => fX7_middle_43 N q m (nI i) (mb t d n (tL t i) p).1 (nI (mb t d n (tL t i) p).2) (nI p) ρ = some ((mb t d n (tL t i) n).1, σ)) (fun p ρ => ρ = σ) n ?_ ?_
    · rintro m ρ rfl
      rw [fX7_middle_43, hX.1.2.2.1, hn, if_pos (nI_le (Nat.le_refl n) (by omega))]
    · rintro m p ρ hp rfl ih
      have ok := mb_ok (t := t) (c := tL t i) hd p (by omega)
      have sl := sC1_le (t := t) (c := tL t i) (p := p) hd n
      have nxt := ih ρ rfl
      rw [← nI_1] at nxt
      rw [fX7_middle_43, hX.1.2.2.1, hn, if_neg (nI_ge hp (by omega)), X_tog hT hX (by omega) hi, bd_s]
      unfold fX7_middle_84 fX7_middle_92
      rw [mb] at nxt
      by_cases c : tL t p = tL t i
      · rw [if_pos c, if_neg n10, X_sum hd hP hT hX hn (by omega) hN, bd_s, c]
        by_cases b : (mb t d n (tL t i) p).1 = -1
        · rw [if_pos b, nx_r]
          rw [if_pos ⟨c, Or.inl b⟩] at nxt
          exact nxt
        · rw [if_neg b]
          by_cases s : sC1 t d (tL t i) p n < (mb t d n (tL t i) p).2
          · rw [if_neg (nI_ge s (by omega)), nx_r]
            rw [if_pos ⟨c, Or.inr s⟩] at nxt
            exact nxt
          · rw [if_pos (nI_le (Nat.le_of_not_lt s) (by omega)), nx_r]
            rw [if_neg (fun z => z.2.elim b s)] at nxt
            exact nxt
      · rw [if_neg c, if_pos rfl, nx_r]
        rw [if_neg (fun z => c z.1)] at nxt
        exact nxt
  exact key N 0 σ (by omega) (by omega) rfl
theorem M_mid {τ : St} {q i n : Nat} {t : Td} {d : Nat → Nat → Nat} {px py : Nat → Int32} (hq : q < 4) (hd : DOK n d px py) (hP : PM τ n d px py) (hT : TP t) (hM : SM τ q t) (hi : i < 20) (hN : 3000 ≤ N) : fX8_middle_44 N N (nI q) (nI i) (-1) 0 0 τ = some ((mb t d n (tL t i) n).1, τ) := by
  have h20 := hd.1
  have key : ∀ m p (ρ : St), p ≤ n → n - p < m → ρ = τ → fX8_middle_44 N m (nI q) (nI i) (mb t d n (tL t i) p).1 (lN (mb t d n (tL t i) p).2) (nI p) ρ = some ((mb t d n (tL t i) n).1, τ) := by
    refine loop_i (fun m p (ρ : St) => fX8_middle_44 N m (nI q) (nI i) (mb t d n (tL t i) p).1 (lN (mb t d n (tL t i) p).2) (nI p) ρ = some ((mb t d n (tL t i) n).1, τ)) (fun p ρ => ρ = τ) n ?_ ?_
    · rintro m ρ rfl
      rw [fX8_middle_44, hP.1, if_pos (nI_le (Nat.le_refl n) (by omega))]
    · rintro m p ρ hp rfl ih
      have ok := mb_ok (t := t) (c := tL t i) hd p (by omega)
      have sl := sC1_le (t := t) (c := tL t i) (p := p) hd n
      have nxt := ih ρ rfl
      rw [← nI_1] at nxt
      rw [mb] at nxt
      rw [fX8_middle_44, hP.1, if_neg (nI_ge hp (by omega)), i20', i20', gd_t (ibn (by omega) (by decide)), gd_t (ibn (by omega) (by decide)), cl _ (by omega), cl _ (by omega), hM.2.2 p (by omega), hM.2.2 i hi]
      by_cases c : tL t p = tL t i
      · rw [if_pos ((lab_eq hT p i).mpr c)]
        have inner : ∀ m2 k (π : St), k ≤ n → n - k < m2 → π = ρ → fX8_middle_88 N (fX8_middle_44 N m) m2 (nI q) (nI i) (mb t d n (tL t i) p).1 (lN (mb t d n (tL t i) p).2) (nI p) (lN (sC1 t d (tL t i) p k)) (nI k) π = some ((mb t d n (tL t i) n).1, ρ) := by
          refine loop_i (fun m2 k (π : St) => fX8_middle_88 N (fX8_middle_44 N m) m2 (nI q) (nI i) (mb t d n (tL t i) p).1 (lN (mb t d n (tL t i) p).2) (nI p) (lN (sC1 t d (tL t i) p k)) (nI k) π = some ((mb t d n (tL t i) n).1, ρ)) (fun k π => π = ρ) n ?_ ?_
          · rintro m2 π rfl
            rw [fX8_middle_88, hP.1, if_pos (nI_le (Nat.le_refl n) (by omega))]
            unfold fX8_middle_164 fX8_middle_171
            by_cases b : (mb t d n (tL t i) p).1 = -1
            · rw [if_pos (by rw [b]; decide), nx_r]
              rw [if_pos ⟨c, Or.inl b⟩] at nxt
              exact nxt
            · have nb : ¬ (mb t d n (tL t i) p).1 < 0 := by
                rcases ok.1 with z | ⟨k, hk, z⟩
                · exact absurd z b
                · rw [z]; exact nI_pos (by omega)
              rw [if_neg nb]
              by_cases s : sC1 t d (tL t i) p n < (mb t d n (tL t i) p).2
              · rw [if_neg (show ¬ 0 ≤ lg_cmp (lN (sC1 t d (tL t i) p n)) (lN (mb t d n (tL t i) p).2) from fun z => by rw [lg_cmp_ge, pk_lLE (by omega) (by omega)] at z; omega), nx_r]
                rw [if_pos ⟨c, Or.inr s⟩] at nxt
                exact nxt
              · rw [if_pos (show 0 ≤ lg_cmp (lN (sC1 t d (tL t i) p n)) (lN (mb t d n (tL t i) p).2) from by rw [lg_cmp_ge, pk_lLE (by omega) (by omega)]; omega), nx_r]
                rw [if_neg (fun z => z.2.elim b s)] at nxt
                exact nxt
          · rintro m2 k π hk rfl ih2
            have nx2 := ih2 π rfl
            rw [← nI_1] at nx2
            rw [fX8_middle_88, hP.1, if_neg (nI_ge hk (by omega)), i20', i20', i20', gd_t (ibn (by omega) (by decide)), gd_t (ibn (by omega) (by decide)), cl _ (by omega), cl _ (by omega), cl _ (by omega), hM.2.2 k (by omega), hM.2.2 i hi]
            unfold fX8_middle_143
            by_cases c2 : tL t k = tL t i
            · rw [if_pos ((lab_eq hT k i).mpr c2), gd_t (ibn (by omega) (by decide)), hP.2.1 p k (by omega) (by omega), nI_l (Nat.lt_of_le_of_lt (hd.2.1 p k).1 (by decide)), nx_r, nx_r, lN_add]
              have e : sC1 t d (tL t i) p (k + 1) = sC1 t d (tL t i) p k + d p k := by show _ + _ = _; rw [if_pos c2]
              rw [e] at nx2
              exact nx2
            · rw [if_neg (fun z => c2 ((lab_eq hT k i).mp z)), nx_r, nx_r]
              have e : sC1 t d (tL t i) p (k + 1) = sC1 t d (tL t i) p k := by show _ + _ = _; rw [if_neg c2]; rfl
              rw [e] at nx2
              have e0 : lN (sC1 t d (tL t i) p k) + (0 : Int64) = lN (sC1 t d (tL t i) p k) := lN_add _ 0
              rw [e0]
              exact nx2
        exact inner N 0 ρ (by omega) (by omega) rfl
      · rw [if_neg (fun z => c ((lab_eq hT p i).mp z))]
        unfold fX8_middle_171
        rw [nx_r]
        rw [if_neg (fun z => c z.1)] at nxt
        exact nxt
  exact key N 0 τ (by omega) (by omega) rfl
theorem J_middle {σ τ : St} (h : Rel σ τ) (hN : 3000 ≤ N) (x y : Int32) : jt (fX7_middle N x y σ) (fX8_middle N x y τ) Rel := by
  obtain ⟨n, d, px, py, hd, hP, hPM⟩ := h.1
  unfold fX7_middle fX8_middle
  rcases slot_c (N := N) h x with ⟨e1, e2⟩ | ⟨q, t, hq, rfl, hT, hX, hM, e1, e2⟩
  · rw [e1, e2]; exact jt_no h rfl rfl
  rw [e1, e2, bd_s, bd_s, oc_some, if_neg n10]
  have hn := hT.1.1
  have h20 := hd.1
  have gq : ∀ {α : Type} {z : Option α}, gd (ib (nI q) 4) z = z := fun {α z} => gd_t (ibn hq (by decide))
  rw [gq, cl q (by omega), hM.1.2.2.1]
  rcases ixc y (n := tN t) (by omega) with hy | ⟨i, hi, rfl⟩
  · rw [X_phas0 hX hy, M_in0 hy]; exact jt_no h rfl rfl
  rw [X_phas hT hX hi, M_in1 (by omega) hi, bd_s, bd_s, if_neg n10, if_neg n10, gq, hX.1.2.2.1, hM.1.2.2.1, hP.1, hPM.1]
  by_cases hnn : nI (tN t) = nI n
  · rw [if_pos hnn, if_pos hnn]
    have en : tN t = n := (nI_eq (by omega) (by omega)).mp hnn
    exact jt_no h (X_mid hd hP hT hX en (by omega) hN) (M_mid hq hd hPM hT hM (by omega) hN)
  · rw [if_neg hnn, if_neg hnn]; exact jt_no h rfl rfl
end
