/-! read, on: the TABLE as a whole -/
section
variable {N : Nat}
theorem X_table {L : List Int32} (hL : LOK L) (hN : 3000 ≤ N) {σ0 : St} (hB : BX σ0 5 L) : ∀ (f many wants k : Nat) (acc : Nat → Nat) (n : Nat) (σ : St), 193 ≤ many + f → 200 ≤ many + n → k ≤ L.length → psI many wants acc → σ.1 9 1 = nI k → σ.1 9 2 = -1 → (∀ i, i < many → σ.1 10 i = nI (acc i)) → fr (fun c _ => c = 9 ∨ c = 10) σ0 σ →
    wp (fX5_readTable_14 N n (nI wants) (nI many) σ) (fun r σ' => psE (ps L f many wants k acc) (σ'.1 9 2) (σ'.1 10) ∧ (r = 0 ∨ r = 1) ∧ (r = 0 ↔ ¬ σ'.1 9 2 = -1) ∧ fr (fun c _ => c = 9 ∨ c = 10) σ0 σ') := by
  have hl := hL.1
  intro f
  induction f with
  | zero =>
    intro many wants k acc n σ h1 h2 h3 h4
    obtain ⟨q1, q2, -⟩ := h4
    omega
  | succ f ih =>
    intro many wants k acc n σ h1 h2 h3 hI h5 h6 h7 h8
    obtain ⟨m, rfl⟩ : ∃ m, n = m + 1 := ⟨n - 1, by have := hI.1; have := hI.2.1; omega⟩
    have hw : many ≤ wants := hI.1
    have hw2 : wants ≤ 191 := hI.2.1
    have b2 : BX σ 5 L := ⟨by rw [(h8 5 1 (by omega)).1]; exact hB.1, fun i hi => by rw [(h8 (5 + 1) i (by omega)).1]; exact hB.2 i hi⟩
    have hsl := scan_le (P := isB L) h3
    rw [fX5_readTable_14]
    by_cases hmw : many = wants
    · -- no more numbers are due
      rw [ps]
      have c1 : nI wants ≤ nI many := nI_le (by omega) (by omega)
      refine wp_t c1 ?_
      unfold fX5_readTable_96
      refine wp_t h6 (wp_bd (X_skip hL b2 h5 h3 hN) (fun _ s1 t1 => ?_))
      have g8 : fr (fun c _ => c = 9 ∨ c = 10) σ0 s1 := fr_tr h8 (fr_mo t1.2 (fun c k h => Or.inl h.1))
      have e5 : s1.1 5 1 = nI L.length := by rw [(t1.2 5 1 (by omega)).1]; exact b2.1
      rw [e5, t1.1]
      by_cases hend : scan (isB L) L.length k = L.length
      · rw [if_pos hend, if_neg (show ¬ many < wants by omega)]
        refine wp_t (nI_le (by omega) (by omega)) ?_
        unfold fX5_readTable_129 fX5_readTable_132
        refine wp_nx (wp_t sI_at (wp_some ⟨?_, Or.inr rfl, ?_, fr_I g8 (Or.inl rfl)⟩))
        · have h41 := hI.2.2.2.1
          have hm1 : 1 ≤ many := by
            rcases Nat.eq_zero_or_pos many with z | z
            · have := hI.2.2.1 z; omega
            · exact z
          have h42 := h41 hm1
          refine ⟨sI_at, h42.2, fun i hi hj => hI.2.2.2.2 i hi (by omega), fun i hi => ?_⟩
          rw [sI_of (by omega), (t1.2 10 i (by omega)).1]
          exact h7 i (by omega)
        · rw [sI_at]; decide
      · rw [if_neg hend, if_pos (show wants ≤ many by omega)]
        refine wp_f (nI_ge (show scan (isB L) L.length k < L.length by omega) (by omega)) ?_
        unfold fX5_readTable_129 fX5_readTable_132
        have ne : ¬ nI (scan (isB L) L.length k) = -1 := by
          intro z
          have := congrArg Int32.toInt z
          rw [nI_toInt (by omega)] at this
          have e : (-1 : Int32).toInt = -1 := by decide
          omega
        refine wp_nx (wp_f (by rw [sI_at]; exact ne) (wp_some ⟨⟨by omega, sI_at⟩, Or.inl rfl, ?_, fr_I g8 (Or.inl rfl)⟩))
        rw [sI_at]
        exact ⟨fun _ => ne, fun _ => rfl⟩
    · have hlt : many < wants := by omega
      refine wp_f (nI_ge hlt (by omega)) (wp_f (nI_ge (b := 191) (by omega) (by omega)) (wp_t h6 ?_))
      -- the number
      have num : ∀ y0, y0 = nI (lim many) → wp (fX5_readTable_54 N (fX5_readTable_14 N m) (nI wants) (nI many) y0 (nI many) σ) (fun r σ' => psE (ps L (f + 1) many wants k acc) (σ'.1 9 2) (σ'.1 10) ∧ (r = 0 ∨ r = 1) ∧ (r = 0 ↔ ¬ σ'.1 9 2 = -1) ∧ fr (fun c _ => c = 9 ∨ c = 10) σ0 σ') := by
        intro y0 ey
        rw [ey]
        unfold fX5_readTable_54
        refine wp_bd (X_rnum (many := many) hL b2 h5 h3 hN) (fun r s1 t1 => ?_)
        have g8 : fr (fun c _ => c = 9 ∨ c = 10) σ0 s1 := fr_tr h8 (fr_mo t1.1 (fun c k h => Or.inl h))
        refine wp_gd (ibn (by omega) (by decide)) (wp_nx ?_)
        rw [cl many (by omega)]
        have g9 : fr (fun c _ => c = 9 ∨ c = 10) σ0 (sI s1 10 many r) := fr_I g8 (Or.inr rfl)
        rcases t1.2 with ⟨hb, hfl⟩ | ⟨hb, hfl, hnx, hr⟩
        · -- a fault
          have ne : ¬ nI (scan (isB L) L.length k) = -1 := by
            intro z
            have := congrArg Int32.toInt z
            rw [nI_toInt (by omega)] at this
            have e : (-1 : Int32).toInt = -1 := by decide
            omega
          have ef : (sI s1 10 many r).1 9 2 = nI (scan (isB L) L.length k) := by rw [sI_of (by omega)]; exact hfl
          have res : psE (ps L (f + 1) many wants k acc) (nI (scan (isB L) L.length k)) ((sI s1 10 many r).1 10) := by
            rw [ps]
            by_cases hend : scan (isB L) L.length k = L.length
            · rw [if_pos hend, if_pos hlt, hend]; exact ⟨by omega, rfl⟩
            · rw [if_neg hend, if_neg (show ¬ wants ≤ many by omega), if_pos hb]; exact ⟨by omega, rfl⟩
          have stop : ∀ w z n2, 1 ≤ n2 → wp (fX5_readTable_14 N n2 w z (sI s1 10 many r)) (fun r σ' => psE (ps L (f + 1) many wants k acc) (σ'.1 9 2) (σ'.1 10) ∧ (r = 0 ∨ r = 1) ∧ (r = 0 ↔ ¬ σ'.1 9 2 = -1) ∧ fr (fun c _ => c = 9 ∨ c = 10) σ0 σ') := by
            intro w z n2 hn2
            obtain ⟨n3, rfl⟩ : ∃ n3, n2 = n3 + 1 := ⟨n2 - 1, by omega⟩
            rw [fX5_readTable_14]
            have last : wp (fX5_readTable_96 N (sI s1 10 many r)) (fun r σ' => psE (ps L (f + 1) many wants k acc) (σ'.1 9 2) (σ'.1 10) ∧ (r = 0 ∨ r = 1) ∧ (r = 0 ↔ ¬ σ'.1 9 2 = -1) ∧ fr (fun c _ => c = 9 ∨ c = 10) σ0 σ') := by
              unfold fX5_readTable_96 fX5_readTable_132
              refine wp_f (by rw [ef]; exact ne) (wp_f (by rw [ef]; exact ne) (wp_some ⟨by rw [ef]; exact res, Or.inl rfl, ?_, g9⟩))
              rw [ef]; exact ⟨fun _ => ne, fun _ => rfl⟩
            exact wp_i (fun _ => last) (fun _ => wp_i (fun _ => last) (fun _ => wp_f (by rw [ef]; exact ne) last))
          unfold fX5_readTable_90
          refine wp_i (fun _ => wp_f (by rw [ef]; exact ne) (wp_nx (stop _ _ m (by omega)))) (fun _ => wp_nx (stop _ _ m (by omega)))
        · have nb := hb
          have hlen0 : scan (isB L) L.length k < L.length := by
            rcases Nat.lt_or_ge (scan (isB L) L.length k) L.length with z | z
            · exact z
            · refine absurd ?_ nb
              refine Or.inl ?_
              rw [scan_full z]; omega
          have hse := scan_le (P := isD L) hsl
          have hv : vv L (scan (isB L) L.length k) (scan (isD L) L.length (scan (isB L) L.length k) - scan (isB L) L.length k) ≤ lim many := by
            rcases Nat.lt_or_ge (lim many) (vv L (scan (isB L) L.length k) (scan (isD L) L.length (scan (isB L) L.length k) - scan (isB L) L.length k)) with z | z
            · exact absurd (Or.inr (Or.inr z)) nb
            · exact z
          have hI2 := psI_step hI hlt hv
          have ef : (sI s1 10 many r).1 9 2 = -1 := by rw [sI_of (by omega), hfl]; exact h6
          have en : (sI s1 10 many r).1 9 1 = nI (scan (isD L) L.length (scan (isB L) L.length k)) := by rw [sI_of (by omega)]; exact hnx
          have ea : ∀ i, i < many + 1 → (sI s1 10 many r).1 10 i = nI ((fun i => if i = many then vv L (scan (isB L) L.length k) (scan (isD L) L.length (scan (isB L) L.length k) - scan (isB L) L.length k) else acc i) i) := by
            intro i hi
            by_cases ei : i = many
            · subst ei; rw [sI_at, hr]; show _ = nI (if _ then _ else _); rw [if_pos rfl]
            · rw [sI_of (by omega), (t1.1 10 i (by omega)).1, h7 i (by omega)]; show _ = nI (if _ then _ else _); rw [if_neg ei]
          have go : wp (fX5_readTable_14 N m (nI (if many = 0 then 1 + tri (vv L (scan (isB L) L.length k) (scan (isD L) L.length (scan (isB L) L.length k) - scan (isB L) L.length k)) else wants)) (nI (many + 1)) (sI s1 10 many r)) (fun r σ' => psE (ps L (f + 1) many wants k acc) (σ'.1 9 2) (σ'.1 10) ∧ (r = 0 ∨ r = 1) ∧ (r = 0 ↔ ¬ σ'.1 9 2 = -1) ∧ fr (fun c _ => c = 9 ∨ c = 10) σ0 σ') := by
            rw [ps, if_neg (show ¬ scan (isB L) L.length k = L.length by omega), if_neg (show ¬ wants ≤ many by omega), if_neg nb]
            exact ih (many + 1) _ _ _ m (sI s1 10 many r) (by omega) (by omega) hse hI2 en ef ea g9
          unfold fX5_readTable_90
          refine wp_i (fun h0 => wp_t ef (wp_gd (by decide) (wp_gd (by decide) (wp_nx (wp_nx ?_))))) (fun h0 => wp_nx ?_)
          · have hm0 : many = 0 := (nI_eq (b := 0) (by omega) (by omega)).mp h0
            have e0 : (sI s1 10 many r).1 10 (0 : Int32).toNatClampNeg = nI (vv L (scan (isB L) L.length k) (scan (isD L) L.length (scan (isB L) L.length k) - scan (isB L) L.length k)) := by
              have := ea 0 (by omega)
              rw [show (fun i => if i = many then vv L (scan (isB L) L.length k) (scan (isD L) L.length (scan (isB L) L.length k) - scan (isB L) L.length k) else acc i) 0 = vv L (scan (isB L) L.length k) (scan (isD L) L.length (scan (isB L) L.length k) - scan (isB L) L.length k) from if_pos hm0.symm] at this
              exact this
            rw [e0, tri_I _ (by unfold lim at hv; rw [if_pos hm0] at hv; exact hv)]
            rw [if_pos hm0] at go
            show wp (fX5_readTable_14 N m _ (nI many + 1) _) _
            rw [nI_1]; exact go
          · have hm0 : ¬ many = 0 := fun z => h0 (by rw [z]; rfl)
            rw [if_neg hm0] at go
            show wp (fX5_readTable_14 N m _ (nI many + 1) _) _
            rw [nI_1]; exact go
      refine wp_i (fun h0 => num _ ?_) (fun h0 => num _ ?_)
      · have hm0 : many = 0 := (nI_eq (b := 0) (by omega) (by omega)).mp h0
        unfold lim; rw [if_pos hm0]; rfl
      · have hm0 : ¬ many = 0 := fun z => h0 (by rw [z]; rfl)
        unfold lim; rw [if_neg hm0]; rfl
/-- distances out of the numbers read: of all pairs below i, and of i with those below j -/
def rd (a : Nat → Nat) (i j : Nat) : Nat → Nat → Nat := fun x y => if x ≠ y ∧ ((x < i ∧ y < i) ∨ (x = i ∧ y < i ∧ y < j) ∨ (y = i ∧ x < i ∧ x < j)) then (if y < x then a (1 + tri x + y) else a (1 + tri y + x)) else 0
theorem rd_step {a : Nat → Nat} {i j : Nat} (hj : j < i) : dset (rd a i j) i j (a (1 + tri i + j)) = rd a i (j + 1) := by
  funext x y
  unfold dset rd
  by_cases h1 : x = i ∧ y = j
  · rw [if_pos (Or.inl h1), if_pos (by omega), if_pos (by omega), h1.1, h1.2]
  · by_cases h2 : x = j ∧ y = i
    · rw [if_pos (Or.inr h2), if_pos (by omega), if_neg (by omega), h2.1, h2.2]
    · rw [if_neg (by omega)]
      by_cases h3 : x ≠ y ∧ ((x < i ∧ y < i) ∨ (x = i ∧ y < i ∧ y < j) ∨ (y = i ∧ x < i ∧ x < j))
      · rw [if_pos h3, if_pos (show x ≠ y ∧ ((x < i ∧ y < i) ∨ (x = i ∧ y < i ∧ y < j + 1) ∨ (y = i ∧ x < i ∧ x < j + 1)) by omega)]
      · rw [if_neg h3, if_neg (show ¬ (x ≠ y ∧ ((x < i ∧ y < i) ∨ (x = i ∧ y < i ∧ y < j + 1) ∨ (y = i ∧ x < i ∧ x < j + 1))) by omega)]
theorem rd_next {a : Nat → Nat} {i : Nat} : rd a i i = rd a (i + 1) 0 := by
  funext x y
  unfold rd
  by_cases h3 : x ≠ y ∧ ((x < i ∧ y < i) ∨ (x = i ∧ y < i ∧ y < i) ∨ (y = i ∧ x < i ∧ x < i))
  · rw [if_pos h3, if_pos (show x ≠ y ∧ ((x < i + 1 ∧ y < i + 1) ∨ (x = i + 1 ∧ y < i + 1 ∧ y < 0) ∨ (y = i + 1 ∧ x < i + 1 ∧ x < 0)) by omega)]
  · rw [if_neg h3, if_neg (show ¬ (x ≠ y ∧ ((x < i + 1 ∧ y < i + 1) ∨ (x = i + 1 ∧ y < i + 1 ∧ y < 0) ∨ (y = i + 1 ∧ x < i + 1 ∧ x < 0))) by omega)]
theorem rd_0 {a : Nat → Nat} {i : Nat} (hi : i ≤ 1) : rd a i 0 = fun _ _ => 0 := by
  funext x y
  unfold rd
  rw [if_neg (by omega)]
theorem rd_ok {a : Nat → Nat} {i : Nat} (hn : a 0 ≤ 20) (hi : i ≤ a 0) (hb : ∀ z, 1 ≤ z → z < 1 + tri (a 0) → a z ≤ 2000000) : DOK (a 0) (rd a i 0) (fun _ => 0) (fun _ => 0) := by
  refine ⟨hn, fun x y => ⟨?_, ?_⟩, fun x => ?_, (D0 hn).2.2.2⟩
  · unfold rd
    by_cases h : x ≠ y ∧ ((x < i ∧ y < i) ∨ (x = i ∧ y < i ∧ y < 0) ∨ (y = i ∧ x < i ∧ x < 0))
    · rw [if_pos h]
      by_cases h2 : y < x
      · rw [if_pos h2]
        have := tri_lt (show x < a 0 by omega)
        exact hb _ (by omega) (by omega)
      · rw [if_neg h2]
        have := tri_lt (show y < a 0 by omega)
        exact hb _ (by omega) (by omega)
    · rw [if_neg h]; omega
  · unfold rd
    by_cases h : x ≠ y ∧ ((x < i ∧ y < i) ∨ (x = i ∧ y < i ∧ y < 0) ∨ (y = i ∧ x < i ∧ x < 0))
    · rw [if_pos h, if_pos (show y ≠ x ∧ ((y < i ∧ x < i) ∨ (y = i ∧ x < i ∧ x < 0) ∨ (x = i ∧ y < i ∧ y < 0)) by omega)]
      by_cases h2 : y < x
      · rw [if_pos h2, if_neg (by omega)]
      · rw [if_neg h2, if_pos (by omega)]
    · rw [if_neg h, if_neg (show ¬ (y ≠ x ∧ ((y < i ∧ x < i) ∨ (y = i ∧ x < i ∧ x < 0) ∨ (x = i ∧ y < i ∧ y < 0))) by omega)]
  · unfold rd; rw [if_neg (by omega)]
theorem X_rd46 {a : Nat → Nat} {σ : St} (hn : a 0 ≤ 20) (hN : 3000 ≤ N) (hnum : ∀ i, i < 1 + tri (a 0) → σ.1 10 i = nI (a i)) (hP : PX σ (a 0) (fun _ _ => 0) (fun _ => 0) (fun _ => 0)) : wp (fX7_read_46 N N 1 1 σ) (fun r σ' => r = nI (a 0) ∧ PX σ' (a 0) (rd a (a 0) 0) (fun _ => 0) (fun _ => 0) ∧ fr sP σ σ') := by
  have num : ∀ {τ : St}, fr sP σ τ → ∀ i, i < 1 + tri (a 0) → τ.1 10 i = nI (a i) := fun h i hi => by
    rw [(h 10 i (by unfold sP; omega)).1]; exact hnum i hi
  have ee : (if a 0 = 0 then 1 else a 0) ≤ 20 := by split <;> omega
  have key : ∀ m i τ, i ≤ (if a 0 = 0 then 1 else a 0) → (if a 0 = 0 then 1 else a 0) - i < m → (1 ≤ i ∧ PX τ (a 0) (rd a i 0) (fun _ => 0) (fun _ => 0) ∧ fr sP σ τ) → wp (fX7_read_46 N m (nI (1 + tri i)) (nI i) τ) (fun r σ' => r = nI (a 0) ∧ PX σ' (a 0) (rd a (a 0) 0) (fun _ => 0) (fun _ => 0) ∧ fr sP σ σ') := by
    refine loop_i (fun m i τ => wp (fX7_read_46 N m (nI (1 + tri i)) (nI i) τ) (fun r σ' => r = nI (a 0) ∧ PX σ' (a 0) (rd a (a 0) 0) (fun _ => 0) (fun _ => 0) ∧ fr sP σ σ')) (fun i τ => 1 ≤ i ∧ PX τ (a 0) (rd a i 0) (fun _ => 0) (fun _ => 0) ∧ fr sP σ τ) (if a 0 = 0 then 1 else a 0) ?_ ?_
    · intro m τ hi
      rw [fX7_read_46, hi.2.1.1]
      have e2 : rd a (if a 0 = 0 then 1 else a 0) 0 = rd a (a 0) 0 := by
        by_cases z : a 0 = 0
        · rw [if_pos z, rd_0 (by omega), rd_0 (by omega)]
        · rw [if_neg z]
      rw [e2] at hi
      exact wp_t (nI_le (by split <;> omega) (by omega)) (wp_some ⟨rfl, hi.2⟩)
    · intro m i τ hin hi ih
      have hi20 : i < a 0 := by
        by_cases e : a 0 = 0
        · rw [if_pos e] at hin; omega
        · rw [if_neg e] at hin; exact hin
      have ht := tri_lt hi20
      have ht2 := tri_le hn
      rw [fX7_read_46, hi.2.1.1]
      refine wp_f (nI_ge hi20 (by omega)) ?_
      have inner : ∀ m2 j ρ, j ≤ i → i - j < m2 → (PX ρ (a 0) (rd a i j) (fun _ => 0) (fun _ => 0) ∧ fr sP σ ρ) → wp (fX7_read_60 N (fX7_read_46 N m) m2 (nI (1 + tri i + j)) (nI i) (nI j) ρ) (fun r σ' => r = nI (a 0) ∧ PX σ' (a 0) (rd a (a 0) 0) (fun _ => 0) (fun _ => 0) ∧ fr sP σ σ') := by
        refine loop_i (fun m2 j ρ => wp (fX7_read_60 N (fX7_read_46 N m) m2 (nI (1 + tri i + j)) (nI i) (nI j) ρ) (fun r σ' => r = nI (a 0) ∧ PX σ' (a 0) (rd a (a 0) 0) (fun _ => 0) (fun _ => 0) ∧ fr sP σ σ')) (fun j ρ => PX ρ (a 0) (rd a i j) (fun _ => 0) (fun _ => 0) ∧ fr sP σ ρ) i ?_ ?_
        · intro m2 ρ hp
          rw [fX7_read_60]
          refine wp_t (nI_le (Nat.le_refl i) (by omega)) (wp_nx ?_)
          show wp (fX7_read_46 N m (nI (1 + tri i + i)) (nI i + 1) ρ) _
          rw [nI_1, show 1 + tri i + i = 1 + tri (i + 1) from Nat.add_assoc _ _ _]
          exact ih ρ ⟨by omega, by rw [← rd_next]; exact hp.1, hp.2⟩
        · intro m2 j ρ hj hp ih2
          rw [fX7_read_60]
          refine wp_f (nI_ge hj (by omega)) (wp_gd (ibn (by omega) (by decide)) ?_)
          rw [cl _ (by omega), num hp.2 _ (by omega)]
          refine wp_bd (X_set hp.1 (by omega) (by omega)) (fun _ ρ2 hq => wp_nx (wp_nx ?_))
          show wp (fX7_read_60 N (fX7_read_46 N m) m2 (nI (1 + tri i + j) + 1) (nI i) (nI j + 1) ρ2) _
          rw [nI_1, nI_1]
          refine ih2 ρ2 ⟨?_, fr_tr hp.2 (fr_mo hq.2 (fun c k hc => by unfold sP; omega))⟩
          rw [← rd_step hj]; exact hq.1
      exact inner N 0 τ (by omega) (by omega) hi.2
  exact key N 1 σ (by split <;> omega) (by omega) ⟨by omega, by rw [rd_0 (by omega)]; exact hP, fr_rf⟩
theorem M_rd270 {a : Nat → Nat} {σ : St} (hn : a 0 ≤ 20) (hN : 3000 ≤ N) (hnum : ∀ i, i < 1 + tri (a 0) → σ.1 6 i = nI (a i)) (hP : PM σ (a 0) (fun _ _ => 0) (fun _ => 0) (fun _ => 0)) : wp (fX8_read_270 N N 1 0 σ) (fun r σ' => r = nI (a 0) ∧ PM σ' (a 0) (rd a (a 0) 0) (fun _ => 0) (fun _ => 0) ∧ fr sPM σ σ') := by
  have num : ∀ {τ : St}, fr sPM σ τ → ∀ i, i < 1 + tri (a 0) → τ.1 6 i = nI (a i) := fun h i hi => by
    rw [(h 6 i (by unfold sPM; omega)).1]; exact hnum i hi
  have key : ∀ m i τ, i ≤ a 0 → a 0 - i < m → (PM τ (a 0) (rd a i 0) (fun _ => 0) (fun _ => 0) ∧ fr sPM σ τ) → wp (fX8_read_270 N m (nI (1 + tri i)) (nI i) τ) (fun r σ' => r = nI (a 0) ∧ PM σ' (a 0) (rd a (a 0) 0) (fun _ => 0) (fun _ => 0) ∧ fr sPM σ σ') := by
    refine loop_i (fun m i τ => wp (fX8_read_270 N m (nI (1 + tri i)) (nI i) τ) (fun r σ' => r = nI (a 0) ∧ PM σ' (a 0) (rd a (a 0) 0) (fun _ => 0) (fun _ => 0) ∧ fr sPM σ σ')) (fun i τ => PM τ (a 0) (rd a i 0) (fun _ => 0) (fun _ => 0) ∧ fr sPM σ τ) (a 0) ?_ ?_
    · intro m τ hi
      rw [fX8_read_270, hi.1.1]
      exact wp_t (nI_le (Nat.le_refl _) (by omega)) (wp_some ⟨rfl, hi⟩)
    · intro m i τ hi20 hi ih
      have ht := tri_lt hi20
      have ht2 := tri_le hn
      rw [fX8_read_270, hi.1.1]
      refine wp_f (nI_ge hi20 (by omega)) ?_
      have inner : ∀ m2 j ρ, j ≤ i → i - j < m2 → (PM ρ (a 0) (rd a i j) (fun _ => 0) (fun _ => 0) ∧ fr sPM σ ρ) → wp (fX8_read_282 N (fX8_read_270 N m) m2 (nI (1 + tri i + j)) (nI i) (nI j) ρ) (fun r σ' => r = nI (a 0) ∧ PM σ' (a 0) (rd a (a 0) 0) (fun _ => 0) (fun _ => 0) ∧ fr sPM σ σ') := by
        refine loop_i (fun m2 j ρ => wp (fX8_read_282 N (fX8_read_270 N m) m2 (nI (1 + tri i + j)) (nI i) (nI j) ρ) (fun r σ' => r = nI (a 0) ∧ PM σ' (a 0) (rd a (a 0) 0) (fun _ => 0) (fun _ => 0) ∧ fr sPM σ σ')) (fun j ρ => PM ρ (a 0) (rd a i j) (fun _ => 0) (fun _ => 0) ∧ fr sPM σ ρ) i ?_ ?_
        · intro m2 ρ hp
          rw [fX8_read_282]
          refine wp_t (nI_le (Nat.le_refl i) (by omega)) (wp_nx ?_)
          show wp (fX8_read_270 N m (nI (1 + tri i + i)) (nI i + 1) ρ) _
          rw [nI_1, show 1 + tri i + i = 1 + tri (i + 1) from Nat.add_assoc _ _ _]
          exact ih ρ ⟨by rw [← rd_next]; exact hp.1, hp.2⟩
        · intro m2 j ρ hj hp ih2
          rw [fX8_read_282]
          refine wp_f (nI_ge hj (by omega)) (wp_gd (ibn (by omega) (by decide)) ?_)
          rw [cl _ (by omega), num hp.2 _ (by omega)]
          refine wp_bd (M_set hp.1 (by omega) (by omega)) (fun _ ρ2 hq => wp_nx (wp_nx ?_))
          show wp (fX8_read_282 N (fX8_read_270 N m) m2 (nI (1 + tri i + j) + 1) (nI i) (nI j + 1) ρ2) _
          rw [nI_1, nI_1]
          refine ih2 ρ2 ⟨?_, fr_tr hp.2 (fr_mo hq.2 (fun c k hc => by unfold sPM; omega))⟩
          rw [← rd_step hj]; exact hq.1
      exact inner N 0 τ (by omega) (by omega) hi
  exact key N 0 σ (by omega) (by omega) ⟨by rw [rd_0 (by omega)]; exact hP, fr_rf⟩
end
