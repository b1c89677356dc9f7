/-! both sides add and compare distances of two clusters -/
def opk (kd : Nat) (a b : Nat) : Nat := if kd = 0 then opg false a b else if kd = 1 then opg true a b else if kd = 4 then (a + b) / 2 else a + b
theorem opk_le (kd a b : Nat) : opk kd a b ≤ a + b := by
  unfold opk opg
  split
  · simp; omega
  · split
    · simp; omega
    · split <;> omega
def bg (o : Option Nat) : Int32 := match o with
  | none => 0
  | some _ => 1
def en (o : Option Nat) : Int32 := match o with
  | none => -1
  | some m => nI m
theorem ap_le {op : Nat → Nat → Nat} (h : ∀ a b, op a b ≤ a + b) (o : Option Nat) (v : Nat) : ap op o v ≤ o.getD 0 + v := by
  cases o with
  | none => show v ≤ 0 + v; omega
  | some b => exact h b v
section
variable {N : Nat}
theorem X_car {σ : St} {kd a b : Nat} (hk : kd < 5) (ha : a < 2 ^ 62) (hb : b < 2 ^ 62) : fX2_carriedOn N (nI kd) (lN a) (lN b) σ = some (lN (opk kd a b), σ) := by
  unfold fX2_carriedOn opk
  rw [nx_r]
  rcases (show kd = 0 ∨ kd = 1 ∨ kd = 2 ∨ kd = 3 ∨ kd = 4 by omega) with rfl | rfl | rfl | rfl | rfl
  · rw [if_pos (by decide), if_pos rfl]
    unfold fJ9_min_f86c9 opg
    by_cases c : b < a
    · rw [if_pos ((lg_cmp_gt _ _).mpr ((pk_lLT (by omega) (by omega)).mpr c)), bd_s]
      simp; congr 1; omega
    · rw [if_neg (fun z => c ((pk_lLT (by omega) (by omega)).mp ((lg_cmp_gt _ _).mp z))), bd_s]
      simp; congr 1; omega
  · rw [if_neg (by decide), if_pos (by decide), if_neg (by decide), if_pos rfl]
    unfold fJ9_max_f86c9 opg
    by_cases c : a < b
    · rw [if_pos ((lg_cmp_lt _ _).mpr ((pk_lLT (by omega) (by omega)).mpr c)), bd_s]
      simp; congr 1; omega
    · rw [if_neg (fun z => c ((pk_lLT (by omega) (by omega)).mp ((lg_cmp_lt _ _).mp z))), bd_s]
      simp; congr 1; omega
  · rw [if_neg (by decide), if_neg (by decide), if_pos (by decide), if_neg (by decide), if_neg (by decide), if_neg (by decide), lN_add]
  · rw [if_neg (by decide), if_neg (by decide), if_neg (by decide), if_pos (by decide), if_neg (by decide), if_neg (by decide), if_neg (by decide), lN_add]
  · rw [if_neg (by decide), if_neg (by decide), if_neg (by decide), if_neg (by decide), if_pos (by decide), if_neg (by decide), if_neg (by decide), if_pos rfl, lN_add]
    show some (lN (a + b) / lN 2, σ) = _
    rw [pk_lDiv (by omega) (by omega) (by omega)]
theorem fo_le {op : Nat → Nat → Nat} {d : Nat → Nat → Nat} {P Q : Nat → Bool} {D i : Nat} {o : Option Nat} (h : ∀ a b, op a b ≤ a + b) (hd : ∀ i j, d i j ≤ D) : ∀ j, (fo op d P Q i o j).getD 0 ≤ o.getD 0 + j * D
  | 0 => by show o.getD 0 ≤ _; omega
  | j + 1 => by
    have ih := fo_le (i := i) (P := P) (Q := Q) (o := o) h hd j
    show (if P i = true ∧ Q j = true then _ else _ : Option Nat).getD 0 ≤ _
    rw [Nat.add_mul, Nat.one_mul]
    split
    · have := ap_le h (fo op d P Q i o j) (d i j)
      have := hd i j
      show ap _ _ _ ≤ _
      omega
    · omega
theorem fa_le {op : Nat → Nat → Nat} {d : Nat → Nat → Nat} {P Q : Nat → Bool} {D m : Nat} (h : ∀ a b, op a b ≤ a + b) (hd : ∀ i j, d i j ≤ D) : ∀ i, (fa op d P Q m i).getD 0 ≤ i * (m * D)
  | 0 => Nat.zero_le _
  | i + 1 => by
    have ih := fa_le (m := m) (P := P) (Q := Q) h hd i
    have := fo_le (P := P) (Q := Q) (i := i) (o := fa op d P Q m i) h hd m
    rw [Nat.add_mul, Nat.one_mul]
    show (fo op d P Q i (fa op d P Q m i) m).getD 0 ≤ _
    omega
theorem X_core {σ : St} {n kd : Nat} {d : Nat → Nat → Nat} {px py : Nat → Int32} {x y : Int32} (hd : DOK n d px py) (hP : PX σ n d px py) (hk : kd < 5) (hx : ∀ i, bt x i = true → i < 20) (hy : ∀ i, bt y i = true → i < 20) (hN : 3000 ≤ N) : fX3_coreBetween N (nI kd) x y σ = some (lN ((fa (opk kd) d (bt x) (bt y) n n).getD 0), σ) := by
  have hn := hd.1
  have hD : ∀ i j, d i j ≤ 2000000 := fun i j => (hd.2.1 i j).1
  unfold fX3_coreBetween
  have key : ∀ m i (ρ : Unit), i ≤ n → n - i < m → True → fX3_coreBetween_9 N m (nI kd) x y (lN ((fa (opk kd) d (bt x) (bt y) n i).getD 0)) (bg (fa (opk kd) d (bt x) (bt y) n i)) (nI i) σ = some (lN ((fa (opk kd) d (bt x) (bt y) n n).getD 0), σ) := by
    refine loop_i (fun m i (ρ : Unit) => fX3_coreBetween_9 N m (nI kd) x y (lN ((fa (opk kd) d (bt x) (bt y) n i).getD 0)) (bg (fa (opk kd) d (bt x) (bt y) n i)) (nI i) σ = some (lN ((fa (opk kd) d (bt x) (bt y) n n).getD 0), σ)) (fun i ρ => True) n ?_ ?_
    · intro m ρ _
      rw [fX3_coreBetween_9, hP.1, if_pos (nI_le (Nat.le_refl n) (by omega))]
    · intro m i ρ hi _ ih
      rw [fX3_coreBetween_9, hP.1, if_neg (nI_ge hi (by omega))]
      have inner : ∀ m2 j (ρ : Unit), j ≤ n → n - j < m2 → True → fX3_coreBetween_21 N (fX3_coreBetween_9 N m) m2 (nI kd) x y (lN ((fo (opk kd) d (bt x) (bt y) i (fa (opk kd) d (bt x) (bt y) n i) j).getD 0)) (bg (fo (opk kd) d (bt x) (bt y) i (fa (opk kd) d (bt x) (bt y) n i) j)) (nI i) (nI j) σ = some (lN ((fa (opk kd) d (bt x) (bt y) n n).getD 0), σ) := by
        refine loop_i (fun m2 j (ρ : Unit) => fX3_coreBetween_21 N (fX3_coreBetween_9 N m) m2 (nI kd) x y (lN ((fo (opk kd) d (bt x) (bt y) i (fa (opk kd) d (bt x) (bt y) n i) j).getD 0)) (bg (fo (opk kd) d (bt x) (bt y) i (fa (opk kd) d (bt x) (bt y) n i) j)) (nI i) (nI j) σ = some (lN ((fa (opk kd) d (bt x) (bt y) n n).getD 0), σ)) (fun j ρ => True) n ?_ ?_
        · intro m2 ρ _
          rw [fX3_coreBetween_21, hP.1, if_pos (nI_le (Nat.le_refl n) (by omega)), nx_r]
          show fX3_coreBetween_9 N m (nI kd) x y _ _ (nI i + 1) σ = _
          rw [nI_1]
          exact ih () trivial
        · intro m2 j ρ hj _ ih2
          have ih2 := ih2 () trivial
          rw [fX3_coreBetween_21, hP.1, if_neg (nI_ge hj (by omega))]
          unfold fX3_coreBetween_86 fX3_coreBetween_91
          have ej : nI j + (1 : Int32) = nI (j + 1) := nI_1 j
          rw [nx_r, ej]
          have l1 := fa_le (m := n) (P := bt x) (Q := bt y) (opk_le kd) hD i
          have l2 := fo_le (P := bt x) (Q := bt y) (i := i) (o := fa (opk kd) d (bt x) (bt y) n i) (opk_le kd) hD j
          have l3 : i * (n * 2000000) ≤ 20 * (20 * 2000000) := Nat.mul_le_mul (by omega) (Nat.mul_le_mul_right _ hn)
          have l4 : j * 2000000 ≤ 20 * 2000000 := Nat.mul_le_mul_right _ (by omega)
          by_cases e1 : bt x i = true
          · rw [if_pos ((bitT hx (by omega)).1.mpr e1)]
            by_cases e2 : bt y j = true
            · rw [if_pos ((bitT hy (by omega)).1.mpr e2), gd_t (ibn (by omega) (by decide)), gd_t (ibn (by omega) (by decide)), gd_t (ibn (by omega) (by decide)), gd_t (ibn (by omega) (by decide)), cl i (by omega), cl j (by omega), Nat.one_mul, hP.2.1 i j (by omega) (by omega), nI_l (Nat.lt_of_le_of_lt (hD i j) (by decide))]
              have st : fo (opk kd) d (bt x) (bt y) i (fa (opk kd) d (bt x) (bt y) n i) (j + 1) = some (ap (opk kd) (fo (opk kd) d (bt x) (bt y) i (fa (opk kd) d (bt x) (bt y) n i) j) (d i j)) := if_pos ⟨e1, e2⟩
              rw [st] at ih2
              cases hf : fo (opk kd) d (bt x) (bt y) i (fa (opk kd) d (bt x) (bt y) n i) j with
              | none =>
                rw [hf] at ih2
                rw [if_pos (show bg none = 0 from rfl)]
                exact ih2
              | some b =>
                rw [hf] at ih2 l2
                rw [if_neg (show ¬ bg (some b) = 0 from n10)]
                have hb : b ≤ 900000000 := by
                  have : (some b).getD 0 = b := rfl
                  omega
                have : (some b).getD 0 = b := rfl
                rw [this, X_car hk (by omega) (by have := hD i j; omega), bd_s]
                exact ih2
            · rw [if_neg (fun z => e2 ((bitT hy (by omega)).1.mp z))]
              have st : fo (opk kd) d (bt x) (bt y) i (fa (opk kd) d (bt x) (bt y) n i) (j + 1) = fo (opk kd) d (bt x) (bt y) i (fa (opk kd) d (bt x) (bt y) n i) j := if_neg (fun z => e2 z.2)
              rw [st] at ih2; exact ih2
          · rw [if_neg (fun z => e1 ((bitT hx (by omega)).1.mp z))]
            have st : fo (opk kd) d (bt x) (bt y) i (fa (opk kd) d (bt x) (bt y) n i) (j + 1) = fo (opk kd) d (bt x) (bt y) i (fa (opk kd) d (bt x) (bt y) n i) j := if_neg (fun z => e1 z.1)
            rw [st] at ih2; exact ih2
      exact inner N 0 () (by omega) (by omega) trivial
  exact key N 0 () (by omega) (by omega) trivial
theorem X_ins {σ : St} {n : Nat} {d : Nat → Nat → Nat} {px py : Nat → Int32} {x : Int32} (hd : DOK n d px py) (hP : PX σ n d px py) (hx : ∀ i, bt x i = true → i < n) (hN : 3000 ≤ N) : fX3_sumInside N x σ = some (lN (SI d (bt x)), σ) := by
  have hn := hd.1
  have hx20 : ∀ i, bt x i = true → i < 20 := fun i hi => by have := hx i hi; omega
  have hD : ∀ i j, d i j ≤ 2000000 := fun i j => (hd.2.1 i j).1
  have e20 : sm (fun i => sm (fun j => pt d (bt x) (bt x) i j) i) n = SI d (bt x) := by
    unfold SI
    have : ∀ k, sm (fun i => sm (fun j => pt d (bt x) (bt x) i j) i) (n + k) = sm (fun i => sm (fun j => pt d (bt x) (bt x) i j) i) n := by
      intro k
      induction k with
      | zero => rfl
      | succ k ih =>
        show sm _ (n + k) + sm (fun j => pt d (bt x) (bt x) (n + k) j) (n + k) = _
        rw [ih, (sm_con (n + k) (fun j _ => ?_)).trans (sm_z (n + k)), Nat.add_zero]
        unfold pt
        rw [if_neg (fun z => by have := hx _ z.1; omega)]
    have := this (20 - n)
    rw [show n + (20 - n) = 20 by omega] at this
    exact this.symm
  unfold fX3_sumInside
  have key : ∀ m i (ρ : Unit), i ≤ (if n = 0 then 1 else n) → (if n = 0 then 1 else n) - i < m → 1 ≤ i → fX3_sumInside_5 N m x (lN (sm (fun i => sm (fun j => pt d (bt x) (bt x) i j) i) i)) (nI i) σ = some (lN (SI d (bt x)), σ) := by
    refine loop_i (fun m i (ρ : Unit) => fX3_sumInside_5 N m x (lN (sm (fun i => sm (fun j => pt d (bt x) (bt x) i j) i) i)) (nI i) σ = some (lN (SI d (bt x)), σ)) (fun i ρ => 1 ≤ i) (if n = 0 then 1 else n) ?_ ?_
    · intro m ρ _
      rw [fX3_sumInside_5, hP.1, if_pos (nI_le (by split <;> omega) (by split <;> omega))]
      by_cases h0 : n = 0
      · rw [if_pos h0, ← e20, h0]; rfl
      · rw [if_neg h0, e20]
    · intro m i ρ hi h1 ih
      have hin : i < n := by
        by_cases h0 : n = 0
        · rw [if_pos h0] at hi; omega
        · rw [if_neg h0] at hi; exact hi
      rw [fX3_sumInside_5, hP.1, if_neg (nI_ge hin (by omega))]
      have inner : ∀ m2 j (ρ : Unit), j ≤ i → i - j < m2 → True → fX3_sumInside_17 N (fX3_sumInside_5 N m) m2 x (lN (sm (fun i => sm (fun j => pt d (bt x) (bt x) i j) i) i + sm (fun j => pt d (bt x) (bt x) i j) j)) (nI i) (nI j) σ = some (lN (SI d (bt x)), σ) := by
        refine loop_i (fun m2 j (ρ : Unit) => fX3_sumInside_17 N (fX3_sumInside_5 N m) m2 x (lN (sm (fun i => sm (fun j => pt d (bt x) (bt x) i j) i) i + sm (fun j => pt d (bt x) (bt x) i j) j)) (nI i) (nI j) σ = some (lN (SI d (bt x)), σ)) (fun j ρ => True) i ?_ ?_
        · intro m2 ρ _
          rw [fX3_sumInside_17, if_pos (nI_le (Nat.le_refl i) (by omega)), nx_r]
          show fX3_sumInside_5 N m x _ (nI i + 1) σ = _
          rw [nI_1]
          exact ih () (by omega)
        · intro m2 j ρ hj _ ih2
          have ih2 := ih2 () trivial
          rw [fX3_sumInside_17, if_neg (nI_ge hj (by omega))]
          unfold fX3_sumInside_58
          have ej : nI j + (1 : Int32) = nI (j + 1) := nI_1 j
          rw [nx_r, nx_r, nx_r, ej]
          have st : sm (fun j => pt d (bt x) (bt x) i j) (j + 1) = sm (fun j => pt d (bt x) (bt x) i j) j + pt d (bt x) (bt x) i j := rfl
          rw [st, ← Nat.add_assoc] at ih2
          unfold pt at ih2 ⊢
          by_cases e1 : bt x i = true
          · rw [if_pos ((bitT hx20 (by omega)).1.mpr e1)]
            by_cases e2 : bt x j = true
            · rw [if_pos ((bitT hx20 (by omega)).1.mpr e2), gd_t (ibn (by omega) (by decide)), gd_t (ibn (by omega) (by decide)), cl i (by omega), cl j (by omega), Nat.one_mul, hP.2.1 i j (by omega) (by omega), nI_l (Nat.lt_of_le_of_lt (hD i j) (by decide)), lN_add]
              rw [if_pos ⟨e1, e2⟩] at ih2
              exact ih2
            · rw [if_neg (fun z => e2 ((bitT hx20 (by omega)).1.mp z))]
              rw [if_neg (fun z => e2 z.2)] at ih2
              exact ih2
          · rw [if_neg (fun z => e1 ((bitT hx20 (by omega)).1.mp z))]
            rw [if_neg (fun z => e1 z.1)] at ih2
            exact ih2
      exact inner N 0 () (by omega) (by omega) trivial
  have z := key N 1 () (by split <;> omega) (by split <;> omega) (Nat.le_refl 1)
  exact z
theorem M_btw {τ : St} {n : Nat} {d : Nat → Nat → Nat} {px py : Nat → Int32} {x y : Int32} (hd : DOK n d px py) (hM : PM τ n d px py) (hx : ∀ i, bt x i = true → i < 20) (hy : ∀ i, bt y i = true → i < 20) (hN : 3000 ≤ N) : fX8_between N x y τ = some (lN (SS d (bt x) (bt y)), τ) := by
  have hD : ∀ i j, d i j ≤ 2000000 := fun i j => (hd.2.1 i j).1
  unfold fX8_between SS
  have key : ∀ m i (ρ : Unit), i ≤ 20 → 20 - i < m → True → fX8_between_5 N m x y (lN (sm (fun i => sm (fun j => pt d (bt x) (bt y) i j) 20) i)) (nI i) τ = some (lN (sm (fun i => sm (fun j => pt d (bt x) (bt y) i j) 20) 20), τ) := by
    refine loop_i (fun m i (ρ : Unit) => fX8_between_5 N m x y (lN (sm (fun i => sm (fun j => pt d (bt x) (bt y) i j) 20) i)) (nI i) τ = some (lN (sm (fun i => sm (fun j => pt d (bt x) (bt y) i j) 20) 20), τ)) (fun i ρ => True) 20 ?_ ?_
    · intro m ρ _
      rw [fX8_between_5, if_pos (show (20 : Int32) ≤ nI 20 from nI_le (a := 20) (b := 20) (by omega) (by omega))]
    · intro m i ρ hi _ ih
      rw [fX8_between_5, if_neg (show ¬ (20 : Int32) ≤ nI i from nI_ge (b := 20) hi (by omega))]
      have inner : ∀ m2 j (ρ : Unit), j ≤ 20 → 20 - j < m2 → True → fX8_between_15 N (fX8_between_5 N m) m2 x y (lN (sm (fun i => sm (fun j => pt d (bt x) (bt y) i j) 20) i + sm (fun j => pt d (bt x) (bt y) i j) j)) (nI i) (nI j) τ = some (lN (sm (fun i => sm (fun j => pt d (bt x) (bt y) i j) 20) 20), τ) := by
        refine loop_i (fun m2 j (ρ : Unit) => fX8_between_15 N (fX8_between_5 N m) m2 x y (lN (sm (fun i => sm (fun j => pt d (bt x) (bt y) i j) 20) i + sm (fun j => pt d (bt x) (bt y) i j) j)) (nI i) (nI j) τ = some (lN (sm (fun i => sm (fun j => pt d (bt x) (bt y) i j) 20) 20), τ)) (fun j ρ => True) 20 ?_ ?_
        · intro m2 ρ _
          rw [fX8_between_15, if_pos (show (20 : Int32) ≤ nI 20 from nI_le (a := 20) (b := 20) (by omega) (by omega)), nx_r]
          show fX8_between_5 N m x y _ (nI i + 1) τ = _
          rw [nI_1]
          exact ih () trivial
        · intro m2 j ρ hj _ ih2
          have ih2 := ih2 () trivial
          rw [fX8_between_15, if_neg (show ¬ (20 : Int32) ≤ nI j from nI_ge (b := 20) hj (by omega))]
          unfold fX8_between_60 fX8_between_61
          have ej : nI j + (1 : Int32) = nI (j + 1) := nI_1 j
          simp only [nx_r]
          rw [ej, i20 hi hj, gd_t (ibn (by omega) (by decide)), cl _ (by omega), hM.2.1 i j hi hj, nI_l (Nat.lt_of_le_of_lt (hD i j) (by decide)), lN_add]
          have z0 : ∀ k, lN k + (0 : Int64) = lN k := fun k => lN_add k 0
          rw [z0]
          have st : sm (fun j => pt d (bt x) (bt y) i j) (j + 1) = sm (fun j => pt d (bt x) (bt y) i j) j + pt d (bt x) (bt y) i j := rfl
          rw [st, ← Nat.add_assoc] at ih2
          unfold pt at ih2 ⊢
          by_cases e1 : bt x i = true
          · rw [if_pos ((bitT hx (by omega)).1.mpr e1)]
            by_cases e2 : bt y j = true
            · rw [if_pos ((bitT hy (by omega)).1.mpr e2)]
              rw [if_pos ⟨e1, e2⟩] at ih2
              exact ih2
            · rw [if_neg (fun z => e2 ((bitT hy (by omega)).1.mp z))]
              rw [if_neg (fun z => e2 z.2)] at ih2
              exact ih2
          · rw [if_neg (fun z => e1 ((bitT hx (by omega)).1.mp z))]
            rw [if_neg (fun z => e1 z.1)] at ih2
            exact ih2
      exact inner N 0 () (by omega) (by omega) trivial
  exact key N 0 () (by omega) (by omega) trivial
theorem M_ext {τ : St} {n : Nat} {d : Nat → Nat → Nat} {px py : Nat → Int32} {x y : Int32} {g : Bool} {G : Int32} (hd : DOK n d px py) (hM : PM τ n d px py) (hx : ∀ i, bt x i = true → i < 20) (hy : ∀ i, bt y i = true → i < 20) (hg : (g = false ∧ G = 0) ∨ (g = true ∧ ¬ G = 0)) (hN : 3000 ≤ N) : fX8_extreme N x y G τ = some (en (fa (opg g) d (bt x) (bt y) 20 20), τ) := by
  have hD : ∀ i j, d i j ≤ 2000000 := fun i j => (hd.2.1 i j).1
  have og : ∀ a b, opg g a b ≤ a + b := fun a b => by unfold opg; split <;> omega
  unfold fX8_extreme
  have key : ∀ m i (ρ : Unit), i ≤ 20 → 20 - i < m → True → fX8_extreme_6 N m x y G (en (fa (opg g) d (bt x) (bt y) 20 i)) (nI i) τ = some (en (fa (opg g) d (bt x) (bt y) 20 20), τ) := by
    refine loop_i (fun m i (ρ : Unit) => fX8_extreme_6 N m x y G (en (fa (opg g) d (bt x) (bt y) 20 i)) (nI i) τ = some (en (fa (opg g) d (bt x) (bt y) 20 20), τ)) (fun i ρ => True) 20 ?_ ?_
    · intro m ρ _
      rw [fX8_extreme_6, if_pos (show (20 : Int32) ≤ nI 20 from nI_le (a := 20) (b := 20) (by omega) (by omega))]
    · intro m i ρ hi _ ih
      rw [fX8_extreme_6, if_neg (show ¬ (20 : Int32) ≤ nI i from nI_ge (b := 20) hi (by omega))]
      have inner : ∀ m2 j (ρ : Unit), j ≤ 20 → 20 - j < m2 → True → fX8_extreme_16 N (fX8_extreme_6 N m) m2 x y G (en (fo (opg g) d (bt x) (bt y) i (fa (opg g) d (bt x) (bt y) 20 i) j)) (nI i) (nI j) τ = some (en (fa (opg g) d (bt x) (bt y) 20 20), τ) := by
        refine loop_i (fun m2 j (ρ : Unit) => fX8_extreme_16 N (fX8_extreme_6 N m) m2 x y G (en (fo (opg g) d (bt x) (bt y) i (fa (opg g) d (bt x) (bt y) 20 i) j)) (nI i) (nI j) τ = some (en (fa (opg g) d (bt x) (bt y) 20 20), τ)) (fun j ρ => True) 20 ?_ ?_
        · intro m2 ρ _
          rw [fX8_extreme_16, if_pos (show (20 : Int32) ≤ nI 20 from nI_le (a := 20) (b := 20) (by omega) (by omega)), nx_r]
          show fX8_extreme_6 N m x y _ _ (nI i + 1) τ = _
          rw [nI_1]
          exact ih () trivial
        · intro m2 j ρ hj _ ih2
          have ih2 := ih2 () trivial
          rw [fX8_extreme_16, if_neg (show ¬ (20 : Int32) ≤ nI j from nI_ge (b := 20) hj (by omega))]
          unfold fX8_extreme_85 fX8_extreme_89
          have ej : nI j + (1 : Int32) = nI (j + 1) := nI_1 j
          simp only [nx_r]
          rw [ej, i20 hi hj, gd_t (ibn (by omega) (by decide)), cl _ (by omega), hM.2.1 i j hi hj]
          have l1 := fa_le (m := 20) (P := bt x) (Q := bt y) og hD i
          have l2 := fo_le (P := bt x) (Q := bt y) (i := i) (o := fa (opg g) d (bt x) (bt y) 20 i) og hD j
          have l3 : i * (20 * 2000000) ≤ 20 * (20 * 2000000) := Nat.mul_le_mul_right _ (by omega)
          have l4 : j * 2000000 ≤ 20 * 2000000 := Nat.mul_le_mul_right _ (by omega)
          have bfx : ∀ {z : Int32} {k : Nat}, (∀ i, bt z i = true → i < 20) → k < 20 → ¬ bt z k = true → ((z >>> (nI k &&& 31)) &&& 1) = 0 := fun hz hk h => (bitT hz (by omega)).2.mpr (by simpa using h)
          have btx : ∀ {z : Int32} {k : Nat}, (∀ i, bt z i = true → i < 20) → k < 20 → bt z k = true → ¬ ((z >>> (nI k &&& 31)) &&& 1) = 0 := fun hz hk h h2 => by rw [(bitT hz (by omega)).2.mp h2] at h; cases h
          by_cases e1 : bt x i = true
          · rw [if_neg (btx hx hi e1)]
            by_cases e2 : bt y j = true
            · rw [if_neg (btx hy hj e2)]
              have st : fo (opg g) d (bt x) (bt y) i (fa (opg g) d (bt x) (bt y) 20 i) (j + 1) = some (ap (opg g) (fo (opg g) d (bt x) (bt y) i (fa (opg g) d (bt x) (bt y) 20 i) j) (d i j)) := if_pos ⟨e1, e2⟩
              rw [st] at ih2
              cases hf : fo (opg g) d (bt x) (bt y) i (fa (opg g) d (bt x) (bt y) 20 i) j with
              | none =>
                rw [hf] at ih2
                rw [if_pos (show en none < 0 by decide)]
                exact ih2
              | some b =>
                rw [hf] at ih2 l2
                have hb : b ≤ 900000000 := by
                  have : (some b).getD 0 = b := rfl
                  omega
                have hdj := hD i j
                show (if nI b < 0 then _ else if G = 0 then if nI b ≤ nI (d i j) then _ else _ else if nI (d i j) ≤ nI b then _ else _) = _
                rw [if_neg (nI_pos (by omega))]
                have ih3 : fX8_extreme_16 N (fX8_extreme_6 N m) m2 x y G (nI (opg g b (d i j))) (nI i) (nI (j + 1)) τ = some (en (fa (opg g) d (bt x) (bt y) 20 20), τ) := ih2
                unfold opg at ih3
                rcases hg with ⟨rfl, hG⟩ | ⟨rfl, hG⟩
                · rw [if_pos hG]
                  simp at ih3
                  by_cases c : b ≤ d i j
                  · rw [if_pos (nI_le c (by omega))]
                    rw [Nat.min_eq_left c] at ih3; exact ih3
                  · rw [if_neg (nI_ge (by omega) (by omega))]
                    rw [Nat.min_eq_right (by omega)] at ih3; exact ih3
                · rw [if_neg hG]
                  simp at ih3
                  by_cases c : d i j ≤ b
                  · rw [if_pos (nI_le c (by omega))]
                    rw [Nat.max_eq_left c] at ih3; exact ih3
                  · rw [if_neg (nI_ge (by omega) (by omega))]
                    rw [Nat.max_eq_right (by omega)] at ih3; exact ih3
            · rw [if_pos (bfx hy hj e2)]
              have st : fo (opg g) d (bt x) (bt y) i (fa (opg g) d (bt x) (bt y) 20 i) (j + 1) = fo (opg g) d (bt x) (bt y) i (fa (opg g) d (bt x) (bt y) 20 i) j := if_neg (fun z => e2 z.2)
              rw [st] at ih2; exact ih2
          · rw [if_pos (bfx hx hi e1)]
            have st : fo (opg g) d (bt x) (bt y) i (fa (opg g) d (bt x) (bt y) 20 i) (j + 1) = fo (opg g) d (bt x) (bt y) i (fa (opg g) d (bt x) (bt y) 20 i) j := if_neg (fun z => e1 z.1)
            rw [st] at ih2; exact ih2
      exact inner N 0 () (by omega) (by omega) trivial
  exact key N 0 () (by omega) (by omega) trivial
end
