/-! numbers in range -/
theorem a32 {a b : Int32} (h1 : -2147483648 ≤ a.toInt + b.toInt) (h2 : a.toInt + b.toInt < 2147483648) : (a + b).toInt = a.toInt + b.toInt := by rw [Int32.toInt_add]; exact Int.bmod_eq_of_le (by omega) (by omega)
theorem s32 {a b : Int32} (h1 : -2147483648 ≤ a.toInt - b.toInt) (h2 : a.toInt - b.toInt < 2147483648) : (a - b).toInt = a.toInt - b.toInt := by rw [Int32.toInt_sub]; exact Int.bmod_eq_of_le (by omega) (by omega)
theorem m32 {a b : Int32} (h1 : -2147483648 ≤ a.toInt * b.toInt) (h2 : a.toInt * b.toInt < 2147483648) : (a * b).toInt = a.toInt * b.toInt := by rw [Int32.toInt_mul]; exact Int.bmod_eq_of_le (by omega) (by omega)
theorem n32 {a : Int32} (h1 : -2147483648 < a.toInt) : (-a).toInt = -a.toInt := by
  have := Int32.toInt_lt a
  rw [Int32.toInt_neg]; exact Int.bmod_eq_of_le (by omega) (by omega)
theorem toInt_nI {x : Int32} {n : Nat} (h : x.toInt = (n : Int)) (hn : n < 2 ^ 31) : x = nI n := Int32.toInt_inj.mp (by rw [h, nI_toInt hn])
def ad (a b : Int32) : Nat := (a.toInt - b.toInt).natAbs
theorem ad_le {a b : Int32} (ha : inR a) (hb : inR b) : ad a b ≤ 1000 := by unfold ad; unfold inR at ha hb; omega
theorem ad_sym (a b : Int32) : ad a b = ad b a := by unfold ad; omega
theorem ab_val {a b : Int32} (ha : inR a) (hb : inR b) : (if 0 ≤ a - b then a - b else -(a - b)) = nI (ad a b) := by
  unfold inR at ha hb
  have e : (a - b).toInt = a.toInt - b.toInt := s32 (by omega) (by omega)
  have z : (0 : Int32).toInt = 0 := by decide
  by_cases h : (0 : Int32) ≤ a - b
  · rw [if_pos h]
    have h2 := Int32.le_iff_toInt_le.mp h
    refine toInt_nI ?_ (by unfold ad; omega)
    unfold ad; omega
  · rw [if_neg h]
    have h2 : ¬ (0 : Int32).toInt ≤ (a - b).toInt := fun q => h (Int32.le_iff_toInt_le.mpr q)
    refine toInt_nI ?_ (by unfold ad; omega)
    rw [n32 (by omega)]
    unfold ad; omega
section
variable {N : Nat}
theorem X_abs {σ : St} {a b : Int32} (ha : inR a) (hb : inR b) : fJ9_abs_0f7a4 N (a - b) σ = some (nI (ad a b), σ) := by
  unfold fJ9_abs_0f7a4
  rw [← ab_val ha hb]
  split <;> rfl
theorem M_abs {σ : St} {a b : Int32} (ha : inR a) (hb : inR b) : fX8_sizeOf N (a - b) σ = some (nI (ad a b), σ) := by
  unfold fX8_sizeOf
  rw [← ab_val ha hb]
  split <;> rfl
def mv (how u v : Nat) : Nat := if how = 0 then u * u + v * v else if how = 1 then u + v else if u ≤ v then v else u
theorem mv_le {how u v : Nat} (hu : u ≤ 1000) (hv : v ≤ 1000) : mv how u v ≤ 2000000 := by
  unfold mv
  have h1 : u * u ≤ 1000 * 1000 := Nat.mul_le_mul hu hu
  have h2 : v * v ≤ 1000 * 1000 := Nat.mul_le_mul hv hv
  split
  · omega
  · split
    · omega
    · split <;> omega
theorem X_mv {σ : St} {how u v : Nat} (hh : how < 3) (hu : u ≤ 1000) (hv : v ≤ 1000) : fX3_measured N (nI how) (nI u) (nI v) σ = some (nI (mv how u v), σ) := by
  unfold fX3_measured mv
  rcases (show how = 0 ∨ how = 1 ∨ how = 2 by omega) with rfl | rfl | rfl
  · rw [if_pos (by decide), if_pos rfl, pk_mul, pk_mul, nI_add]
  · rw [if_neg (by decide), if_pos (by decide), if_neg (by decide), if_pos rfl, nI_add]
  · rw [if_neg (by decide), if_neg (by decide), if_neg (by decide), if_neg (by decide)]
    unfold fJ9_max_7cf53
    by_cases h : u < v
    · rw [if_pos (nI_lt h (by omega)), if_pos (by omega)]; rfl
    · rw [if_neg (nI_nlt (by omega) (by omega))]
      by_cases h2 : u ≤ v
      · rw [if_pos h2, show u = v by omega]; rfl
      · rw [if_neg h2]; rfl
/-- distances measured so far: of all pairs below i, and of i with those below j -/
def dm (how : Nat) (px py : Nat → Int32) (d : Nat → Nat → Nat) (i j : Nat) : Nat → Nat → Nat := fun a b => if a ≠ b ∧ ((a < i ∧ b < i) ∨ (a = i ∧ b < i ∧ b < j) ∨ (b = i ∧ a < i ∧ a < j)) then mv how (ad (px a) (px b)) (ad (py a) (py b)) else d a b
theorem dm_step {how : Nat} {px py : Nat → Int32} {d : Nat → Nat → Nat} {i j : Nat} (hj : j < i) : dset (dm how px py d i j) i j (mv how (ad (px i) (px j)) (ad (py i) (py j))) = dm how px py d i (j + 1) := by
  funext a b
  unfold dset dm
  by_cases h1 : a = i ∧ b = j
  · rw [if_pos (Or.inl h1), if_pos (by omega), h1.1, h1.2]
  · by_cases h2 : a = j ∧ b = i
    · rw [if_pos (Or.inr h2), if_pos (by omega), h2.1, h2.2, ad_sym (px j), ad_sym (py j)]
    · rw [if_neg (by omega)]
      by_cases h3 : a ≠ b ∧ ((a < i ∧ b < i) ∨ (a = i ∧ b < i ∧ b < j) ∨ (b = i ∧ a < i ∧ a < j))
      · rw [if_pos h3, if_pos (by omega)]
      · rw [if_neg h3, if_neg (by omega)]
theorem dm_next {how : Nat} {px py : Nat → Int32} {d : Nat → Nat → Nat} {i : Nat} : dm how px py d i i = dm how px py d (i + 1) 0 := by
  funext a b
  unfold dm
  by_cases h3 : a ≠ b ∧ ((a < i ∧ b < i) ∨ (a = i ∧ b < i ∧ b < i) ∨ (b = i ∧ a < i ∧ a < i))
  · rw [if_pos h3, if_pos (by omega)]
  · rw [if_neg h3, if_neg (by omega)]
theorem dm_0 {how : Nat} {px py : Nat → Int32} {d : Nat → Nat → Nat} {i : Nat} (hi : i ≤ 1) : dm how px py d i 0 = d := by
  funext a b
  unfold dm
  rw [if_neg (by omega)]
theorem dm_ok {how n i j : Nat} {px py : Nat → Int32} {d : Nat → Nat → Nat} (h : DOK n d px py) : DOK n (dm how px py d i j) px py := by
  refine ⟨h.1, fun a b => ⟨?_, ?_⟩, fun a => ?_, h.2.2.2⟩
  · unfold dm; split
    · exact mv_le (ad_le (h.2.2.2 a).1 (h.2.2.2 b).1) (ad_le (h.2.2.2 a).2 (h.2.2.2 b).2)
    · exact (h.2.1 a b).1
  · unfold dm
    by_cases h3 : a ≠ b ∧ ((a < i ∧ b < i) ∨ (a = i ∧ b < i ∧ b < j) ∨ (b = i ∧ a < i ∧ a < j))
    · rw [if_pos h3, if_pos (by omega), ad_sym (px a), ad_sym (py a)]
    · rw [if_neg h3, if_neg (by omega)]; exact (h.2.1 a b).2
  · unfold dm; rw [if_neg (by omega)]; exact h.2.2.1 a
theorem X_meas {σ : St} {n how : Nat} {d : Nat → Nat → Nat} {px py : Nat → Int32} (hh : how < 3) (hd : DOK n d px py) (h : PX σ n d px py) (hN : 3000 ≤ N) : wp (fX3_measureAll N (nI how) σ) (fun _ σ' => PX σ' n (dm how px py d (if n = 0 then 1 else n) 0) px py ∧ fr sP σ σ') := by
  unfold fX3_measureAll
  have hn := hd.1
  have key : ∀ m i τ, i ≤ (if n = 0 then 1 else n) → (if n = 0 then 1 else n) - i < m → (1 ≤ i ∧ PX τ n (dm how px py d i 0) px py ∧ fr sP σ τ) → wp (fX3_measureAll_2 N m (nI how) (nI i) τ) (fun _ σ' => PX σ' n (dm how px py d (if n = 0 then 1 else n) 0) px py ∧ fr sP σ σ') := by
    refine loop_i (fun m i τ => wp (fX3_measureAll_2 N m (nI how) (nI i) τ) (fun _ σ' => PX σ' n (dm how px py d (if n = 0 then 1 else n) 0) px py ∧ fr sP σ σ')) (fun i τ => 1 ≤ i ∧ PX τ n (dm how px py d i 0) px py ∧ fr sP σ τ) (if n = 0 then 1 else n) ?_ ?_
    · intro m τ hi
      rw [fX3_measureAll_2, hi.2.1.1]
      exact wp_t (nI_le (by split <;> omega) (by split <;> omega)) (wp_some hi.2)
    · intro m i τ hin hi ih
      have hi20 : i < n := by
        by_cases e : n = 0
        · rw [if_pos e] at hin; omega
        · rw [if_neg e] at hin; exact hin
      rw [fX3_measureAll_2, hi.2.1.1]
      refine wp_f (nI_ge hi20 (by omega)) ?_
      have inner : ∀ m2 j ρ, j ≤ i → i - j < m2 → (PX ρ n (dm how px py d i j) px py ∧ fr sP σ ρ) → wp (fX3_measureAll_12 N (fX3_measureAll_2 N m) m2 (nI how) (nI i) (nI j) ρ) (fun _ σ' => PX σ' n (dm how px py d (if n = 0 then 1 else n) 0) px py ∧ fr sP σ σ') := by
        refine loop_i (fun m2 j ρ => wp (fX3_measureAll_12 N (fX3_measureAll_2 N m) m2 (nI how) (nI i) (nI j) ρ) (fun _ σ' => PX σ' n (dm how px py d (if n = 0 then 1 else n) 0) px py ∧ fr sP σ σ')) (fun j ρ => PX ρ n (dm how px py d i j) px py ∧ fr sP σ ρ) i ?_ ?_
        · intro m2 ρ hp
          rw [fX3_measureAll_12]
          refine wp_t (nI_le (Nat.le_refl i) (by omega)) (wp_nx ?_)
          show wp (fX3_measureAll_2 N m (nI how) (nI i + 1) ρ) _
          rw [nI_1]
          exact ih ρ ⟨by omega, by rw [← dm_next]; exact hp.1, hp.2⟩
        · intro m2 j ρ hj hp ih2
          rw [fX3_measureAll_12]
          have ei := hp.1.2.2 i (by omega)
          have ej := hp.1.2.2 j (by omega)
          refine wp_f (nI_ge hj (by omega)) (wp_gd (ibn (by omega) (by decide)) (wp_gd (ibn (by omega) (by decide)) ?_))
          rw [cl i (by omega), cl j (by omega), ei.1, ej.1, X_abs (hd.2.2.2 i).1 (hd.2.2.2 j).1]
          refine wp_gd (ibn (by omega) (by decide)) (wp_gd (ibn (by omega) (by decide)) ?_)
          rw [ei.2, ej.2, X_abs (hd.2.2.2 i).2 (hd.2.2.2 j).2]
          show wp (bd (fX3_measured N (nI how) (nI (ad (px i) (px j))) (nI (ad (py i) (py j))) ρ) _) _
          rw [X_mv hh (ad_le (hd.2.2.2 i).1 (hd.2.2.2 j).1) (ad_le (hd.2.2.2 i).2 (hd.2.2.2 j).2)]
          show wp (bd (fX3_setApart N (nI i) (nI j) (nI (mv how (ad (px i) (px j)) (ad (py i) (py j)))) ρ) _) _
          refine wp_bd (X_set hp.1 (by omega) (by omega)) (fun _ ρ2 hq => wp_nx ?_)
          show wp (fX3_measureAll_12 N (fX3_measureAll_2 N m) m2 (nI how) (nI i) (nI j + 1) ρ2) _
          rw [nI_1]
          refine ih2 ρ2 ⟨?_, fr_tr hp.2 (fr_mo hq.2 (fun c k hc => by unfold sP; omega))⟩
          rw [← dm_step hj]; exact hq.1
      exact inner N 0 τ (by omega) (by omega) hi.2
  exact key N 1 σ (by split <;> omega) (by split <;> omega) ⟨by omega, by rw [dm_0 (by omega)]; exact h, fr_rf⟩
theorem M_meas111 {K12 : Int32 → Int32 → St → Option (Int32 × St)} {K22 : Int32 → Int32 → Int32 → St → Option (Int32 × St)} {n how i j v : Nat} {d : Nat → Nat → Nat} {px py : Nat → Int32} {ρ : St} {Q : Int32 → St → Prop} (hp : PM ρ n d px py) (hi : i < 20) (hj : j < 20) (h : ∀ ρ2, PM ρ2 n (dset d i j v) px py → fr (fun c _ => c = 1) ρ ρ2 → wp (K22 (nI how) (nI i) (nI (j + 1)) ρ2) Q) : wp (fX8_measure_111 N K12 K22 (nI how) (nI i) (nI j) (nI v) (nI j) (nI i) ρ) Q := by
  unfold fX8_measure_111
  refine wp_bd (M_set hp hi hj) (fun _ ρ2 hq => wp_nx ?_)
  show wp (K22 (nI how) (nI i) (nI j + 1) ρ2) Q
  rw [nI_1]
  exact h ρ2 hq.1 hq.2
theorem M_meas {σ : St} {n how : Nat} {d : Nat → Nat → Nat} {px py : Nat → Int32} (hh : how < 3) (hd : DOK n d px py) (h : PM σ n d px py) (hN : 3000 ≤ N) : wp (fX8_measure_12 N N (nI how) 0 σ) (fun r σ' => r = 1 ∧ PM σ' n (dm how px py d n 0) px py ∧ fr sPM σ σ') := by
  have hn := hd.1
  have key : ∀ m i τ, i ≤ n → n - i < m → (PM τ n (dm how px py d i 0) px py ∧ fr sPM σ τ) → wp (fX8_measure_12 N m (nI how) (nI i) τ) (fun r σ' => r = 1 ∧ PM σ' n (dm how px py d n 0) px py ∧ fr sPM σ σ') := by
    refine loop_i (fun m i τ => wp (fX8_measure_12 N m (nI how) (nI i) τ) (fun r σ' => r = 1 ∧ PM σ' n (dm how px py d n 0) px py ∧ fr sPM σ σ')) (fun i τ => PM τ n (dm how px py d i 0) px py ∧ fr sPM σ τ) n ?_ ?_
    · intro m τ hi
      rw [fX8_measure_12, hi.1.1]
      exact wp_t (nI_le (Nat.le_refl n) (by omega)) (wp_some ⟨rfl, hi⟩)
    · intro m i τ hin hi ih
      rw [fX8_measure_12, hi.1.1]
      refine wp_f (nI_ge hin (by omega)) ?_
      have inner : ∀ m2 j ρ, j ≤ i → i - j < m2 → (PM ρ n (dm how px py d i j) px py ∧ fr sPM σ ρ) → wp (fX8_measure_22 N (fX8_measure_12 N m) m2 (nI how) (nI i) (nI j) ρ) (fun r σ' => r = 1 ∧ PM σ' n (dm how px py d n 0) px py ∧ fr sPM σ σ') := by
        refine loop_i (fun m2 j ρ => wp (fX8_measure_22 N (fX8_measure_12 N m) m2 (nI how) (nI i) (nI j) ρ) (fun r σ' => r = 1 ∧ PM σ' n (dm how px py d n 0) px py ∧ fr sPM σ σ')) (fun j ρ => PM ρ n (dm how px py d i j) px py ∧ fr sPM σ ρ) i ?_ ?_
        · intro m2 ρ hp
          rw [fX8_measure_22]
          refine wp_t (nI_le (Nat.le_refl i) (by omega)) (wp_nx ?_)
          show wp (fX8_measure_12 N m (nI how) (nI i + 1) ρ) _
          rw [nI_1]
          exact ih ρ ⟨by rw [← dm_next]; exact hp.1, hp.2⟩
        · intro m2 j ρ hj hp ih2
          rw [fX8_measure_22]
          have ei := hp.1.2.2 i (by omega)
          have ej := hp.1.2.2 j (by omega)
          have hu := ad_le (hd.2.2.2 i).1 (hd.2.2.2 j).1
          have hv := ad_le (hd.2.2.2 i).2 (hd.2.2.2 j).2
          refine wp_f (nI_ge hj (by omega)) (wp_gd (ibn (by omega) (by decide)) (wp_gd (ibn (by omega) (by decide)) ?_))
          rw [cl i (by omega), cl j (by omega), ei.1, ej.1, M_abs (hd.2.2.2 i).1 (hd.2.2.2 j).1]
          refine wp_gd (ibn (by omega) (by decide)) (wp_gd (ibn (by omega) (by decide)) ?_)
          rw [ei.2, ej.2, M_abs (hd.2.2.2 i).2 (hd.2.2.2 j).2]
          have fin : ∀ v, v = mv how (ad (px i) (px j)) (ad (py i) (py j)) → wp (fX8_measure_111 N (fX8_measure_12 N m) (fX8_measure_22 N (fX8_measure_12 N m) m2) (nI how) (nI i) (nI j) (nI v) (nI j) (nI i) ρ) (fun r σ' => r = 1 ∧ PM σ' n (dm how px py d n 0) px py ∧ fr sPM σ σ') := by
            intro v ev
            refine M_meas111 hp.1 (by omega) (by omega) (fun ρ2 hq hf => ih2 ρ2 ⟨?_, fr_tr hp.2 (fr_mo hf (fun c k hc => by unfold sPM; omega))⟩)
            rw [← dm_step hj, ← ev]; exact hq
          show wp (if nI how = 0 then _ else _) _
          refine wp_i (fun e0 => ?_) (fun e0 => wp_i (fun e1 => ?_) (fun e1 => wp_i (fun e2 => ?_) (fun e2 => ?_)))
          · have : how = 0 := (nI_eq (b := 0) (by omega) (by omega)).mp e0
            rw [pk_mul, pk_mul, nI_add]
            exact fin _ (by unfold mv; rw [if_pos this])
          · have h0 : how ≠ 0 := fun e => e0 (by rw [e]; rfl)
            have h1 : how = 1 := (nI_eq (b := 1) (by omega) (by omega)).mp e1
            rw [nI_add]
            exact fin _ (by unfold mv; rw [if_neg h0, if_pos h1])
          · have h0 : how ≠ 0 := fun e => e0 (by rw [e]; rfl)
            have h1 : how ≠ 1 := fun e => e1 (by rw [e]; rfl)
            have h2 := (nI_leI (by omega) (by omega)).mp e2
            exact fin _ (by unfold mv; rw [if_neg h0, if_neg h1, if_pos h2])
          · have h0 : how ≠ 0 := fun e => e0 (by rw [e]; rfl)
            have h1 : how ≠ 1 := fun e => e1 (by rw [e]; rfl)
            have h2 : ¬ ad (px i) (px j) ≤ ad (py i) (py j) := fun z => e2 ((nI_leI (by omega) (by omega)).mpr z)
            exact fin _ (by unfold mv; rw [if_neg h0, if_neg h1, if_neg h2])
      exact inner N 0 τ (by omega) (by omega) hi
  exact key N 0 σ (by omega) (by omega) ⟨by rw [dm_0 (by omega)]; exact h, fr_rf⟩
theorem J_measure {σ τ : St} (h : Rel σ τ) (hN : 3000 ≤ N) (x : Int32) : jt (fX7_measure N x σ) (fX8_measure N x τ) Rel := by
  obtain ⟨n, d, px, py, hd, hX, hM⟩ := h.1
  unfold fX7_measure fX8_measure
  rcases ixc x (n := 3) (by omega) with hx | ⟨i, hi, rfl⟩
  · refine jt_no h (a := 0) ?_ ?_
    · by_cases h0 : x < 0
      · rw [if_pos h0]
      · rw [if_neg h0, if_neg]
        intro h1
        rcases hx with hv | hv
        · exact h0 hv
        · have a1 := Int32.le_iff_toInt_le.mp h1
          have a2 := Int32.le_iff_toInt_le.mp hv
          rw [nI_toInt (by omega)] at a2
          have e : (2 : Int32).toInt = 2 := by decide
          omega
    · show bd (fX8_isIn N x (nI 3) τ) _ = _
      rw [M_in0 hx]; rfl
  · refine jt_wp (P := fun r σ' => r = 1 ∧ PX σ' n (dm i px py d n 0) px py ∧ fr sP σ σ') (Q := fun r τ' => r = 1 ∧ PM τ' n (dm i px py d n 0) px py ∧ fr sPM τ τ') ?_ ?_ ?_
    · refine wp_f (nI_pos (by omega)) (wp_t (nI_le (b := 2) (by omega) (by omega)) (wp_bd (X_meas hi hd hX hN) (fun _ σ' hq => wp_some ⟨rfl, ?_, hq.2⟩)))
      have e := hq.1
      by_cases hz : n = 0
      · rw [if_pos hz, dm_0 (by omega)] at e
        rw [hz, dm_0 (by omega), ← hz]; exact e
      · rw [if_neg hz] at e; exact e
    · show wp (bd (fX8_isIn N (nI i) (nI 3) τ) _) _
      rw [M_in1 (by omega) hi]
      exact M_meas hi hd hM hN
    · intro a b σ' τ' hp hq
      exact ⟨hp.1.trans hq.1.symm, h.P hp.2.2 hq.2.2 ⟨n, _, _, _, dm_ok hd, hp.2.1, hq.2.1⟩⟩
end
