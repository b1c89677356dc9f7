/-! the reference joins -/
theorem gd_tt {α : Type} {x : Option α} : gd true x = x := if_pos rfl
theorem l_shl {v k : Nat} (hk : k ≤ 18) (hv : v ≤ 2000000) : lN v <<< ((nI k).toInt64 &&& 63) = lN (v * 2 ^ k) := by
  have hs : ∀ k, k ≤ 18 → (((nI k).toInt64 &&& 63).toBitVec.smod 64).toNat = k := by decide +kernel
  have hp : 2 ^ k ≤ 2 ^ 18 := Nat.pow_le_pow_right (by omega) hk
  have hm : v * 2 ^ k ≤ 2000000 * 2 ^ 18 := Nat.mul_le_mul hv hp
  apply Int64.toBitVec_inj.mp
  apply BitVec.eq_of_toNat_eq
  show ((lN v).toBitVec <<< (((nI k).toInt64 &&& 63).toBitVec.smod 64).toNat).toNat = (BitVec.ofNat 64 (v * 2 ^ k)).toNat
  rw [hs k hk, BitVec.toNat_shiftLeft, Nat.shiftLeft_eq]
  show (BitVec.ofNat 64 v).toNat * 2 ^ k % 2 ^ 64 = _
  rw [BitVec.toNat_ofNat, BitVec.toNat_ofNat, Nat.mod_eq_of_lt (show v < 2 ^ 64 by omega)]
section
variable {N n kd : Nat} {d : Nat → Nat → Nat} {px py : Nat → Int32} {A : Aj} {C D : Nat}
theorem M_deep {τ : St} (hI : I1 n A) (h2 : I2 n A) (hM : CM τ n A) {c i : Nat} (hc : c ∈ aF A) (hi : bc A c i = true) (hN : 3000 ≤ N) : fX8_deep N (nI i) (aC A c) τ = some (nI (dpt n A i), τ) := by
  have hi20 := hI.s20 hc i hi
  have hn := hI.2.1
  have ln := hI.1
  have lp := List.length_pos_of_mem hc
  unfold fX8_deep dpt
  have key : ∀ m k (ρ : Unit), k ≤ aK A → aK A - k < m → True → fX8_deep_5 N m (nI i) (aC A c) (nI (pcp (fun k => bc A (n + k) i) k)) (nI k) τ = some (nI (pcp (fun k => bc A (n + k) i) (aK A)), τ) := by
    refine loop_i (fun m k (ρ : Unit) => fX8_deep_5 N m (nI i) (aC A c) (nI (pcp (fun k => bc A (n + k) i) k)) (nI k) τ = some (nI (pcp (fun k => bc A (n + k) i) (aK A)), τ)) (fun k ρ => True) (aK A) ?_ ?_
    · intro m ρ _
      rw [fX8_deep_5, hM.1.1, if_pos (nI_le (Nat.le_refl _) (by omega))]
    · intro m k ρ hk _ ih
      have ih := ih () trivial
      have mk := (hM.2.2 k hk).1
      have sm : ∀ z, bt (aC A (n + k)) z = true → z < 20 := fun z hz => by
        have := (h2.1 k hk).2.2.2.2.2.2 z hz
        omega
      have k1 : nI k + (1 : Int32) = nI (k + 1) := nI_1 k
      have p1 : ∀ z, nI z + (1 : Int32) = nI (z + 1) := fun z => nI_1 z
      have p0 : ∀ z, nI z + (0 : Int32) = nI z := fun z => nI_add z 0
      rw [fX8_deep_5, hM.1.1, if_neg (nI_ge hk (by omega)), gd_t (ibn (by omega) (by decide)), cl k (by omega), mk, gd_t (ibn (by omega) (by decide))]
      unfold fX8_deep_48 fX8_deep_49
      simp only [nx_r, k1, p1, p0]
      by_cases e : bc A (n + k) i = true
      · have sub := h2.2.1 k c hk hc ⟨i, e, hi⟩
        have z0 : aC A (n + k) &&& (aC A c ^^^ (-1 : Int32)) = 0 := by
          refine b_ext (fun z hz => ?_)
          rw [b_and, b_xor, b_m1 z hz, b_0]
          cases e1 : bt (aC A (n + k)) z with
          | false => rfl
          | true =>
            have e2 : bt (aC A c) z = true := sub z e1
            rw [e2]; rfl
        rw [if_pos ((bitT sm (by omega)).1.mpr e), if_pos z0]
        have st : pcp (fun k => bc A (n + k) i) (k + 1) = pcp (fun k => bc A (n + k) i) k + 1 := by
          show pcp _ k + (if bc A (n + k) i = true then 1 else 0) = _
          rw [if_pos e]
        rw [st] at ih; exact ih
      · rw [if_neg (fun z => e ((bitT sm (by omega)).1.mp z))]
        have st : pcp (fun k => bc A (n + k) i) (k + 1) = pcp (fun k => bc A (n + k) i) k := by
          show pcp _ k + (if bc A (n + k) i = true then 1 else 0) = _
          rw [if_neg e]; rfl
        rw [st] at ih; exact ih
  exact key N 0 () (by omega) (by omega) trivial
theorem dep18 (hI : I1 n A) (h2 : I2 n A) {c e i j : Nat} (hc : c ∈ aF A) (he : e ∈ aF A) (hne : c ≠ e) (hi : bc A c i = true) (hj : bc A e j = true) : dpt n A i + dpt n A j ≤ 18 := by
  have d1 := h2.2.2.2 c i hc hi
  have d2 := h2.2.2.2 e j he hj
  have o1 := nz_or (P := fun i => bc A c i || bc A e i) (fun i => rfl) (hI.2.2.2.2.2.1 c e hc he hne)
  have := nz_le (fun i => bc A c i || bc A e i)
  omega
theorem M_wt {τ : St} (hd : DOK n d px py) (hP : PM τ n d px py) (hI : I1 n A) (h2 : I2 n A) (hM : CM τ n A) {c e : Nat} (hc : c ∈ aF A) (he : e ∈ aF A) (hne : c ≠ e) (hN : 3000 ≤ N) : fX8_weighted N (aC A c) (aC A e) τ = some (lN (SS (wd d (dpt n A)) (bc A c) (bc A e)), τ) := by
  have hD := hd.dd.1
  have hx := hI.s20 hc
  have hy := hI.s20 he
  have bfx : ∀ {z : Int32} {k : Nat}, (∀ i, bt z i = true → i < 20) → k < 20 → ¬ bt z k = true → ((z >>> (nI k &&& 31)) &&& 1) = 0 := fun hz hk h => (bitT hz (by omega)).2.mpr (by simpa using h)
  have btx : ∀ {z : Int32} {k : Nat}, (∀ i, bt z i = true → i < 20) → k < 20 → bt z k = true → ¬ ((z >>> (nI k &&& 31)) &&& 1) = 0 := fun hz hk h h2 => by rw [(bitT hz (by omega)).2.mp h2] at h; cases h
  unfold fX8_weighted SS
  have key : ∀ m i (ρ : Unit), i ≤ 20 → 20 - i < m → True → fX8_weighted_5 N m (aC A c) (aC A e) (lN (sm (fun i => sm (fun j => pt (wd d (dpt n A)) (bc A c) (bc A e) i j) 20) i)) (nI i) τ = some (lN (sm (fun i => sm (fun j => pt (wd d (dpt n A)) (bc A c) (bc A e) i j) 20) 20), τ) := by
    refine loop_i (fun m i (ρ : Unit) => fX8_weighted_5 N m (aC A c) (aC A e) (lN (sm (fun i => sm (fun j => pt (wd d (dpt n A)) (bc A c) (bc A e) i j) 20) i)) (nI i) τ = some (lN (sm (fun i => sm (fun j => pt (wd d (dpt n A)) (bc A c) (bc A e) i j) 20) 20), τ)) (fun i ρ => True) 20 ?_ ?_
    · intro m ρ _
      rw [fX8_weighted_5, if_pos (show (20 : Int32) ≤ nI 20 from nI_le (a := 20) (b := 20) (by omega) (by omega))]
    · intro m i ρ hi _ ih
      have ih := ih () trivial
      have i1 : nI i + (1 : Int32) = nI (i + 1) := nI_1 i
      rw [fX8_weighted_5, if_neg (show ¬ (20 : Int32) ≤ nI i from nI_ge (b := 20) hi (by omega))]
      by_cases e1 : bc A c i = true
      · rw [if_neg (btx hx hi e1), M_deep hI h2 hM hc e1 hN, bd_s]
        have inner : ∀ m2 j (ρ : Unit), j ≤ 20 → 20 - j < m2 → True → fX8_weighted_36 N (fX8_weighted_5 N m) m2 (aC A c) (aC A e) (lN (sm (fun i => sm (fun j => pt (wd d (dpt n A)) (bc A c) (bc A e) i j) 20) i + sm (fun j => pt (wd d (dpt n A)) (bc A c) (bc A e) i j) j)) (nI i) (nI (dpt n A i)) (nI j) τ = some (lN (sm (fun i => sm (fun j => pt (wd d (dpt n A)) (bc A c) (bc A e) i j) 20) 20), τ) := by
          refine loop_i (fun m2 j (ρ : Unit) => fX8_weighted_36 N (fX8_weighted_5 N m) m2 (aC A c) (aC A e) (lN (sm (fun i => sm (fun j => pt (wd d (dpt n A)) (bc A c) (bc A e) i j) 20) i + sm (fun j => pt (wd d (dpt n A)) (bc A c) (bc A e) i j) j)) (nI i) (nI (dpt n A i)) (nI j) τ = some (lN (sm (fun i => sm (fun j => pt (wd d (dpt n A)) (bc A c) (bc A e) i j) 20) 20), τ)) (fun j ρ => True) 20 ?_ ?_
          · intro m2 ρ _
            rw [fX8_weighted_36, if_pos (show (20 : Int32) ≤ nI 20 from nI_le (a := 20) (b := 20) (by omega) (by omega))]
            unfold fX8_weighted_90
            rw [nx_r, i1]
            exact ih
          · intro m2 j ρ hj _ ih2
            have ih2 := ih2 () trivial
            have j1 : nI j + (1 : Int32) = nI (j + 1) := nI_1 j
            rw [fX8_weighted_36, if_neg (show ¬ (20 : Int32) ≤ nI j from nI_ge (b := 20) hj (by omega))]
            unfold fX8_weighted_84
            have st : sm (fun j => pt (wd d (dpt n A)) (bc A c) (bc A e) i j) (j + 1) = sm (fun j => pt (wd d (dpt n A)) (bc A c) (bc A e) i j) j + pt (wd d (dpt n A)) (bc A c) (bc A e) i j := rfl
            rw [st, ← Nat.add_assoc] at ih2
            by_cases e2 : bc A e j = true
            · have d18 := dep18 hI h2 hc he hne e1 e2
              have pp : pt (wd d (dpt n A)) (bc A c) (bc A e) i j = d i j * 2 ^ (18 - dpt n A i - dpt n A j) := by unfold pt; rw [if_pos ⟨e1, e2⟩]; rfl
              rw [pp] at ih2
              rw [if_pos ((bitT hy (by omega)).1.mpr e2), i20 hi hj, gd_t (ibn (by omega) (by decide)), M_deep hI h2 hM he e2 hN, bd_s, cl _ (by omega), hP.2.1 i j hi hj, nI_l (Nat.lt_of_le_of_lt (hD i j) (by decide)), show (18 : Int32) = nI 18 from rfl, pk_sub (by omega), pk_sub (by omega), l_shl (by omega) (hD i j), nx_r, nx_r, j1, lN_add]
              exact ih2
            · have pp : pt (wd d (dpt n A)) (bc A c) (bc A e) i j = 0 := by unfold pt; rw [if_neg (fun z => e2 z.2)]
              rw [pp, Nat.add_zero] at ih2
              rw [if_neg (fun z => e2 ((bitT hy (by omega)).1.mp z)), nx_r, j1]
              exact ih2
        exact inner N 0 () (by omega) (by omega) trivial
      · rw [if_pos (bfx hx hi e1)]
        unfold fX8_weighted_90
        rw [nx_r, i1]
        have st : sm (fun i => sm (fun j => pt (wd d (dpt n A)) (bc A c) (bc A e) i j) 20) (i + 1) = sm (fun i => sm (fun j => pt (wd d (dpt n A)) (bc A c) (bc A e) i j) 20) i := by
          show sm _ i + sm (fun j => pt (wd d (dpt n A)) (bc A c) (bc A e) i j) 20 = _
          rw [(sm_con 20 (fun j _ => ?_)).trans (sm_z 20), Nat.add_zero]
          unfold pt
          rw [if_neg (fun z => e1 z.1)]
        rw [st] at ih
        exact ih
  exact key N 0 () (by omega) (by omega) trivial
/-- the linkage of two clusters that are free -/
theorem M_lk {τ : St} (hk : kd < 5) (hd : DOK n d px py) (hP : PM τ n d px py) (hI : I1 n A) (h2 : I2 n A) (hM : CM τ n A) {c e : Nat} (hc : c ∈ aF A) (he : e ∈ aF A) (hne : c ≠ e) (hN : 3000 ≤ N) : fX8_link N (nI kd) (aC A c) (aC A e) τ = some ((), lo τ (uT n kd d A c e) (uB kd A c e)) :=
  M_link hd hP hk (hI.s20 hc) (hI.s20 he) (hI.nem hc) (hI.nem he) (fun _ => M_wt hd hP hI h2 hM hc he hne hN) hN
def sJ2 (c k : Nat) : Prop := (c = 0 ∧ k = 11) ∨ c = 7 ∨ (19 ≤ c ∧ c ≤ 24)
def jst (τ : St) (a b mn mx K nk : Nat) (m : Int32) (T O : Int64) : St := sI (sI (sI (sI (sI (sI (sJ (sJ (sI (sI τ 21 K (nI mn)) 22 K (nI mx)) 23 K T) 24 K O) 20 a 0) 20 b 0) 19 nk m) 20 nk 1) 7 K m) 0 11 (nI (K + 1))
theorem M_joined {τ : St} (hI : I1 n A) (hM : CM τ n A) (h0 : τ.1 0 0 = nI n) (hC : C ∈ aF A) (hD : D ∈ aF A) (hne : C ≠ D) {a b : Nat} (hab : (a = C ∧ b = D) ∨ (a = D ∧ b = C)) (h12 : τ.2 0 12 = lZ (rT (uT n kd d A C D) (uB kd A C D))) (h13 : τ.2 0 13 = lN (rB (uT n kd d A C D) (uB kd A C D))) : wp (fX8_joined N (nI a) (nI b) τ) (fun _ τ' => CM τ' n (aJoin n kd d A C D (aS A)) ∧ fr sJ2 τ τ') := by
  have lC := hI.2.2.2.1 C hC
  have lD := hI.2.2.2.1 D hD
  have ln := hI.1
  have hn := hI.2.1
  have l1 := rmv_len hI.2.2.1 hC
  have l2 := rmv_len (rmv_pw (c := C) hI.2.2.1) (rmv_mem.mpr ⟨hD, fun e => hne e.symm⟩)
  have hK : aK A < 19 := by omega
  have g1 : ib (nI (aK A)) 19 = true := ibn hK (by decide)
  have g2 : ib (nI a) 40 = true := ibn (by omega) (by decide)
  have g3 : ib (nI b) 40 = true := ibn (by omega) (by decide)
  have g4 : ib (nI (n + aK A)) 40 = true := ibn (by omega) (by decide)
  have c1 : (nI (aK A)).toNatClampNeg = aK A := cl _ (by omega)
  have c2 : (nI a).toNatClampNeg = a := cl _ (by omega)
  have c3 : (nI b).toNatClampNeg = b := cl _ (by omega)
  have c4 : (nI (n + aK A)).toNatClampNeg = n + aK A := cl _ (by omega)
  have k1 : nI (aK A) + (1 : Int32) = nI (aK A + 1) := nI_1 _
  have m1 : τ.1 0 11 = nI (aK A) := hM.1.1
  have ma : τ.1 19 a = aC A a := (hM.2.1 a (by omega)).1
  have mb : τ.1 19 b = aC A b := (hM.2.1 b (by omega)).1
  have mC : aC A a ||| aC A b = aC A C ||| aC A D := by
    rcases hab with ⟨rfl, rfl⟩ | ⟨rfl, rfl⟩
    · rfl
    · refine b_ext (fun z _ => ?_); rw [b_or, b_or, Bool.or_comm]
  have st : fX8_joined N (nI a) (nI b) τ = some ((), jst τ a b (min C D) (max C D) (aK A) (n + aK A) (aC A C ||| aC A D) (lZ (rT (uT n kd d A C D) (uB kd A C D))) (lN (rB (uT n kd d A C D) (uB kd A C D)))) := by
    unfold fX8_joined fX8_joined_18 fX8_joined_37
    rcases Nat.lt_or_ge a b with z | z
    · have ne : ¬ nI b ≤ nI a := nI_ge z (by omega)
      have e1 : min C D = a := by omega
      have e2 : max C D = b := by omega
      rw [e1, e2]
      simp (disch := omega) only [if_neg ne, m1, g1, gd_tt, nx_r, c1, sI_of, sJ_of, sI_p, sJ_p, h12, h13, g2, g3, c2, c3, h0, nI_add, g4, c4, ma, mb, vb0, vb1, k1, sI_at, mC]
      rfl
    · have ne : nI b ≤ nI a := nI_le z (by omega)
      have e1 : min C D = b := by omega
      have e2 : max C D = a := by omega
      rw [e1, e2]
      simp (disch := omega) only [if_pos ne, m1, g1, gd_tt, nx_r, c1, sI_of, sJ_of, sI_p, sJ_p, h12, h13, g2, g3, c2, c3, h0, nI_add, g4, c4, ma, mb, vb0, vb1, k1, sI_at, mC]
      rfl
  rw [st]
  have ePC : aC (aJoin n kd d A C D (aS A)) (n + aK A) = aC A C ||| aC A D := if_pos rfl
  refine wp_some ⟨⟨⟨sI_at, ?_⟩, fun c hc => ?_, fun k hk => ?_⟩, ?_⟩
  · unfold jst
    (repeat (first | rw [sJ_p] | rw [sI_of (by omega)]))
    exact hM.1.2
  · have hc' : c < n + (aK A + 1) := hc
    by_cases e : c = n + aK A
    · subst e
      rw [ePC, if_pos (jF.mpr (Or.inr rfl))]
      unfold jst
      refine ⟨?_, ?_⟩
      · rw [sI_of (by omega), sI_of (by omega), sI_of (by omega)]; exact sI_at
      · rw [sI_of (by omega), sI_of (by omega)]; exact sI_at
    · have o := hM.2.1 c (by omega)
      have ec : aC (aJoin n kd d A C D (aS A)) c = aC A c := if_neg e
      rw [ec]
      unfold jst
      refine ⟨?_, ?_⟩
      · (repeat (first | rw [sJ_p] | rw [sI_of (by omega)]))
        exact o.1
      · by_cases e2 : c = C ∨ c = D
        · rw [if_neg (fun z => by rcases jF.mp z with y | y <;> omega)]
          rw [sI_of (by omega), sI_of (by omega), sI_of (by omega), sI_of (by omega)]
          by_cases e3 : c = b
          · subst e3; exact sI_at
          · have e4 : c = a := by omega
            subst e4
            rw [sI_of (by omega)]; exact sI_at
        · rw [sI_of (by omega), sI_of (by omega), sI_of (by omega), sI_of (by omega), sI_of (by omega), sI_of (by omega), sJ_p, sJ_p, sI_of (by omega), sI_of (by omega), o.2]
          by_cases m : c ∈ aF A
          · rw [if_pos m, if_pos (jF.mpr (Or.inl ⟨m, fun z => e2 (Or.inl z), fun z => e2 (Or.inr z)⟩))]
          · rw [if_neg m, if_neg (fun z => by
              rcases jF.mp z with y | y
              · exact m y.1
              · exact e y)]
  · have hk' : k < aK A + 1 := hk
    by_cases e : k = aK A
    · subst e
      rw [jA_new.1, jA_new.2.1, jA_new.2.2.1, jA_new.2.2.2, ePC]
      unfold jst
      refine ⟨?_, ?_, ?_, ?_, ?_⟩
      · rw [sI_of (by omega)]; exact sI_at
      · rw [sI_of (by omega), sI_of (by omega), sI_of (by omega), sI_of (by omega), sI_of (by omega), sI_of (by omega), sJ_p, sJ_p, sI_of (by omega)]; exact sI_at
      · rw [sI_of (by omega), sI_of (by omega), sI_of (by omega), sI_of (by omega), sI_of (by omega), sI_of (by omega), sJ_p, sJ_p]; exact sI_at
      · rw [sI_p, sI_p, sI_p, sI_p, sI_p, sI_p, sJ_of (by omega)]; exact sJ_at
      · rw [sI_p, sI_p, sI_p, sI_p, sI_p, sI_p]; exact sJ_at
    · have o := hM.2.2 k (by omega)
      have ec : aC (aJoin n kd d A C D (aS A)) (n + k) = aC A (n + k) := if_neg (by omega)
      rw [(jA_old e).1, (jA_old e).2.1, (jA_old e).2.2.1, (jA_old e).2.2.2, ec]
      unfold jst
      refine ⟨?_, ?_, ?_, ?_, ?_⟩
      · (repeat (first | rw [sJ_p] | rw [sI_of (by omega)]))
        exact o.1
      · (repeat (first | rw [sJ_p] | rw [sI_of (by omega)]))
        exact o.2.1
      · (repeat (first | rw [sJ_p] | rw [sI_of (by omega)]))
        exact o.2.2.1
      · (repeat (first | rw [sI_p] | rw [sJ_of (by omega)]))
        exact o.2.2.2.1
      · (repeat (first | rw [sI_p] | rw [sJ_of (by omega)]))
        exact o.2.2.2.2
  · unfold jst
    refine fr_I (fr_I (fr_I (fr_I (fr_I (fr_I (fr_J (fr_J (fr_I (fr_I fr_rf ?_) ?_) ?_) ?_) ?_) ?_) ?_) ?_) ?_) ?_ <;> (unfold sJ2; omega)
end
