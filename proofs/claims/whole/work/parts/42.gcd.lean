/-! fractions in lowest terms -/
abbrev lZ (z : Int) : Int64 := Int64.ofInt z
theorem lZ_T {z : Int} (h1 : -9223372036854775808 ≤ z) (h2 : z < 9223372036854775808) : (lZ z).toInt = z := by
  rw [Int64.toInt_ofInt]
  have e : Int64.size = 18446744073709551616 := rfl
  rw [e]
  exact Int.bmod_eq_of_le (by omega) (by omega)
theorem lZ_N (n : Nat) : lN n = lZ (n : Int) := by
  apply Int64.toBitVec_inj.mp
  show BitVec.ofNat 64 n = BitVec.ofInt 64 n
  rw [BitVec.ofInt_natCast]
theorem lZ_add (a b : Int) : lZ a + lZ b = lZ (a + b) := (Int64.ofInt_add a b).symm
theorem lZ_sub (a b : Int) : lZ a - lZ b = lZ (a - b) := (Int64.ofInt_sub a b).symm
theorem lZ_mul (a b : Int) : lZ a * lZ b = lZ (a * b) := (Int64.ofInt_mul a b).symm
theorem lZ_neg (a : Int) : - lZ a = lZ (-a) := by
  have h : (0 : Int64) = lZ 0 := rfl
  rw [← Int64.zero_sub, h, lZ_sub, Int.zero_sub]
def gg (T : Int) (B : Nat) : Nat := Nat.gcd T.natAbs B
def rT (T : Int) (B : Nat) : Int := T / (gg T B : Int)
def rB (T : Int) (B : Nat) : Nat := B / gg T B
section
variable {T U : Int} {B C : Nat}
theorem gg_pos (hB : 1 ≤ B) : 1 ≤ gg T B := Nat.gcd_pos_of_pos_right _ hB
theorem gg_le (hB : 1 ≤ B) : gg T B ≤ B := Nat.gcd_le_right _ hB
theorem gg_dT (T : Int) (B : Nat) : (gg T B : Int) ∣ T := Int.ofNat_dvd_left.mpr (Nat.gcd_dvd_left _ _)
theorem rT_mul (T : Int) (B : Nat) : rT T B * (gg T B : Int) = T := Int.ediv_mul_cancel (gg_dT T B)
theorem rB_mul (T : Int) (B : Nat) : rB T B * gg T B = B := Nat.div_mul_cancel (Nat.gcd_dvd_right _ _)
theorem rB_pos (hB : 1 ≤ B) : 1 ≤ rB T B := Nat.div_pos (gg_le hB) (gg_pos hB)
theorem rB_le : rB T B ≤ B := Nat.div_le_self _ _
theorem rT_nat (hB : 1 ≤ B) : (rT T B).natAbs = T.natAbs / gg T B := by
  have h := congrArg Int.natAbs (rT_mul T B)
  rw [Int.natAbs_mul, Int.natAbs_natCast] at h
  rw [← h]
  exact (Nat.mul_div_cancel _ (gg_pos hB)).symm
theorem r_cop (hB : 1 ≤ B) : Nat.Coprime (rT T B).natAbs (rB T B) := by
  rw [rT_nat hB]
  exact Nat.coprime_div_gcd_div_gcd (gg_pos hB)
theorem rT_ab (hB : 1 ≤ B) : (rT T B).natAbs ≤ T.natAbs := by rw [rT_nat hB]; exact Nat.div_le_self _ _
theorem rT_nn (hB : 1 ≤ B) (h : 0 ≤ T) : 0 ≤ rT T B := Int.ediv_nonneg h (by omega)
/-- cross products keep their order -/
theorem r_cmp (hB : 1 ≤ B) (hC : 1 ≤ C) : (T * C - U * B) = (rT T B * (rB U C : Int) - rT U C * (rB T B : Int)) * ((gg T B : Int) * (gg U C : Int)) := by
  have e1 := rT_mul T B
  have e2 := rT_mul U C
  have e3 : ((rB T B : Int)) * (gg T B : Int) = B := by rw [← Int.natCast_mul, rB_mul]
  have e4 : ((rB U C : Int)) * (gg U C : Int) = C := by rw [← Int.natCast_mul, rB_mul]
  generalize rT T B = t at *
  generalize rT U C = u at *
  generalize (rB T B : Int) = b at *
  generalize (rB U C : Int) = c at *
  generalize (gg T B : Int) = g at *
  generalize (gg U C : Int) = h at *
  rw [← e1, ← e2, ← e3, ← e4]
  grind
theorem cop_eq {t u : Int} {b c : Nat} (hb : 1 ≤ b) (h1 : Nat.Coprime t.natAbs b) (h2 : Nat.Coprime u.natAbs c) (e : t * c = u * b) : t = u ∧ b = c := by
  have en : t.natAbs * c = u.natAbs * b := by
    have := congrArg Int.natAbs e
    rwa [Int.natAbs_mul, Int.natAbs_mul, Int.natAbs_natCast, Int.natAbs_natCast] at this
  have d1 : b ∣ c := (Nat.Coprime.dvd_of_dvd_mul_left (Nat.Coprime.symm h1) (by rw [en]; exact Nat.dvd_mul_left _ _))
  have d2 : c ∣ b := (Nat.Coprime.dvd_of_dvd_mul_left (Nat.Coprime.symm h2) (by rw [← en]; exact Nat.dvd_mul_left _ _))
  have ebc : b = c := Nat.dvd_antisymm d1 d2
  refine ⟨?_, ebc⟩
  rw [ebc] at e
  exact Int.eq_of_mul_eq_mul_right (by omega) e
theorem r_uni (hB : 1 ≤ B) (hC : 1 ≤ C) (e : T * C = U * B) : rT T B = rT U C ∧ rB T B = rB U C := by
  have h := r_cmp (T := T) (U := U) hB hC
  have g1 := gg_pos (T := T) hB
  have g2 := gg_pos (T := U) hC
  have z : (rT T B * (rB U C : Int) - rT U C * (rB T B : Int)) * ((gg T B : Int) * (gg U C : Int)) = 0 := by rw [← h, e]; omega
  rcases Int.mul_eq_zero.mp z with z | z
  · exact cop_eq (rB_pos hB) (r_cop hB) (r_cop hC) (by omega)
  · rcases Int.mul_eq_zero.mp z with z | z <;> omega
theorem r_id (hB : 1 ≤ B) : gg (rT T B) (rB T B) = 1 := r_cop hB
theorem r_one (h : gg T B = 1) : rT T B = T ∧ rB T B = B := by
  unfold rT rB
  rw [h]
  exact ⟨Int.ediv_one T, Nat.div_one B⟩
end
theorem half_ab {a b k : Nat} (hb : 0 < b) (hab : b ≤ a) (h : a * b < 2 ^ (k + 1)) : b * (a % b) < 2 ^ k := by
  have h1 : 2 * (a % b) ≤ a := by
    have := Nat.div_add_mod a b
    have := Nat.mod_lt a hb
    have h2 : 1 ≤ a / b := Nat.div_pos hab hb
    have : b * 1 ≤ b * (a / b) := Nat.mul_le_mul_left _ h2
    omega
  have h2 : b * (2 * (a % b)) ≤ b * a := Nat.mul_le_mul_left _ h1
  rw [Nat.pow_succ] at h
  rw [Nat.mul_comm b a] at h2
  have h3 : b * (2 * (a % b)) = 2 * (b * (a % b)) := by rw [← Nat.mul_assoc, Nat.mul_comm b 2, Nat.mul_assoc]
  omega
theorem gcd_st (a b : Nat) : Nat.gcd b (a % b) = Nat.gcd a b := by
  rw [Nat.gcd_comm b (a % b), ← Nat.gcd_rec, Nat.gcd_comm]
section
variable {N : Nat}
theorem X_max1 {σ : St} {a : Nat} (h : a < 2 ^ 63) : fJ9_max_f86c9 N (1 : Int64) (lN a) σ = some (lN (max 1 a), σ) := by
  unfold fJ9_max_f86c9
  rw [show (1 : Int64) = lN 1 from rfl]
  by_cases c : 1 < a
  · rw [if_pos ((lg_cmp_lt _ _).mpr (show lN 1 < lN a from (pk_lLT (by omega) h).mpr c)), Nat.max_eq_right (by omega)]
  · rw [if_neg (fun z => c ((pk_lLT (a := 1) (by omega) h).mp ((lg_cmp_lt _ _).mp z))), Nat.max_eq_left (by omega)]
theorem X_gcd {σ : St} : ∀ k m a b c, b ≤ a → a * b < 2 ^ k → c + k < 200 → k < m → a < 2 ^ 63 → fX7_commonDivisor_15 N m (lN a) (lN b) (nI c) σ = some (lN (max 1 (Nat.gcd a b)), σ) := by
  intro k
  induction k with
  | zero =>
    intro m a b c hab hp hc hm ha
    obtain ⟨m, rfl⟩ : ∃ m', m = m' + 1 := ⟨m - 1, by omega⟩
    have hb : b = 0 := by
      rcases Nat.eq_zero_or_pos b with z | z
      · exact z
      · have := Nat.mul_pos (show 0 < a by omega) z
        omega
    subst hb
    rw [fX7_commonDivisor_15, if_neg (show ¬ (200 : Int32) ≤ nI c from nI_ge (b := 200) (by omega) (by omega)), if_pos (show lg_cmp (lN 0) 0 = 0 from (lg_cmp_eq _ _).mpr rfl), X_max1 ha, bd_s, Nat.gcd_zero_right]
  | succ k ih =>
    intro m a b c hab hp hc hm ha
    obtain ⟨m, rfl⟩ : ∃ m', m = m' + 1 := ⟨m - 1, by omega⟩
    rw [fX7_commonDivisor_15, if_neg (show ¬ (200 : Int32) ≤ nI c from nI_ge (b := 200) (by omega) (by omega))]
    rcases Nat.eq_zero_or_pos b with z | z
    · subst z
      rw [if_pos (show lg_cmp (lN 0) 0 = 0 from (lg_cmp_eq _ _).mpr rfl), X_max1 ha, bd_s, Nat.gcd_zero_right]
    · have hne : ¬ lN b = 0 := lNne z (by omega)
      rw [if_neg (fun y => hne ((lg_cmp_eq _ _).mp y))]
      unfold ndz
      rw [if_neg hne, nx_r, nx_r, pk_lRem ha z (by omega)]
      show fX7_commonDivisor_15 N m (lN b) (lN (a % b)) (nI c + 1) σ = _
      rw [nI_1, ih m b (a % b) (c + 1) (Nat.le_of_lt (Nat.mod_lt _ z)) (half_ab z hab hp) (by omega) (by omega) (by omega), gcd_st]
theorem X_absL {σ : St} {T : Int} (h1 : -4611686018427387904 ≤ T) (h2 : T ≤ 4611686018427387904) : fJ9_abs_067f4 N (lZ T) σ = some (lN T.natAbs, σ) := by
  unfold fJ9_abs_067f4
  have hT := lZ_T (z := T) (by omega) (by omega)
  have h0 : (0 : Int64).toInt = 0 := rfl
  by_cases c : 0 ≤ T
  · rw [if_pos ((lg_cmp_ge _ _).mpr (Int64.le_iff_toInt_le.mpr (by rw [hT, h0]; exact c))), lZ_N]
    congr 2; congr 1; omega
  · rw [if_neg (fun z => c (by have := Int64.le_iff_toInt_le.mp ((lg_cmp_ge _ _).mp z); rw [hT, h0] at this; exact this)), lZ_neg, lZ_N]
    congr 2; congr 1; omega
theorem X_cd {σ : St} {T : Int} {B : Nat} (h1 : -4611686018427387904 ≤ T) (h2 : T ≤ 4611686018427387904) (hB : 1 ≤ B) (hB2 : B < 2 ^ 20) (hN : 3000 ≤ N) : fX7_commonDivisor N (lZ T) (lN B) σ = some (lN (gg T B), σ) := by
  unfold fX7_commonDivisor
  rw [X_absL h1 h2, bd_s, lZ_N B, X_absL (by omega) (by omega), bd_s, Int.natAbs_natCast]
  have hg : max 1 (gg T B) = gg T B := Nat.max_eq_right (gg_pos hB)
  have ha : T.natAbs < 2 ^ 63 := by omega
  have hp : T.natAbs * B < 2 ^ 83 := by
    have : T.natAbs * B ≤ 4611686018427387904 * 2 ^ 20 := Nat.mul_le_mul (by omega) (by omega)
    omega
  rw [← hg]
  unfold gg
  by_cases c : B ≤ T.natAbs
  · exact X_gcd 83 N T.natAbs B 0 c hp (by omega) (by omega) ha
  · obtain ⟨N', hN'⟩ : ∃ m', N = m' + 1 := ⟨N - 1, by omega⟩
    have hne : ¬ lN B = 0 := lNne (by omega) (by omega)
    have st : fX7_commonDivisor_15 N N (lN T.natAbs) (lN B) 0 σ = fX7_commonDivisor_15 N N' (lN B) (lN (T.natAbs % B)) 1 σ := by
      conv => lhs; arg 2; rw [hN']
      rw [fX7_commonDivisor_15, if_neg (by decide), if_neg (fun y => hne ((lg_cmp_eq _ _).mp y))]
      unfold ndz
      rw [if_neg hne, nx_r, nx_r, pk_lRem ha (by omega) (by omega)]
      rfl
    have e := X_gcd (N := N) (σ := σ) 83 N' B (T.natAbs % B) 1 (Nat.le_of_lt (Nat.mod_lt _ (by omega))) (by rw [Nat.mod_eq_of_lt (by omega), Nat.mul_comm]; exact hp) (by omega) (by omega) (by omega)
    rw [gcd_st] at e
    exact st.trans e
theorem lZ_div {T : Int} {B : Nat} (h1 : -4611686018427387904 ≤ T) (h2 : T ≤ 4611686018427387904) (hB : 1 ≤ B) (hB2 : B < 2 ^ 20) : lZ T / lN (gg T B) = lZ (rT T B) ∧ lN B / lN (gg T B) = lN (rB T B) := by
  have hg := gg_pos (T := T) hB
  have hg2 := gg_le (T := T) hB
  have ha := rT_ab (T := T) hB
  refine ⟨?_, pk_lDiv (by omega) hg (by omega)⟩
  apply Int64.toInt_inj.mp
  rw [Int64.toInt_div, lZ_T (by omega) (by omega), pk_lT (by omega), Int.tdiv_eq_ediv_of_dvd (gg_dT T B)]
  show Int.bmod (rT T B) (2 ^ 64) = _
  rw [lZ_T (by omega) (by omega)]
  exact Int.bmod_eq_of_le (by omega) (by omega)
theorem X_low {σ : St} {T : Int} {B : Nat} (h1 : -4611686018427387904 ≤ T) (h2 : T ≤ 4611686018427387904) (hB : 1 ≤ B) (hB2 : B < 2 ^ 20) : fX7_lowered N (lZ T) (lN (gg T B)) σ = some (lZ (rT T B), σ) ∧ fX7_lowered N (lN B) (lN (gg T B)) σ = some (lN (rB T B), σ) := by
  have hg := gg_pos (T := T) hB
  have hg2 := gg_le (T := T) hB
  have hne : ¬ lN (gg T B) = 0 := lNne hg (by omega)
  have e := lZ_div h1 h2 hB hB2
  unfold fX7_lowered ndz
  rw [if_neg (fun y => hne ((lg_cmp_eq _ _).mp y)), if_neg hne, if_neg hne, e.1, e.2, if_neg (fun y => hne ((lg_cmp_eq _ _).mp y))]
  exact ⟨rfl, rfl⟩
/-- the reference's lowest terms -/
def lo (τ : St) (T : Int) (B : Nat) : St := sJ (sJ τ 0 12 (lZ (rT T B))) 0 13 (lN (rB T B))
theorem M_gcd {τ : St} {x1 x3 : Int64} : ∀ k m a b, b ≤ a → a * b < 2 ^ k → k < m → a < 2 ^ 63 → 0 < a → fX8_lowest_17 N m x1 x3 (lN b) (lN a) τ = some ((), sJ (sJ τ 0 12 (x1 / lN (Nat.gcd a b))) 0 13 (x3 / lN (Nat.gcd a b))) := by
  intro k
  induction k with
  | zero =>
    intro m a b hab hp hm ha h0
    obtain ⟨m, rfl⟩ : ∃ m', m = m' + 1 := ⟨m - 1, by omega⟩
    have hb : b = 0 := by
      rcases Nat.eq_zero_or_pos b with z | z
      · exact z
      · have := Nat.mul_pos (show 0 < a by omega) z
        omega
    subst hb
    have hne : ¬ lN a = 0 := lNne h0 (by omega)
    rw [fX8_lowest_17, if_pos (show lg_cmp (lN 0) 0 = 0 from (lg_cmp_eq _ _).mpr rfl), Nat.gcd_zero_right]
    unfold ndz
    rw [if_neg hne, nx_r, if_neg hne, nx_r]
  | succ k ih =>
    intro m a b hab hp hm ha h0
    obtain ⟨m, rfl⟩ : ∃ m', m = m' + 1 := ⟨m - 1, by omega⟩
    rw [fX8_lowest_17]
    rcases Nat.eq_zero_or_pos b with z | z
    · subst z
      have hne : ¬ lN a = 0 := lNne h0 (by omega)
      rw [if_pos (show lg_cmp (lN 0) 0 = 0 from (lg_cmp_eq _ _).mpr rfl), Nat.gcd_zero_right]
      unfold ndz
      rw [if_neg hne, nx_r, if_neg hne, nx_r]
    · have hne : ¬ lN b = 0 := lNne z (by omega)
      rw [if_neg (fun y => hne ((lg_cmp_eq _ _).mp y))]
      unfold ndz
      rw [if_neg hne, nx_r, pk_lRem ha z (by omega), ih m b (a % b) (Nat.le_of_lt (Nat.mod_lt _ z)) (half_ab z hab hp) (by omega) (by omega) z, gcd_st]
theorem M_low {τ : St} {T : Int} {B : Nat} (h1 : -4611686018427387904 ≤ T) (h2 : T ≤ 4611686018427387904) (hB : 1 ≤ B) (hB2 : B < 2 ^ 20) (hN : 3000 ≤ N) : fX8_lowest N (lZ T) (lN B) τ = some ((), lo τ T B) := by
  have hT := lZ_T (z := T) (by omega) (by omega)
  have h0 : (0 : Int64).toInt = 0 := rfl
  have e : fX8_lowest N (lZ T) (lN B) τ = fX8_lowest_17 N N (lZ T) (lN B) (lN T.natAbs) (lN B) τ := by
    unfold fX8_lowest fX8_lowest_12
    by_cases c : 0 ≤ T
    · rw [if_pos ((lg_cmp_ge _ _).mpr (Int64.le_iff_toInt_le.mpr (by rw [hT, h0]; exact c))), lZ_N T.natAbs]
      congr 1; congr 1; omega
    · rw [if_neg (fun z => c (by have := Int64.le_iff_toInt_le.mp ((lg_cmp_ge _ _).mp z); rw [hT, h0] at this; exact this)), lZ_neg, lZ_N T.natAbs]
      congr 1; congr 1; omega
  rw [e]
  unfold lo
  have dv := lZ_div h1 h2 hB hB2
  rw [← dv.1, ← dv.2]
  have hp : T.natAbs * B < 2 ^ 83 := by
    have : T.natAbs * B ≤ 4611686018427387904 * 2 ^ 20 := Nat.mul_le_mul (by omega) (by omega)
    omega
  by_cases c : T.natAbs ≤ B
  · rw [M_gcd 83 N B T.natAbs c (by rw [Nat.mul_comm]; exact hp) (by omega) (by omega) (by omega)]
    unfold gg
    rw [Nat.gcd_comm]
  · obtain ⟨N', hN'⟩ : ∃ m', N = m' + 1 := ⟨N - 1, by omega⟩
    have hne : ¬ lN T.natAbs = 0 := lNne (by omega) (by omega)
    have st : fX8_lowest_17 N N (lZ T) (lN B) (lN T.natAbs) (lN B) τ = fX8_lowest_17 N N' (lZ T) (lN B) (lN (B % T.natAbs)) (lN T.natAbs) τ := by
      conv => lhs; arg 2; rw [hN']
      rw [fX8_lowest_17, if_neg (fun y => hne ((lg_cmp_eq _ _).mp y))]
      unfold ndz
      rw [if_neg hne, nx_r, pk_lRem (by omega) (by omega) (by omega)]
    rw [st, Nat.mod_eq_of_lt (by omega), M_gcd 83 N' T.natAbs B (by omega) hp (by omega) (by omega) (by omega)]
    rfl
end
