/-! the text of a tree: the class writes it -/
theorem lN_back {x : Int64} (h : 0 ≤ x.toInt) : x = lN x.toInt.toNat := by
  apply Int64.toInt_inj.mp
  have := Int64.toInt_lt x
  rw [pk_lT (by omega)]; omega
theorem two_le {a b : Nat} (ha : a < 20) (hb : b < 20) : nI (2 ^ a) ≤ nI (2 ^ b) ↔ a ≤ b := by
  have pa : 2 ^ a < 2 ^ 20 := Nat.pow_lt_pow_right (by omega) ha
  have pb : 2 ^ b < 2 ^ 20 := Nat.pow_lt_pow_right (by omega) hb
  rw [nI_leI (by omega) (by omega)]
  constructor
  · intro h
    rcases Nat.lt_or_ge b a with z | z
    · have := Nat.pow_lt_pow_right (a := 2) (by omega) z
      omega
    · exact z
  · exact fun h => Nat.pow_le_pow_right (by omega) h
abbrev vc (t : Td) (c : Nat) : Prop := c + 1 < 2 * tN t ∨ c < tN t
section
variable {N : Nat}
theorem X_bitsOf {σ : St} {q c : Nat} {t : Td} (hT : TP t) (hX : SX σ q t) (hc : vc t c) : ∃ v, v < 2 ^ 20 ∧ fX6_bitsOf N q (nI c) σ = some (nI v, σ) ∧ ∀ i, bt (nI v) i = cbt t c i := by
  have h20 := hT.1.1
  have e2 : σ.1 (52 + 2 * q) 2 = nI (tN t) := hX.1.2.2.1
  unfold fX6_bitsOf
  rw [e2]
  by_cases h : c < tN t
  · refine ⟨2 ^ c, Nat.pow_lt_pow_right (by omega) (by omega), ?_, fun i => ?_⟩
    · rw [if_neg (nI_ge h (by omega)), one_sh (by omega)]
    · rw [← one_sh (by omega)]
      unfold cbt
      rw [if_pos h]
      by_cases hi : i < 32
      · exact bt_one (by omega) hi
      · rw [b_big (by omega)]; exact (decide_eq_false (by omega)).symm
  · obtain ⟨k, rfl⟩ : ∃ k, c = tN t + k := ⟨c - tN t, by omega⟩
    have hk : k + 1 < tN t := by rcases hc with z | z <;> omega
    obtain ⟨v, hv, ev⟩ := sm_of (tb_sm hT hk)
    refine ⟨v, hv, ?_, fun i => ?_⟩
    · rw [if_pos (nI_le (by omega) (by omega)), pk_sub (by omega), Nat.add_sub_cancel_left, X_shas hT hX hk, bd_s, if_neg n10, e2, pk_sub (by omega), Nat.add_sub_cancel_left, gd_t (ibn (by omega) (by decide)), cl k (by omega), (hX.2.1 k hk).2.2.1, ev]
    · unfold cbt
      rw [if_neg h, Nat.add_sub_cancel_left, ev]
theorem lp20 {t : Td} (hT : TP t) {c : Nat} (hc : vc t c) : lp t c < 20 := by
  have := cb_lt hT hc (lp_in hT hc)
  have := hT.1.1
  omega
theorem lowc {t : Td} (hT : TP t) {c v : Nat} (hc : vc t c) (hv : v < 2 ^ 20) (h : ∀ i, bt (nI v) i = cbt t c i) : (nI v) &&& (-(nI v)) = nI (2 ^ lp t c) := by
  have h2 := lp20 hT hc
  refine low_bit hv ?_ ?_
  · rw [← bt_nI _ (by omega), h, lp_in hT hc]
  · intro j hj
    rw [← bt_nI _ (by omega), h, lp_min hj]
theorem X_first {σ : St} {q k : Nat} {t : Td} (hT : TP t) (hX : SX σ q t) (hk : k + 1 < tN t) : fX6_isFirstLeading N q (nI k) σ = some (if lp t (tF t k) < lp t (tS t k) then 1 else 0, σ) := by
  have h20 := hT.1.1
  have h := hT.2.1 k hk
  have vf : vc t (tF t k) := by unfold vc; omega
  have vs : vc t (tS t k) := by unfold vc; omega
  have g : ib (nI k) 19 = true := ibn (by omega) (by decide)
  obtain ⟨v, hv, e1, b1⟩ := X_bitsOf (N := N) hT hX vf
  obtain ⟨w, hw, e2, b2⟩ := X_bitsOf (N := N) hT hX vs
  unfold fX6_isFirstLeading
  rw [gd_t g, cl k (by omega), (hX.2.1 k hk).1, e1, bd_s, gd_t g, (hX.2.1 k hk).2.1, e2, bd_s, lowc hT vf hv b1, lowc hT vs hw b2]
  by_cases z : lp t (tF t k) < lp t (tS t k)
  · rw [if_neg (fun y => absurd ((two_le (lp20 hT vs) (lp20 hT vf)).mp y) (by omega)), if_pos z]
  · rw [if_pos ((two_le (lp20 hT vs) (lp20 hT vf)).mpr (by omega)), if_neg z]
theorem X_lead {σ : St} {q k : Nat} {t : Td} (hT : TP t) (hX : SX σ q t) (hk : k + 1 < tN t) : fX6_leading N q (nI k) σ = some (nI (ld t k), σ) := by
  have h20 := hT.1.1
  have g : ib (nI k) 19 = true := ibn (by omega) (by decide)
  unfold fX6_leading
  rw [X_first hT hX hk, bd_s, gd_t g, gd_t g, cl k (by omega), (hX.2.1 k hk).1, (hX.2.1 k hk).2.1]
  unfold ld
  by_cases z : lp t (tF t k) < lp t (tS t k)
  · rw [if_pos z, if_pos z, if_neg n10]
  · rw [if_neg z, if_neg z, if_pos rfl]
theorem X_trail {σ : St} {q k : Nat} {t : Td} (hT : TP t) (hX : SX σ q t) (hk : k + 1 < tN t) : fX6_trailing N q (nI k) σ = some (nI (tl t k), σ) := by
  have h20 := hT.1.1
  have g : ib (nI k) 19 = true := ibn (by omega) (by decide)
  unfold fX6_trailing
  rw [X_first hT hX hk, bd_s, gd_t g, gd_t g, cl k (by omega), (hX.2.1 k hk).1, (hX.2.1 k hk).2.1]
  unfold tl
  by_cases z : lp t (tF t k) < lp t (tS t k)
  · rw [if_pos z, if_pos z, if_neg n10]
  · rw [if_neg z, if_neg z, if_pos rfl]
theorem X_wc {q : Nat} {t : Td} (hT : TP t) (hN : 3000 ≤ N) : ∀ dp c dep L σ, c < dp → vc t c → (tN t ≤ c → dep + (c - tN t) ≤ 18) → SX σ q t → BX σ 7 L → L.length + 60 * sz t c ≤ 2400 → wp (fX7_writeCluster N dp q (nI c) (nI dep) σ) (fun _ σ' => BX σ' 7 (L ++ tx t dp c) ∧ fr sO σ σ') := by
  have h20 := hT.1.1
  have mo : ∀ {ρ ρ2 : St}, fr (fun c _ => c = 7 ∨ c = 7 + 1) ρ ρ2 → fr sO ρ ρ2 := fun h => fr_mo h (fun c k hc => hc)
  have sx : ∀ {ρ ρ2 : St}, SX ρ q t → fr sO ρ ρ2 → SX ρ2 q t := fun hX hf => hX.fr hf (fun c k h => by unfold sS at h; unfold sO; omega)
  intro dp
  induction dp with
  | zero => intro c dep L σ h; omega
  | succ dp ih =>
    intro c dep L σ hc hv hd hX hB hl
    have e2 : ∀ {ρ : St}, SX ρ q t → ρ.1 (52 + 2 * q) 2 = nI (tN t) := fun hX => hX.1.2.2.1
    rw [fX7_writeCluster, e2 hX, tx]
    have hz := tx_len hT (dp + 1) c hc hv
    by_cases h : c < tN t
    · have hk1 : kkv c ≤ 1 := kkv_le (by omega)
      have z1 := sz_leaf hT h
      refine wp_f (nI_ge h (by omega)) ?_
      rw [nI_l (by omega), if_pos h]
      exact wp_bd (X_num (by omega) hB (by omega) hN) (fun _ s h1 => wp_some ⟨h1.1, mo h1.2⟩)
    · obtain ⟨k, rfl⟩ : ∃ k, c = tN t + k := ⟨c - tN t, by omega⟩
      have hk : k + 1 < tN t := by rcases hv with z | z <;> omega
      have hll := ld_lt hT hk
      have vl : vc t (ld t k) := by unfold vc; omega
      have vt : vc t (tl t k) := by unfold vc; omega
      have hs := sz_step hT hk
      have hd' := hd (by omega)
      rw [Nat.add_sub_cancel_left] at hd'
      have hT3 := hT.2.2.1 k hk
      have g : ib (nI k) 19 = true := ibn (by omega) (by decide)
      have i1 := tx_len hT dp (ld t k) (by omega) vl
      have i2 := tx_len hT dp (tl t k) (by omega) vt
      have k1 := nat13 hT3.1 hT3.2.1
      have k2 : kkv (tO t k).toInt.toNat ≤ 5 := kkv_le (by omega)
      have p1 := sz_pos hT (ld t k) vl
      have p2 := sz_pos hT (tl t k) vt
      rw [hs] at hl
      refine wp_t (nI_le (by omega) (by omega)) (wp_nx (wp_f (fun y => ?_) ?_))
      · exact absurd ((nI_ltI (a := 19) (by omega) (by omega)).mp y) (by omega)
      rw [pk_sub (by omega), Nat.add_sub_cancel_left, X_shas hT hX hk, bd_s, if_neg n10, if_neg (show ¬ tN t + k < tN t by omega)]
      refine wp_bd (X_add hB (by omega)) (fun _ s1 h1 => ?_)
      have f1 := mo h1.2
      rw [X_lead hT (sx hX f1) hk, bd_s]
      show wp (bd (fX7_writeCluster N dp q (nI (ld t k)) (nI dep + 1) s1) _) _
      rw [nI_1]
      refine wp_bd (ih _ (dep + 1) _ _ (by omega) vl (by omega) (sx hX f1) h1.1 (by rw [List.length_append]; show _ + 1 + _ ≤ _; omega)) (fun _ s2 h2 => ?_)
      have f2 := fr_tr f1 h2.2
      refine wp_bd (X_add h2.1 (by simp only [List.length_append, List.length_cons, List.length_nil]; omega)) (fun _ s3 h3 => ?_)
      have f3 := fr_tr f2 (mo h3.2)
      rw [X_trail hT (sx hX f3) hk, bd_s]
      refine wp_bd (ih _ (dep + 1) _ _ (by omega) vt (by omega) (sx hX f3) h3.1 (by simp only [List.length_append, List.length_cons, List.length_nil]; omega)) (fun _ s4 h4 => ?_)
      have f4 := fr_tr f3 h4.2
      refine wp_bd (X_add h4.1 (by simp only [List.length_append, List.length_cons, List.length_nil]; omega)) (fun _ s5 h5 => ?_)
      have f5 := fr_tr f4 (mo h5.2)
      refine wp_bd (X_add h5.1 (by simp only [List.length_append, List.length_cons, List.length_nil]; omega)) (fun _ s6 h6 => ?_)
      have f6 := fr_tr f5 (mo h6.2)
      refine wp_gd g ?_
      rw [cl k (by omega), ((sx hX f6).2.1 k hk).2.2.2.1, lN_back hT3.1]
      refine wp_bd (X_num k1.1 h6.1 (by simp only [List.length_append, List.length_cons, List.length_nil]; omega) hN) (fun _ s7 h7 => wp_gd g ?_)
      have f7 := fr_tr f6 (mo h7.2)
      have b7 := h7.1
      simp only [List.append_assoc, List.cons_append, List.nil_append] at b7
      rw [((sx hX f7).2.1 k hk).2.2.2.2]
      refine wp_i (fun z => wp_some ⟨?_, f7⟩) (fun z => wp_bd (X_add h7.1 (by simp only [List.length_append, List.length_cons, List.length_nil, dgs_len]; omega)) (fun _ s8 h8 => ?_))
      · have e : tO t k = 1 := (lg_cmp_eq _ _).mp z
        unfold htx
        rw [if_pos e, List.append_nil]
        exact b7
      · have f8 := fr_tr f7 (mo h8.2)
        refine wp_gd g ?_
        rw [((sx hX f8).2.1 k hk).2.2.2.2, lN_back (show 0 ≤ (tO t k).toInt by omega)]
        refine wp_bd (X_num (by omega) h8.1 (by simp only [List.length_append, List.length_cons, List.length_nil, dgs_len]; omega) hN) (fun _ s9 h9 => wp_some ⟨?_, fr_tr f8 (mo h9.2)⟩)
        have e : ¬ tO t k = 1 := fun y => z ((lg_cmp_eq _ _).mpr y)
        have b9 := h9.1
        simp only [List.append_assoc, List.cons_append, List.nil_append] at b9
        unfold htx
        rw [if_neg e]
        exact b9
end
