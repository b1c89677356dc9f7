/-! the text of a tree: the reference tells it -/
section
variable {N : Nat}
theorem M_least38 {τ : St} {v l : Nat} (hv : v < 2 ^ 20) (hl : l < 20) (h1 : bt (nI v) l = true) (h2 : ∀ j, j < l → bt (nI v) j = false) (hN : 3000 ≤ N) : fX8_leastOf_38 N N (nI v) 0 τ = some (nI l, τ) := by
  have sm : ∀ i, bt (nI v) i = true → i < 20 := fun i hi => by
    rcases Nat.lt_or_ge i 20 with z | z
    · exact z
    · by_cases hi2 : i < 32
      · rw [bt_nI i hi2, Nat.testBit_lt_two_pow (Nat.lt_of_lt_of_le hv (Nat.pow_le_pow_right (by omega) z))] at hi; cases hi
      · rw [b_big (by omega)] at hi; cases hi
  have key : ∀ m i (ρ : Unit), i ≤ l → l - i < m → True → fX8_leastOf_38 N m (nI v) (nI i) τ = some (nI l, τ) := by
    refine loop_i (fun m i (ρ : Unit) => fX8_leastOf_38 N m (nI v) (nI i) τ = some (nI l, τ)) (fun i ρ => True) l ?_ ?_
    · intro m ρ _
      rw [fX8_leastOf_38, if_neg (fun z => ?_)]
      rw [((bitT sm (by omega)).2.mp z)] at h1; cases h1
    · intro m i ρ hi _ ih
      rw [fX8_leastOf_38, if_pos ((bitT sm (by omega)).2.mpr (h2 i hi)), nx_r]
      show fX8_leastOf_38 N m (nI v) (nI i + 1) τ = _
      rw [nI_1]; exact ih () trivial
  exact key N 0 () (by omega) (by omega) trivial
theorem M_least {τ : St} {q c : Nat} {t : Td} (hq : q < 4) (hT : TP t) (hM : SM τ q t) (hc : vc t c) (hN : 3000 ≤ N) : fX8_leastOf N (nI q) (nI c) τ = some (nI (lp t c), τ) := by
  have h20 := hT.1.1
  have e2 : τ.1 9 q = nI (tN t) := hM.1.2.2.1
  have g : ib (nI q) 4 = true := ibn hq (by decide)
  unfold fX8_leastOf fX8_leastOf_34
  rw [gd_t g, gd_t g, cl q (by omega), e2]
  have fin : ∀ v, v < 2 ^ 20 → (∀ i, bt (nI v) i = cbt t c i) → fX8_leastOf_38 N N (nI v) 0 τ = some (nI (lp t c), τ) := fun v hv hb =>
    M_least38 hv (lp20 hT hc) (by rw [hb, lp_in hT hc]) (fun j hj => by rw [hb, lp_min hj]) hN
  by_cases h : c < tN t
  · rw [if_neg (nI_ge h (by omega)), one_sh (by omega)]
    refine fin _ (Nat.pow_lt_pow_right (by omega) (by omega)) (fun i => ?_)
    rw [← one_sh (by omega)]
    unfold cbt
    rw [if_pos h]
    by_cases hi : i < 32
    · exact bt_one (by omega) hi
    · rw [b_big (by omega)]; exact (decide_eq_false (by omega)).symm
  · obtain ⟨k, rfl⟩ : ∃ k, c = tN t + k := ⟨c - tN t, by omega⟩
    have hk : k + 1 < tN t := by rcases hc with z | z <;> omega
    obtain ⟨v, hv, ev⟩ := sm_of (tb_sm hT hk)
    rw [if_pos (nI_le (by omega) (by omega)), i19, pk_sub (by omega), show 19 * q + (tN t + k) - tN t = 19 * q + k by omega, gd_t (ibn (by omega) (by decide)), cl _ (by omega), (hM.2.1 k hk).2.2.1, ev]
    refine fin v hv (fun i => ?_)
    unfold cbt
    rw [if_neg h, Nat.add_sub_cancel_left, ev]
/-- what tells may change above place w of later, from place p of ordered on -/
def sTl (w p c k : Nat) : Prop := sOM c k ∨ (c = 28 ∧ w ≤ k) ∨ (c = 29 ∧ p ≤ k)
theorem sTl_sm {q w p : Nat} {t : Td} {ρ ρ2 : St} (hn : tN t ≤ 20) (h : SM ρ q t) (hf : fr (sTl w p) ρ ρ2) : SM ρ2 q t := h.fr hn hf (fun c k h => by unfold sSM at h; unfold sTl sOM; omega)
theorem neg2 {k : Nat} (hk : k < 20) : (-2 : Int32) - nI k = -(nI (k + 2)) ∧ (-(nI (k + 2))).toInt = -((k : Int) + 2) := by
  have : ∀ k, k < 20 → (-2 : Int32) - nI k = -(nI (k + 2)) ∧ (-(nI (k + 2))).toInt = -((k : Int) + 2) := by decide +kernel
  exact this k hk
theorem nI_m1 {n : Nat} (h : n < 2 ^ 31) : ¬ nI n = (-1 : Int32) := fun e => by
  have := congrArg Int32.toInt e
  rw [nI_toInt h] at this
  have e1 : (-1 : Int32).toInt = -1 := by decide
  omega
theorem nI_m1le {n : Nat} (h : n < 2 ^ 31) : (-1 : Int32) ≤ nI n := Int32.le_iff_toInt_le.mpr (by
  rw [nI_toInt h]
  have e1 : (-1 : Int32).toInt = -1 := by decide
  omega)
theorem i19' {q : Nat} : (19 : Int32) * nI q = nI (19 * q) := by
  show nI 19 * nI q = _
  rw [pk_mul]
theorem M_open {K : Int32 → Int32 → Int32 → Int32 → St → Option (Unit × St)} {Q : Unit → St → Prop} {q k w p : Nat} {t : Td} {L : List Int32} {τ : St} {y0 : Int32} (hq : q < 4) (hT : TP t) (hk : k + 1 < tN t) (hM : SM τ q t) (hO : OM τ L) (hl : L.length < 2400) (hw : w + 3 < 100) (hy : (y0 = 0 ∧ ld t k = tF t k ∧ tl t k = tS t k) ∨ (¬ y0 = 0 ∧ ld t k = tS t k ∧ tl t k = tF t k))
    (hK : ∀ τ', SM τ' q t → OM τ' (L ++ [chn 40]) → τ'.1 28 w = -(nI (k + 2)) → τ'.1 28 (w + 1) = nI (tl t k) → τ'.1 28 (w + 2) = -1 → τ'.1 28 (w + 3) = nI (ld t k) → fr (sTl w p) τ τ' → wp (K (nI q) (nI (tN t)) (nI (w + 4)) (nI p) τ') Q) :
    wp (fX8_tells_216 N K (nI q) (nI (tN t)) (nI w) (nI p) (nI (tN t + k)) (nI (19 * q + k)) y0 τ) Q := by
  have h20 := hT.1.1
  unfold fX8_tells_216
  refine wp_bd (M_ink hO hl) (fun _ s h1 => wp_gd (ibn (by omega) (by decide)) (wp_nx ?_))
  rw [cl w (by omega), pk_sub (by omega), Nat.add_sub_cancel_left, (neg2 (by omega)).1]
  have f1 : fr (sTl w p) τ s := fr_mo h1.2 (fun c k h => Or.inl h)
  have M1 := sTl_sm h20 hM f1
  have i3 : ∀ j, nI w + nI j = nI (w + j) := fun j => nI_add w j
  have at4 : 19 * q + k < 76 := by omega
  have j1 : nI w + (1 : Int32) = nI (w + 1) := i3 1
  have j2 : nI w + (2 : Int32) = nI (w + 2) := i3 2
  have j3 : nI w + (3 : Int32) = nI (w + 3) := i3 3
  have j4 : nI w + (4 : Int32) = nI (w + 4) := i3 4
  have c0 : (nI (19 * q + k)).toNatClampNeg = 19 * q + k := cl _ (by omega)
  have c1 : (nI (w + 1)).toNatClampNeg = w + 1 := cl _ (by omega)
  have c2 : (nI (w + 2)).toNatClampNeg = w + 2 := cl _ (by omega)
  have c3 : (nI (w + 3)).toNatClampNeg = w + 3 := cl _ (by omega)
  have fin : wp (fX8_tells_305 N K (nI q) (nI (tN t)) (nI w) (nI p) (nI (ld t k)) (nI (w + 3)) (sI (sI (sI s 28 w (-(nI (k + 2)))) 28 (w + 1) (nI (tl t k))) 28 (w + 2) (-1))) Q := by
    unfold fX8_tells_305 fX8_tells_309
    rw [c3, j4]
    refine wp_gd (ibn (by omega) (by decide)) (wp_nx (wp_nx ?_))
    have w28 : ∀ j, sTl w p 28 (w + j) := fun j => Or.inr (Or.inl ⟨rfl, by omega⟩)
    have fA : fr (sTl w p) τ (sI (sI (sI (sI s 28 w (-(nI (k + 2)))) 28 (w + 1) (nI (tl t k))) 28 (w + 2) (-1)) 28 (w + 3) (nI (ld t k))) := fr_I (fr_I (fr_I (fr_I f1 (w28 0)) (w28 1)) (w28 2)) (w28 3)
    refine hK _ (sTl_sm h20 hM fA) ?_ ?_ ?_ ?_ ?_ fA
    · refine ⟨?_, fun i hi => ?_⟩
      · rw [sI_of (by omega), sI_of (by omega), sI_of (by omega), sI_of (by omega)]; exact h1.1.1
      · rw [sI_of (by omega), sI_of (by omega), sI_of (by omega), sI_of (by omega)]; exact h1.1.2 i hi
    · rw [sI_of (by omega), sI_of (by omega), sI_of (by omega)]; exact sI_at
    · rw [sI_of (by omega), sI_of (by omega)]; exact sI_at
    · rw [sI_of (by omega)]; exact sI_at
    · exact sI_at
  have r13 : ∀ {ρ : St}, SM ρ q t → ρ.1 13 (19 * q + k) = nI (tF t k) := fun h => (h.2.1 k hk).1
  have r14 : ∀ {ρ : St}, SM ρ q t → ρ.1 14 (19 * q + k) = nI (tS t k) := fun h => (h.2.1 k hk).2.1
  unfold fX8_tells_266
  rw [j1, j2, j3, c0, c1, c2]
  rcases hy with ⟨rfl, e1, e2⟩ | ⟨hy, e1, e2⟩
  · refine wp_t rfl (wp_gd (ibn at4 (by decide)) ?_)
    rw [sI_of (by omega), r14 M1, ← e2]
    refine wp_gd (ibn (by omega) (by decide)) (wp_nx (wp_gd (ibn (by omega) (by decide)) (wp_nx (wp_t rfl (wp_gd (ibn at4 (by decide)) ?_)))))
    rw [sI_of (by omega), sI_of (by omega), sI_of (by omega), r13 M1, ← e1]
    exact fin
  · refine wp_f hy (wp_gd (ibn at4 (by decide)) ?_)
    rw [sI_of (by omega), r13 M1, ← e2]
    refine wp_gd (ibn (by omega) (by decide)) (wp_nx (wp_gd (ibn (by omega) (by decide)) (wp_nx (wp_f hy (wp_gd (ibn at4 (by decide)) ?_)))))
    rw [sI_of (by omega), sI_of (by omega), sI_of (by omega), r14 M1, ← e1]
    exact fin
theorem m1w {w : Nat} : nI (w + 1) + (-1 : Int32) = nI w := pk_m1 w
/-- a cluster on top of later is told -/
theorem M_tell {q : Nat} {t : Td} {Q : Unit → St → Prop} (hq : q < 4) (hT : TP t) (hN : 3000 ≤ N) : ∀ f c, c < f → vc t c → ∀ m w p L τ, (c < tN t → w < 100) → (tN t ≤ c → w + 4 * (c - tN t) + 3 < 100) → SM τ q t → OM τ L → L.length + 60 * sz t c ≤ 2400 → p + sz t c ≤ 20 → τ.1 28 w = nI c →
    (∀ τ', SM τ' q t → OM τ' (L ++ tx t f c) → (∀ i, i < sz t c → τ'.1 29 (p + i) = nI ((ol t f c).getD i 0)) → fr (sTl w p) τ τ' → wp (fX8_tells_43 N m (nI q) (nI (tN t)) (nI w) (nI (p + sz t c)) τ') Q) →
    wp (fX8_tells_43 N (m + (4 * sz t c - 3)) (nI q) (nI (tN t)) (nI (w + 1)) (nI p) τ) Q := by
  have h20 := hT.1.1
  have mo : ∀ {w p : Nat} {ρ ρ2 : St}, fr sOM ρ ρ2 → fr (sTl w p) ρ ρ2 := fun h => fr_mo h (fun c k h => Or.inl h)
  intro f
  induction f with
  | zero => intro c h; omega
  | succ f ih =>
    intro c hf hc m w p L τ hw1 hw2 hM hO hl hp hv hK
    have hz := tx_len hT (f + 1) c hf hc
    have h2n : c < 2 ^ 31 := by rcases hc with z | z <;> omega
    rw [tx, ol] at hK
    by_cases h : c < tN t
    · have z1 := sz_leaf hT h
      have hk1 : kkv c ≤ 1 := kkv_le (by omega)
      rw [z1] at hK hp hl ⊢
      rw [if_pos h, if_pos h] at hK
      have hw := hw1 h
      show wp (fX8_tells_43 N (m + 1) _ _ _ _ τ) Q
      rw [fX8_tells_43]
      refine wp_f (nI_ge (b := w + 1) (a := 0) (by omega) (by omega)) (wp_nx ?_)
      rw [m1w, cl w (by omega), hv]
      refine wp_gd (ibn hw (by decide)) (wp_nx (wp_f ?_ (wp_t ?_ (wp_f (nI_ge h (by omega)) ?_))))
      · exact nI_m1 h2n
      · exact nI_m1le h2n
      rw [nI_l h2n]
      refine wp_bd (M_num (by omega) hO (by omega) hN) (fun _ s h1 => wp_gd (ibn (by omega) (by decide)) (wp_nx (wp_nx ?_)))
      rw [cl p (by omega)]
      unfold fX8_tells_309
      show wp (fX8_tells_43 N m (nI q) (nI (tN t)) (nI w) (nI p + 1) _) Q
      rw [nI_1]
      have fA : fr (sTl w p) τ (sI s 29 p (nI c)) := fr_I (mo h1.2) (Or.inr (Or.inr ⟨rfl, Nat.le_refl _⟩))
      refine hK _ (sTl_sm h20 hM fA) ⟨?_, fun i hi => ?_⟩ (fun i hi => ?_) fA
      · rw [sI_of (by omega)]; exact h1.1.1
      · rw [sI_of (by omega)]; exact h1.1.2 i hi
      · have : i = 0 := by omega
        subst this; exact sI_at
    · obtain ⟨k, rfl⟩ : ∃ k, c = tN t + k := ⟨c - tN t, by omega⟩
      have hk : k + 1 < tN t := by rcases hc with z | z <;> omega
      have hll := ld_lt hT hk
      have vl : vc t (ld t k) := by unfold vc; omega
      have vt : vc t (tl t k) := by unfold vc; omega
      have hs := sz_step hT hk
      have hT3 := hT.2.2.1 k hk
      have i1 := tx_len hT f (ld t k) (by omega) vl
      have i2 := tx_len hT f (tl t k) (by omega) vt
      have k1 := nat13 hT3.1 hT3.2.1
      have k2 : kkv (tO t k).toInt.toNat ≤ 5 := kkv_le (by omega)
      have p1 := sz_pos hT (ld t k) vl
      have p2 := sz_pos hT (tl t k) vt
      have ol1 := ol_len hT f (ld t k) (by omega) vl
      have hw := hw2 (by omega)
      have at4 : 19 * q + k < 76 := by omega
      have hcn : vc t (tF t k) ∧ vc t (tS t k) := by
        have := hT.2.1 k hk
        unfold vc; omega
      rw [Nat.add_sub_cancel_left] at hK hw
      rw [if_neg h, if_neg h, hs] at hK
      rw [hs] at hp hl ⊢
      rw [show m + (4 * (sz t (ld t k) + sz t (tl t k)) - 3) = (m + 1 + (4 * sz t (tl t k) - 3) + 1 + (4 * sz t (ld t k) - 3)) + 1 by omega]
      rw [fX8_tells_43]
      refine wp_f (nI_ge (b := w + 1) (a := 0) (by omega) (by omega)) (wp_nx ?_)
      rw [m1w, cl w (by omega), hv]
      refine wp_gd (ibn (by omega) (by decide)) (wp_nx (wp_f (nI_m1 h2n) (wp_t (nI_m1le h2n) (wp_t (nI_le (by omega) (by omega)) (wp_nx ?_)))))
      rw [i19, pk_sub (by omega), show 19 * q + (tN t + k) - tN t = 19 * q + k by omega]
      refine wp_gd (ibn at4 (by decide)) ?_
      rw [cl _ (by omega), (hM.2.1 k hk).1, M_least hq hT hM hcn.1 hN, bd_s]
      refine wp_gd (ibn at4 (by decide)) ?_
      rw [(hM.2.1 k hk).2.1, M_least hq hT hM hcn.2 hN, bd_s]
      -- behind the opening
      have rest : ∀ τ', SM τ' q t → OM τ' (L ++ [chn 40]) → τ'.1 28 w = -(nI (k + 2)) → τ'.1 28 (w + 1) = nI (tl t k) → τ'.1 28 (w + 2) = -1 → τ'.1 28 (w + 3) = nI (ld t k) → fr (sTl w p) τ τ' → wp (fX8_tells_43 N (m + 1 + (4 * sz t (tl t k) - 3) + 1 + (4 * sz t (ld t k) - 3)) (nI q) (nI (tN t)) (nI (w + 4)) (nI p) τ') Q := by
        intro τ1 M1 O1 l0 l1 l2 l3 fr1
        refine ih (ld t k) (by omega) vl _ (w + 3) p _ τ1 (by omega) (by omega) M1 O1 (by rw [List.length_append]; show _ + 1 + _ ≤ _; omega) (by omega) l3 (fun τ2 M2 O2 d2 fr2 => ?_)
        have g0 : τ2.1 28 w = -(nI (k + 2)) := by rw [(fr2 28 w (by unfold sTl sOM; omega)).1]; exact l0
        have g1 : τ2.1 28 (w + 1) = nI (tl t k) := by rw [(fr2 28 (w + 1) (by unfold sTl sOM; omega)).1]; exact l1
        have g2 : τ2.1 28 (w + 2) = -1 := by rw [(fr2 28 (w + 2) (by unfold sTl sOM; omega)).1]; exact l2
        rw [fX8_tells_43]
        refine wp_f (nI_ge (b := w + 3) (a := 0) (by omega) (by omega)) (wp_nx ?_)
        rw [show w + 3 = (w + 2) + 1 from rfl, m1w, cl _ (by omega), g2]
        refine wp_gd (ibn (by omega) (by decide)) (wp_nx (wp_t rfl ?_))
        refine wp_bd (M_ink O2 (by simp only [List.length_append, List.length_cons, List.length_nil]; omega)) (fun _ τ3 h3 => ?_)
        unfold fX8_tells_309
        have M3 := sTl_sm (w := w) (p := p) h20 M2 (mo h3.2)
        have g1' : τ3.1 28 (w + 1) = nI (tl t k) := by rw [(h3.2 28 (w + 1) (by unfold sOM; omega)).1]; exact g1
        have g0' : τ3.1 28 w = -(nI (k + 2)) := by rw [(h3.2 28 w (by unfold sOM; omega)).1]; exact g0
        refine ih (tl t k) (by omega) vt _ (w + 1) (p + sz t (ld t k)) _ τ3 (by omega) (by omega) M3 h3.1 (by simp only [List.length_append, List.length_cons, List.length_nil]; omega) (by omega) g1' (fun τ4 M4 O4 d4 fr4 => ?_)
        have g0'' : τ4.1 28 w = -(nI (k + 2)) := by rw [(fr4 28 w (by unfold sTl sOM; omega)).1]; exact g0'
        rw [fX8_tells_43]
        refine wp_f (nI_ge (b := w + 1) (a := 0) (by omega) (by omega)) (wp_nx ?_)
        rw [m1w, cl w (by omega), g0'']
        have ng := neg2 (show k < 20 by omega)
        refine wp_gd (ibn (by omega) (by decide)) (wp_nx (wp_f (fun e => ?_) (wp_f (fun e => ?_) (wp_nx ?_))))
        · have := congrArg Int32.toInt e
          rw [ng.2] at this
          have e1 : (-1 : Int32).toInt = -1 := by decide
          omega
        · have := Int32.le_iff_toInt_le.mp e
          rw [ng.2] at this
          have e1 : (-1 : Int32).toInt = -1 := by decide
          omega
        rw [Int32.sub_neg, i19', nI_add, show (2 : Int32) = nI 2 from rfl, pk_sub (by omega), show 19 * q + (k + 2) - 2 = 19 * q + k by omega]
        refine wp_bd (M_ink O4 (by simp only [List.length_append, List.length_cons, List.length_nil]; omega)) (fun _ τ5 h5 => wp_bd (M_ink h5.1 (by simp only [List.length_append, List.length_cons, List.length_nil]; omega)) (fun _ τ6 h6 => wp_gd (ibn at4 (by decide)) ?_))
        have M6 := sTl_sm (w := w) (p := p) h20 M4 (mo (fr_tr h5.2 h6.2))
        rw [cl _ (by omega), (M6.2.1 k hk).2.2.2.1, lN_back hT3.1]
        refine wp_bd (M_num k1.1 h6.1 (by simp only [List.length_append, List.length_cons, List.length_nil]; omega) hN) (fun _ τ7 h7 => wp_gd (ibn at4 (by decide)) ?_)
        have f47 := fr_tr h5.2 (fr_tr h6.2 h7.2)
        have M7 := sTl_sm (w := w) (p := p) h20 M4 (mo f47)
        have b7 := h7.1
        simp only [List.append_assoc, List.cons_append, List.nil_append] at b7
        rw [(M7.2.1 k hk).2.2.2.2]
        -- what is found in order
        have ord : ∀ τ', fr sOM τ4 τ' → ∀ i, i < sz t (ld t k) + sz t (tl t k) → τ'.1 29 (p + i) = nI ((ol t f (ld t k) ++ ol t f (tl t k)).getD i 0) := by
          intro τ' hf i hi
          rw [(hf 29 (p + i) (by unfold sOM; omega)).1]
          by_cases hil : i < sz t (ld t k)
          · rw [(fr4 29 (p + i) (by unfold sTl sOM; omega)).1, (h3.2 29 (p + i) (by unfold sOM; omega)).1, d2 i hil]
            rw [List.getD_eq_getElem?_getD, List.getD_eq_getElem?_getD, List.getElem?_append_left (by omega)]
          · have := d4 (i - sz t (ld t k)) (by omega)
            rw [show p + sz t (ld t k) + (i - sz t (ld t k)) = p + i by omega] at this
            rw [this, List.getD_eq_getElem?_getD, List.getD_eq_getElem?_getD, List.getElem?_append_right (by omega), ol1]
        have frA : ∀ τ', fr sOM τ4 τ' → fr (sTl w p) τ τ' := fun τ' hf => fr_tr fr1 (fr_tr (fr_mo fr2 (fun c k h => by unfold sTl sOM at h ⊢; omega)) (fr_tr (mo h3.2) (fr_tr (fr_mo fr4 (fun c k h => by unfold sTl sOM at h ⊢; omega)) (mo hf))))
        rw [← Nat.add_assoc] at hK
        unfold fX8_tells_142 fX8_tells_309
        refine wp_i (fun z => hK _ M7 ?_ (ord _ f47) (frA _ f47)) (fun z => wp_bd (M_ink h7.1 (by simp only [List.length_append, List.length_cons, List.length_nil, dgs_len]; omega)) (fun _ τ8 h8 => wp_gd (ibn at4 (by decide)) ?_))
        · have e : tO t k = 1 := (lg_cmp_eq _ _).mp z
          unfold htx
          rw [if_pos e, List.append_nil]
          exact b7
        · have f48 := fr_tr f47 h8.2
          have M8 := sTl_sm (w := w) (p := p) h20 M4 (mo f48)
          rw [(M8.2.1 k hk).2.2.2.2, lN_back (show 0 ≤ (tO t k).toInt by omega)]
          refine wp_bd (M_num (by omega) h8.1 (by simp only [List.length_append, List.length_cons, List.length_nil, dgs_len]; omega) hN) (fun _ τ9 h9 => ?_)
          have f49 := fr_tr f48 h9.2
          have e : ¬ tO t k = 1 := fun y => z ((lg_cmp_eq _ _).mpr y)
          refine hK _ (sTl_sm (w := w) (p := p) h20 M4 (mo f49)) ?_ (ord _ f49) (frA _ f49)
          have b9 := h9.1
          simp only [List.append_assoc, List.cons_append, List.nil_append] at b9
          unfold htx
          rw [if_neg e]
          exact b9
      have ne := lp_ne hT hk
      refine wp_i (fun z => M_open hq hT hk hM hO (by omega) (by omega) (Or.inl ⟨rfl, ?_⟩) rest) (fun z => M_open hq hT hk hM hO (by omega) (by omega) (Or.inr ⟨by decide, ?_⟩) rest)
      · have := (nI_leI (by have := lp20 hT hcn.1; omega) (by have := lp20 hT hcn.2; omega)).mp z
        unfold ld tl
        rw [if_pos (by omega), if_pos (by omega)]; exact ⟨rfl, rfl⟩
      · have : ¬ lp t (tF t k) ≤ lp t (tS t k) := fun y => z (nI_le y (by have := lp20 hT hcn.2; omega))
        unfold ld tl
        rw [if_neg (by omega), if_neg (by omega)]; exact ⟨rfl, rfl⟩
end
