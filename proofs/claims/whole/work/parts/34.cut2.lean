/-! cut and cutAt, the reference's side, and both -/
section
variable {N : Nat}
theorem bit_z {x : Int32} {J n : Nat} (h : ∀ z, z < n → (((x >>> (nI z &&& 31)) &&& 1) = 1 ↔ z < J)) {z : Nat} (hz : z < n) : (((x >>> (nI z &&& 31)) &&& 1) = 1 ↔ z < J) := h z hz
theorem M_lab95 {K : Int32 → Int32 → Int32 → Int32 → Int32 → St → Option (Int32 × St)} {Q : Int32 → St → Prop} {τ : St} {q i J c : Nat} {t : Td} {D v : Int32} (hq : q < 4) (hT : TP t) (hJ : J + 1 ≤ tN t ∨ J = 0) (hi : i < tN t) (hv : cm t J i v) (hprev : ∀ z, z < i → τ.1 18 (20 * q + z) = nI (lab t J z)) (ec : c = cn t J i) (hN : 3000 ≤ N)
    (h : ∀ τ', τ' = sI τ 18 (20 * q + i) (nI (lab t J i)) → wp (K (nI q) D (nI (tN t)) (nI (cn t J (i + 1))) (nI (i + 1)) τ') Q) : wp (fX8_labelled_95 N K N (nI q) D (nI (tN t)) (nI c) (nI i) v 0 τ) Q := by
  have h20 := hT.1.1
  have lei := le_self t J i
  have key : ∀ m k (ρ : St), k ≤ le t J i → le t J i - k < m → ρ = τ → wp (fX8_labelled_95 N K m (nI q) D (nI (tN t)) (nI c) (nI i) v (nI k) ρ) Q := by
    refine loop_i (fun m k (ρ : St) => wp (fX8_labelled_95 N K m (nI q) D (nI (tN t)) (nI c) (nI i) v (nI k) ρ) Q) (fun k ρ => ρ = τ) (le t J i) ?_ ?_
    · rintro m ρ rfl
      have bb := bitT (x := v) (i := le t J i) (cm_sm hT hJ hi hv) (by omega)
      have hb := (hv _).mpr (le_ck t J i)
      rw [fX8_labelled_95, i20', i20', cl _ (by omega), cl _ (by omega)]
      refine wp_f (fun z => ?_) ?_
      · have := bb.2.mp z
        rw [hb] at this; cases this
      · unfold fX8_labelled_162
        refine wp_i (fun e => ?_) (fun e => ?_)
        · have el : le t J i = i := (nI_eq (by omega) (by omega)).mp e
          refine wp_gd (ibn (by omega) (by decide)) (wp_nx (wp_nx (wp_nx ?_)))
          have ecn : cn t J (i + 1) = cn t J i + 1 := by show cn t J i + _ = _; rw [if_pos el]
          have := h _ rfl
          rw [ecn, ← nI_1, ← nI_1, ← ec] at this
          have e2 : lab t J i = c := by unfold lab; rw [el, ec]
          rw [e2] at this
          exact this
        · have el : ¬ le t J i = i := fun z => e (by rw [z])
          refine wp_gd (ibn (by omega) (by decide)) (wp_gd (ibn (by omega) (by decide)) (wp_nx (wp_nx ?_)))
          have ecn : cn t J (i + 1) = cn t J i := by show cn t J i + _ = _; rw [if_neg el]; rfl
          have := h _ rfl
          rw [ecn, ← nI_1, ← ec] at this
          have e2 : ρ.1 18 (20 * q + le t J i) = nI (lab t J i) := by
            rw [hprev _ (by omega)]
            unfold lab; rw [le_le hT hJ]
          rw [e2]
          exact this
    · rintro m k ρ hk rfl ih
      have bb := bitT (x := v) (i := k) (cm_sm hT hJ hi hv) (by omega)
      have hb : bt v k = false := by
        cases e : bt v k with
        | false => rfl
        | true => have := le_min ((hv k).mp e); omega
      rw [fX8_labelled_95]
      refine wp_t (bb.2.mpr hb) (wp_nx ?_)
      have := ih ρ rfl
      rw [← nI_1] at this
      exact this
  exact key N 0 τ (by omega) (by omega) rfl
theorem M_labelled {τ : St} {q J : Nat} {t : Td} {D : Int32} (hq : q < 4) (hT : TP t) (hM : SM τ q t) (hJ : J + 1 ≤ tN t ∨ J = 0) (hD : ∀ z, z + 1 < tN t → (((D >>> (nI z &&& 31)) &&& 1) = 1 ↔ z < J)) (hN : 3000 ≤ N) : wp (fX8_labelled N (nI q) D τ) (fun v τ' => v = nI (cn t J (tN t)) ∧ SM τ' q (tCut t J) ∧ fr (fun c k => c = 18 ∧ 20 * q ≤ k ∧ k < 20 * q + 20) τ τ') := by
  have h20 := hT.1.1
  unfold fX8_labelled
  rw [cl q (by omega), hM.1.2.2.1]
  refine wp_gd (ibn hq (by decide)) (wp_nx ?_)
  have key : ∀ m i (ρ : St), i ≤ tN t → tN t - i < m → ((∀ z, z < i → ρ.1 18 (20 * q + z) = nI (lab t J z)) ∧ (∀ z, i ≤ z → z < 20 → ρ.1 18 (20 * q + z) = nI (tL t z)) ∧ fr (fun c k => c = 18 ∧ 20 * q ≤ k ∧ k < 20 * q + 20) τ ρ) → wp (fX8_labelled_13 N m (nI q) D (nI (tN t)) (nI (cn t J i)) (nI i) ρ) (fun v τ' => v = nI (cn t J (tN t)) ∧ SM τ' q (tCut t J) ∧ fr (fun c k => c = 18 ∧ 20 * q ≤ k ∧ k < 20 * q + 20) τ τ') := by
    refine loop_i (fun m i (ρ : St) => wp (fX8_labelled_13 N m (nI q) D (nI (tN t)) (nI (cn t J i)) (nI i) ρ) (fun v τ' => v = nI (cn t J (tN t)) ∧ SM τ' q (tCut t J) ∧ fr (fun c k => c = 18 ∧ 20 * q ≤ k ∧ k < 20 * q + 20) τ τ')) (fun i ρ => (∀ z, z < i → ρ.1 18 (20 * q + z) = nI (lab t J z)) ∧ (∀ z, i ≤ z → z < 20 → ρ.1 18 (20 * q + z) = nI (tL t z)) ∧ fr (fun c k => c = 18 ∧ 20 * q ≤ k ∧ k < 20 * q + 20) τ ρ) (tN t) ?_ ?_
    · intro m ρ ⟨h1, h2, h3⟩
      rw [fX8_labelled_13]
      have g : ∀ c k, c ≠ 18 → ρ.1 c k = τ.1 c k ∧ ρ.2 c k = τ.2 c k := fun c k hc => h3 c k (fun z => hc z.1)
      refine wp_t (nI_le (Nat.le_refl _) (by omega)) (wp_some ⟨rfl, ⟨⟨?_, ?_, ?_, ?_, ?_⟩, fun k hk => ⟨?_, ?_, ?_, ?_, ?_⟩, fun i hi => ?_⟩, h3⟩)
      · rw [(g _ _ (by omega)).1]; exact hM.1.1
      · rw [(g _ _ (by omega)).1]; exact hM.1.2.1
      · rw [(g _ _ (by omega)).1]; exact hM.1.2.2.1
      · rw [(g _ _ (by omega)).1]; exact hM.1.2.2.2.1
      · rw [(g _ _ (by omega)).1]; exact hM.1.2.2.2.2
      · rw [(g _ _ (by omega)).1]; exact (hM.2.1 k hk).1
      · rw [(g _ _ (by omega)).1]; exact (hM.2.1 k hk).2.1
      · rw [(g _ _ (by omega)).1]; exact (hM.2.1 k hk).2.2.1
      · rw [(g _ _ (by omega)).2]; exact (hM.2.1 k hk).2.2.2.1
      · rw [(g _ _ (by omega)).2]; exact (hM.2.1 k hk).2.2.2.2
      · show _ = nI (if i < tN t then lab t J i else tL t i)
        by_cases z : i < tN t
        · rw [if_pos z]; exact h1 i z
        · rw [if_neg z]; exact h2 i (by omega) hi
    · intro m i ρ hi ⟨h1, h2, h3⟩ ih
      have g : ∀ c k, c ≠ 18 → ρ.1 c k = τ.1 c k ∧ ρ.2 c k = τ.2 c k := fun c k hc => h3 c k (fun z => hc z.1)
      have hst : fX8_steps N (nI q) ρ = some (nI (tN t - 1), ρ) := by
        unfold fX8_steps
        rw [gd_t (ibn hq (by decide)), cl q (by omega), (g 9 q (by omega)).1, hM.1.2.2.1]
        by_cases h1 : tN t ≤ 1
        · rw [if_pos (show nI (tN t) ≤ (1 : Int32) from nI_le (b := 1) h1 (by omega)), show tN t - 1 = 0 by omega]; rfl
        · rw [if_neg (show ¬ nI (tN t) ≤ (1 : Int32) from nI_ge (a := 1) (by omega) (by omega)), gd_t (ibn hq (by decide))]
          show some (nI (tN t) - nI 1, ρ) = _
          rw [pk_sub (by omega)]
      rw [fX8_labelled_13]
      refine wp_f (nI_ge hi (by omega)) (wp_nx ?_)
      have fin : ∀ v, cm t J i v → wp (fX8_labelled_95 N (fX8_labelled_13 N m) N (nI q) D (nI (tN t)) (nI (cn t J i)) (nI i) v 0 ρ) (fun v τ' => v = nI (cn t J (tN t)) ∧ SM τ' q (tCut t J) ∧ fr (fun c k => c = 18 ∧ 20 * q ≤ k ∧ k < 20 * q + 20) τ τ') := by
        intro v hv
        refine M_lab95 hq hT hJ hi hv h1 rfl hN (fun τ' e => ?_)
        subst e
        refine ih _ ⟨fun z hz => ?_, fun z hz hz2 => ?_, fr_I h3 ⟨rfl, by omega, by omega⟩⟩
        · by_cases e : z = i
          · subst e; exact sI_at
          · rw [sI_of (by omega)]; exact h1 z (by omega)
        · rw [sI_of (by omega)]; exact h2 z (by omega) hz2
      have inner : ∀ m2 k (π : St × Int32), k ≤ tN t - 1 → tN t - 1 - k < m2 → (π.1 = ρ ∧ cm t (min k J) i π.2) → wp (fX8_labelled_28 N (fX8_labelled_13 N m) m2 (nI q) D (nI (tN t)) (nI (cn t J i)) (nI i) π.2 (nI k) π.1) (fun v τ' => v = nI (cn t J (tN t)) ∧ SM τ' q (tCut t J) ∧ fr (fun c k => c = 18 ∧ 20 * q ≤ k ∧ k < 20 * q + 20) τ τ') := by
        refine loop_i (fun m2 k (π : St × Int32) => wp (fX8_labelled_28 N (fX8_labelled_13 N m) m2 (nI q) D (nI (tN t)) (nI (cn t J i)) (nI i) π.2 (nI k) π.1) (fun v τ' => v = nI (cn t J (tN t)) ∧ SM τ' q (tCut t J) ∧ fr (fun c k => c = 18 ∧ 20 * q ≤ k ∧ k < 20 * q + 20) τ τ')) (fun k π => π.1 = ρ ∧ cm t (min k J) i π.2) (tN t - 1) ?_ ?_
        · rintro m2 ⟨π, v⟩ ⟨rfl, e⟩
          dsimp only at e ⊢
          rw [fX8_labelled_28, hst, bd_s]
          rw [show min (tN t - 1) J = J by omega] at e
          exact wp_t (nI_le (Nat.le_refl _) (by omega)) (fin v e)
        · rintro m2 k ⟨π, v⟩ hk ⟨rfl, e⟩ ih2
          dsimp only at e ih2 ⊢
          have hkn : k + 1 < tN t := by omega
          have bb := bitT (x := tB t k) (i := i) (tb_sm hT hkn) (by omega)
          have go : ∀ v', cm t (min (k + 1) J) i v' → wp (fX8_labelled_86 N (fX8_labelled_13 N m) (fX8_labelled_28 N (fX8_labelled_13 N m) m2) (nI q) D (nI (tN t)) (nI (cn t J i)) (nI i) v' (nI k) π) (fun v τ' => v = nI (cn t J (tN t)) ∧ SM τ' q (tCut t J) ∧ fr (fun c k => c = 18 ∧ 20 * q ≤ k ∧ k < 20 * q + 20) τ τ') := by
            intro v' hv'
            unfold fX8_labelled_86
            refine wp_nx ?_
            have := ih2 (π, v') ⟨rfl, hv'⟩
            rw [← nI_1] at this
            exact this
          rw [fX8_labelled_28, hst, bd_s, i19, cl _ (by omega), (g 15 (19 * q + k) (by omega)).1, (hM.2.1 k hkn).2.2.1]
          have hDk := hD k hkn
          refine wp_f (nI_ge (by omega) (by omega)) (wp_i (fun c => wp_gd (ibn (by omega) (by decide)) (wp_i (fun c2 => wp_gd (ibn (by omega) (by decide)) (wp_nx (go _ ?_))) (fun c2 => go _ ?_))) (fun c => go _ ?_))
          · have kJ := hDk.mp c
            have hb := bb.1.mp c2
            rw [show min (k + 1) J = k + 1 by omega]
            rw [show min k J = k by omega] at e
            intro z
            rw [b_or, Bool.or_eq_true, ck_s hT hkn, ← e z]
            exact ⟨fun h => h.elim Or.inl (fun y => Or.inr ⟨hb, y⟩), fun h => h.elim Or.inl (fun y => Or.inr y.2)⟩
          · have kJ := hDk.mp c
            have hb : ¬ bt (tB t k) i = true := fun z => c2 (bb.1.mpr z)
            rw [show min (k + 1) J = k + 1 by omega]
            rw [show min k J = k by omega] at e
            intro z
            rw [ck_out hT hkn hb]; exact e z
          · have kJ : ¬ k < J := fun z => c (hDk.mpr z)
            rw [show min (k + 1) J = min k J by omega]
            exact e
      exact inner N 0 (ρ, _) (by omega) (by omega) ⟨rfl, by rw [Nat.zero_min]; exact cm_0 (by omega)⟩
  exact key N 0 τ (by omega) (by omega) ⟨fun z hz => absurd hz (by omega), fun z _ hz => hM.2.2 z hz, fr_rf⟩
theorem mask_J {J n : Nat} (hJ : J < 20) : ∀ z, z + 1 < n → n ≤ 20 → ((((((1 : Int32) <<< (nI J &&& 31)) - 1) >>> (nI z &&& 31)) &&& 1) = 1 ↔ z < J) := by
  intro z hz hn
  have h := (by decide +kernel : ∀ J, J < 20 → ∀ z, z < 20 → ((((((1 : Int32) <<< (nI J &&& 31)) - 1) >>> (nI z &&& 31)) &&& 1) = 1 ↔ z < J))
  exact h J hJ z (by omega)
theorem Rel.cut {σ τ σ' τ' : St} {q J : Nat} {t : Td} (hq : q < 4) (h : Rel σ τ) (hT : TP t) (hX : SX σ' q (tCut t J)) (hM : SM τ' q (tCut t J)) (hf : fr (sLab q) σ σ') (hg : fr (fun c k => c = 18 ∧ 20 * q ≤ k ∧ k < 20 * q + 20) τ τ') : Rel σ' τ' := by
  refine h.S hq (fr_mo hf (fun c k hc => Or.inl (Or.inr (Or.inr (by unfold sLab at hc; omega))))) (fr_mo hg (fun c k hc => Or.inl (Or.inr (Or.inr hc)))) (Or.inr ⟨_, tCut_ok hT, hX, hM⟩)
theorem J_cut {σ τ : St} (h : Rel σ τ) (hN : 3000 ≤ N) (x y : Int32) : jt (fX7_cut N x y σ) (fX8_cut N x y τ) Rel := by
  unfold fX7_cut fX8_cut
  rcases slot_c (N := N) h x with ⟨e1, e2⟩ | ⟨q, t, hq, rfl, hT, hX, hM, e1, e2⟩
  · rw [e1, e2]; exact jt_no h rfl rfl
  rw [e1, e2, bd_s, bd_s, oc_some, if_neg n10, gd_t (ibn hq (by decide)), nx_r, cl q (by omega), hX.1.2.2.1, hM.1.2.2.1]
  have h20 := hT.1.1
  by_cases h0 : tN t = 0
  · have em : fJ9_min_7cf53 N 1 (nI (tN t)) σ = some (0, σ) := by
      unfold fJ9_min_7cf53
      rw [h0, if_pos (show nI 0 < (1 : Int32) from nI_lt (b := 1) (by omega) (by omega))]; rfl
    rw [em, bd_s, hX.1.2.2.1, if_pos (show nI (tN t) = 0 by rw [h0]; rfl)]
    by_cases y0 : y = 0
    · subst y0
      rw [if_neg (show ¬ (0 : Int32) < 0 by decide), if_pos (show (0 : Int32) ≤ nI (tN t) by rw [h0]; decide), if_pos rfl]
      have ej : nI (tN t) - 0 = nI 0 := by rw [h0]; rfl
      rw [ej]
      refine jt_wp (wp_bd (X_cutb hq hT hX (J := 0) (Or.inr rfl) hN) (fun v s1 t1 => wp_some t1)) (Q := fun v τ' => v = nI (cn t 0 (tN t)) ∧ τ' = τ) ?_ ?_
      · unfold fX8_cut_40
        refine wp_t (by rw [h0]; rfl) (wp_some ⟨?_, rfl⟩)
        rw [h0]; rfl
      · rintro a b σ' τ' ⟨p1, p2, p3⟩ ⟨q1, rfl⟩
        refine ⟨p1.trans q1.symm, h.cut hq hT p2 ⟨hM.1, hM.2.1, fun i hi => ?_⟩ p3 fr_rf⟩
        show _ = nI (if i < tN t then _ else tL t i)
        rw [if_neg (by omega)]; exact hM.2.2 i hi
    · rw [if_neg y0]
      refine jt_no h (a := -1) ?_ rfl
      by_cases c : y < 0
      · rw [if_pos c]
      · rw [if_neg c, if_neg]
        intro z
        obtain ⟨j, hj, e⟩ := nI_of2 (M := nI (tN t)) (n := 0) (by rw [h0]; decide) c z
        exact y0 (by rw [e, show j = 0 by omega]; rfl)
  · have em : fJ9_min_7cf53 N 1 (nI (tN t)) σ = some (1, σ) := by
      unfold fJ9_min_7cf53
      rw [if_neg (show ¬ nI (tN t) < (1 : Int32) from nI_nlt (b := 1) (by omega) (by omega))]
    rw [em, bd_s, hX.1.2.2.1, if_neg (show ¬ nI (tN t) = 0 from nI_ne0 (by omega) (by omega))]
    by_cases c1 : y < 1
    · rw [if_pos c1, if_pos c1]; exact jt_no h rfl rfl
    rw [if_neg c1, if_neg c1]
    by_cases c2 : y ≤ nI (tN t)
    · rw [if_pos c2, if_pos c2]
      have y0 : ¬ y < 0 := fun z => c1 (Int32.lt_trans z (by decide))
      obtain ⟨k, hk, rfl⟩ := nI_of y0
      have hk1 : 1 ≤ k := by
        rcases Nat.lt_or_ge k 1 with z | z
        · exact absurd (nI_lt (b := 1) z (by omega)) c1
        · exact z
      have hkn := (nI_leI hk (by omega)).mp c2
      rw [pk_sub hkn]
      unfold fX8_cut_40
      rw [if_neg (show ¬ nI (tN t) = 0 from nI_ne0 (by omega) (by omega)), pk_sub hkn]
      refine jt_wp (wp_bd (X_cutb hq hT hX (J := tN t - k) (Or.inl (by omega)) hN) (fun v s1 t1 => wp_some t1)) (wp_bd (M_labelled hq hT hM (J := tN t - k) (Or.inl (by omega)) (fun z hz => mask_J (by omega) z hz h20) hN) (fun v s1 t1 => wp_some t1)) ?_
      rintro a b σ' τ' ⟨p1, p2, p3⟩ ⟨q1, q2, q3⟩
      exact ⟨p1.trans q1.symm, h.cut hq hT p2 q2 p3 q3⟩
    · rw [if_neg c2, if_neg c2]; exact jt_no h rfl rfl
/-- comparing fractions -/
def sg (z : Int) : Int32 := if 0 ≤ z then (if z ≤ 0 then 0 else 1) else -1
theorem M_cmp {τ : St} {a b c d : Int64} (h1 : -4000000000000000000 ≤ a.toInt * d.toInt ∧ a.toInt * d.toInt ≤ 4000000000000000000) (h2 : -4000000000000000000 ≤ c.toInt * b.toInt ∧ c.toInt * b.toInt ≤ 4000000000000000000) : fX8_compare N a b c d τ = some (sg (a.toInt * d.toInt - c.toInt * b.toInt), τ) := by
  have e1 : (a * d).toInt = a.toInt * d.toInt := m64 (by omega) (by omega)
  have e2 : (c * b).toInt = c.toInt * b.toInt := m64 (by omega) (by omega)
  have e3 : (a * d - c * b).toInt = a.toInt * d.toInt - c.toInt * b.toInt := by rw [s64 (by omega) (by omega), e1, e2]
  have z0 : (0 : Int64).toInt = 0 := by decide
  unfold fX8_compare sg
  rw [nx_r]
  by_cases c0 : 0 ≤ a.toInt * d.toInt - c.toInt * b.toInt
  · rw [if_pos c0, if_pos (by rw [lg_cmp_ge, Int64.le_iff_toInt_le, e3, z0]; exact c0)]
    by_cases c1 : a.toInt * d.toInt - c.toInt * b.toInt ≤ 0
    · rw [if_pos c1, if_pos (by rw [lg_cmp_le, Int64.le_iff_toInt_le, e3, z0]; exact c1)]
    · rw [if_neg c1, if_neg (by rw [lg_cmp_le, Int64.le_iff_toInt_le, e3, z0]; exact c1)]
  · rw [if_neg c0, if_neg (by rw [lg_cmp_ge, Int64.le_iff_toInt_le, e3, z0]; exact c0)]
theorem pb_le {a b A B : Int} (h0 : 0 ≤ a) (h1 : a ≤ A) (h2 : 0 ≤ b) (h3 : b ≤ B) : 0 ≤ a * b ∧ a * b ≤ A * B := ⟨Int.mul_nonneg h0 h2, Int.mul_le_mul h1 h3 h2 (Int.le_trans h0 h1)⟩
theorem i2l_nI {j : Nat} (h : j < 2 ^ 31) : (nI j).toInt64.toInt = (j : Int) := by rw [nI_l h, lN_toInt h]
/-- the steps not above a height are the first ones -/
theorem pre_ex {t : Td} (hT : TP t) (a b : Nat) (hb : 1 ≤ b) : ∃ J, (J + 1 ≤ tN t ∨ J = 0) ∧ ∀ k, k + 1 < tN t → ((tT t k).toInt * (b : Int) ≤ (a : Int) * (tO t k).toInt ↔ k < J) := by
  obtain ⟨J, hJ, hm⟩ := pk_least (fun k => tN t ≤ k + 1 ∨ ¬ (tT t k).toInt * (b : Int) ≤ (a : Int) * (tO t k).toInt) ⟨tN t, Or.inl (by omega)⟩
  refine ⟨J, ?_, fun k hk => ⟨fun h => ?_, fun h => ?_⟩⟩
  · rcases Nat.lt_or_ge (tN t) (J + 1) with z | z
    · rcases Nat.eq_zero_or_pos J with y | y
      · exact Or.inr y
      · exact absurd (Or.inl (by omega)) (hm (J - 1) (by omega))
    · exact Or.inl z
  · rcases Nat.lt_or_ge k J with z | z
    · exact z
    · rcases hJ with y | y
      · omega
      · refine absurd ?_ y
        have so := hT.2.2.2.1 J k z hk
        have hk1 := hT.2.2.1 k hk
        have hJ1 := hT.2.2.1 J (by omega)
        -- top_J bot_k ≤ top_k bot_J, top_k b ≤ a bot_k
        have s1 : (tT t J).toInt * (b : Int) * (tO t k).toInt ≤ (a : Int) * (tO t J).toInt * (tO t k).toInt := by
          have u1 : (tT t J).toInt * (tO t k).toInt * (b : Int) ≤ (tT t k).toInt * (tO t J).toInt * (b : Int) := Int.mul_le_mul_of_nonneg_right so (by omega)
          have u2 : (tT t k).toInt * (b : Int) * (tO t J).toInt ≤ (a : Int) * (tO t k).toInt * (tO t J).toInt := Int.mul_le_mul_of_nonneg_right h (by omega)
          have v1 : (tT t J).toInt * (b : Int) * (tO t k).toInt = (tT t J).toInt * (tO t k).toInt * (b : Int) := Int.mul_right_comm _ _ _
          have v2 : (tT t k).toInt * (b : Int) * (tO t J).toInt = (tT t k).toInt * (tO t J).toInt * (b : Int) := Int.mul_right_comm _ _ _
          have v3 : (a : Int) * (tO t k).toInt * (tO t J).toInt = (a : Int) * (tO t J).toInt * (tO t k).toInt := Int.mul_right_comm _ _ _
          omega
        exact Int.le_of_mul_le_mul_right s1 (by omega)
  · have := hm k h
    exact Classical.byContradiction fun z => this (Or.inr z)
theorem X_count {σ : St} {q J a b : Nat} {t : Td} (hT : TP t) (hX : SX σ q t) (ha : a ≤ 1000000000) (hb : 1 ≤ b) (hb2 : b ≤ 1000) (hJ : J + 1 ≤ tN t ∨ J = 0) (hp : ∀ k, k + 1 < tN t → ((tT t k).toInt * (b : Int) ≤ (a : Int) * (tO t k).toInt ↔ k < J)) (hN : 3000 ≤ N) : fX4_countUpTo N (28 + 6 * q) (nI a).toInt64 (nI b).toInt64 σ = some (nI J, σ) := by
  have h20 := hT.1.1
  unfold fX4_countUpTo
  have key : ∀ m k (ρ : St), k ≤ tN t - 1 → tN t - 1 - k < m → ρ = σ → fX4_countUpTo_6 N (28 + 6 * q) m (nI a).toInt64 (nI b).toInt64 (nI (min k J)) (nI k) ρ = some (nI J, σ) := by
    refine loop_i (fun m k (ρ : St) => fX4_countUpTo_6 N (28 + 6 * q) m (nI a).toInt64 (nI b).toInt64 (nI (min k J)) (nI k) ρ = some (nI J, σ)) (fun k ρ => ρ = σ) (tN t - 1) ?_ ?_
    · rintro m ρ rfl
      rw [fX4_countUpTo_6, hX.1.2.2.2.2.2, if_pos (nI_le (Nat.le_refl _) (by omega)), show min (tN t - 1) J = J by omega]
    · rintro m k ρ hk rfl ih
      have hkn : k + 1 < tN t := by omega
      have hs := hX.2.1 k hkn
      have hr := hT.2.2.1 k hkn
      rw [fX4_countUpTo_6, hX.1.2.2.2.2.2, if_neg (nI_ge (by omega) (by omega)), gd_t (ibn (by omega) (by decide)), gd_t (ibn (by omega) (by decide)), cl k (by omega), hs.2.2.2.1, hs.2.2.2.2]
      have eb := i2l_nI (j := b) (by omega)
      have ea := i2l_nI (j := a) (by omega)
      have q1 := pb_le hr.1 hr.2.1 (show (0 : Int) ≤ (b : Int) by omega) (show (b : Int) ≤ 1000 by omega)
      have q2 := pb_le (show (0 : Int) ≤ (a : Int) by omega) (show (a : Int) ≤ 1000000000 by omega) (show 0 ≤ (tO t k).toInt by omega) hr.2.2.2
      have e1 : (tT t k * (nI b).toInt64).toInt = (tT t k).toInt * (b : Int) := by rw [m64 (by rw [eb]; omega) (by rw [eb]; omega), eb]
      have e2 : ((nI a).toInt64 * tO t k).toInt = (a : Int) * (tO t k).toInt := by rw [m64 (by rw [ea]; omega) (by rw [ea]; omega), ea]
      have cnd : (0 < lg_cmp (tT t k * (nI b).toInt64) ((nI a).toInt64 * tO t k)) ↔ ¬ k < J := by
        rw [lg_cmp_gt, Int64.lt_iff_toInt_lt, e1, e2, ← hp k hkn]; omega
      have nxt := ih ρ rfl
      rw [← nI_1] at nxt
      unfold fX4_countUpTo_40
      by_cases c : k < J
      · rw [if_neg (fun z => cnd.mp z c), nx_r, nx_r]
        rw [show min (k + 1) J = min k J + 1 by omega, ← nI_1] at nxt
        exact nxt
      · rw [if_pos (cnd.mpr c), nx_r]
        rw [show min (k + 1) J = min k J by omega] at nxt
        exact nxt
  have := key N 0 σ (by omega) (by omega) rfl
  rw [Nat.zero_min] at this
  exact this
theorem or_bit : ∀ J, J < 20 → ∀ k, k < 20 → J ≤ k → True := fun _ _ _ _ _ => trivial
theorem J_cutAt {σ τ : St} (h : Rel σ τ) (hN : 3000 ≤ N) (x y w : Int32) : jt (fX7_cutAt N x y w σ) (fX8_cutAt N x y w τ) Rel := by
  unfold fX7_cutAt fX8_cutAt
  rcases slot_c (N := N) h x with ⟨e1, e2⟩ | ⟨q, t, hq, rfl, hT, hX, hM, e1, e2⟩
  · rw [e1, e2]; exact jt_no h rfl rfl
  rw [e1, e2, bd_s, bd_s, oc_some, if_neg n10]
  have h20 := hT.1.1
  by_cases c1 : y < 0
  · rw [if_pos c1, if_pos c1]; exact jt_no h rfl rfl
  rw [if_neg c1, if_neg c1]
  by_cases c2 : (1000000000 : Int32) < y
  · rw [if_pos c2, if_pos c2]; exact jt_no h rfl rfl
  rw [if_neg c2, if_neg c2]
  by_cases c3 : w < 1
  · rw [if_pos c3, if_pos c3]; exact jt_no h rfl rfl
  rw [if_neg c3, if_neg c3]
  by_cases c4 : w ≤ 1000
  · rw [if_pos c4, if_pos c4]
    obtain ⟨a, ha, rfl⟩ := nI_of2 (M := 1000000000) (n := 1000000000) (by decide) c1 (Int32.not_lt.mp c2)
    have w0 : ¬ w < 0 := fun z => c3 (Int32.lt_trans z (by decide))
    obtain ⟨b, hb2, rfl⟩ := nI_of2 (M := 1000) (n := 1000) (by decide) w0 c4
    have hb : 1 ≤ b := by
      rcases Nat.lt_or_ge b 1 with z | z
      · exact absurd (nI_lt (b := 1) z (by omega)) c3
      · exact z
    obtain ⟨J, hJ, hp⟩ := pre_ex hT a b hb
    refine jt_wp (P := fun v σ' => v = nI (cn t J (tN t)) ∧ SX σ' q (tCut t J) ∧ fr (sLab q) σ σ') (wp_bde (X_count hT hX ha hb hb2 hJ hp hN) (wp_bd (X_cutb hq hT hX hJ hN) (fun v s1 t1 => wp_some t1))) (Q := fun v τ' => v = nI (cn t J (tN t)) ∧ SM τ' q (tCut t J) ∧ fr (fun c k => c = 18 ∧ 20 * q ≤ k ∧ k < 20 * q + 20) τ τ') ?_ ?_
    · have key : ∀ m k (ρ : St × Int32), k ≤ tN t - 1 → tN t - 1 - k < m → (ρ.1 = τ ∧ ∀ z, bt ρ.2 z = true ↔ (z < k ∧ z < J)) → wp (fX8_cutAt_38 N m (nI q) (nI a) (nI b) ρ.2 (nI k) ρ.1) (fun v τ' => v = nI (cn t J (tN t)) ∧ SM τ' q (tCut t J) ∧ fr (fun c k => c = 18 ∧ 20 * q ≤ k ∧ k < 20 * q + 20) τ τ') := by
        refine loop_i (fun m k (ρ : St × Int32) => wp (fX8_cutAt_38 N m (nI q) (nI a) (nI b) ρ.2 (nI k) ρ.1) (fun v τ' => v = nI (cn t J (tN t)) ∧ SM τ' q (tCut t J) ∧ fr (fun c k => c = 18 ∧ 20 * q ≤ k ∧ k < 20 * q + 20) τ τ')) (fun k ρ => ρ.1 = τ ∧ ∀ z, bt ρ.2 z = true ↔ (z < k ∧ z < J)) (tN t - 1) ?_ ?_
        · rintro m ⟨ρ, v⟩ ⟨rfl, e⟩
          dsimp only at e ⊢
          rw [fX8_cutAt_38, M_steps hq hT hM, bd_s]
          have vs : ∀ z, bt v z = true → z < 20 := fun z hz => by have := (e z).mp hz; omega
          refine wp_t (nI_le (Nat.le_refl _) (by omega)) (wp_bd (M_labelled hq hT hM hJ (fun z hz => ?_) hN) (fun v s1 t1 => wp_some t1))
          rw [(bitT vs (by omega)).1, e z]; omega
        · rintro m k ⟨ρ, v⟩ hk ⟨rfl, e⟩ ih
          dsimp only at e ih ⊢
          have hkn : k + 1 < tN t := by omega
          have hs := hM.2.1 k hkn
          have hr := hT.2.2.1 k hkn
          rw [fX8_cutAt_38, M_steps hq hT hM, bd_s, i19, cl _ (by omega), hs.2.2.2.1, hs.2.2.2.2]
          have eb := i2l_nI (j := b) (by omega)
          have ea := i2l_nI (j := a) (by omega)
          have q1 := pb_le hr.1 hr.2.1 (show (0 : Int) ≤ (b : Int) by omega) (show (b : Int) ≤ 1000 by omega)
          have q2 := pb_le (show (0 : Int) ≤ (a : Int) by omega) (show (a : Int) ≤ 1000000000 by omega) (show 0 ≤ (tO t k).toInt by omega) hr.2.2.2
          have hc := M_cmp (N := N) (τ := ρ) (a := tT t k) (b := tO t k) (c := (nI a).toInt64) (d := (nI b).toInt64) (by rw [eb]; omega) (by rw [ea]; omega)
          rw [ea, eb] at hc
          refine wp_f (nI_ge (by omega) (by omega)) (wp_gd (ibn (by omega) (by decide)) (wp_gd (ibn (by omega) (by decide)) (wp_bde hc ?_)))
          have sgc : (0 < sg ((tT t k).toInt * (b : Int) - (a : Int) * (tO t k).toInt)) ↔ ¬ k < J := by
            rw [← hp k hkn]
            unfold sg
            by_cases z0 : 0 ≤ (tT t k).toInt * (b : Int) - (a : Int) * (tO t k).toInt
            · rw [if_pos z0]
              by_cases z1 : (tT t k).toInt * (b : Int) - (a : Int) * (tO t k).toInt ≤ 0
              · rw [if_pos z1]; exact ⟨fun z => absurd z (by decide), fun z => absurd (show (tT t k).toInt * (b : Int) ≤ (a : Int) * (tO t k).toInt by omega) z⟩
              · rw [if_neg z1]; exact ⟨fun _ => by omega, fun _ => by decide⟩
            · rw [if_neg z0]; exact ⟨fun z => absurd z (by decide), fun z => absurd (show (tT t k).toInt * (b : Int) ≤ (a : Int) * (tO t k).toInt by omega) z⟩
          unfold fX8_cutAt_91
          refine wp_i (fun c => wp_nx ?_) (fun c => wp_nx (wp_nx ?_))
          · have kJ := sgc.mp c
            have := ih (ρ, v) ⟨rfl, fun z => by rw [e z]; omega⟩
            rw [← nI_1] at this
            exact this
          · have kJ : k < J := Classical.byContradiction fun z => c (sgc.mpr z)
            have := ih (ρ, v ||| ((1 : Int32) <<< (nI k &&& 31))) ⟨rfl, fun z => ?_⟩
            · rw [← nI_1] at this
              exact this
            · rw [b_or, Bool.or_eq_true, e z]
              by_cases hz : z < 32
              · rw [bt_one (by omega) hz, decide_eq_true_iff]; omega
              · rw [b_big (by omega)]
                exact ⟨fun h => h.elim (fun y => ⟨by omega, y.2⟩) (fun y => by cases y), fun h => by omega⟩
      exact key N 0 (τ, 0) (by omega) (by omega) ⟨rfl, fun z => by rw [b_0]; exact ⟨fun h => (by cases h), fun h => absurd h.1 (by omega)⟩⟩
    · rintro v v2 σ' τ' ⟨p1, p2, p3⟩ ⟨q1, q2, q3⟩
      exact ⟨p1.trans q1.symm, h.cut hq hT p2 q2 p3 q3⟩
  · rw [if_neg c4, if_neg c4]; exact jt_no h rfl rfl
end
