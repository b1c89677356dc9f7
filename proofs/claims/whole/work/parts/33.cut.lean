/-! cut, cutAt -/
theorem m64 {a b : Int64} (h1 : -9223372036854775808 ≤ a.toInt * b.toInt) (h2 : a.toInt * b.toInt < 9223372036854775808) : (a * b).toInt = a.toInt * b.toInt := by rw [Int64.toInt_mul]; exact Int.bmod_eq_of_le (by omega) (by omega)
theorem s64 {a b : Int64} (h1 : -9223372036854775808 ≤ a.toInt - b.toInt) (h2 : a.toInt - b.toInt < 9223372036854775808) : (a - b).toInt = a.toInt - b.toInt := by rw [Int64.toInt_sub]; exact Int.bmod_eq_of_le (by omega) (by omega)
theorem a64 {a b : Int64} (h1 : -9223372036854775808 ≤ a.toInt + b.toInt) (h2 : a.toInt + b.toInt < 9223372036854775808) : (a + b).toInt = a.toInt + b.toInt := by rw [Int64.toInt_add]; exact Int.bmod_eq_of_le (by omega) (by omega)
/-- points together behind the first J steps -/
def ck (t : Td) (J i z : Nat) : Prop := z = i ∨ ∃ s, s < J ∧ bt (tB t s) i = true ∧ bt (tB t s) z = true
theorem ck_rf {t : Td} {J i : Nat} : ck t J i i := Or.inl rfl
theorem ck_sy {t : Td} {J i z : Nat} (h : ck t J i z) : ck t J z i := by
  rcases h with h | ⟨s, h1, h2, h3⟩
  · exact Or.inl h.symm
  · exact Or.inr ⟨s, h1, h3, h2⟩
theorem ck_tr {t : Td} (hT : TP t) {J i z w : Nat} (hJ : J + 1 ≤ tN t ∨ J = 0) (h : ck t J i z) (h2 : ck t J z w) : ck t J i w := by
  rcases h with rfl | ⟨s, a1, a2, a3⟩
  · exact h2
  rcases h2 with rfl | ⟨r, b1, b2, b3⟩
  · exact Or.inr ⟨s, a1, a2, a3⟩
  have ne := hT.2.2.2.2.1
  rcases Nat.lt_trichotomy s r with q | q | q
  · exact Or.inr ⟨r, b1, ne s r q (by omega) z a3 b2 i a2, b3⟩
  · subst q; exact Or.inr ⟨s, a1, a2, b3⟩
  · exact Or.inr ⟨s, a1, a2, ne r s q (by omega) z b2 a3 w b3⟩
theorem ck_lt {t : Td} (hT : TP t) {J i z : Nat} (hJ : J + 1 ≤ tN t ∨ J = 0) (hi : i < tN t) (h : ck t J i z) : z < tN t := by
  rcases h with rfl | ⟨s, a1, a2, a3⟩
  · exact hi
  · exact (hT.2.1 s (by omega)).2.2.2.2.2.2 z a3
theorem le_ex (t : Td) (J i : Nat) : ∃ k, ck t J i k ∧ ∀ j, j < k → ¬ ck t J i j := pk_least (fun k => ck t J i k) ⟨i, ck_rf⟩
noncomputable def le (t : Td) (J i : Nat) : Nat := Classical.choose (le_ex t J i)
theorem le_ck (t : Td) (J i : Nat) : ck t J i (le t J i) := (Classical.choose_spec (le_ex t J i)).1
theorem le_min {t : Td} {J i j : Nat} (h : ck t J i j) : le t J i ≤ j := by
  rcases Nat.lt_or_ge j (le t J i) with q | q
  · exact absurd h ((Classical.choose_spec (le_ex t J i)).2 j q)
  · exact q
theorem le_self (t : Td) (J i : Nat) : le t J i ≤ i := le_min ck_rf
theorem le_eq {t : Td} (hT : TP t) {J i k : Nat} (hJ : J + 1 ≤ tN t ∨ J = 0) (h : ck t J i k) : le t J i = le t J k := by
  apply Nat.le_antisymm
  · exact le_min (ck_tr hT hJ h (le_ck t J k))
  · exact le_min (ck_tr hT hJ (ck_sy h) (le_ck t J i))
theorem le_le {t : Td} (hT : TP t) {J i : Nat} (hJ : J + 1 ≤ tN t ∨ J = 0) : le t J (le t J i) = le t J i := (le_eq hT hJ (le_ck t J i)).symm
theorem le_iff {t : Td} (hT : TP t) {J i k : Nat} (hJ : J + 1 ≤ tN t ∨ J = 0) (hi : le t J i = i) : le t J k = i ↔ ck t J i k := by
  constructor
  · intro h
    have := le_ck t J k
    rw [h] at this
    exact ck_sy this
  · intro h
    rw [← le_eq hT hJ h, hi]
/-- how many clusters have a least point below i -/
noncomputable def cn (t : Td) (J : Nat) : Nat → Nat
  | 0 => 0
  | i + 1 => cn t J i + (if le t J i = i then 1 else 0)
theorem cn_le (t : Td) (J : Nat) : ∀ i, cn t J i ≤ i
  | 0 => Nat.le_refl 0
  | i + 1 => by
    have := cn_le t J i
    show cn t J i + _ ≤ i + 1
    split <;> omega
noncomputable def lab (t : Td) (J i : Nat) : Nat := cn t J (le t J i)
/-- the same tree with the labels of a cut -/
noncomputable def tCut (t : Td) (J : Nat) : Td := (t.1, t.2.1, t.2.2.1, t.2.2.2.1, fun i => if i < tN t then lab t J i else tL t i)
theorem tCut_ok {t : Td} {J : Nat} (hT : TP t) : TP (tCut t J) := by
  refine ⟨⟨hT.1.1, hT.1.2.1, fun i => ?_⟩, hT.2.1, hT.2.2.1, hT.2.2.2.1, hT.2.2.2.2.1, hT.2.2.2.2.2⟩
  show (if i < tN t then lab t J i else tL t i) < 20
  by_cases h : i < tN t
  · rw [if_pos h]
    have h1 := cn_le t J (le t J i)
    have h2 := le_self t J i
    have h3 := hT.1.1
    unfold lab; omega
  · rw [if_neg h]; exact hT.1.2.2 i
theorem ck_s {t : Td} (hT : TP t) {k i z : Nat} (hk : k + 1 < tN t) : ck t (k + 1) i z ↔ (ck t k i z ∨ (bt (tB t k) i = true ∧ bt (tB t k) z = true)) := by
  constructor
  · rintro (h | ⟨s, h1, h2⟩)
    · exact Or.inl (Or.inl h)
    · by_cases e : s = k
      · subst e; exact Or.inr h2
      · exact Or.inl (Or.inr ⟨s, by omega, h2⟩)
  · rintro ((h | ⟨s, h1, h2⟩) | h)
    · exact Or.inl h
    · exact Or.inr ⟨s, by omega, h2⟩
    · exact Or.inr ⟨k, by omega, h⟩
theorem ck_in {t : Td} (hT : TP t) {k i z : Nat} (hk : k + 1 < tN t) (hb : bt (tB t k) i = true) : ck t (k + 1) i z ↔ bt (tB t k) z = true := by
  rw [ck_s hT hk]
  constructor
  · rintro ((h | ⟨s, h1, h2, h3⟩) | h)
    · rw [h]; exact hb
    · exact hT.2.2.2.2.1 s k h1 hk i h2 hb z h3
    · exact h.2
  · exact fun h => Or.inr ⟨hb, h⟩
theorem ck_out {t : Td} (hT : TP t) {k i z : Nat} (hk : k + 1 < tN t) (hb : ¬ bt (tB t k) i = true) : ck t (k + 1) i z ↔ ck t k i z := by
  rw [ck_s hT hk]
  exact ⟨fun h => h.elim id (fun q => absurd q.1 hb), Or.inl⟩
/-- a mask that tells a cluster -/
def cm (t : Td) (J i : Nat) (v : Int32) : Prop := ∀ z, bt v z = true ↔ ck t J i z
theorem cm_sm {t : Td} (hT : TP t) {J i : Nat} {v : Int32} (hJ : J + 1 ≤ tN t ∨ J = 0) (hi : i < tN t) (h : cm t J i v) : ∀ z, bt v z = true → z < 20 := fun z hz => by
  have := ck_lt hT hJ hi ((h z).mp hz)
  have := hT.1.1
  omega
theorem cm_0 {t : Td} {i : Nat} (hi : i < 20) : cm t 0 i ((1 : Int32) <<< (nI i &&& 31)) := by
  intro z
  constructor
  · intro h
    by_cases hz : z < 32
    · rw [bt_one (by omega) hz] at h; exact Or.inl (of_decide_eq_true h)
    · rw [b_big (by omega)] at h; cases h
  · rintro (h | ⟨s, h1, -⟩)
    · subst h; rw [bt_one (by omega) (by omega)]; exact decide_eq_true rfl
    · omega
section
variable {N : Nat}
theorem X_clu {σ : St} {q i J : Nat} {t : Td} (hT : TP t) (hX : SX σ q t) (hJ : J + 1 ≤ tN t ∨ J = 0) (hi : i < tN t) (hN : 3000 ≤ N) : wp (fX6_clusterBehind N q (nI J) (nI i) σ) (fun v σ' => σ' = σ ∧ cm t J i v) := by
  have h20 := hT.1.1
  unfold fX6_clusterBehind
  refine wp_nx ?_
  have key : ∀ m k (ρ : St × Int32), k ≤ J → J - k < m → (ρ.1 = σ ∧ cm t k i ρ.2) → wp (fX6_clusterBehind_7 N q m (nI J) (nI i) ρ.2 (nI k) ρ.1) (fun v σ' => σ' = σ ∧ cm t J i v) := by
    refine loop_i (fun m k (ρ : St × Int32) => wp (fX6_clusterBehind_7 N q m (nI J) (nI i) ρ.2 (nI k) ρ.1) (fun v σ' => σ' = σ ∧ cm t J i v)) (fun k ρ => ρ.1 = σ ∧ cm t k i ρ.2) J ?_ ?_
    · rintro m ⟨ρ, v⟩ ⟨rfl, e⟩
      rw [fX6_clusterBehind_7]
      exact wp_t (nI_le (Nat.le_refl J) (by omega)) (wp_some ⟨rfl, e⟩)
    · rintro m k ⟨ρ, v⟩ hk ⟨rfl, e⟩ ih
      dsimp only at e ih ⊢
      have hkn : k + 1 < tN t := by omega
      rw [fX6_clusterBehind_7, hX.1.2.2.2.2.2, cl k (by omega), (hX.2.1 k hkn).2.2.1]
      have bb := bitT (x := tB t k) (i := i) (tb_sm hT hkn) (by omega)
      have go : ∀ v', cm t (k + 1) i v' → wp (fX6_clusterBehind_54 N q (fX6_clusterBehind_7 N q m) (nI J) (nI i) v' (nI k) ρ) (fun v σ' => σ' = ρ ∧ cm t J i v) := by
        intro v' hv
        unfold fX6_clusterBehind_54
        refine wp_nx ?_
        have := ih (ρ, v') ⟨rfl, hv⟩
        rw [← nI_1] at this
        exact this
      refine wp_f (nI_ge hk (by omega)) (wp_f (nI_ge (by omega) (by omega)) (wp_gd (ibn (by omega) (by decide)) (wp_i (fun c => wp_gd (ibn (by omega) (by decide)) (wp_nx (go _ ?_))) (fun c => go _ ?_))))
      · have hb := bb.1.mp c
        intro z
        rw [ck_in hT hkn hb]
      · have hb : ¬ bt (tB t k) i = true := fun z => c (bb.1.mpr z)
        intro z
        rw [ck_out hT hkn hb]; exact e z
  exact key N 0 (σ, _) (by omega) (by omega) ⟨rfl, cm_0 (by omega)⟩
theorem X_setl {σ : St} {q : Nat} {t : Td} {v : Int32} {w : Nat} (hn : tN t ≤ 20) (hp : σ.1 (52 + 2 * q) 2 = nI (tN t)) (hv : ∀ z, bt v z = true → z < 20) (hN : 3000 ≤ N) : wp (fX6_setLabels N q v (nI w) σ) (fun _ σ' => (∀ i, i < 20 → σ'.1 (52 + 2 * q + 1) i = if bt v i = true ∧ i < tN t then nI w else σ.1 (52 + 2 * q + 1) i) ∧ fr (fun c _ => c = 52 + 2 * q + 1) σ σ') := by
  unfold fX6_setLabels
  have key : ∀ m k (ρ : St), k ≤ tN t → tN t - k < m → ((∀ i, i < 20 → ρ.1 (52 + 2 * q + 1) i = if bt v i = true ∧ i < k then nI w else σ.1 (52 + 2 * q + 1) i) ∧ fr (fun c _ => c = 52 + 2 * q + 1) σ ρ) → wp (fX6_setLabels_2 N q m v (nI w) (nI k) ρ) (fun _ σ' => (∀ i, i < 20 → σ'.1 (52 + 2 * q + 1) i = if bt v i = true ∧ i < tN t then nI w else σ.1 (52 + 2 * q + 1) i) ∧ fr (fun c _ => c = 52 + 2 * q + 1) σ σ') := by
    refine loop_i (fun m k (ρ : St) => wp (fX6_setLabels_2 N q m v (nI w) (nI k) ρ) (fun _ σ' => (∀ i, i < 20 → σ'.1 (52 + 2 * q + 1) i = if bt v i = true ∧ i < tN t then nI w else σ.1 (52 + 2 * q + 1) i) ∧ fr (fun c _ => c = 52 + 2 * q + 1) σ σ')) (fun k ρ => (∀ i, i < 20 → ρ.1 (52 + 2 * q + 1) i = if bt v i = true ∧ i < k then nI w else σ.1 (52 + 2 * q + 1) i) ∧ fr (fun c _ => c = 52 + 2 * q + 1) σ ρ) (tN t) ?_ ?_
    · intro m ρ h
      rw [fX6_setLabels_2, (h.2 (52 + 2 * q) 2 (by omega)).1, hp]
      exact wp_t (nI_le (Nat.le_refl _) (by omega)) (wp_some h)
    · intro m k ρ hk h ih
      rw [fX6_setLabels_2, (h.2 (52 + 2 * q) 2 (by omega)).1, hp]
      have bb := bitT (x := v) (i := k) hv (by omega)
      unfold fX6_setLabels_26
      refine wp_f (nI_ge hk (by omega)) (wp_i (fun c => wp_gd (ibn (by omega) (by decide)) (wp_nx (wp_nx ?_))) (fun c => wp_nx ?_))
      · show wp (fX6_setLabels_2 N q m v (nI w) (nI k + 1) _) _
        rw [nI_1, cl k (by omega)]
        refine ih _ ⟨fun i hi => ?_, fr_I h.2 rfl⟩
        have hb := bb.1.mp c
        by_cases e : i = k
        · subst e; rw [sI_at, if_pos ⟨hb, by omega⟩]
        · rw [sI_of (by omega), h.1 i hi]
          by_cases z : bt v i = true ∧ i < k
          · rw [if_pos z, if_pos ⟨z.1, by omega⟩]
          · rw [if_neg z, if_neg (fun y => z ⟨y.1, by omega⟩)]
      · show wp (fX6_setLabels_2 N q m v (nI w) (nI k + 1) _) _
        rw [nI_1]
        refine ih _ ⟨fun i hi => ?_, h.2⟩
        have hb : ¬ bt v k = true := fun z => c (bb.1.mpr z)
        rw [h.1 i hi]
        by_cases z : bt v i = true ∧ i < k
        · rw [if_pos z, if_pos ⟨z.1, by omega⟩]
        · rw [if_neg z, if_neg (fun y => by
            by_cases e : i = k
            · subst e; exact hb y.1
            · exact z ⟨y.1, by omega⟩)]
  exact key N 0 σ (by omega) (by omega) ⟨fun i hi => by rw [if_neg (fun z => by omega)], fr_rf⟩
def sLab (q c _ : Nat) : Prop := c = 52 + 2 * q + 1
theorem X_cutb {σ : St} {q J : Nat} {t : Td} (hq : q < 4) (hT : TP t) (hX : SX σ q t) (hJ : J + 1 ≤ tN t ∨ J = 0) (hN : 3000 ≤ N) : wp (fX6_cutBehind N q (nI J) σ) (fun v σ' => v = nI (cn t J (tN t)) ∧ SX σ' q (tCut t J) ∧ fr (sLab q) σ σ') := by
  have h20 := hT.1.1
  unfold fX6_cutBehind
  have key : ∀ m i (ρ : St × Int32), i ≤ tN t → tN t - i < m → ((∀ z, bt ρ.2 z = true ↔ (z < tN t ∧ le t J z < i)) ∧ (∀ z, z < 20 → ρ.1.1 (52 + 2 * q + 1) z = nI (if z < tN t ∧ le t J z < i then lab t J z else tL t z)) ∧ fr (sLab q) σ ρ.1) → wp (fX6_cutBehind_7 N q m (nI J) (nI (cn t J i)) ρ.2 (nI i) ρ.1) (fun v σ' => v = nI (cn t J (tN t)) ∧ SX σ' q (tCut t J) ∧ fr (sLab q) σ σ') := by
    refine loop_i (fun m i (ρ : St × Int32) => wp (fX6_cutBehind_7 N q m (nI J) (nI (cn t J i)) ρ.2 (nI i) ρ.1) (fun v σ' => v = nI (cn t J (tN t)) ∧ SX σ' q (tCut t J) ∧ fr (sLab q) σ σ')) (fun i ρ => (∀ z, bt ρ.2 z = true ↔ (z < tN t ∧ le t J z < i)) ∧ (∀ z, z < 20 → ρ.1.1 (52 + 2 * q + 1) z = nI (if z < tN t ∧ le t J z < i then lab t J z else tL t z)) ∧ fr (sLab q) σ ρ.1) (tN t) ?_ ?_
    · rintro m ⟨ρ, v⟩ ⟨h1, h2, h3⟩
      dsimp only at h1 h2 h3 ⊢
      have g : ∀ c k, c ≠ 52 + 2 * q + 1 → ρ.1 c k = σ.1 c k ∧ ρ.2 c k = σ.2 c k := fun c k hc => h3 c k hc
      rw [fX6_cutBehind_7, (g (52 + 2 * q) 2 (by omega)).1, hX.1.2.2.1]
      refine wp_t (nI_le (Nat.le_refl _) (by omega)) (wp_some ⟨rfl, ⟨⟨?_, ?_, ?_, ?_, ?_, ?_⟩, fun k hk => ⟨?_, ?_, ?_, ?_, ?_⟩, fun i hi => ?_⟩, h3⟩)
      · rw [(g _ _ (by omega)).1]; exact hX.1.1
      · rw [(g _ _ (by omega)).1]; exact hX.1.2.1
      · rw [(g _ _ (by omega)).1]; exact hX.1.2.2.1
      · rw [(g _ _ (by omega)).1]; exact hX.1.2.2.2.1
      · rw [(g _ _ (by omega)).1]; exact hX.1.2.2.2.2.1
      · rw [(g _ _ (by omega)).1]; exact hX.1.2.2.2.2.2
      · rw [(g _ _ (by omega)).1]; exact (hX.2.1 k hk).1
      · rw [(g _ _ (by omega)).1]; exact (hX.2.1 k hk).2.1
      · rw [(g _ _ (by omega)).1]; exact (hX.2.1 k hk).2.2.1
      · rw [(g _ _ (by omega)).2]; exact (hX.2.1 k hk).2.2.2.1
      · rw [(g _ _ (by omega)).2]; exact (hX.2.1 k hk).2.2.2.2
      · rw [h2 i hi]
        congr 1
        show _ = if i < tN t then lab t J i else tL t i
        have := le_self t J i
        by_cases z : i < tN t
        · rw [if_pos ⟨z, by omega⟩, if_pos z]
        · rw [if_neg (fun y => z y.1), if_neg z]
    · rintro m i ⟨ρ, v⟩ hi ⟨h1, h2, h3⟩ ih
      dsimp only at h1 h2 h3 ih ⊢
      have g : ∀ c k, c ≠ 52 + 2 * q + 1 → ρ.1 c k = σ.1 c k ∧ ρ.2 c k = σ.2 c k := fun c k hc => h3 c k hc
      rw [fX6_cutBehind_7, (g (52 + 2 * q) 2 (by omega)).1, hX.1.2.2.1]
      have vs : ∀ z, bt v z = true → z < 20 := fun z hz => by have := ((h1 z).mp hz).1; omega
      have bb := bitT (x := v) (i := i) vs (by omega)
      have lei := le_self t J i
      refine wp_f (nI_ge hi (by omega)) (wp_i (fun c => ?_) (fun c => ?_))
      · -- a new cluster
        have hb := bb.2.mp c
        have hle : le t J i = i := by
          rcases Nat.lt_or_ge (le t J i) i with z | z
          · have := (h1 i).mpr ⟨hi, z⟩
            rw [hb] at this; cases this
          · omega
        have hX2 : SX ρ q (t.1, t.2.1, t.2.2.1, t.2.2.2.1, fun z => if z < tN t ∧ le t J z < i then lab t J z else tL t z) := by
          refine ⟨⟨?_, ?_, ?_, ?_, ?_, ?_⟩, fun k hk => ⟨?_, ?_, ?_, ?_, ?_⟩, fun z hz => h2 z hz⟩
          · rw [(g _ _ (by omega)).1]; exact hX.1.1
          · rw [(g _ _ (by omega)).1]; exact hX.1.2.1
          · rw [(g _ _ (by omega)).1]; exact hX.1.2.2.1
          · rw [(g _ _ (by omega)).1]; exact hX.1.2.2.2.1
          · rw [(g _ _ (by omega)).1]; exact hX.1.2.2.2.2.1
          · rw [(g _ _ (by omega)).1]; exact hX.1.2.2.2.2.2
          · rw [(g _ _ (by omega)).1]; exact (hX.2.1 k hk).1
          · rw [(g _ _ (by omega)).1]; exact (hX.2.1 k hk).2.1
          · rw [(g _ _ (by omega)).1]; exact (hX.2.1 k hk).2.2.1
          · rw [(g _ _ (by omega)).2]; exact (hX.2.1 k hk).2.2.2.1
          · rw [(g _ _ (by omega)).2]; exact (hX.2.1 k hk).2.2.2.2
        have hT2 : TP (t.1, t.2.1, t.2.2.1, t.2.2.2.1, fun z => if z < tN t ∧ le t J z < i then lab t J z else tL t z) := by
          refine ⟨⟨hT.1.1, hT.1.2.1, fun z => ?_⟩, hT.2.1, hT.2.2.1, hT.2.2.2.1, hT.2.2.2.2.1, hT.2.2.2.2.2⟩
          show (if z < tN t ∧ le t J z < i then lab t J z else tL t z) < 20
          by_cases y : z < tN t ∧ le t J z < i
          · rw [if_pos y]
            have := cn_le t J (le t J z)
            unfold lab; omega
          · rw [if_neg y]; exact hT.1.2.2 z
        refine wp_bd (X_clu hT2 hX2 hJ hi hN) (fun w s1 t1 => ?_)
        obtain ⟨rfl, hcm⟩ := t1
        have hcm2 : cm t J i w := hcm
        have ws := cm_sm hT hJ hi hcm2
        refine wp_bd (X_setl (t := t) h20 (by rw [(g (52 + 2 * q) 2 (by omega)).1]; exact hX.1.2.2.1) ws hN) (fun _ s2 t2 => wp_nx (wp_nx ?_))
        unfold fX6_cutBehind_49
        refine wp_nx ?_
        have ecn : cn t J (i + 1) = cn t J i + 1 := by show cn t J i + _ = _; rw [if_pos hle]
        have := ih (s2, v ||| w) ⟨fun z => ?_, fun z hz => ?_, fr_tr h3 t2.2⟩
        · rw [ecn, ← nI_1, ← nI_1] at this
          exact this
        · rw [b_or]
          have c1 := h1 z
          have c2 := hcm2 z
          rw [← le_iff hT hJ hle] at c2
          constructor
          · intro hz
            rcases (Bool.or_eq_true _ _).mp hz with y | y
            · have := c1.mp y; exact ⟨this.1, by omega⟩
            · have e := c2.mp y
              exact ⟨ck_lt hT hJ hi ((le_iff hT hJ hle).mp e), by omega⟩
          · rintro ⟨z1, z2⟩
            rw [Bool.or_eq_true]
            rcases Nat.lt_or_ge (le t J z) i with y | y
            · exact Or.inl (c1.mpr ⟨z1, y⟩)
            · exact Or.inr (c2.mpr (by omega))
        · rw [t2.1 z hz]
          have c2 := hcm2 z
          rw [← le_iff hT hJ hle] at c2
          by_cases y : le t J z = i
          · have zl : z < tN t := ck_lt hT hJ hi ((le_iff hT hJ hle).mp y)
            rw [if_pos ⟨c2.mpr y, zl⟩, if_pos ⟨zl, by omega⟩]
            unfold lab; rw [y]
          · rw [if_neg (fun x => y (c2.mp x.1)), h2 z hz]
            congr 1
            by_cases x : z < tN t ∧ le t J z < i
            · rw [if_pos x, if_pos ⟨x.1, by omega⟩]
            · rw [if_neg x, if_neg (fun u => x ⟨u.1, by omega⟩)]
      · have hb : bt v i = true := by
          cases e : bt v i with
          | true => rfl
          | false => exact absurd (bb.2.mpr e) c
        have hle := ((h1 i).mp hb).2
        unfold fX6_cutBehind_49
        refine wp_nx ?_
        have ecn : cn t J (i + 1) = cn t J i := by show cn t J i + _ = _; rw [if_neg (by omega)]; rfl
        have same : ∀ z, le t J z < i + 1 ↔ le t J z < i := by
          intro z
          constructor
          · intro hz
            by_cases e : le t J z = i
            · have e2 := le_le hT (i := z) hJ
              rw [e] at e2; omega
            · omega
          · intro hz; omega
        have := ih (ρ, v) ⟨fun z => by rw [same z]; exact h1 z, fun z hz => by rw [h2 z hz]; congr 1; simp only [same z], h3⟩
        rw [ecn, ← nI_1] at this
        exact this
  exact key N 0 (σ, 0) (by omega) (by omega) ⟨fun z => by rw [b_0]; exact ⟨fun h => (by cases h), fun h => absurd h.2 (by omega)⟩, fun z hz => by rw [if_neg (fun x => by omega)]; exact hX.2.2 z hz, fr_rf⟩
end
