/-! read: the TABLE -/
theorem by_form {b : Int32} (h : b.toInt8.toInt32 = b) : ∃ n : Nat, n < 256 ∧ b = (Int8.ofNat n).toInt32 := by
  have e : b.toInt8 = Int8.ofNat b.toInt8.toBitVec.toNat := by
    apply Int8.toBitVec_inj.mp
    show b.toInt8.toBitVec = BitVec.ofNat 8 b.toInt8.toBitVec.toNat
    rw [BitVec.ofNat_toNat, BitVec.setWidth_eq]
  exact ⟨b.toInt8.toBitVec.toNat, b.toInt8.toBitVec.isLt, by rw [← e]; exact h.symm⟩
theorem by_all : ∀ n, n < 256 → ((((Int8.ofNat n).toInt32 &&& 255) = 32 ↔ (Int8.ofNat n).toInt32 = 32) ∧ (((Int8.ofNat n).toInt32 &&& 255) = 10 ↔ (Int8.ofNat n).toInt32 = 10)) := by decide +kernel
theorem by_dig : ∀ n, n < 256 → (((Int8.ofNat n).toInt32 &&& 255) < 48 ∨ 57 < ((Int8.ofNat n).toInt32 &&& 255)) ∧ ((Int8.ofNat n).toInt32 < 48 ∨ 57 < (Int8.ofNat n).toInt32) ∨ (¬ (((Int8.ofNat n).toInt32 &&& 255) < 48) ∧ ¬ 57 < ((Int8.ofNat n).toInt32 &&& 255) ∧ ¬ ((Int8.ofNat n).toInt32 < 48) ∧ ¬ 57 < (Int8.ofNat n).toInt32 ∧ (Int8.ofNat n).toInt32 &&& 255 = (Int8.ofNat n).toInt32 ∧ 48 ≤ n ∧ n ≤ 57 ∧ (Int8.ofNat n).toInt32 = nI n) := by decide +kernel
def isB (L : List Int32) (j : Nat) : Prop := L.getD j 0 = 32 ∨ L.getD j 0 = 10
def isD (L : List Int32) (j : Nat) : Prop := ¬ L.getD j 0 < 48 ∧ ¬ 57 < L.getD j 0
def dv (L : List Int32) (j : Nat) : Nat := ((L.getD j 0).toInt - 48).toNat
theorem b_blank {L : List Int32} (hL : LOK L) {j : Nat} (hj : j < L.length) : ((L.getD j 0 &&& 255) = 32 ↔ L.getD j 0 = 32) ∧ ((L.getD j 0 &&& 255) = 10 ↔ L.getD j 0 = 10) := by
  obtain ⟨n, hn, e⟩ := by_form (hL.2 _ (getD_mem hj))
  rw [e]; exact by_all n hn
theorem b_digit {L : List Int32} (hL : LOK L) {j : Nat} (hj : j < L.length) : (¬ isD L j ∧ ((L.getD j 0 &&& 255) < 48 ∨ 57 < (L.getD j 0 &&& 255))) ∨ (isD L j ∧ ¬ (L.getD j 0 &&& 255) < 48 ∧ ¬ 57 < (L.getD j 0 &&& 255) ∧ dv L j ≤ 9 ∧ L.getD j 0 = nI (48 + dv L j) ∧ L.getD j 0 &&& 255 = nI (48 + dv L j)) := by
  obtain ⟨n, hn, e⟩ := by_form (hL.2 _ (getD_mem hj))
  unfold isD dv
  rw [e]
  rcases by_dig n hn with h | h
  · refine Or.inl ⟨?_, h.1⟩
    rcases h.2 with z | z
    · exact fun q => q.1 z
    · exact fun q => q.2 z
  · obtain ⟨h1, h2, h3, h4, h5, h6, h7, h8⟩ := h
    have ev : ((Int8.ofNat n).toInt32.toInt - 48).toNat = n - 48 := by rw [h8, nI_toInt (by omega)]; omega
    refine Or.inr ⟨⟨h3, h4⟩, h1, h2, ?_, ?_, ?_⟩
    · rw [ev]; omega
    · rw [ev, h8]; congr 1; omega
    · rw [h5, ev, h8]; congr 1; omega
theorem scan_ex (P : Nat → Prop) (l k : Nat) : ∃ j, (k ≤ j ∧ (l ≤ j ∨ ¬ P j)) ∧ ∀ i, i < j → ¬ (k ≤ i ∧ (l ≤ i ∨ ¬ P i)) := pk_least (fun j => k ≤ j ∧ (l ≤ j ∨ ¬ P j)) ⟨k + l, by omega, Or.inl (by omega)⟩
noncomputable def scan (P : Nat → Prop) (l k : Nat) : Nat := Classical.choose (scan_ex P l k)
theorem scan_ge (P : Nat → Prop) (l k : Nat) : k ≤ scan P l k := (Classical.choose_spec (scan_ex P l k)).1.1
theorem scan_end (P : Nat → Prop) (l k : Nat) : l ≤ scan P l k ∨ ¬ P (scan P l k) := (Classical.choose_spec (scan_ex P l k)).1.2
theorem scan_in {P : Nat → Prop} {l k i : Nat} (h1 : k ≤ i) (h2 : i < scan P l k) : i < l ∧ P i := by
  have h := (Classical.choose_spec (scan_ex P l k)).2 i h2
  refine ⟨Nat.lt_of_not_le fun z => h ⟨h1, Or.inl z⟩, ?_⟩
  exact Classical.byContradiction fun z => h ⟨h1, Or.inr z⟩
theorem scan_le {P : Nat → Prop} {l k : Nat} (h : k ≤ l) : scan P l k ≤ l := by
  rcases Nat.lt_or_ge l (scan P l k) with z | z
  · exact absurd (scan_in h z).1 (by omega)
  · exact z
theorem scan_no {P : Nat → Prop} {l k : Nat} (h : scan P l k < l) : ¬ P (scan P l k) := by
  rcases scan_end P l k with z | z
  · omega
  · exact z
theorem scan_stop {P : Nat → Prop} {l k : Nat} (h : ¬ P k) : scan P l k = k := by
  rcases Nat.lt_or_ge k (scan P l k) with z | z
  · exact absurd (scan_in (Nat.le_refl k) z).2 h
  · exact Nat.le_antisymm z (scan_ge P l k)
theorem scan_full {P : Nat → Prop} {l k : Nat} (h : l ≤ k) : scan P l k = k := by
  rcases Nat.lt_or_ge k (scan P l k) with z | z
  · exact absurd (scan_in (Nat.le_refl k) z).1 (by omega)
  · exact Nat.le_antisymm z (scan_ge P l k)
theorem scan_step {P : Nat → Prop} {l k : Nat} (hl : k < l) (h : P k) : scan P l k = scan P l (k + 1) := by
  have h1 : k + 1 ≤ scan P l k := by
    rcases Nat.lt_or_ge k (scan P l k) with z | z
    · exact z
    · have e : scan P l k = k := Nat.le_antisymm z (scan_ge P l k)
      rcases scan_end P l k with q | q
      · omega
      · rw [e] at q; exact absurd h q
  have h2 := scan_ge P l (k + 1)
  rcases Nat.lt_trichotomy (scan P l k) (scan P l (k + 1)) with z | z | z
  · have := scan_in h1 z
    rcases scan_end P l k with q | q
    · omega
    · exact absurd this.2 q
  · exact z
  · have := scan_in (k := k) (by omega) z
    rcases scan_end P l (k + 1) with q | q
    · omega
    · exact absurd this.2 q
/-- the number of m digits from s on -/
def vv (L : List Int32) (s : Nat) : Nat → Nat
  | 0 => 0
  | m + 1 => 10 * vv L s m + dv L (s + m)
theorem vv_lt {L : List Int32} {s : Nat} : ∀ {m : Nat}, (∀ i, i < m → dv L (s + i) ≤ 9) → vv L s m < 10 ^ m
  | 0, _ => by show 0 < 1; omega
  | m + 1, h => by
    have h1 := vv_lt (m := m) (fun i hi => h i (by omega))
    have h2 := h m (by omega)
    show 10 * vv L s m + dv L (s + m) < 10 ^ (m + 1)
    rw [Nat.pow_succ]; omega
def tri : Nat → Nat
  | 0 => 0
  | i + 1 => tri i + i
theorem tri_le : ∀ {i : Nat}, i ≤ 20 → tri i ≤ 190 := by decide
theorem tri_lt {i j : Nat} (h : i < j) : tri i + i ≤ tri j := by
  induction j with
  | zero => omega
  | succ j ih =>
    show tri i + i ≤ tri j + j
    rcases Nat.lt_or_ge i j with z | z
    · have := ih z; omega
    · have : i = j := by omega
      subst this; omega
theorem tri_I : ∀ v, v ≤ 20 → (1 : Int32) + ((nI v * (nI v - 1)) / 2) = nI (1 + tri v) := by decide +kernel
def lim (many : Nat) : Nat := if many = 0 then 20 else 2000000
def bad (L : List Int32) (many s len : Nat) : Prop := len = 0 ∨ 7 < len ∨ lim many < vv L s len
noncomputable def ps (L : List Int32) : Nat → Nat → Nat → Nat → (Nat → Nat) → Nat ⊕ (Nat → Nat)
  | 0, _, _, _, _ => .inl 0
  | f + 1, many, wants, k, acc =>
    if scan (isB L) L.length k = L.length then (if many < wants then .inl L.length else .inr acc)
    else if wants ≤ many then .inl (scan (isB L) L.length k)
    else @ite _ (bad L many (scan (isB L) L.length k) (scan (isD L) L.length (scan (isB L) L.length k) - scan (isB L) L.length k)) (Classical.propDecidable _) (.inl (scan (isB L) L.length k))
      (ps L f (many + 1) (if many = 0 then 1 + tri (vv L (scan (isB L) L.length k) (scan (isD L) L.length (scan (isB L) L.length k) - scan (isB L) L.length k)) else wants) (scan (isD L) L.length (scan (isB L) L.length k)) (fun i => if i = many then vv L (scan (isB L) L.length k) (scan (isD L) L.length (scan (isB L) L.length k) - scan (isB L) L.length k) else acc i))
/-- what a run of the TABLE keeps -/
def psI (many wants : Nat) (acc : Nat → Nat) : Prop := many ≤ wants ∧ wants ≤ 191 ∧ (many = 0 → wants = 1) ∧ (1 ≤ many → wants = 1 + tri (acc 0) ∧ acc 0 ≤ 20) ∧ ∀ i, 1 ≤ i → i < many → acc i ≤ 2000000
theorem psI_step {many wants v : Nat} {acc : Nat → Nat} (h : psI many wants acc) (hm : many < wants) (hv : v ≤ lim many) : psI (many + 1) (if many = 0 then 1 + tri v else wants) (fun i => if i = many then v else acc i) := by
  obtain ⟨h1, h2, h3, h4, h5⟩ := h
  unfold lim at hv
  by_cases e : many = 0
  · subst e
    rw [if_pos rfl] at hv
    have := tri_le hv
    refine ⟨by rw [if_pos rfl]; omega, by rw [if_pos rfl]; omega, by omega, fun _ => ⟨?_, ?_⟩, fun i hi hj => by omega⟩
    · rw [if_pos rfl]; rfl
    · exact hv
  · rw [if_neg e] at hv
    have h6 := h4 (by omega)
    refine ⟨by rw [if_neg e]; omega, by rw [if_neg e]; exact h2, by omega, fun _ => ⟨?_, ?_⟩, fun i hi hj => ?_⟩
    · rw [if_neg e]; show wants = 1 + tri (if 0 = many then v else acc 0); rw [if_neg (by omega)]; exact h6.1
    · show (if 0 = many then v else acc 0) ≤ 20; rw [if_neg (by omega)]; exact h6.2
    · show (if i = many then v else acc i) ≤ 2000000
      by_cases ei : i = many
      · rw [if_pos ei]; exact hv
      · rw [if_neg ei]; exact h5 i hi (by omega)
/-- the end of the reading, both sides: a fault, or numbers -/
def psE (res : Nat ⊕ (Nat → Nat)) (fault : Int32) (num : Nat → Int32) : Prop := match res with
  | .inl p => p < 2 ^ 31 ∧ fault = nI p
  | .inr a => fault = -1 ∧ a 0 ≤ 20 ∧ (∀ i, 1 ≤ i → i < 1 + tri (a 0) → a i ≤ 2000000) ∧ ∀ i, i < 1 + tri (a 0) → num i = nI (a i)
section
variable {N : Nat}
theorem X_skip {σ : St} {L : List Int32} {k : Nat} (hL : LOK L) (hB : BX σ 5 L) (hk : σ.1 9 1 = nI k) (hkl : k ≤ L.length) (hN : 3000 ≤ N) : wp (fX5_skipBlanks N σ) (fun _ σ' => σ'.1 9 1 = nI (scan (isB L) L.length k) ∧ fr (fun c z => c = 9 ∧ z = 1) σ σ') := by
  have hl := hL.1
  have hs := scan_le (P := isB L) hkl
  have hg := scan_ge (isB L) L.length k
  unfold fX5_skipBlanks
  have key : ∀ m i τ, i ≤ scan (isB L) L.length k → scan (isB L) L.length k - i < m → (k ≤ i ∧ τ.1 9 1 = nI i ∧ fr (fun c z => c = 9 ∧ z = 1) σ τ) → wp (fX5_skipBlanks_0 N m τ) (fun _ σ' => σ'.1 9 1 = nI (scan (isB L) L.length k) ∧ fr (fun c z => c = 9 ∧ z = 1) σ σ') := by
    refine loop_i (fun m i τ => wp (fX5_skipBlanks_0 N m τ) (fun _ σ' => σ'.1 9 1 = nI (scan (isB L) L.length k) ∧ fr (fun c z => c = 9 ∧ z = 1) σ σ')) (fun i τ => k ≤ i ∧ τ.1 9 1 = nI i ∧ fr (fun c z => c = 9 ∧ z = 1) σ τ) (scan (isB L) L.length k) ?_ ?_
    · intro m τ h
      have b2 : BX τ 5 L := ⟨by rw [(h.2.2 5 1 (by omega)).1]; exact hB.1, fun i hi => by rw [(h.2.2 (5 + 1) i (by omega)).1]; exact hB.2 i hi⟩
      rw [fX5_skipBlanks_0, b2.1, h.2.1]
      refine wp_i (fun _ => wp_some h.2) (fun hlt => ?_)
      have hlt2 : scan (isB L) L.length k < L.length := by
        rcases Nat.lt_or_ge (scan (isB L) L.length k) L.length with z | z
        · exact z
        · exact absurd (nI_le z (by omega)) hlt
      have hnb := scan_no hlt2
      have hbl := b_blank hL hlt2
      refine wp_bde (X_at b2 hl hlt2) (wp_bde (a := 0) (σ := τ) ?_ (wp_t rfl (wp_some h.2)))
      unfold fX5_isBlank
      rw [if_neg (fun z => hnb (Or.inl (hbl.1.mp z))), if_neg (fun z => hnb (Or.inr (hbl.2.mp z)))]
    · intro m i τ hi h ih
      have b2 : BX τ 5 L := ⟨by rw [(h.2.2 5 1 (by omega)).1]; exact hB.1, fun i hi => by rw [(h.2.2 (5 + 1) i (by omega)).1]; exact hB.2 i hi⟩
      have hin := scan_in h.1 hi
      have hbl := b_blank hL hin.1
      rw [fX5_skipBlanks_0, b2.1, h.2.1]
      refine wp_f (nI_ge hin.1 (by omega)) (wp_bde (X_at b2 hl hin.1) (wp_bde (a := 1) (σ := τ) ?_ (wp_f (by decide) (wp_nx ?_))))
      · unfold fX5_isBlank
        rcases hin.2 with z | z
        · rw [if_pos (hbl.1.mpr z)]
        · by_cases q : (L.getD i 0 &&& 255) = 32
          · rw [if_pos q]
          · rw [if_neg q, if_pos (hbl.2.mpr z)]
      · refine ih _ ⟨by omega, ?_, fr_I h.2.2 ⟨rfl, rfl⟩⟩
        rw [sI_at, h.2.1]; exact nI_1 i
  exact key N k σ hg (by omega) ⟨Nat.le_refl k, hk, fr_rf⟩
theorem X_rnum {σ : St} {L : List Int32} {k many : Nat} (hL : LOK L) (hB : BX σ 5 L) (hk : σ.1 9 1 = nI k) (hkl : k ≤ L.length) (hN : 3000 ≤ N) :
    wp (fX5_readNumber N (nI (lim many)) σ) (fun r σ' => fr (fun c z => c = 9) σ σ' ∧ ((bad L many (scan (isB L) L.length k) (scan (isD L) L.length (scan (isB L) L.length k) - scan (isB L) L.length k) ∧ σ'.1 9 2 = nI (scan (isB L) L.length k)) ∨ (¬ bad L many (scan (isB L) L.length k) (scan (isD L) L.length (scan (isB L) L.length k) - scan (isB L) L.length k) ∧ σ'.1 9 2 = σ.1 9 2 ∧ σ'.1 9 1 = nI (scan (isD L) L.length (scan (isB L) L.length k)) ∧ r = nI (vv L (scan (isB L) L.length k) (scan (isD L) L.length (scan (isB L) L.length k) - scan (isB L) L.length k))))) := by
  have hl := hL.1
  have hlm : lim many ≤ 2000000 := by unfold lim; split <;> omega
  unfold fX5_readNumber
  refine wp_bd (X_skip hL hB hk hkl hN) (fun _ s1 h1 => wp_nx ?_)
  have hs := scan_le (P := isB L) hkl
  obtain ⟨s, es⟩ : ∃ s, s = scan (isB L) L.length k := ⟨_, rfl⟩
  rw [← es] at h1 hs ⊢
  rw [h1.1]
  have he := scan_le (P := isD L) hs
  have hg := scan_ge (isD L) L.length s
  obtain ⟨e, ee⟩ : ∃ e, e = scan (isD L) L.length s := ⟨_, rfl⟩
  rw [← ee] at he hg ⊢
  obtain ⟨len, el⟩ : ∃ len, len = e - s := ⟨_, rfl⟩
  rw [← el]
  obtain ⟨c8, ec⟩ : ∃ c8, c8 = min len 8 := ⟨_, rfl⟩
  have dig : ∀ i, i < len → isD L (s + i) ∧ s + i < L.length := fun i hi => by
    have := scan_in (P := isD L) (l := L.length) (k := s) (i := s + i) (by omega) (by omega)
    exact ⟨this.2, this.1⟩
  have d9 : ∀ i, i < len → dv L (s + i) ≤ 9 := fun i hi => by
    rcases b_digit hL (dig i hi).2 with z | z
    · exact absurd (dig i hi).1 z.1
    · exact z.2.2.2.1
  have vlt : ∀ m, m ≤ c8 → vv L s m < 100000000 := fun m hm => by
    have h1 := vv_lt (L := L) (s := s) (m := m) (fun i hi => d9 i (by omega))
    have h2 : 10 ^ m ≤ 10 ^ 8 := Nat.pow_le_pow_right (by omega) (by omega)
    omega
  have bx : ∀ {τ : St}, fr (fun c z => c = 9) σ τ → BX τ 5 L := fun h => ⟨by rw [(h 5 1 (by omega)).1]; exact hB.1, fun i hi => by rw [(h (5 + 1) i (by omega)).1]; exact hB.2 i hi⟩
  -- the end
  have fin : ∀ τ : St, τ.1 9 1 = nI (s + c8) → τ.1 9 2 = σ.1 9 2 → fr (fun c z => c = 9) σ τ → wp (fX5_readNumber_81 N (nI (lim many)) (nI s) (nI (vv L s c8)) τ) (fun r σ' => fr (fun c z => c = 9) σ σ' ∧ ((bad L many s len ∧ σ'.1 9 2 = nI s) ∨ (¬ bad L many s len ∧ σ'.1 9 2 = σ.1 9 2 ∧ σ'.1 9 1 = nI e ∧ r = nI (vv L s len)))) := by
    intro τ t1 t2 t3
    unfold fX5_readNumber_81
    have ed : nI (s + c8) - nI s = nI c8 := by rw [pk_sub (by omega)]; congr 1; omega
    rw [t1, ed]
    have flaw : bad L many s len → wp (fX5_readNumber_107 N (nI s) (nI (vv L s c8)) τ) (fun r σ' => fr (fun c z => c = 9) σ σ' ∧ ((bad L many s len ∧ σ'.1 9 2 = nI s) ∨ (¬ bad L many s len ∧ σ'.1 9 2 = σ.1 9 2 ∧ σ'.1 9 1 = nI e ∧ r = nI (vv L s len)))) := by
      intro hb
      unfold fX5_readNumber_107
      exact wp_nx (wp_some ⟨fr_I t3 rfl, Or.inl ⟨hb, sI_at⟩⟩)
    refine wp_nx (wp_i (fun h0 => ?_) (fun h0 => wp_i (fun h7 => ?_) (fun h7 => wp_i (fun hv => ?_) (fun hv => ?_))))
    · have : c8 = 0 := (nI_eq (b := 0) (by omega) (by omega)).mp h0
      exact flaw (Or.inl (by omega))
    · have : 7 < c8 := (nI_ltI (a := 7) (by omega) (by omega)).mp h7
      exact flaw (Or.inr (Or.inl (by omega)))
    · have c0 : c8 ≠ 0 := fun z => h0 (by rw [z]; rfl)
      have c7 : ¬ 7 < c8 := fun z => h7 (nI_lt (a := 7) z (by omega))
      have e8 : c8 = len := by omega
      have hv2 := (nI_leI (by have := vlt c8 (Nat.le_refl _); omega) (by omega)).mp hv
      rw [e8] at t1 hv2 ⊢
      refine wp_some ⟨t3, Or.inr ⟨?_, t2, ?_, rfl⟩⟩
      · rintro (z | z | z)
        · omega
        · omega
        · omega
      · rw [t1]; congr 1; omega
    · have c0 : c8 ≠ 0 := fun z => h0 (by rw [z]; rfl)
      have c7 : ¬ 7 < c8 := fun z => h7 (nI_lt (a := 7) z (by omega))
      have e8 : c8 = len := by omega
      refine flaw (Or.inr (Or.inr ?_))
      rcases Nat.lt_or_ge (lim many) (vv L s len) with z | z
      · exact z
      · exact absurd (nI_le (by rw [e8]; exact z) (by omega)) hv
  have key : ∀ m i τ, i ≤ c8 → c8 - i < m → (τ.1 9 1 = nI (s + i) ∧ τ.1 9 2 = σ.1 9 2 ∧ fr (fun c z => c = 9) σ τ) → wp (fX5_readNumber_13 N m (nI (lim many)) (nI s) (nI (vv L s i)) τ) (fun r σ' => fr (fun c z => c = 9) σ σ' ∧ ((bad L many s len ∧ σ'.1 9 2 = nI s) ∨ (¬ bad L many s len ∧ σ'.1 9 2 = σ.1 9 2 ∧ σ'.1 9 1 = nI e ∧ r = nI (vv L s len)))) := by
    refine loop_i (fun m i τ => wp (fX5_readNumber_13 N m (nI (lim many)) (nI s) (nI (vv L s i)) τ) (fun r σ' => fr (fun c z => c = 9) σ σ' ∧ ((bad L many s len ∧ σ'.1 9 2 = nI s) ∨ (¬ bad L many s len ∧ σ'.1 9 2 = σ.1 9 2 ∧ σ'.1 9 1 = nI e ∧ r = nI (vv L s len))))) (fun i τ => τ.1 9 1 = nI (s + i) ∧ τ.1 9 2 = σ.1 9 2 ∧ fr (fun c z => c = 9) σ τ) c8 ?_ ?_
    · intro m τ h
      have b2 := bx h.2.2
      rw [fX5_readNumber_13, b2.1, h.1]
      have ed : nI (s + c8) - nI s = nI c8 := by rw [pk_sub (by omega)]; congr 1; omega
      rw [ed]
      refine wp_i (fun _ => fin τ h.1 h.2.1 h.2.2) (fun hx => wp_i (fun _ => fin τ h.1 h.2.1 h.2.2) (fun h7 => ?_))
      have hlt : s + c8 < L.length := by
        rcases Nat.lt_or_ge (s + c8) L.length with z | z
        · exact z
        · exact absurd (nI_le z (by omega)) hx
      have c7 : ¬ 7 < c8 := fun z => h7 (nI_lt (a := 7) z (by omega))
      have e8 : c8 = len := by omega
      have hnd : ¬ isD L (s + c8) := by
        have : s + c8 = e := by omega
        rw [this, ee]; rw [ee] at this; exact scan_no (by omega)
      have hdg : (L.getD (s + c8) 0 &&& 255) < 48 ∨ 57 < (L.getD (s + c8) 0 &&& 255) := by
        rcases b_digit hL hlt with z | z
        · exact z.2
        · exact absurd z.1 hnd
      refine wp_bde (X_at b2 hl hlt) (wp_bde (a := 0) (σ := τ) ?_ (wp_t rfl (fin τ h.1 h.2.1 h.2.2)))
      unfold fX5_isDigit
      by_cases q : (L.getD (s + c8) 0 &&& 255) < 48
      · rw [if_pos q]
      · rw [if_neg q, if_pos (hdg.resolve_left q)]
    · intro m i τ hi h ih
      have b2 := bx h.2.2
      have hd := dig i (by omega)
      rw [fX5_readNumber_13, b2.1, h.1]
      have ed : nI (s + i) - nI s = nI i := by rw [pk_sub (by omega)]; congr 1; omega
      rw [ed]
      refine wp_f (nI_ge hd.2 (by omega)) (wp_f (nI_nlt (a := 7) (by omega) (by omega)) ?_)
      rcases b_digit hL hd.2 with z | z
      · exact absurd hd.1 z.1
      obtain ⟨-, z1, z2, z3, z4, z5⟩ := z
      refine wp_bde (X_at b2 hl hd.2) (wp_bde (a := 1) (σ := τ) ?_ (wp_f (by decide) ?_))
      · unfold fX5_isDigit; rw [if_neg z1, if_neg z2]
      · rw [h.1]
        refine wp_bde (X_at b2 hl hd.2) (wp_nx (wp_nx ?_))
        have ev : nI (vv L s i) * (10 : Int32) + (L.getD (s + i) 0 &&& 255) - (48 : Int32) = nI (vv L s (i + 1)) := by
          rw [z5]
          show nI (vv L s i) * nI 10 + nI (48 + dv L (s + i)) - nI 48 = _
          rw [pk_mul, nI_add, pk_sub (by omega)]
          congr 1
          show _ = 10 * vv L s i + dv L (s + i)
          omega
        rw [ev]
        refine ih _ ⟨?_, ?_, fr_I h.2.2 rfl⟩
        · rw [sI_at, h.1]; exact nI_1 (s + i)
        · rw [sI_of (by omega)]; exact h.2.1
  have f1 : fr (fun c z => c = 9) σ s1 := fr_mo h1.2 (fun c k h => h.1)
  have e2 : s1.1 9 2 = σ.1 9 2 := (h1.2 9 2 (by omega)).1
  exact key N 0 s1 (by omega) (by omega) ⟨h1.1, e2, f1⟩
end
