/-! THE RELATION between the class's state and the reference's -/
def RP (σ τ : St) : Prop := ∃ n d px py, DOK n d px py ∧ PX σ n d px py ∧ PM τ n d px py
theorem RP.fr {S T : Nat → Nat → Prop} {σ τ σ' τ' : St} (h : RP σ τ) (hf : fr S σ σ') (hg : fr T τ τ') (hs : ∀ c k, sP c k → ¬ S c k) (ht : ∀ c k, sPM c k → ¬ T c k) : RP σ' τ' := by
  obtain ⟨n, d, px, py, h1, h2, h3⟩ := h
  exact ⟨n, d, px, py, h1, h2.fr hf hs, h3.fr hg ht⟩
/-- a row of bytes -/
def LOK (L : List Int32) : Prop := L.length ≤ 2400 ∧ ∀ b ∈ L, b.toInt8.toInt32 = b
def BL (f : Nat → Int32) (L : List Int32) : Prop := ∀ i, i < L.length → f i = L.getD i 0
def TX (σ : St) (L : List Int32) : Prop := σ.1 5 1 = nI L.length ∧ BL (σ.1 6) L
def TM (τ : St) (L : List Int32) : Prop := τ.1 0 6 = nI L.length ∧ BL (τ.1 4) L
def OX (σ : St) (L : List Int32) : Prop := σ.1 7 1 = nI L.length ∧ BL (σ.1 8) L
def OM (τ : St) (L : List Int32) : Prop := τ.1 0 7 = nI L.length ∧ BL (τ.1 5) L
def RT (σ τ : St) : Prop := ∃ L, LOK L ∧ TX σ L ∧ TM τ L
def RO (σ τ : St) : Prop := ∃ L, LOK L ∧ OX σ L ∧ OM τ L
def sT (c _ : Nat) : Prop := c = 5 ∨ c = 6
def sTM (c k : Nat) : Prop := (c = 0 ∧ k = 6) ∨ c = 4
def sO (c _ : Nat) : Prop := c = 7 ∨ c = 8
def sOM (c k : Nat) : Prop := (c = 0 ∧ k = 7) ∨ c = 5
theorem RT.fr {S T : Nat → Nat → Prop} {σ τ σ' τ' : St} (h : RT σ τ) (hf : fr S σ σ') (hg : fr T τ τ') (hs : ∀ c k, sT c k → ¬ S c k) (ht : ∀ c k, sTM c k → ¬ T c k) : RT σ' τ' := by
  obtain ⟨L, h1, ⟨h2, h3⟩, h4, h5⟩ := h
  refine ⟨L, h1, ⟨?_, fun i hi => ?_⟩, ?_, fun i hi => ?_⟩
  · rw [(hf 5 1 (hs _ _ (Or.inl rfl))).1]; exact h2
  · rw [(hf 6 i (hs _ _ (Or.inr rfl))).1]; exact h3 i hi
  · rw [(hg 0 6 (ht _ _ (Or.inl ⟨rfl, rfl⟩))).1]; exact h4
  · rw [(hg 4 i (ht _ _ (Or.inr rfl))).1]; exact h5 i hi
theorem RO.fr {S T : Nat → Nat → Prop} {σ τ σ' τ' : St} (h : RO σ τ) (hf : fr S σ σ') (hg : fr T τ τ') (hs : ∀ c k, sO c k → ¬ S c k) (ht : ∀ c k, sOM c k → ¬ T c k) : RO σ' τ' := by
  obtain ⟨L, h1, ⟨h2, h3⟩, h4, h5⟩ := h
  refine ⟨L, h1, ⟨?_, fun i hi => ?_⟩, ?_, fun i hi => ?_⟩
  · rw [(hf 7 1 (hs _ _ (Or.inl rfl))).1]; exact h2
  · rw [(hf 8 i (hs _ _ (Or.inr rfl))).1]; exact h3 i hi
  · rw [(hg 0 7 (ht _ _ (Or.inl ⟨rfl, rfl⟩))).1]; exact h4
  · rw [(hg 5 i (ht _ _ (Or.inr rfl))).1]; exact h5 i hi
def RF (σ τ : St) : Prop := σ.1 9 2 = τ.1 0 8
def sF (c k : Nat) : Prop := c = 9 ∧ k = 2
def sFM (c k : Nat) : Prop := c = 0 ∧ k = 8
theorem RF.fr {S T : Nat → Nat → Prop} {σ τ σ' τ' : St} (h : RF σ τ) (hf : fr S σ σ') (hg : fr T τ τ') (hs : ∀ c k, sF c k → ¬ S c k) (ht : ∀ c k, sFM c k → ¬ T c k) : RF σ' τ' := by
  unfold RF at h ⊢
  rw [(hf 9 2 (hs _ _ ⟨rfl, rfl⟩)).1, (hg 0 8 (ht _ _ ⟨rfl, rfl⟩)).1]; exact h
/-- a tree: points; linkage, by chain, ties; clusters and bits of its steps; heights; labels -/
abbrev Td : Type := Nat × (Int32 × Int32 × Int32) × ((Nat → Nat) × (Nat → Nat) × (Nat → Int32)) × ((Nat → Int64) × (Nat → Int64)) × (Nat → Nat)
abbrev tN (t : Td) : Nat := t.1
abbrev tKind (t : Td) : Int32 := t.2.1.1
abbrev tCh (t : Td) : Int32 := t.2.1.2.1
abbrev tTies (t : Td) : Int32 := t.2.1.2.2
abbrev tF (t : Td) : Nat → Nat := t.2.2.1.1
abbrev tS (t : Td) : Nat → Nat := t.2.2.1.2.1
abbrev tB (t : Td) : Nat → Int32 := t.2.2.1.2.2
abbrev tT (t : Td) : Nat → Int64 := t.2.2.2.1.1
abbrev tO (t : Td) : Nat → Int64 := t.2.2.2.1.2
abbrev tL (t : Td) : Nat → Nat := t.2.2.2.2
def SX (σ : St) (q : Nat) (t : Td) : Prop := (σ.1 (52 + 2 * q) 0 = 1 ∧ σ.1 (52 + 2 * q) 1 = tCh t ∧ σ.1 (52 + 2 * q) 2 = nI (tN t) ∧ σ.1 (52 + 2 * q) 3 = tKind t ∧ σ.1 (52 + 2 * q) 4 = tTies t ∧ σ.1 (28 + 6 * q) 0 = nI (tN t - 1)) ∧ (∀ k, k + 1 < tN t → σ.1 (28 + 6 * q + 1) k = nI (tF t k) ∧ σ.1 (28 + 6 * q + 2) k = nI (tS t k) ∧ σ.1 (28 + 6 * q + 3) k = tB t k ∧ σ.2 (28 + 6 * q + 4) k = tT t k ∧ σ.2 (28 + 6 * q + 5) k = tO t k) ∧ ∀ i, i < 20 → σ.1 (52 + 2 * q + 1) i = nI (tL t i)
def SM (τ : St) (q : Nat) (t : Td) : Prop := (τ.1 8 q = 1 ∧ τ.1 11 q = tCh t ∧ τ.1 9 q = nI (tN t) ∧ τ.1 10 q = tKind t ∧ τ.1 12 q = tTies t) ∧ (∀ k, k + 1 < tN t → τ.1 13 (19 * q + k) = nI (tF t k) ∧ τ.1 14 (19 * q + k) = nI (tS t k) ∧ τ.1 15 (19 * q + k) = tB t k ∧ τ.2 16 (19 * q + k) = tT t k ∧ τ.2 17 (19 * q + k) = tO t k) ∧ ∀ i, i < 20 → τ.1 18 (20 * q + i) = nI (tL t i)
/-- the points of a cluster by its number -/
def cbt (t : Td) (c i : Nat) : Bool := if c < tN t then decide (i = c) else bt (tB t (c - tN t)) i
/-- what a tree keeps -/
def TP (t : Td) : Prop := (tN t ≤ 20 ∧ (tCh t = 0 ∨ tCh t = 1) ∧ ∀ i, tL t i < 20) ∧
  (∀ k, k + 1 < tN t → tF t k < tN t + k ∧ tS t k < tN t + k ∧ (∀ i, bt (tB t k) i = (cbt t (tF t k) i || cbt t (tS t k) i)) ∧ (∀ i, ¬ (cbt t (tF t k) i = true ∧ cbt t (tS t k) i = true)) ∧ (∃ i, cbt t (tF t k) i = true) ∧ (∃ i, cbt t (tS t k) i = true) ∧ (∀ i, bt (tB t k) i = true → i < tN t)) ∧
  (∀ k, k + 1 < tN t → 0 ≤ (tT t k).toInt ∧ (tT t k).toInt ≤ 1000000000000 ∧ 1 ≤ (tO t k).toInt ∧ (tO t k).toInt ≤ 262144) ∧
  (∀ a b, a ≤ b → b + 1 < tN t → (tT t a).toInt * (tO t b).toInt ≤ (tT t b).toInt * (tO t a).toInt) ∧
  (∀ a b, a < b → b + 1 < tN t → ∀ i, bt (tB t a) i = true → bt (tB t b) i = true → ∀ j, bt (tB t a) j = true → bt (tB t b) j = true) ∧
  (2 ≤ tN t → ∀ i, i < tN t → bt (tB t (tN t - 2)) i = true)
def RS (q : Nat) (σ τ : St) : Prop := (σ.1 (52 + 2 * q) 0 = 0 ∧ τ.1 8 q = 0) ∨ ∃ t, TP t ∧ SX σ q t ∧ SM τ q t
def sS (q c _ : Nat) : Prop := (28 + 6 * q ≤ c ∧ c ≤ 33 + 6 * q) ∨ c = 52 + 2 * q ∨ c = 53 + 2 * q
def sSM (q c k : Nat) : Prop := (8 ≤ c ∧ c ≤ 12 ∧ k = q) ∨ (13 ≤ c ∧ c ≤ 17 ∧ 19 * q ≤ k ∧ k < 19 * q + 19) ∨ (c = 18 ∧ 20 * q ≤ k ∧ k < 20 * q + 20)
theorem SX.fr {S : Nat → Nat → Prop} {σ σ' : St} {q : Nat} {t : Td} (h : SX σ q t) (hf : fr S σ σ') (hs : ∀ c k, sS q c k → ¬ S c k) : SX σ' q t := by
  obtain ⟨⟨a1, a2, a3, a4, a5, a6⟩, hk, hl⟩ := h
  have e : ∀ c k, sS q c k → σ'.1 c k = σ.1 c k ∧ σ'.2 c k = σ.2 c k := fun c k h => hf c k (hs c k h)
  refine ⟨⟨?_, ?_, ?_, ?_, ?_, ?_⟩, fun k hkn => ⟨?_, ?_, ?_, ?_, ?_⟩, fun i hi => ?_⟩
  · rw [(e _ _ (Or.inr (Or.inl rfl))).1]; exact a1
  · rw [(e _ _ (Or.inr (Or.inl rfl))).1]; exact a2
  · rw [(e _ _ (Or.inr (Or.inl rfl))).1]; exact a3
  · rw [(e _ _ (Or.inr (Or.inl rfl))).1]; exact a4
  · rw [(e _ _ (Or.inr (Or.inl rfl))).1]; exact a5
  · rw [(e _ _ (Or.inl (by omega))).1]; exact a6
  · rw [(e _ _ (Or.inl (by omega))).1]; exact (hk k hkn).1
  · rw [(e _ _ (Or.inl (by omega))).1]; exact (hk k hkn).2.1
  · rw [(e _ _ (Or.inl (by omega))).1]; exact (hk k hkn).2.2.1
  · rw [(e _ _ (Or.inl (by omega))).2]; exact (hk k hkn).2.2.2.1
  · rw [(e _ _ (Or.inl (by omega))).2]; exact (hk k hkn).2.2.2.2
  · rw [(e _ _ (Or.inr (Or.inr (by omega)))).1]; exact hl i hi
theorem SM.fr {S : Nat → Nat → Prop} {σ σ' : St} {q : Nat} {t : Td} (h : SM σ q t) (hn : tN t ≤ 20) (hf : fr S σ σ') (hs : ∀ c k, sSM q c k → ¬ S c k) : SM σ' q t := by
  obtain ⟨⟨a1, a2, a3, a4, a5⟩, hk, hl⟩ := h
  have e : ∀ c k, sSM q c k → σ'.1 c k = σ.1 c k ∧ σ'.2 c k = σ.2 c k := fun c k h => hf c k (hs c k h)
  refine ⟨⟨?_, ?_, ?_, ?_, ?_⟩, fun k hkn => ⟨?_, ?_, ?_, ?_, ?_⟩, fun i hi => ?_⟩
  · rw [(e _ _ (Or.inl (by omega))).1]; exact a1
  · rw [(e _ _ (Or.inl (by omega))).1]; exact a2
  · rw [(e _ _ (Or.inl (by omega))).1]; exact a3
  · rw [(e _ _ (Or.inl (by omega))).1]; exact a4
  · rw [(e _ _ (Or.inl (by omega))).1]; exact a5
  · rw [(e _ _ (Or.inr (Or.inl (by omega)))).1]; exact (hk k hkn).1
  · rw [(e _ _ (Or.inr (Or.inl (by omega)))).1]; exact (hk k hkn).2.1
  · rw [(e _ _ (Or.inr (Or.inl (by omega)))).1]; exact (hk k hkn).2.2.1
  · rw [(e _ _ (Or.inr (Or.inl (by omega)))).2]; exact (hk k hkn).2.2.2.1
  · rw [(e _ _ (Or.inr (Or.inl (by omega)))).2]; exact (hk k hkn).2.2.2.2
  · rw [(e _ _ (Or.inr (Or.inr (by omega)))).1]; exact hl i hi
theorem RS.fr {S T : Nat → Nat → Prop} {σ τ σ' τ' : St} {q : Nat} (h : RS q σ τ) (hf : fr S σ σ') (hg : fr T τ τ') (hs : ∀ c k, sS q c k → ¬ S c k) (ht : ∀ c k, sSM q c k → ¬ T c k) : RS q σ' τ' := by
  rcases h with ⟨h1, h2⟩ | ⟨t, h1, h2, h3⟩
  · refine Or.inl ⟨?_, ?_⟩
    · rw [(hf _ _ (hs _ _ (Or.inr (Or.inl rfl)))).1]; exact h1
    · rw [(hg _ _ (ht _ _ (Or.inl (by omega)))).1]; exact h2
  · exact Or.inr ⟨t, h1, h2.fr hf hs, h3.fr h1.1.1 hg ht⟩
def Rel (σ τ : St) : Prop := RP σ τ ∧ RT σ τ ∧ RO σ τ ∧ RF σ τ ∧ ∀ q, q < 4 → RS q σ τ
abbrev DJ (A B : Nat → Nat → Prop) : Prop := ∀ c k, A c k → ¬ B c k
theorem Rel.upd {S T : Nat → Nat → Prop} {σ τ σ' τ' : St} (h : Rel σ τ) (hf : fr S σ σ') (hg : fr T τ τ') (p : RP σ' τ' ∨ (DJ sP S ∧ DJ sPM T)) (t : RT σ' τ' ∨ (DJ sT S ∧ DJ sTM T)) (o : RO σ' τ' ∨ (DJ sO S ∧ DJ sOM T)) (f : RF σ' τ' ∨ (DJ sF S ∧ DJ sFM T)) (s : ∀ q, q < 4 → RS q σ' τ' ∨ (DJ (sS q) S ∧ DJ (sSM q) T)) : Rel σ' τ' := by
  refine ⟨?_, ?_, ?_, ?_, fun q hq => ?_⟩
  · rcases p with p | p
    · exact p
    · exact h.1.fr hf hg p.1 p.2
  · rcases t with p | p
    · exact p
    · exact h.2.1.fr hf hg p.1 p.2
  · rcases o with p | p
    · exact p
    · exact h.2.2.1.fr hf hg p.1 p.2
  · rcases f with p | p
    · exact p
    · exact h.2.2.2.1.fr hf hg p.1 p.2
  · rcases s q hq with p | p
    · exact p
    · exact (h.2.2.2.2 q hq).fr hf hg p.1 p.2
/-- only points, distances, places change -/
theorem Rel.P {σ τ σ' τ' : St} (h : Rel σ τ) (hf : fr sP σ σ') (hg : fr sPM τ τ') (p : RP σ' τ') : Rel σ' τ' := by
  refine h.upd hf hg (Or.inl p) (Or.inr ⟨?_, ?_⟩) (Or.inr ⟨?_, ?_⟩) (Or.inr ⟨?_, ?_⟩) (fun q hq => Or.inr ⟨?_, ?_⟩)
  all_goals (intro c k h; (try unfold sT at h); (try unfold sTM at h); (try unfold sO at h); (try unfold sOM at h); (try unfold sF at h); (try unfold sFM at h); (try unfold sS at h); (try unfold sSM at h); (try unfold sP); (try unfold sPM); omega)
theorem Rel.T {σ τ σ' τ' : St} (h : Rel σ τ) (hf : fr sT σ σ') (hg : fr sTM τ τ') (p : RT σ' τ') : Rel σ' τ' := by
  refine h.upd hf hg (Or.inr ⟨?_, ?_⟩) (Or.inl p) (Or.inr ⟨?_, ?_⟩) (Or.inr ⟨?_, ?_⟩) (fun q hq => Or.inr ⟨?_, ?_⟩)
  all_goals (intro c k h; (try unfold sP at h); (try unfold sPM at h); (try unfold sO at h); (try unfold sOM at h); (try unfold sF at h); (try unfold sFM at h); (try unfold sS at h); (try unfold sSM at h); (try unfold sT); (try unfold sTM); omega)
/-- OUT and the reference's scratch -/
def sOZ (c k : Nat) : Prop := sOM c k ∨ (c = 0 ∧ 9 ≤ k) ∨ c = 6 ∨ c = 7 ∨ 19 ≤ c
theorem Rel.O {σ τ σ' τ' : St} (h : Rel σ τ) (hf : fr sO σ σ') (hg : fr sOZ τ τ') (p : RO σ' τ') : Rel σ' τ' := by
  refine h.upd hf hg (Or.inr ⟨?_, ?_⟩) (Or.inr ⟨?_, ?_⟩) (Or.inl p) (Or.inr ⟨?_, ?_⟩) (fun q hq => Or.inr ⟨?_, ?_⟩)
  all_goals (intro c k h; (try unfold sP at h); (try unfold sPM at h); (try unfold sT at h); (try unfold sTM at h); (try unfold sF at h); (try unfold sFM at h); (try unfold sS at h); (try unfold sSM at h); (try unfold sO); (try unfold sOZ sOM); omega)
/-- a tree, and both scratches -/
def sSZ (q c k : Nat) : Prop := sS q c k ∨ (11 ≤ c ∧ c ≤ 27 ∧ c ≠ 21) ∨ 80 ≤ c
def sSMZ (q c k : Nat) : Prop := sSM q c k ∨ (c = 0 ∧ 9 ≤ k) ∨ c = 6 ∨ c = 7 ∨ 19 ≤ c
theorem Rel.S {σ τ σ' τ' : St} {q : Nat} (hq : q < 4) (h : Rel σ τ) (hf : fr (sSZ q) σ σ') (hg : fr (sSMZ q) τ τ') (p : RS q σ' τ') : Rel σ' τ' := by
  refine h.upd hf hg (Or.inr ⟨?_, ?_⟩) (Or.inr ⟨?_, ?_⟩) (Or.inr ⟨?_, ?_⟩) (Or.inr ⟨?_, ?_⟩) (fun z hz => ?_)
  all_goals (try (intro c k h; (try unfold sP at h); (try unfold sPM at h); (try unfold sT at h); (try unfold sTM at h); (try unfold sO at h); (try unfold sOM at h); (try unfold sF at h); (try unfold sFM at h); (try unfold sSZ sS); (try unfold sSMZ sSM); omega))
  by_cases e : z = q
  · subst e; exact Or.inl p
  · refine Or.inr ⟨?_, ?_⟩
    all_goals (intro c k h; (try unfold sS at h); (try unfold sSM at h); (try unfold sSZ sS); (try unfold sSMZ sSM); omega)
/-- refused calls -/
theorem jt_no {α : Type} {x y : Option (α × St)} {a : α} {σ τ : St} (h : Rel σ τ) (hx : x = some (a, σ)) (hy : y = some (a, τ)) : jt x y Rel := ⟨a, σ, τ, hx, hy, h⟩
section
variable {N : Nat}
/-- points -/
theorem X_start29 {K : Int32 → St → Option (Unit × St)} {Q : Unit → St → Prop} {i : Nat} (hi : i < 20) (σ0 : St) (hK : ∀ σ, (∀ j, j < 20 → σ.1 (60 + i) j = 0) → fr (fun c _ => c = 60 + i) σ0 σ → wp (K (nI (i + 1)) σ) Q) : ∀ n j σ, j ≤ 20 → 20 - j < n → ((∀ z, z < j → σ.1 (60 + i) z = 0) ∧ fr (fun c _ => c = 60 + i) σ0 σ) → wp (fX3_startAnew_29 N K n (nI i) (nI j) σ) Q := by
  refine loop_i (fun n j σ => wp (fX3_startAnew_29 N K n (nI i) (nI j) σ) Q) (fun j σ => (∀ z, z < j → σ.1 (60 + i) z = 0) ∧ fr (fun c _ => c = 60 + i) σ0 σ) 20 ?_ ?_
  · intro n σ h
    rw [fX3_startAnew_29]
    refine wp_t (nI_le (a := 20) (b := 20) (by omega) (by omega)) (wp_nx ?_)
    show wp (K (nI i + 1) σ) Q
    rw [nI_1]
    exact hK σ h.1 h.2
  · intro n j σ hj h ih
    rw [fX3_startAnew_29]
    refine wp_f (nI_ge (b := 20) hj (by omega)) (wp_gd (ibn hi (by decide)) (wp_gd (ibn hj (by decide)) (wp_nx (wp_nx ?_))))
    show wp (fX3_startAnew_29 N K n (nI i) (nI j + 1) _) Q
    rw [nI_1, cl i (by omega), cl j (by omega), Nat.one_mul]
    refine ih _ ⟨fun z hz => ?_, fr_I h.2 rfl⟩
    by_cases e : z = j
    · subst e; exact sI_at
    · rw [sI_of (by omega)]; exact h.1 z (by omega)
theorem X_start {σ : St} {n : Nat} (hn : n ≤ 20) (hN : 3000 ≤ N) : wp (fX3_startAnew N (nI n) σ) (fun _ σ' => PX σ' n (fun _ _ => 0) (fun _ => 0) (fun _ => 0) ∧ fr sP σ σ') := by
  unfold fX3_startAnew
  refine wp_nx ?_
  have key : ∀ m i τ, i ≤ 20 → 20 - i < m → ((∀ z, z < i → τ.1 2 z = 0 ∧ τ.1 3 z = 0 ∧ ∀ j, j < 20 → τ.1 (60 + z) j = 0) ∧ τ.1 1 0 = nI n ∧ fr sP σ τ) → wp (fX3_startAnew_7 N m (nI i) τ) (fun _ σ' => PX σ' n (fun _ _ => 0) (fun _ => 0) (fun _ => 0) ∧ fr sP σ σ') := by
    refine loop_i (fun m i τ => wp (fX3_startAnew_7 N m (nI i) τ) (fun _ σ' => PX σ' n (fun _ _ => 0) (fun _ => 0) (fun _ => 0) ∧ fr sP σ σ')) (fun i τ => (∀ z, z < i → τ.1 2 z = 0 ∧ τ.1 3 z = 0 ∧ ∀ j, j < 20 → τ.1 (60 + z) j = 0) ∧ τ.1 1 0 = nI n ∧ fr sP σ τ) 20 ?_ ?_
    · intro m τ h
      rw [fX3_startAnew_7]
      refine wp_t (nI_le (a := 20) (b := 20) (by omega) (by omega)) (wp_some ⟨⟨h.2.1, fun i j hi hj => ?_, fun i hi => ⟨(h.1 i hi).1, (h.1 i hi).2.1⟩⟩, h.2.2⟩)
      exact (h.1 i hi).2.2 j hj
    · intro m i τ hi h ih
      rw [fX3_startAnew_7]
      refine wp_f (nI_ge (b := 20) hi (by omega)) (wp_gd (ibn hi (by decide)) (wp_nx (wp_gd (ibn hi (by decide)) (wp_nx ?_))))
      rw [cl i (by omega)]
      refine X_start29 hi (sI (sI τ 2 i 0) 3 i 0) (fun ρ hz hf => ?_) N 0 _ (by omega) (by omega) ⟨fun z hz => absurd hz (by omega), fr_rf⟩
      have e : ∀ c k, c ≠ 60 + i → ρ.1 c k = (sI (sI τ 2 i 0) 3 i 0).1 c k := fun c k hc => (hf c k hc).1
      refine ih ρ ⟨fun z hz2 => ⟨?_, ?_, fun j hj => ?_⟩, ?_, ?_⟩
      · rw [e 2 z (by omega), sI_of (by omega)]
        by_cases ez : z = i
        · subst ez; exact sI_at
        · rw [sI_of (by omega)]; exact (h.1 z (by omega)).1
      · rw [e 3 z (by omega)]
        by_cases ez : z = i
        · subst ez; exact sI_at
        · rw [sI_of (by omega), sI_of (by omega)]; exact (h.1 z (by omega)).2.1
      · by_cases ez : z = i
        · subst ez; exact hz j hj
        · rw [e (60 + z) j (by omega), sI_of (by omega), sI_of (by omega)]; exact (h.1 z (by omega)).2.2 j hj
      · rw [e 1 0 (by omega), sI_of (by omega), sI_of (by omega)]; exact h.2.1
      · refine fr_tr h.2.2 (fr_tr (fr_I (fr_I fr_rf ?_) ?_) (fr_mo hf (fun c k hc => ?_)))
        · exact Or.inr (Or.inl rfl)
        · exact Or.inr (Or.inr (Or.inl rfl))
        · unfold sP; omega
  exact key N 0 _ (by omega) (by omega) ⟨fun z hz => absurd hz (by omega), sI_at, fr_I fr_rf (Or.inl rfl)⟩
theorem M_points41 {σ0 : St} {n : Nat} {Q : Int32 → St → Prop} (hK : ∀ τ, τ.1 0 0 = nI n → (∀ z, z < 20 → τ.1 2 z = 0 ∧ τ.1 3 z = 0) → fr (fun c _ => c = 2 ∨ c = 3) σ0 τ → Q (nI n) τ) (h0 : σ0.1 0 0 = nI n) : ∀ m i τ, i ≤ 20 → 20 - i < m → ((∀ z, z < i → τ.1 2 z = 0 ∧ τ.1 3 z = 0) ∧ fr (fun c _ => c = 2 ∨ c = 3) σ0 τ) → wp (fX8_points_41 N m (nI i) τ) Q := by
  refine loop_i (fun m i τ => wp (fX8_points_41 N m (nI i) τ) Q) (fun i τ => (∀ z, z < i → τ.1 2 z = 0 ∧ τ.1 3 z = 0) ∧ fr (fun c _ => c = 2 ∨ c = 3) σ0 τ) 20 ?_ ?_
  · intro m τ h
    rw [fX8_points_41]
    have e : τ.1 0 0 = nI n := by rw [(h.2 0 0 (by omega)).1]; exact h0
    refine wp_t (nI_le (a := 20) (b := 20) (by omega) (by omega)) (wp_some ?_)
    rw [e]
    exact hK τ e h.1 h.2
  · intro m i τ hi h ih
    rw [fX8_points_41]
    refine wp_f (nI_ge (b := 20) hi (by omega)) (wp_gd (ibn hi (by decide)) (wp_nx (wp_gd (ibn hi (by decide)) (wp_nx (wp_nx ?_)))))
    show wp (fX8_points_41 N m (nI i + 1) _) Q
    rw [nI_1, cl i (by omega)]
    refine ih _ ⟨fun z hz => ⟨?_, ?_⟩, fr_I (fr_I h.2 (Or.inl rfl)) (Or.inr rfl)⟩
    · rw [sI_of (by omega)]
      by_cases ez : z = i
      · subst ez; exact sI_at
      · rw [sI_of (by omega)]; exact (h.1 z (by omega)).1
    · by_cases ez : z = i
      · subst ez; exact sI_at
      · rw [sI_of (by omega), sI_of (by omega)]; exact (h.1 z (by omega)).2
theorem M_points {τ : St} {n : Nat} (hn : n ≤ 20) (hN : 3000 ≤ N) : wp (fX8_points N (nI n) τ) (fun r τ' => r = nI n ∧ PM τ' n (fun _ _ => 0) (fun _ => 0) (fun _ => 0) ∧ fr sPM τ τ') := by
  unfold fX8_points
  refine wp_f (nI_pos (by omega)) (wp_t (nI_le (b := 20) hn (by omega)) (wp_nx ?_))
  have key : ∀ m i ρ, i ≤ 400 → 400 - i < m → ((∀ z, z < i → ρ.1 1 z = 0) ∧ ρ.1 0 0 = nI n ∧ fr sPM τ ρ) → wp (fX8_points_19 N m (nI i) ρ) (fun r τ' => r = nI n ∧ PM τ' n (fun _ _ => 0) (fun _ => 0) (fun _ => 0) ∧ fr sPM τ τ') := by
    refine loop_i (fun m i ρ => wp (fX8_points_19 N m (nI i) ρ) (fun r τ' => r = nI n ∧ PM τ' n (fun _ _ => 0) (fun _ => 0) (fun _ => 0) ∧ fr sPM τ τ')) (fun i ρ => (∀ z, z < i → ρ.1 1 z = 0) ∧ ρ.1 0 0 = nI n ∧ fr sPM τ ρ) 400 ?_ ?_
    · intro m ρ h
      rw [fX8_points_19]
      refine wp_t (nI_le (a := 400) (b := 400) (by omega) (by omega)) ?_
      refine M_points41 (σ0 := ρ) (fun ρ2 e1 e2 e3 => ⟨rfl, ⟨e1, fun i j hi hj => ?_, fun i hi => e2 i hi⟩, ?_⟩) h.2.1 N 0 ρ (by omega) (by omega) ⟨fun z hz => absurd hz (by omega), fr_rf⟩
      · rw [(e3 1 _ (by omega)).1]; exact h.1 _ (by omega)
      · refine fr_tr h.2.2 (fr_mo e3 (fun c k hc => ?_))
        unfold sPM; omega
    · intro m i ρ hi h ih
      rw [fX8_points_19]
      refine wp_f (nI_ge (b := 400) hi (by omega)) (wp_gd (ibn hi (by decide)) (wp_nx (wp_nx ?_)))
      show wp (fX8_points_19 N m (nI i + 1) _) _
      rw [nI_1, cl i (by omega)]
      refine ih _ ⟨fun z hz => ?_, ?_, fr_I h.2.2 (Or.inr (Or.inl rfl))⟩
      · by_cases ez : z = i
        · subst ez; exact sI_at
        · rw [sI_of (by omega)]; exact h.1 z (by omega)
      · rw [sI_of (by omega)]; exact h.2.1
  exact key N 0 _ (by omega) (by omega) ⟨fun z hz => absurd hz (by omega), sI_at, fr_I fr_rf (Or.inl ⟨rfl, rfl⟩)⟩
theorem D0 {n : Nat} (hn : n ≤ 20) : DOK n (fun _ _ => 0) (fun _ => 0) (fun _ => 0) := ⟨hn, fun _ _ => ⟨Nat.zero_le _, rfl⟩, fun _ => rfl, fun _ => ⟨(by unfold inR; decide : inR 0), (by unfold inR; decide : inR 0)⟩⟩
theorem J_points {σ τ : St} (h : Rel σ τ) (hN : 3000 ≤ N) (x : Int32) : jt (fX7_points N x σ) (fX8_points N x τ) Rel := by
  rcases ixc x (n := 21) (by omega) with hx | ⟨n, hn, rfl⟩
  · have hm : ¬ x < 0 → ¬ x ≤ (20 : Int32) := by
      intro h0 h1
      rcases hx with hx | hx
      · exact h0 hx
      · have := Int32.le_iff_toInt_le.mp h1
        have := Int32.le_iff_toInt_le.mp hx
        rw [nI_toInt (by omega)] at this
        have e : (20 : Int32).toInt = 20 := by decide
        omega
    refine jt_no h (a := -1) ?_ ?_
    · unfold fX7_points
      by_cases h0 : x < 0
      · rw [if_pos h0]
      · rw [if_neg h0, if_neg (hm h0)]
    · unfold fX8_points
      by_cases h0 : x < 0
      · rw [if_pos h0]
      · rw [if_neg h0, if_neg (hm h0)]
  · refine jt_wp (P := fun r σ' => r = nI n ∧ PX σ' n (fun _ _ => 0) (fun _ => 0) (fun _ => 0) ∧ fr sP σ σ') ?_ (M_points (n := n) (by omega) hN) ?_
    · unfold fX7_points
      refine wp_f (nI_pos (by omega)) (wp_t (nI_le (b := 20) (by omega) (by omega)) (wp_bd (X_start (by omega) hN) (fun _ σ' hq => wp_some ⟨rfl, hq⟩)))
    · intro a b σ' τ' hp hq
      exact ⟨hp.1.trans hq.1.symm, h.P hp.2.2 hq.2.2 ⟨n, _, _, _, D0 (by omega), hp.2.1, hq.2.1⟩⟩
/-- put, distance, place -/
theorem J_put {σ τ : St} (h : Rel σ τ) (x y v : Int32) : jt (fX7_put N x y v σ) (fX8_put N x y v τ) Rel := by
  obtain ⟨n, d, px, py, hd, hX, hM⟩ := h.1
  have hn := hd.1
  unfold fX7_put fX8_put
  rcases ixc x (n := n) (by omega) with hx | ⟨i, hi, rfl⟩
  · refine jt_no h (a := 0) ?_ ?_
    · rw [X_has0 hX.1 hx]; rfl
    · rw [hM.1, M_in0 hx]; rfl
  rw [X_has1 hX.1 hn hi, hM.1, M_in1 (by omega) hi]
  show jt (bd (fX3_has N y σ) _) (bd (fX8_isIn N y (τ.1 0 0) τ) _) Rel
  rcases ixc y (n := n) (by omega) with hy | ⟨j, hj, rfl⟩
  · refine jt_no h (a := 0) ?_ ?_
    · rw [X_has0 hX.1 hy]; rfl
    · rw [hM.1, M_in0 hy]; rfl
  rw [X_has1 hX.1 hn hj, hM.1, M_in1 (by omega) hj]
  show jt (if nI i = nI j then _ else _) (if nI i = nI j then _ else _) Rel
  by_cases hij : nI i = nI j
  · rw [if_pos hij, if_pos hij]; exact jt_no h rfl rfl
  rw [if_neg hij, if_neg hij]
  have hne : i ≠ j := fun e => hij (by rw [e])
  rcases ixc v (n := 2000001) (by omega) with hv | ⟨w, hw, rfl⟩
  · refine jt_no h (a := 0) ?_ ?_
    · by_cases h0 : v < 0
      · rw [if_pos h0]
      · rw [if_neg h0, if_neg]
        intro h1
        rcases hv with hv | hv
        · exact h0 hv
        · have a1 := Int32.le_iff_toInt_le.mp h1
          have a2 := Int32.le_iff_toInt_le.mp hv
          rw [nI_toInt (by omega)] at a2
          have e : (2000000 : Int32).toInt = 2000000 := by decide
          omega
    · show bd (fX8_isIn N v (nI 2000001) τ) _ = _
      rw [M_in0 hv]; rfl
  · rw [if_neg (nI_pos (by omega)), if_pos (show nI w ≤ (2000000 : Int32) from nI_le (a := w) (b := 2000000) (by omega) (by omega))]
    show jt _ (bd (fX8_isIn N (nI w) (nI 2000001) τ) _) Rel
    rw [M_in1 (by omega) hw]
    refine jt_wp (P := fun r σ' => r = 1 ∧ PX σ' n (dset d i j w) px py ∧ fr sP σ σ') (Q := fun r τ' => r = 1 ∧ PM τ' n (dset d i j w) px py ∧ fr sPM τ τ') ?_ ?_ ?_
    · exact wp_bd (X_set hX (by omega) (by omega)) (fun _ σ' hq => wp_some ⟨rfl, hq.1, fr_mo hq.2 (fun c k hc => by unfold sP; omega)⟩)
    · show wp (bd (fX8_sets N (nI i) (nI j) (nI w) τ) _) _
      exact wp_bd (M_set hM (by omega) (by omega)) (fun _ σ' hq => wp_some ⟨rfl, hq.1, fr_mo hq.2 (fun c k hc => by unfold sPM; omega)⟩)
    · intro a b σ' τ' hp hq
      exact ⟨hp.1.trans hq.1.symm, h.P hp.2.2 hq.2.2 ⟨n, _, _, _, dset_ok hd hne (by omega), hp.2.1, hq.2.1⟩⟩
theorem J_distance {σ τ : St} (h : Rel σ τ) (x y : Int32) : jt (fX7_distance N x y σ) (fX8_distance N x y τ) Rel := by
  obtain ⟨n, d, px, py, hd, hX, hM⟩ := h.1
  have hn := hd.1
  unfold fX7_distance fX8_distance
  rcases ixc x (n := n) (by omega) with hx | ⟨i, hi, rfl⟩
  · refine jt_no h (a := -1) ?_ ?_
    · rw [X_has0 hX.1 hx]; rfl
    · rw [hM.1, M_in0 hx]; rfl
  rw [X_has1 hX.1 hn hi, hM.1, M_in1 (by omega) hi]
  show jt (bd (fX3_has N y σ) _) (bd (fX8_isIn N y (τ.1 0 0) τ) _) Rel
  rcases ixc y (n := n) (by omega) with hy | ⟨j, hj, rfl⟩
  · refine jt_no h (a := -1) ?_ ?_
    · rw [X_has0 hX.1 hy]; rfl
    · rw [hM.1, M_in0 hy]; rfl
  rw [X_has1 hX.1 hn hj, hM.1, M_in1 (by omega) hj]
  show jt (gd (ib (nI i) 20) (gd (ib (nI j) 20) (some _))) (gd (ib (20 * nI i + nI j) 400) (some _)) Rel
  rw [i20 (by omega) (by omega)]
  refine jt_no h (a := nI (d i j)) ?_ ?_
  · unfold gd
    rw [if_pos (ibn (by omega) (by decide)), if_pos (ibn (by omega) (by decide)), cl i (by omega), cl j (by omega), Nat.one_mul, hX.2.1 i j (by omega) (by omega)]
  · unfold gd
    rw [if_pos (ibn (by omega) (by decide)), cl _ (by omega), hM.2.1 i j (by omega) (by omega)]
def pset (p : Nat → Int32) (i : Nat) (v : Int32) : Nat → Int32 := fun a => if a = i then v else p a
theorem far_no {N : Nat} {σ : St} {x : Int32} (h : ¬ x < -500) (h2 : x ≤ 500) : fX7_isTooFar N x σ = some (0, σ) := by
  unfold fX7_isTooFar; rw [if_neg h, if_pos h2]
theorem far_lo {N : Nat} {σ : St} {x : Int32} (h : x < -500) : fX7_isTooFar N x σ = some (1, σ) := by
  unfold fX7_isTooFar; rw [if_pos h]
theorem far_hi {N : Nat} {σ : St} {x : Int32} (h : ¬ x < -500) (h2 : ¬ x ≤ 500) : fX7_isTooFar N x σ = some (1, σ) := by
  unfold fX7_isTooFar; rw [if_neg h, if_neg h2]
theorem inR_of {x : Int32} (h : ¬ x < -500) (h2 : x ≤ 500) : inR x := by
  have a1 := Int32.le_iff_toInt_le.mp h2
  have a2 : ¬ x.toInt < (-500 : Int32).toInt := fun z => h (Int32.lt_iff_toInt_lt.mpr z)
  have e : (500 : Int32).toInt = 500 := by decide
  have e2 : (-500 : Int32).toInt = -500 := by decide
  rw [e2] at a2
  rw [e] at a1
  unfold inR
  omega
theorem J_place {σ τ : St} (h : Rel σ τ) (x u v : Int32) : jt (fX7_place N x u v σ) (fX8_place N x u v τ) Rel := by
  obtain ⟨n, d, px, py, hd, hX, hM⟩ := h.1
  have hn := hd.1
  unfold fX7_place fX8_place
  rcases ixc x (n := n) (by omega) with hx | ⟨i, hi, rfl⟩
  · refine jt_no h (a := 0) ?_ ?_
    · rw [X_has0 hX.1 hx]; rfl
    · rw [hM.1, M_in0 hx]; rfl
  rw [X_has1 hX.1 hn hi, hM.1, M_in1 (by omega) hi]
  show jt (bd (fX7_isTooFar N u σ) _) (if u < -500 then _ else _) Rel
  by_cases h1 : u < -500
  · rw [far_lo h1, if_pos h1]; exact jt_no h rfl rfl
  rw [if_neg h1]
  by_cases h2 : u ≤ 500
  · rw [far_no h1 h2, if_neg (Int32.not_lt.mpr h2)]
    show jt (bd (fX7_isTooFar N v σ) _) (if v < -500 then _ else _) Rel
    by_cases h3 : v < -500
    · rw [far_lo h3, if_pos h3]; exact jt_no h rfl rfl
    rw [if_neg h3]
    by_cases h4 : v ≤ 500
    · rw [far_no h3 h4, if_pos h4]
      refine jt_wp (P := fun r σ' => r = 1 ∧ PX σ' n d (pset px i u) (pset py i v) ∧ fr sP σ σ') (Q := fun r τ' => r = 1 ∧ PM τ' n d (pset px i u) (pset py i v) ∧ fr sPM τ τ') ?_ ?_ ?_
      · refine wp_gd (ibn (by omega) (by decide)) (wp_nx (wp_gd (ibn (by omega) (by decide)) (wp_nx (wp_some ?_))))
        rw [cl i (by omega)]
        refine ⟨rfl, ⟨?_, fun a b ha hb => ?_, fun a ha => ⟨?_, ?_⟩⟩, fr_I (fr_I fr_rf (Or.inr (Or.inl rfl))) (Or.inr (Or.inr (Or.inl rfl)))⟩
        · rw [sI_of (by omega), sI_of (by omega)]; exact hX.1
        · rw [sI_of (by omega), sI_of (by omega)]; exact hX.2.1 a b ha hb
        · rw [sI_of (by omega)]; unfold pset
          by_cases e : a = i
          · rw [if_pos e, e]; exact sI_at
          · rw [if_neg e, sI_of (by omega)]; exact (hX.2.2 a ha).1
        · unfold pset
          by_cases e : a = i
          · rw [if_pos e, e]; exact sI_at
          · rw [if_neg e, sI_of (by omega), sI_of (by omega)]; exact (hX.2.2 a ha).2
      · refine wp_gd (ibn (by omega) (by decide)) (wp_nx (wp_gd (ibn (by omega) (by decide)) (wp_nx (wp_some ?_))))
        rw [cl i (by omega)]
        refine ⟨rfl, ⟨?_, fun a b ha hb => ?_, fun a ha => ⟨?_, ?_⟩⟩, fr_I (fr_I fr_rf (Or.inr (Or.inr (Or.inl rfl)))) (Or.inr (Or.inr (Or.inr rfl)))⟩
        · rw [sI_of (by omega), sI_of (by omega)]; exact hM.1
        · rw [sI_of (by omega), sI_of (by omega)]; exact hM.2.1 a b ha hb
        · rw [sI_of (by omega)]; unfold pset
          by_cases e : a = i
          · rw [if_pos e, e]; exact sI_at
          · rw [if_neg e, sI_of (by omega)]; exact (hM.2.2 a ha).1
        · unfold pset
          by_cases e : a = i
          · rw [if_pos e, e]; exact sI_at
          · rw [if_neg e, sI_of (by omega), sI_of (by omega)]; exact (hM.2.2 a ha).2
      · intro a b σ' τ' hp hq
        refine ⟨hp.1.trans hq.1.symm, h.P hp.2.2 hq.2.2 ⟨n, _, _, _, ⟨hd.1, hd.2.1, hd.2.2.1, fun z => ⟨?_, ?_⟩⟩, hp.2.1, hq.2.1⟩⟩
        · unfold pset; split
          · exact inR_of h1 h2
          · exact (hd.2.2.2 z).1
        · unfold pset; split
          · exact inR_of h3 h4
          · exact (hd.2.2.2 z).2
    · rw [far_hi h3 h4, if_neg h4]; exact jt_no h rfl rfl
  · rw [far_hi h1 h2, if_pos (Int32.not_le.mp h2)]; exact jt_no h rfl rfl
end
