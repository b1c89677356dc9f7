/-! sums and extremes over the pairs of two clusters -/
section
variable {d w : Nat → Nat → Nat} {P Q A B : Nat → Bool} {op : Nat → Nat → Nat}
def sm (g : Nat → Nat) : Nat → Nat
  | 0 => 0
  | k + 1 => sm g k + g k
theorem sm_con {g h : Nat → Nat} : ∀ k, (∀ i, i < k → g i = h i) → sm g k = sm h k
  | 0, _ => rfl
  | k + 1, e => by
    show sm g k + g k = sm h k + h k
    rw [sm_con k (fun i hi => e i (by omega)), e k (by omega)]
theorem sm_add {g h : Nat → Nat} : ∀ k, sm (fun i => g i + h i) k = sm g k + sm h k
  | 0 => rfl
  | k + 1 => by
    show sm _ k + (g k + h k) = sm g k + g k + (sm h k + h k)
    rw [sm_add k]; omega
theorem sm_z : ∀ k, sm (fun _ => 0) k = 0
  | 0 => rfl
  | k + 1 => by show sm _ k + 0 = 0; rw [sm_z k]
theorem sm_mul {g : Nat → Nat} {c : Nat} : ∀ k, sm (fun i => g i * c) k = sm g k * c
  | 0 => (Nat.zero_mul c).symm
  | k + 1 => by
    show sm _ k + g k * c = (sm g k + g k) * c
    rw [sm_mul k, Nat.add_mul]
theorem sm_le {g h : Nat → Nat} : ∀ k, (∀ i, i < k → g i ≤ h i) → sm g k ≤ sm h k
  | 0, _ => Nat.le_refl _
  | k + 1, e => Nat.add_le_add (sm_le k (fun i hi => e i (by omega))) (e k (by omega))
theorem sm_swap {f : Nat → Nat → Nat} : ∀ k m, sm (fun i => sm (fun j => f i j) m) k = sm (fun j => sm (fun i => f i j) k) m
  | 0, m => (sm_z m).symm
  | k + 1, m => by
    show sm _ k + sm (fun j => f k j) m = sm (fun j => sm (fun i => f i j) k + f k j) m
    rw [sm_swap k m, sm_add]
theorem sm_one {g : Nat → Nat} {a : Nat} : ∀ k, (∀ i, i ≠ a → g i = 0) → sm g k = if a < k then g a else 0
  | 0, _ => rfl
  | k + 1, e => by
    show sm g k + g k = _
    rw [sm_one k e]
    by_cases h : k = a
    · subst h; rw [if_neg (by omega), if_pos (by omega), Nat.zero_add]
    · rw [e k h]
      by_cases h2 : a < k
      · rw [if_pos h2, if_pos (by omega), Nat.add_zero]
      · rw [if_neg h2, if_neg (by omega)]
/-- one pair's part -/
def pt (w : Nat → Nat → Nat) (P Q : Nat → Bool) (i j : Nat) : Nat := if P i = true ∧ Q j = true then w i j else 0
def SS (w : Nat → Nat → Nat) (P Q : Nat → Bool) : Nat := sm (fun i => sm (fun j => pt w P Q i j) 20) 20
theorem SS_con {w2 : Nat → Nat → Nat} (h : ∀ i j, P i = true → Q j = true → w i j = w2 i j) : SS w P Q = SS w2 P Q := by
  refine sm_con _ (fun i _ => sm_con _ (fun j _ => ?_))
  unfold pt
  by_cases e : P i = true ∧ Q j = true
  · rw [if_pos e, if_pos e, h i j e.1 e.2]
  · rw [if_neg e, if_neg e]
theorem SS_sym (h : ∀ i j, w i j = w j i) : SS w P Q = SS w Q P := by
  unfold SS
  rw [sm_swap]
  refine sm_con _ (fun i _ => sm_con _ (fun j _ => ?_))
  unfold pt
  rw [h j i]
  by_cases e : P j = true ∧ Q i = true
  · rw [if_pos e, if_pos e.symm]
  · rw [if_neg e, if_neg (fun z => e z.symm)]
theorem SS_or (h : ∀ i, P i = (A i || B i)) (hd : ∀ i, ¬ (A i = true ∧ B i = true)) : SS w P Q = SS w A Q + SS w B Q := by
  unfold SS
  rw [← sm_add]
  refine sm_con _ (fun i _ => ?_)
  rw [← sm_add]
  refine sm_con _ (fun j _ => ?_)
  unfold pt
  rw [h i]
  have := hd i
  cases e1 : A i <;> cases e2 : B i <;> simp_all
theorem SS_or2 (h : ∀ i, Q i = (A i || B i)) (hd : ∀ i, ¬ (A i = true ∧ B i = true)) : SS w P Q = SS w P A + SS w P B := by
  unfold SS
  rw [← sm_add]
  refine sm_con _ (fun i _ => ?_)
  rw [← sm_add]
  refine sm_con _ (fun j _ => ?_)
  unfold pt
  rw [h j]
  have := hd j
  cases e1 : A j <;> cases e2 : B j <;> simp_all
theorem SS_le {D : Nat} (h : ∀ i j, w i j ≤ D) : SS w P Q ≤ pcp P 20 * (pcp Q 20 * D) := by
  have row : ∀ (i k : Nat), sm (fun j => pt w P Q i j) k ≤ (if P i = true then 1 else 0) * (pcp Q k * D) := by
    intro i k
    induction k with
    | zero => exact Nat.zero_le _
    | succ k ih =>
      show sm _ k + pt w P Q i k ≤ _ * ((pcp Q k + (if Q k = true then 1 else 0)) * D)
      rw [Nat.add_mul, Nat.mul_add]
      refine Nat.add_le_add ih ?_
      unfold pt
      by_cases e : P i = true <;> by_cases e2 : Q k = true <;> simp [e, e2, h]
  have all : ∀ k, sm (fun i => sm (fun j => pt w P Q i j) 20) k ≤ pcp P k * (pcp Q 20 * D) := by
    intro k
    induction k with
    | zero => exact Nat.zero_le _
    | succ k ih =>
      show sm _ k + _ ≤ (pcp P k + (if P k = true then 1 else 0)) * _
      rw [Nat.add_mul]
      exact Nat.add_le_add ih (row k 20)
  exact all 20
theorem SS_mul {c : Nat} : SS (fun i j => w i j * c) P Q = SS w P Q * c := by
  unfold SS
  rw [← sm_mul]
  refine sm_con _ (fun i _ => ?_)
  rw [← sm_mul]
  refine sm_con _ (fun j _ => ?_)
  unfold pt
  split
  · rfl
  · exact (Nat.zero_mul _).symm
theorem SS_one {a b : Nat} (ha : a < 20) (hb : b < 20) (hP : ∀ i, P i = decide (i = a)) (hQ : ∀ i, Q i = decide (i = b)) : SS w P Q = w a b := by
  unfold SS
  rw [sm_one (a := a)]
  · rw [if_pos ha, sm_one (a := b)]
    · rw [if_pos hb]; unfold pt; rw [hP, hQ]; simp
    · intro j hj; unfold pt; rw [hQ j, if_neg]; simp [hj]
  · intro i hi
    refine (sm_con _ (fun j _ => ?_)).trans (sm_z 20)
    unfold pt; rw [hP i, if_neg]; simp [hi]
/-- the fold over the pairs, row by row -/
def ap (op : Nat → Nat → Nat) (o : Option Nat) (v : Nat) : Nat := match o with
  | none => v
  | some b => op b v
def fo (op : Nat → Nat → Nat) (d : Nat → Nat → Nat) (P Q : Nat → Bool) (i : Nat) (o : Option Nat) : Nat → Option Nat
  | 0 => o
  | j + 1 => if P i = true ∧ Q j = true then some (ap op (fo op d P Q i o j) (d i j)) else fo op d P Q i o j
def fa (op : Nat → Nat → Nat) (d : Nat → Nat → Nat) (P Q : Nat → Bool) (m : Nat) : Nat → Option Nat
  | 0 => none
  | i + 1 => fo op d P Q i (fa op d P Q m i) m
theorem fo_ext {n i : Nat} {o : Option Nat} (hQ : ∀ j, Q j = true → j < n) : ∀ k, fo op d P Q i o (n + k) = fo op d P Q i o n
  | 0 => rfl
  | k + 1 => by
    show (if P i = true ∧ Q (n + k) = true then _ else fo op d P Q i o (n + k)) = _
    rw [if_neg (fun z => by have := hQ _ z.2; omega), fo_ext hQ k]
theorem fo_no {i : Nat} {o : Option Nat} (hP : ¬ P i = true) : ∀ k, fo op d P Q i o k = o
  | 0 => rfl
  | k + 1 => by
    show (if P i = true ∧ Q k = true then _ else fo op d P Q i o k) = _
    rw [if_neg (fun z => hP z.1), fo_no hP k]
theorem fa_ext {n : Nat} (hn : n ≤ 20) (hP : ∀ j, P j = true → j < n) (hQ : ∀ j, Q j = true → j < n) : fa op d P Q 20 20 = fa op d P Q n n := by
  have e1 : ∀ i, fa op d P Q 20 i = fa op d P Q n i := by
    intro i
    induction i with
    | zero => rfl
    | succ i ih =>
      show fo op d P Q i (fa op d P Q 20 i) 20 = fo op d P Q i (fa op d P Q n i) n
      rw [ih]
      have := fo_ext (op := op) (d := d) (P := P) (i := i) (o := fa op d P Q n i) hQ (20 - n)
      rw [show n + (20 - n) = 20 by omega] at this
      exact this
  rw [e1]
  have e2 : ∀ k, fa op d P Q n (n + k) = fa op d P Q n n := by
    intro k
    induction k with
    | zero => rfl
    | succ k ih =>
      show fo op d P Q (n + k) (fa op d P Q n (n + k)) n = _
      rw [fo_no (fun z => by have := hP _ z; omega), ih]
  have := e2 (20 - n)
  rw [show n + (20 - n) = 20 by omega] at this
  exact this
theorem fa_sum : (fa (fun a b => a + b) d P Q 20 20).getD 0 = SS d P Q := by
  have row : ∀ i o k, (fo (fun a b => a + b) d P Q i o k).getD 0 = o.getD 0 + sm (fun j => pt d P Q i j) k := by
    intro i o k
    induction k with
    | zero => rfl
    | succ k ih =>
      show (if P i = true ∧ Q k = true then _ else _ : Option Nat).getD 0 = _ + (sm _ k + pt d P Q i k)
      unfold pt
      by_cases e : P i = true ∧ Q k = true
      · rw [if_pos e, if_pos e]
        have ih' := ih
        cases hf : fo (fun a b => a + b) d P Q i o k with
        | none => rw [hf] at ih'; simp [ap] at ih' ⊢; unfold pt at ih'; omega
        | some b => rw [hf] at ih'; simp [ap] at ih' ⊢; unfold pt at ih'; omega
      · rw [if_neg e, if_neg e, ih]; rfl
  have all : ∀ k, (fa (fun a b => a + b) d P Q 20 k).getD 0 = sm (fun i => sm (fun j => pt d P Q i j) 20) k := by
    intro k
    induction k with
    | zero => rfl
    | succ k ih =>
      show (fo _ d P Q k _ 20).getD 0 = sm _ k + _
      rw [row, ih]
  exact all 20
/-- the greatest or least of a set of pairs -/
def rl (g : Bool) (v m : Nat) : Prop := if g = true then v ≤ m else m ≤ v
def isE (g : Bool) (d : Nat → Nat → Nat) (P Q : Nat → Bool) (m : Nat) : Prop := (∃ i j, P i = true ∧ Q j = true ∧ d i j = m) ∧ ∀ i j, P i = true → Q j = true → rl g (d i j) m
theorem rl_anti {g : Bool} {a b : Nat} (h : rl g a b) (h2 : rl g b a) : a = b := by
  unfold rl at h h2
  cases g <;> simp at h h2 <;> omega
theorem isE_u {g : Bool} {m m2 : Nat} (h : isE g d P Q m) (h2 : isE g d P Q m2) : m = m2 := by
  obtain ⟨⟨i, j, a1, a2, a3⟩, a4⟩ := h
  obtain ⟨⟨k, l, b1, b2, b3⟩, b4⟩ := h2
  have c1 := b4 i j a1 a2
  have c2 := a4 k l b1 b2
  rw [a3] at c1
  rw [b3] at c2
  exact rl_anti c1 c2
theorem isE_sym {g : Bool} {m : Nat} (hs : ∀ i j, d i j = d j i) (h : isE g d P Q m) : isE g d Q P m := by
  obtain ⟨⟨i, j, a1, a2, a3⟩, a4⟩ := h
  exact ⟨⟨j, i, a2, a1, by rw [hs]; exact a3⟩, fun k l h1 h2 => by rw [hs]; exact a4 l k h2 h1⟩
def opg (g : Bool) (a b : Nat) : Nat := if g = true then max a b else min a b
theorem isE_or {g : Bool} {x y : Nat} (h : ∀ i, P i = (A i || B i)) (hx : isE g d A Q x) (hy : isE g d B Q y) : isE g d P Q (opg g x y) := by
  obtain ⟨⟨i, j, a1, a2, a3⟩, a4⟩ := hx
  obtain ⟨⟨k, l, b1, b2, b3⟩, b4⟩ := hy
  refine ⟨?_, fun p q hp hq => ?_⟩
  · by_cases c : opg g x y = x
    · exact ⟨i, j, by rw [h, a1]; rfl, a2, by rw [c]; exact a3⟩
    · refine ⟨k, l, by rw [h, b1]; simp, b2, ?_⟩
      rw [b3]
      unfold opg at c ⊢
      cases g <;> simp at c ⊢ <;> omega
  · rw [h] at hp
    have : rl g (d p q) x ∨ rl g (d p q) y := by
      cases ea : A p with
      | true => exact Or.inl (a4 p q ea hq)
      | false => rw [ea] at hp; exact Or.inr (b4 p q (by simpa using hp) hq)
    unfold rl opg at *
    cases g <;> simp at this ⊢ <;> omega
theorem isE_one {g : Bool} {a b : Nat} (hP : ∀ i, P i = decide (i = a)) (hQ : ∀ i, Q i = decide (i = b)) : isE g d P Q (d a b) := by
  refine ⟨⟨a, b, by rw [hP]; simp, by rw [hQ]; simp, rfl⟩, fun i j hi hj => ?_⟩
  rw [hP] at hi; rw [hQ] at hj
  have := of_decide_eq_true hi
  have := of_decide_eq_true hj
  subst i; subst j
  unfold rl; split <;> exact Nat.le_refl _
/-- of the pairs met so far -/
def isP (g : Bool) (d : Nat → Nat → Nat) (P Q : Nat → Bool) (D : Nat → Nat → Prop) (o : Option Nat) : Prop := (∀ m, o = some m → (∃ i j, D i j ∧ P i = true ∧ Q j = true ∧ d i j = m) ∧ ∀ i j, D i j → P i = true → Q j = true → rl g (d i j) m) ∧ (o = none → ∀ i j, D i j → P i = true → Q j = true → False)
theorem isP_con {g : Bool} {D E : Nat → Nat → Prop} {o : Option Nat} (h : isP g d P Q D o) (hi : ∀ i j, P i = true → Q j = true → (D i j ↔ E i j)) : isP g d P Q E o := by
  refine ⟨fun m hm => ⟨?_, fun i j hE hp hq => (h.1 m hm).2 i j ((hi i j hp hq).mpr hE) hp hq⟩, fun ho i j hE hp hq => h.2 ho i j ((hi i j hp hq).mpr hE) hp hq⟩
  obtain ⟨i, j, hD, hp, hq, e⟩ := (h.1 m hm).1
  exact ⟨i, j, (hi i j hp hq).mp hD, hp, hq, e⟩
theorem isP_step {g : Bool} {D : Nat → Nat → Prop} {o : Option Nat} {a b : Nat} (h : isP g d P Q D o) (hp : P a = true) (hq : Q b = true) : isP g d P Q (fun i j => D i j ∨ (i = a ∧ j = b)) (some (ap (opg g) o (d a b))) := by
  refine ⟨fun m hm => ?_, fun ho => by cases ho⟩
  cases hm
  cases o with
  | none =>
    refine ⟨⟨a, b, Or.inr ⟨rfl, rfl⟩, hp, hq, rfl⟩, fun i j hD hpi hqj => ?_⟩
    rcases hD with hD | ⟨rfl, rfl⟩
    · exact absurd (h.2 rfl i j hD hpi hqj) id
    · show rl g _ (d i j); unfold rl; split <;> exact Nat.le_refl _
  | some m =>
    obtain ⟨⟨i, j, hD, a1, a2, a3⟩, a4⟩ := h.1 m rfl
    show (∃ i j, _ ∧ _ ∧ _ ∧ d i j = opg g m (d a b)) ∧ ∀ i j, _ → _ → _ → rl g (d i j) (opg g m (d a b))
    refine ⟨?_, fun p q hD' hpp hqq => ?_⟩
    · by_cases c : opg g m (d a b) = m
      · exact ⟨i, j, Or.inl hD, a1, a2, by rw [c]; exact a3⟩
      · refine ⟨a, b, Or.inr ⟨rfl, rfl⟩, hp, hq, ?_⟩
        unfold opg at c ⊢
        cases g <;> simp at c ⊢ <;> omega
    · have : rl g (d p q) m ∨ rl g (d p q) (d a b) := by
        rcases hD' with z | ⟨rfl, rfl⟩
        · exact Or.inl (a4 p q z hpp hqq)
        · right; unfold rl; split <;> exact Nat.le_refl _
      unfold rl opg at *
      cases g <;> simp at this ⊢ <;> omega
theorem fa_E {g : Bool} (hP : ∀ j, P j = true → j < 20) (hQ : ∀ j, Q j = true → j < 20) (h1 : ∃ i, P i = true) (h2 : ∃ i, Q i = true) : ∃ m, fa (opg g) d P Q 20 20 = some m ∧ isE g d P Q m := by
  have row : ∀ i o k, isP g d P Q (fun a b => a < i) o → isP g d P Q (fun a b => a < i ∨ (a = i ∧ b < k)) (fo (opg g) d P Q i o k) := by
    intro i o k ho
    induction k with
    | zero => exact isP_con ho (fun a b _ _ => by constructor <;> (intro h; omega))
    | succ k ih =>
      show isP g d P Q _ (if P i = true ∧ Q k = true then _ else _)
      by_cases e : P i = true ∧ Q k = true
      · rw [if_pos e]
        exact isP_con (isP_step ih e.1 e.2) (fun a b _ _ => by constructor <;> (intro h; omega))
      · rw [if_neg e]
        refine isP_con ih (fun a b ha hb => ?_)
        constructor
        · intro h; omega
        · intro h
          by_cases e2 : a = i ∧ b = k
          · exact absurd ⟨e2.1 ▸ ha, e2.2 ▸ hb⟩ e
          · omega
  have all : ∀ k, isP g d P Q (fun a b => a < k) (fa (opg g) d P Q 20 k) := by
    intro k
    induction k with
    | zero => exact ⟨fun m hm => (by cases hm), fun _ i j hD => absurd hD (Nat.not_lt_zero _)⟩
    | succ k ih =>
      refine isP_con (row k _ 20 ih) (fun a b ha hb => ?_)
      have := hQ b hb
      omega
  have z := all 20
  cases hf : fa (opg g) d P Q 20 20 with
  | none =>
    obtain ⟨i, hi⟩ := h1
    obtain ⟨j, hj⟩ := h2
    exact absurd (z.2 hf i j (hP i hi) hi hj) id
  | some m =>
    obtain ⟨⟨i, j, hD, a1, a2, a3⟩, a4⟩ := z.1 m hf
    exact ⟨m, rfl, ⟨i, j, a1, a2, a3⟩, fun p q hp hq => a4 p q (hP p hp) hp hq⟩
/-- the pairs within one cluster -/
def SI (d : Nat → Nat → Nat) (P : Nat → Bool) : Nat := sm (fun i => sm (fun j => pt d P P i j) i) 20
theorem sm_tri {f : Nat → Nat → Nat} (hs : ∀ i j, f i j = f j i) (hz : ∀ i, f i i = 0) : ∀ k, sm (fun i => sm (fun j => f i j) k) k = 2 * sm (fun i => sm (fun j => f i j) i) k
  | 0 => rfl
  | k + 1 => by
    show sm (fun i => sm (fun j => f i j) k + f i k) k + (sm (fun j => f k j) k + f k k) = 2 * (sm (fun i => sm (fun j => f i j) i) k + sm (fun j => f k j) k)
    rw [sm_add, sm_tri hs hz k, hz k, sm_con (g := fun i => f i k) (h := fun j => f k j) k (fun i _ => hs i k)]
    omega
theorem SI_2 (hs : ∀ i j, d i j = d j i) (hz : ∀ i, d i i = 0) : SS d P P = 2 * SI d P := by
  unfold SS SI
  refine sm_tri (f := fun i j => pt d P P i j) (fun i j => ?_) (fun i => ?_) 20
  · unfold pt
    rw [hs i j]
    by_cases e : P i = true ∧ P j = true
    · rw [if_pos e, if_pos e.symm]
    · rw [if_neg e, if_neg (fun z => e z.symm)]
  · unfold pt; rw [hz]; split <;> rfl
theorem SI_or (hs : ∀ i j, d i j = d j i) (hz : ∀ i, d i i = 0) (h : ∀ i, P i = (A i || B i)) (hd : ∀ i, ¬ (A i = true ∧ B i = true)) : SI d P = SI d A + SI d B + SS d A B := by
  have e1 := SI_2 (P := P) hs hz
  have e2 := SI_2 (P := A) hs hz
  have e3 := SI_2 (P := B) hs hz
  rw [SS_or h hd, SS_or2 h hd, SS_or2 h hd, SS_sym (P := B) (Q := A) hs] at e1
  omega
end
