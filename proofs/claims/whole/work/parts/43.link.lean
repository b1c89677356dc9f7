/-! the linkage of two clusters -/
def nz (P : Nat → Bool) : Nat := pcp P 20
def wd (d : Nat → Nat → Nat) (dep : Nat → Nat) (i j : Nat) : Nat := d i j * 2 ^ (18 - dep i - dep j)
/-- the core, the top, the bottom: as they are before they are lowered -/
def VC (kd : Nat) (d : Nat → Nat → Nat) (dep : Nat → Nat) (P Q : Nat → Bool) : Nat := if kd = 4 then SS (wd d dep) P Q else (fa (opk kd) d P Q 20 20).getD 0
def VT (kd : Nat) (d : Nat → Nat → Nat) (dep : Nat → Nat) (P Q : Nat → Bool) : Int := if kd = 3 then 2 * ((nz P : Int) * nz Q * SS d P Q - (nz Q : Int) * nz Q * SI d P - (nz P : Int) * nz P * SI d Q) else (VC kd d dep P Q : Int)
def VB (kd : Nat) (P Q : Nat → Bool) : Nat := if kd = 2 then nz P * nz Q else if kd = 3 then nz P * nz Q * (nz P + nz Q) else if kd = 4 then 262144 else 1
theorem opk_s {kd : Nat} (h : kd = 2 ∨ kd = 3) : opk kd = fun a b => a + b := by
  funext a b
  unfold opk
  rw [if_neg (by omega), if_neg (by omega), if_neg (by omega)]
theorem opk_0 : opk 0 = opg false := by funext a b; rfl
theorem opk_1 : opk 1 = opg true := by funext a b; rfl
theorem VC_s {kd : Nat} {d : Nat → Nat → Nat} {dep : Nat → Nat} {P Q : Nat → Bool} (h : kd = 2 ∨ kd = 3) : VC kd d dep P Q = SS d P Q := by
  unfold VC
  rw [if_neg (by omega), opk_s h, fa_sum]
theorem nz_le (P : Nat → Bool) : nz P ≤ 20 := pcp_le _ _
theorem nz_pos {P : Nat → Bool} (h : ∃ i, i < 20 ∧ P i = true) : 1 ≤ nz P := by
  obtain ⟨i, hi, hp⟩ := h
  have h1 := pcp_up P (i + 1) (20 - (i + 1))
  rw [show i + 1 + (20 - (i + 1)) = 20 by omega] at h1
  have h2 : 1 ≤ pcp P (i + 1) := by
    show 1 ≤ pcp P i + (if P i = true then 1 else 0)
    rw [if_pos hp]; omega
  unfold nz
  omega
theorem VB_ok {kd : Nat} {P Q : Nat → Bool} (h1 : 1 ≤ nz P) (h2 : 1 ≤ nz Q) : 1 ≤ VB kd P Q ∧ VB kd P Q ≤ 262144 := by
  have a := nz_le P
  have b := nz_le Q
  have c1 : 1 * 1 ≤ nz P * nz Q := Nat.mul_le_mul h1 h2
  have c2 : nz P * nz Q ≤ 20 * 20 := Nat.mul_le_mul a b
  have c3 : 1 * 1 ≤ nz P * nz Q * (nz P + nz Q) := Nat.mul_le_mul c1 (by omega)
  have c4 : nz P * nz Q * (nz P + nz Q) ≤ 400 * 40 := Nat.mul_le_mul c2 (by omega)
  unfold VB
  split
  · omega
  split
  · omega
  split <;> omega
theorem SS_bd {d : Nat → Nat → Nat} {D : Nat} {P Q : Nat → Bool} (h : ∀ i j, d i j ≤ D) : SS d P Q ≤ 400 * D := by
  have h1 := SS_le (P := P) (Q := Q) h
  have h2 : pcp P 20 * (pcp Q 20 * D) ≤ 20 * (20 * D) := Nat.mul_le_mul (pcp_le _ _) (Nat.mul_le_mul_right _ (pcp_le _ _))
  omega
theorem wd_le {d : Nat → Nat → Nat} {dep : Nat → Nat} {D : Nat} (h : ∀ i j, d i j ≤ D) : ∀ i j, wd d dep i j ≤ D * 262144 := fun i j => Nat.mul_le_mul (h i j) (by
  have : 2 ^ (18 - dep i - dep j) ≤ 2 ^ 18 := Nat.pow_le_pow_right (by omega) (by omega)
  exact this)
theorem VT_bd {kd : Nat} {d : Nat → Nat → Nat} {dep : Nat → Nat} {P Q : Nat → Bool} (hD : ∀ i j, d i j ≤ 2000000) (hs : ∀ i j, d i j = d j i) (hz : ∀ i, d i i = 0) : -1000000000000 ≤ VT kd d dep P Q ∧ VT kd d dep P Q ≤ 400000000000000 ∧ (kd ≠ 4 → VT kd d dep P Q ≤ 1000000000000) := by
  have s1 := SS_bd (P := P) (Q := Q) hD
  have s2 := SS_bd (P := P) (Q := P) hD
  have s3 := SS_bd (P := Q) (Q := Q) hD
  have e2 := SI_2 (P := P) hs hz
  have e3 := SI_2 (P := Q) hs hz
  have a := nz_le P
  have b := nz_le Q
  unfold VT
  by_cases h3 : kd = 3
  · rw [if_pos h3]
    have m1 : nz P * nz Q * SS d P Q ≤ 400 * 800000000 := Nat.mul_le_mul (Nat.mul_le_mul a b) (by omega)
    have m2 : nz Q * nz Q * SI d P ≤ 400 * 400000000 := Nat.mul_le_mul (Nat.mul_le_mul b b) (by omega)
    have m3 : nz P * nz P * SI d Q ≤ 400 * 400000000 := Nat.mul_le_mul (Nat.mul_le_mul a a) (by omega)
    have m1' : (nz P : Int) * nz Q * SS d P Q = ((nz P * nz Q * SS d P Q : Nat) : Int) := by rw [Int.natCast_mul, Int.natCast_mul]
    have m2' : (nz Q : Int) * nz Q * SI d P = ((nz Q * nz Q * SI d P : Nat) : Int) := by rw [Int.natCast_mul, Int.natCast_mul]
    have m3' : (nz P : Int) * nz P * SI d Q = ((nz P * nz P * SI d Q : Nat) : Int) := by rw [Int.natCast_mul, Int.natCast_mul]
    rw [m1', m2', m3']
    generalize nz P * nz Q * SS d P Q = u at *
    generalize nz Q * nz Q * SI d P = v at *
    generalize nz P * nz P * SI d Q = w at *
    omega
  · rw [if_neg h3]
    unfold VC
    by_cases h4 : kd = 4
    · rw [if_pos h4]
      have := SS_bd (P := P) (Q := Q) (wd_le (dep := dep) hD)
      omega
    · rw [if_neg h4]
      have := fa_le (m := 20) (P := P) (Q := Q) (opk_le kd) hD 20
      omega
section
variable {N : Nat}
theorem X_bc {σ : St} {x : Int32} (hx : ∀ i, bt x i = true → i < 20) : fJ6_bitCount_0f7a4 N x σ = some (nI (nz (bt x)), σ) := by
  obtain ⟨v, hv, rfl⟩ := sm_of hx
  rw [X_bitc hv, pcn_p v 20 (by omega)]
  rfl
theorem M_mn {σ : St} {x : Int32} (hx : ∀ i, bt x i = true → i < 20) (hN : 3000 ≤ N) : fX8_many N x σ = some (nI (nz (bt x)), σ) := by
  obtain ⟨v, hv, rfl⟩ := sm_of hx
  rw [M_many hv hN, pcn_p v 20 (by omega)]
  rfl
theorem nI_ml {a b : Nat} (ha : a ≤ 20) (hb : b ≤ 20) : (nI a * nI b).toInt64 = lN (a * b) := by
  have : a * b ≤ 20 * 20 := Nat.mul_le_mul ha hb
  rw [pk_mul, nI_l (by omega)]
theorem X_bot {σ : St} {kd : Nat} {P Q : Nat → Bool} (hk : kd < 5) : fX2_bottomOf N (nI kd) (nI (nz P)) (nI (nz Q)) σ = some (lN (VB kd P Q), σ) := by
  have a := nz_le P
  have b := nz_le Q
  unfold fX2_bottomOf VB
  rw [nx_r]
  rcases (show kd = 0 ∨ kd = 1 ∨ kd = 2 ∨ kd = 3 ∨ kd = 4 by omega) with rfl | rfl | rfl | rfl | rfl
  · rfl
  · rfl
  · rw [if_pos (by decide), if_pos rfl, nI_ml a b]
  · rw [if_neg (by decide), if_pos (by decide), if_neg (by decide), if_pos rfl, pk_mul, nI_add, pk_mul]
    have : nz P * nz Q * (nz P + nz Q) ≤ 400 * 40 := Nat.mul_le_mul (Nat.mul_le_mul a b) (by omega)
    rw [nI_l (by omega)]
  · rfl
theorem X_wt {σ : St} {d : Nat → Nat → Nat} {P Q : Nat → Bool} {dep : Nat → Nat} : fX2_wardTop N (lN (SS d P Q)) (nI (nz P)) (nI (nz Q)) (lN (SI d P)) (lN (SI d Q)) σ = some (lZ (VT 3 d dep P Q), σ) := by
  have a := nz_le P
  have b := nz_le Q
  unfold fX2_wardTop VT
  rw [if_pos rfl, nI_ml a b, nI_ml b b, nI_ml a a, show (2 : Int64) = lZ 2 from rfl]
  simp only [lZ_N, lZ_mul, lZ_sub, Int.natCast_mul]
theorem M_link {τ : St} {n kd : Nat} {d : Nat → Nat → Nat} {px py : Nat → Int32} {dep : Nat → Nat} {x y : Int32} (hd : DOK n d px py) (hM : PM τ n d px py) (hk : kd < 5) (hx : ∀ i, bt x i = true → i < 20) (hy : ∀ i, bt y i = true → i < 20) (h1 : ∃ i, bt x i = true) (h2 : ∃ i, bt y i = true) (hW : kd = 4 → fX8_weighted N x y τ = some (lN (SS (wd d dep) (bt x) (bt y)), τ)) (hN : 3000 ≤ N) : fX8_link N (nI kd) x y τ = some ((), lo τ (VT kd d dep (bt x) (bt y)) (VB kd (bt x) (bt y))) := by
  have hD : ∀ i j, d i j ≤ 2000000 := fun i j => (hd.2.1 i j).1
  have hs : ∀ i j, d i j = d j i := fun i j => (hd.2.1 i j).2
  have a := nz_le (bt x)
  have b := nz_le (bt y)
  have p1 : 1 ≤ nz (bt x) := nz_pos (by obtain ⟨i, hi⟩ := h1; exact ⟨i, hx i hi, hi⟩)
  have p2 : 1 ≤ nz (bt y) := nz_pos (by obtain ⟨i, hi⟩ := h2; exact ⟨i, hy i hi, hi⟩)
  have bd1 := VT_bd (kd := kd) (dep := dep) (P := bt x) (Q := bt y) hD hs hd.2.2.1
  have vb := VB_ok (kd := kd) p1 p2
  have fin : ∀ {ρ : St} {t o : Int64}, t = lZ (VT kd d dep (bt x) (bt y)) → o = lN (VB kd (bt x) (bt y)) → bd (fX8_lowest N t o ρ) (fun _ s => some ((), s)) = some ((), lo ρ (VT kd d dep (bt x) (bt y)) (VB kd (bt x) (bt y))) := by
    rintro ρ t o rfl rfl
    rw [M_low (by omega) (by omega) vb.1 (by omega) hN, bd_s]
  unfold fX8_link
  rw [M_mn hx hN, bd_s, nx_r, M_mn hy hN, bd_s, nx_r, nx_r, nI_l (by omega), nI_l (by omega)]
  rcases (show kd = 0 ∨ kd = 1 ∨ kd = 2 ∨ kd = 3 ∨ kd = 4 by omega) with rfl | rfl | rfl | rfl | rfl
  · obtain ⟨m, em, -⟩ := fa_E (d := d) (g := false) hx hy h1 h2
    rw [if_pos (by decide), M_ext (g := false) hd hM hx hy (Or.inl ⟨rfl, rfl⟩) hN, bd_s, em]
    have lm := fa_le (m := 20) (P := bt x) (Q := bt y) (opk_le 0) hD 20
    rw [opk_0, em] at lm
    have lm' : m ≤ 800000000 := by simpa using lm
    refine fin ?_ rfl
    show (nI m).toInt64 = _
    rw [nI_l (by omega), lZ_N]
    unfold VT VC
    rw [if_neg (by decide), if_neg (by decide), opk_0, em]
    rfl
  · obtain ⟨m, em, -⟩ := fa_E (d := d) (g := true) hx hy h1 h2
    rw [if_neg (by decide), if_pos (by decide), M_ext (g := true) hd hM hx hy (Or.inr ⟨rfl, by decide⟩) hN, bd_s, em]
    have lm := fa_le (m := 20) (P := bt x) (Q := bt y) (opk_le 1) hD 20
    rw [opk_1, em] at lm
    have lm' : m ≤ 800000000 := by simpa using lm
    refine fin ?_ rfl
    show (nI m).toInt64 = _
    rw [nI_l (by omega), lZ_N]
    unfold VT VC
    rw [if_neg (by decide), if_neg (by decide), opk_1, em]
    rfl
  · rw [if_neg (by decide), if_neg (by decide), if_pos (by decide), M_btw hd hM hx hy hN, bd_s]
    refine fin ?_ ?_
    · unfold VT; rw [if_neg (by decide), VC_s (Or.inl rfl), lZ_N]
    · rw [lN_mul]; rfl
  · rw [if_neg (by decide), if_neg (by decide), if_neg (by decide), if_pos (by decide), M_btw hd hM hx hy hN, bd_s, M_btw hd hM hx hx hN, bd_s, M_btw hd hM hy hy hN, bd_s]
    refine fin ?_ ?_
    · rw [show (2 : Int64) = lZ 2 from rfl]
      simp only [lZ_N, lZ_mul, lZ_sub]
      congr 1
      unfold VT
      rw [if_pos rfl, SI_2 (P := bt x) hs hd.2.2.1, SI_2 (P := bt y) hs hd.2.2.1]
      simp only [Int.natCast_mul]
      generalize (nz (bt x) : Int) = a
      generalize (nz (bt y) : Int) = b
      generalize (SS d (bt x) (bt y) : Int) = s
      generalize (SI d (bt x) : Int) = u
      generalize (SI d (bt y) : Int) = v
      grind
    · simp only [lN_mul, lN_add]; rfl
  · rw [if_neg (by decide), if_neg (by decide), if_neg (by decide), if_neg (by decide), hW rfl, bd_s]
    refine fin ?_ rfl
    unfold VT VC
    rw [if_neg (by decide), if_pos rfl, lZ_N]
theorem mask_n : ∀ n, n ≤ 20 → ∀ z, z < 32 → bt (((1 : Int32) <<< (nI n &&& 31)) - 1) z = decide (z < n) := by decide +kernel
theorem J_linkage {σ τ : St} (h : Rel σ τ) (hN : 3000 ≤ N) (k x y w : Int32) : jt (fX7_linkage N k x y w σ) (fX8_linkage N k x y w τ) Rel := by
  obtain ⟨n, d, px, py, hd, hX, hM⟩ := h.1
  have hn := hd.1
  have hD : ∀ i j, d i j ≤ 2000000 := fun i j => (hd.2.1 i j).1
  have hs : ∀ i j, d i j = d j i := fun i j => (hd.2.1 i j).2
  unfold fX7_linkage fX8_linkage fX3_allBits
  rw [hX.1, hM.1]
  simp only [bd_s, nx_r, hX.1]
  generalize hA : x &&& (((1 : Int32) <<< (nI n &&& 31)) - 1) = A
  generalize hB : y &&& (((1 : Int32) <<< (nI n &&& 31)) - 1) = B
  have lt : ∀ (z : Int32) i, bt (z &&& (((1 : Int32) <<< (nI n &&& 31)) - 1)) i = true → i < n := fun z i hi => by
    rcases Nat.lt_or_ge i 32 with c | c
    · rw [b_and, mask_n n hn i c] at hi
      have := (Bool.and_eq_true _ _ ▸ hi : _ ∧ _).2
      exact of_decide_eq_true this
    · rw [b_big c] at hi; cases hi
  have hAn : ∀ i, bt A i = true → i < n := fun i hi => lt x i (by rw [hA]; exact hi)
  have hBn : ∀ i, bt B i = true → i < n := fun i hi => lt y i (by rw [hB]; exact hi)
  have hA20 : ∀ i, bt A i = true → i < 20 := fun i hi => by have := hAn i hi; omega
  have hB20 : ∀ i, bt B i = true → i < 20 := fun i hi => by have := hBn i hi; omega
  rcases ixc k (n := 4) (by omega) with hk | ⟨kd, hk, rfl⟩
  · have no : (if k < 0 then some ((-1 : Int64), σ) else if (3 : Int32) < k then some ((-1 : Int64), σ) else none) = some ((-1 : Int64), σ) := by
      rcases hk with hk | hk
      · rw [if_pos hk]
      · have h3 : (3 : Int32) < k := Int32.lt_iff_toInt_lt.mpr (by
          have := Int32.le_iff_toInt_le.mp hk
          rw [nI_toInt (by omega)] at this
          have e : (3 : Int32).toInt = 3 := by decide
          omega)
        by_cases c : k < 0
        · rw [if_pos c]
        · rw [if_neg c, if_pos h3]
    refine jt_no h (a := -1) ?_ ?_
    · by_cases c : k < 0
      · rw [if_pos c]
      · rw [if_neg c] at no ⊢
        by_cases c2 : (3 : Int32) < k
        · rw [if_pos c2]
        · rw [if_neg c2] at no; cases no
    · rw [show (4 : Int32) = nI 4 from rfl, M_in0 hk, bd_s, if_pos rfl]
  rw [if_neg (nI_pos (by omega)), if_neg (show ¬ (3 : Int32) < nI kd from fun z => absurd ((nI_ltI (a := 3) (by omega) (by omega)).mp z) (by omega)), show (4 : Int32) = nI 4 from rfl, M_in1 (by omega) hk, bd_s, if_neg n10]
  rcases ixc w (n := 2) (by omega) with hw | ⟨wh, hw, rfl⟩
  · refine jt_no h (a := -1) ?_ ?_
    · by_cases c : w < 0
      · rw [if_pos c]
      · rcases hw with hw | hw
        · exact absurd hw c
        · rw [if_neg c, if_neg]
          intro h1
          have a1 := Int32.le_iff_toInt_le.mp h1
          have a2 := Int32.le_iff_toInt_le.mp hw
          rw [nI_toInt (by omega)] at a2
          have e : (1 : Int32).toInt = 1 := by decide
          omega
    · rw [show (2 : Int32) = nI 2 from rfl, M_in0 hw, bd_s, if_pos rfl]
  rw [if_neg (nI_pos (by omega)), if_pos (show nI wh ≤ (1 : Int32) from nI_le (b := 1) (by omega) (by omega)), show (2 : Int32) = nI 2 from rfl, M_in1 (by omega) hw, bd_s, if_neg n10]
  by_cases c1 : A = 0
  · rw [if_pos c1, if_pos c1]; exact jt_no h rfl rfl
  rw [if_neg c1, if_neg c1]
  by_cases c2 : B = 0
  · rw [if_pos c2, if_pos c2]; exact jt_no h rfl rfl
  rw [if_neg c2, if_neg c2]
  by_cases c3 : ¬ A &&& B = 0
  · rw [if_neg c3, if_neg c3]; exact jt_no h rfl rfl
  have c3 : A &&& B = 0 := Classical.byContradiction c3
  rw [if_pos c3, if_pos c3]
  have ne : ∀ {z : Int32}, ¬ z = 0 → ∃ i, bt z i = true := fun {z} hz => by
    apply Classical.byContradiction
    intro c
    apply hz
    refine b_ext (fun i hi => ?_)
    rw [b_0]
    cases e : bt z i with
    | false => rfl
    | true => exact absurd ⟨i, e⟩ c
  have q1 := ne c1
  have q2 := ne c2
  have p1 : 1 ≤ nz (bt A) := nz_pos (by obtain ⟨i, hi⟩ := q1; exact ⟨i, hA20 i hi, hi⟩)
  have p2 : 1 ≤ nz (bt B) := nz_pos (by obtain ⟨i, hi⟩ := q2; exact ⟨i, hB20 i hi, hi⟩)
  have vt := VT_bd (kd := kd) (dep := fun _ => 0) (P := bt A) (Q := bt B) hD hs hd.2.2.1
  have vb := VB_ok (kd := kd) p1 p2
  rw [X_bc hA20, bd_s, X_bc hB20, bd_s, X_core hd hX (by omega) hA20 hB20 hN, bd_s, X_bot (by omega), bd_s, M_link (dep := fun _ => 0) hd hM (by omega) hA20 hB20 q1 q2 (by omega) hN, bd_s]
  have eC : (fa (opk kd) d (bt A) (bt B) n n).getD 0 = VC kd d (fun _ => 0) (bt A) (bt B) := by
    unfold VC
    rw [if_neg (by omega), fa_ext hn hAn hBn]
  rw [eC]
  have f1 : fr sOZ τ (lo τ (VT kd d (fun _ => 0) (bt A) (bt B)) (VB kd (bt A) (bt B))) := fr_J (fr_J fr_rf (Or.inr (Or.inl ⟨rfl, by omega⟩))) (Or.inr (Or.inl ⟨rfl, by omega⟩))
  have hR : Rel σ (lo τ (VT kd d (fun _ => 0) (bt A) (bt B)) (VB kd (bt A) (bt B))) := h.O fr_rf f1 (h.2.2.1.fr fr_rf (T := fun c k => c = 0 ∧ 9 ≤ k) (fr_J (fr_J fr_rf ⟨rfl, by omega⟩) ⟨rfl, by omega⟩) (fun c k _ z => z) (fun c k hc z => by unfold sOM at hc; omega) (S := fun _ _ => False))
  have fin : (fX7_linkage_143 N (nI wh) (lN (VB kd (bt A) (bt B))) (lZ (VT kd d (fun _ => 0) (bt A) (bt B))) σ) = some (if nI wh = 0 then lZ (rT (VT kd d (fun _ => 0) (bt A) (bt B)) (VB kd (bt A) (bt B))) else lN (rB (VT kd d (fun _ => 0) (bt A) (bt B)) (VB kd (bt A) (bt B))), σ) := by
    unfold fX7_linkage_143 fX7_linkage_157
    rw [X_cd (by omega) (by omega) vb.1 (by omega) hN, bd_s, bd_s, (X_low (by omega) (by omega) vb.1 (by omega)).1, (X_low (by omega) (by omega) vb.1 (by omega)).2, bd_s, bd_s]
    split <;> rfl
  have r12 : (lo τ (VT kd d (fun _ => 0) (bt A) (bt B)) (VB kd (bt A) (bt B))).2 0 12 = lZ (rT (VT kd d (fun _ => 0) (bt A) (bt B)) (VB kd (bt A) (bt B))) := by
    unfold lo; rw [sJ_of (by omega)]; exact sJ_at
  have r13 : (lo τ (VT kd d (fun _ => 0) (bt A) (bt B)) (VB kd (bt A) (bt B))).2 0 13 = lN (rB (VT kd d (fun _ => 0) (bt A) (bt B)) (VB kd (bt A) (bt B))) := by
    unfold lo; exact sJ_at
  have mm : (if nI wh = 0 then some ((lo τ (VT kd d (fun _ => 0) (bt A) (bt B)) (VB kd (bt A) (bt B))).2 0 12, lo τ (VT kd d (fun _ => 0) (bt A) (bt B)) (VB kd (bt A) (bt B))) else some ((lo τ (VT kd d (fun _ => 0) (bt A) (bt B)) (VB kd (bt A) (bt B))).2 0 13, lo τ (VT kd d (fun _ => 0) (bt A) (bt B)) (VB kd (bt A) (bt B)))) = some (if nI wh = 0 then lZ (rT (VT kd d (fun _ => 0) (bt A) (bt B)) (VB kd (bt A) (bt B))) else lN (rB (VT kd d (fun _ => 0) (bt A) (bt B)) (VB kd (bt A) (bt B))), lo τ (VT kd d (fun _ => 0) (bt A) (bt B)) (VB kd (bt A) (bt B))) := by
    rw [r12, r13]; split <;> rfl
  rw [mm]
  refine ⟨_, _, _, ?_, rfl, hR⟩
  by_cases k3 : kd = 3
  · subst k3
    rw [if_pos (show nI 3 = (3 : Int32) from rfl), X_ins hd hX hAn hN, bd_s, X_ins hd hX hBn hN, bd_s, VC_s (Or.inr rfl), X_wt (dep := fun _ => 0), bd_s]
    exact fin
  · rw [if_neg (show ¬ nI kd = (3 : Int32) from fun z => k3 ((nI_eq (b := 3) (by omega) (by omega)).mp z))]
    have e : lN (VC kd d (fun _ => 0) (bt A) (bt B)) = lZ (VT kd d (fun _ => 0) (bt A) (bt B)) := by
      unfold VT; rw [if_neg k3, lZ_N]
    rw [e]
    exact fin
end
