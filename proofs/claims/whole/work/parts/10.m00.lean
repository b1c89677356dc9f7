section
variable {D : va_G} {cA : Nat → ClassId} {ad : Nat → Nat} {p : Program} {l : Launch} {e : Env} {s : State} {m : MethodId} {args : Array Value} {below : List Frame} {meth : Method} {c : Code}
abbrev rmX3_startAnew : Room := { frames := 0, cells := 0, slots := 0, locals := 0 }
def fX3_startAnew_29 (N : Nat) (K7 : Int32 → St → Option (Unit × St)) : Nat → Int32 → Int32 → St → Option (Unit × St)
  | 0, _, _, _ => none
  | n + 1, x2, x3, σ => if (20 : Int32) ≤ x3 then nx (x2 + (1 : Int32)) (fun v2 => (K7 v2 σ)) else gd (ib x2 20) (gd (ib x3 20) (nx (sI σ (60 + 1 * x2.toNatClampNeg) x3.toNatClampNeg (0 : Int32)) (fun s5 => nx (x3 + (1 : Int32)) (fun v6 => ((fX3_startAnew_29 N K7 n) x2 v6 s5)))))
set_option maxHeartbeats 4000000 in
set_option maxRecDepth 100000 in
theorem wX3_startAnew_29 (hC : Cx RX3 cX3_startAnew 4 none D cA p s m args meth c) {N : Nat} {K7 : Int32 → St → Option (Unit × St)} {r : Unit} {σ' : St} (hK7 : ∀ (x2 : Int32) (σ : St) (H : Heap) (locs : List Loc) (ls : Array Slot), K7 x2 σ = some (r, σ') → Wd kdX 140 D cA ad s σ H locs → lv_has ls 4 [(0, .ref (ad 1)), (2, .int x2)] → W p l e rmX3_startAnew s m args below meth c H locs 0 0 (EndW kdX 140 D cA ad below args s none σ') (F0 m 7 ls [])) : ∀ (n : Nat) (x2 : Int32) (x3 : Int32) (σ : St) (H : Heap) (locs : List Loc) (ls : Array Slot), fX3_startAnew_29 N K7 n x2 x3 σ = some (r, σ') → Wd kdX 140 D cA ad s σ H locs → lv_has ls 4 [(0, .ref (ad 1)), (2, .int x2), (3, .int x3)] → W p l e rmX3_startAnew s m args below meth c H locs 0 0 (EndW kdX 140 D cA ad below args s none σ') (F0 m 29 ls []) := by
  have hx := hC.1
  have hb := hC.2.1
  have hown := hC.2.2.2.1
  have hts := hC.2.2.2.2.1
  intro n
  induction n with
  | zero =>
    intro x2 x3 σ H locs ls hf
    rw [fX3_startAnew_29] at hf
    cases hf
  | succ n ih =>
    intro x2 x3 σ H locs ls hf hW hl
    rw [fX3_startAnew_29] at hf
    refine lv_iload_n hx hb dX3_startAnew_29 rfl (lv_at hl 2 rfl) ?_
    refine lv_bipush (v := 20) hx hb dX3_startAnew_30 (by decide) ?_
    refine lv_icmp_ge (tgt := 50) hx hb dX3_startAnew_32 (by decide) (fun h1 => ?_) (fun h1 => ?_)
    · have hf := it_t h1 hf
      obtain ⟨v2, ev2⟩ : ∃ y : Int32, y = x2 + (1 : Int32) := ⟨_, rfl⟩
      have hf := nx_at ev2 hf
      refine lv_iinc (v := v2) (lv' := [(2, .int v2), (0, .ref (ad 1)), (3, .int x3)]) hx hb dX3_startAnew_50 hl (k := 1) rfl (by rw [ev2]; rfl) (by decide) rfl (fun ls hl => ?_)
      refine lv_goto (tgt := 7) hx hb dX3_startAnew_53 (by decide) ?_
      exact hK7 _ _ _ _ _ hf hW (lv_sub hl [1, 0] rfl)
    · have hf := it_f h1 hf
      refine lv_aload_n hx hb dX3_startAnew_35 rfl (lv_at hl 0 rfl) ?_
      refine gfX3_11 hC hW 1 (by decide) rfl (q := 4) rfl dX3_startAnew_36 ?_
      refine lv_iload_n hx hb dX3_startAnew_39 rfl (lv_at hl 1 rfl) ?_
      obtain ⟨h3, hf⟩ := gd_some hf
      refine Wd.aald hC hW 4 ⟨by decide, by decide⟩ (by decide) rfl h3 dX3_startAnew_40 ?_
      refine lv_iload_n hx hb dX3_startAnew_41 rfl (lv_at hl 2 rfl) ?_
      refine lv_iconst (v := 0) hx hb dX3_startAnew_42 (by decide) ?_
      obtain ⟨h4, hf⟩ := gd_some hf
      refine Wd.iast hC hW (60 + 1 * x2.toNatClampNeg) (Rw.b60 h3) (Rw.k60 h3) h4 dX3_startAnew_43 (fun H locs hW => ?_)
      obtain ⟨s5, es5, hf⟩ := nx_ex hf
      rw [← es5] at hW
      obtain ⟨v6, ev6⟩ : ∃ y : Int32, y = x3 + (1 : Int32) := ⟨_, rfl⟩
      have hf := nx_at ev6 hf
      refine lv_iinc (v := v6) (lv' := [(3, .int v6), (0, .ref (ad 1)), (2, .int x2)]) hx hb dX3_startAnew_44 hl (k := 2) rfl (by rw [ev6]; rfl) (by decide) rfl (fun ls hl => ?_)
      refine lv_goto (tgt := 29) hx hb dX3_startAnew_47 (by decide) ?_
      exact ih _ _ _ _ _ _ hf hW (lv_sub hl [1, 2, 0] rfl)
def fX3_startAnew_7 (N : Nat) : Nat → Int32 → St → Option (Unit × St)
  | 0, _, _ => none
  | n + 1, x2, σ => if (20 : Int32) ≤ x2 then some ((), σ) else gd (ib x2 20) (nx (sI σ 2 x2.toNatClampNeg (0 : Int32)) (fun s3 => gd (ib x2 20) (nx (sI s3 3 x2.toNatClampNeg (0 : Int32)) (fun s5 => (fX3_startAnew_29 N (fX3_startAnew_7 N n) N x2 (0 : Int32) s5)))))
set_option maxHeartbeats 4000000 in
set_option maxRecDepth 100000 in
theorem wX3_startAnew_7 (hC : Cx RX3 cX3_startAnew 4 none D cA p s m args meth c) {N : Nat} {r : Unit} {σ' : St} : ∀ (n : Nat) (x2 : Int32) (σ : St) (H : Heap) (locs : List Loc) (ls : Array Slot), fX3_startAnew_7 N n x2 σ = some (r, σ') → Wd kdX 140 D cA ad s σ H locs → lv_has ls 4 [(0, .ref (ad 1)), (2, .int x2)] → W p l e rmX3_startAnew s m args below meth c H locs 0 0 (EndW kdX 140 D cA ad below args s none σ') (F0 m 7 ls []) := by
  have hx := hC.1
  have hb := hC.2.1
  have hown := hC.2.2.2.1
  have hts := hC.2.2.2.2.1
  intro n
  induction n with
  | zero =>
    intro x2 σ H locs ls hf
    rw [fX3_startAnew_7] at hf
    cases hf
  | succ n ih =>
    intro x2 σ H locs ls hf hW hl
    rw [fX3_startAnew_7] at hf
    refine lv_iload_n hx hb dX3_startAnew_7 rfl (lv_at hl 1 rfl) ?_
    refine lv_bipush (v := 20) hx hb dX3_startAnew_8 (by decide) ?_
    refine lv_icmp_ge (tgt := 56) hx hb dX3_startAnew_10 (by decide) (fun h1 => ?_) (fun h1 => ?_)
    · have hf := it_t h1 hf
      obtain ⟨-, rfl⟩ := sp hf
      exact Wd.vret hC hW dX3_startAnew_56
    · have hf := it_f h1 hf
      refine lv_aload_n hx hb dX3_startAnew_13 rfl (lv_at hl 0 rfl) ?_
      refine gfX3_16 hC hW 1 (by decide) rfl (q := 2) rfl dX3_startAnew_14 ?_
      refine lv_iload_n hx hb dX3_startAnew_17 rfl (lv_at hl 1 rfl) ?_
      refine lv_iconst (v := 0) hx hb dX3_startAnew_18 (by decide) ?_
      obtain ⟨h2, hf⟩ := gd_some hf
      refine Wd.iast hC hW 2 (by decide) rfl h2 dX3_startAnew_19 (fun H locs hW => ?_)
      obtain ⟨s3, es3, hf⟩ := nx_ex hf
      rw [← es3] at hW
      refine lv_aload_n hx hb dX3_startAnew_20 rfl (lv_at hl 0 rfl) ?_
      refine gfX3_20 hC hW 1 (by decide) rfl (q := 3) rfl dX3_startAnew_21 ?_
      refine lv_iload_n hx hb dX3_startAnew_24 rfl (lv_at hl 1 rfl) ?_
      refine lv_iconst (v := 0) hx hb dX3_startAnew_25 (by decide) ?_
      obtain ⟨h4, hf⟩ := gd_some hf
      refine Wd.iast hC hW 3 (by decide) rfl h4 dX3_startAnew_26 (fun H locs hW => ?_)
      obtain ⟨s5, es5, hf⟩ := nx_ex hf
      rw [← es5] at hW
      refine lv_iconst (v := 0) hx hb dX3_startAnew_27 (by decide) ?_
      refine lv_istore_n (lv' := [(3, .int (0 : Int32)), (0, .ref (ad 1)), (2, .int x2)]) hx hb dX3_startAnew_28 rfl hl (by decide) rfl (fun ls hl => ?_)
      exact wX3_startAnew_29 hC ih N _ _ _ _ _ _ hf hW (lv_sub hl [1, 2, 0] rfl)
def fX3_startAnew (N : Nat) (x1 : Int32) (σ : St) : Option (Unit × St) := nx (sI σ 1 0 x1) (fun s1 => (fX3_startAnew_7 N N (0 : Int32) s1))
set_option maxHeartbeats 4000000 in
set_option maxRecDepth 100000 in
theorem kX3_startAnew {l : Launch} {D : va_G} {cA : Nat → ClassId} {ad : Nat → Nat} {N : Nat} {x1 : Int32} {σ : St} {r : Unit} {σ' : St} (hf : fX3_startAnew N x1 σ = some (r, σ')) : MW kdX 140 l D cA ad ⟨RX3, "startAnew", "(I)V"⟩ cX3_startAnew 4 none rmX3_startAnew [.ref (ad 1), .int x1] σ none σ' := by
  refine MW.of (by decide) (Nat.le_of_ble_eq_true rfl) ?_
  intro p e s m args below meth c ls hC hW hl
  have hx := hC.1
  have hb := hC.2.1
  have hown := hC.2.2.2.1
  have hts := hC.2.2.2.2.1
  have hl : lv_has ls 4 [(0, .ref (ad 1)), (1, .int x1)] := hl
  unfold fX3_startAnew at hf
  refine lv_aload_n hx hb dX3_startAnew_0 rfl (lv_at hl 0 rfl) ?_
  refine lv_iload_n hx hb dX3_startAnew_1 rfl (lv_at hl 1 rfl) ?_
  refine pgfX3_23 hC hW 1 (by decide) rfl rfl dX3_startAnew_2 (fun H locs hW => ?_)
  obtain ⟨s1, es1, hf⟩ := nx_ex hf
  rw [← es1] at hW
  refine lv_iconst (v := 0) hx hb dX3_startAnew_5 (by decide) ?_
  refine lv_istore_n (lv' := [(2, .int (0 : Int32)), (0, .ref (ad 1)), (1, .int x1)]) hx hb dX3_startAnew_6 rfl hl (by decide) rfl (fun ls hl => ?_)
  exact wX3_startAnew_7 hC N _ _ _ _ _ hf hW (lv_sub hl [1, 0] rfl)
abbrev rmX7_points : Room := { frames := 1, cells := 0, slots := 0, locals := 23 }
def fX7_points (N : Nat) (x1 : Int32) (σ : St) : Option (Int32 × St) := if x1 < 0 then some ((-1 : Int32), σ) else if x1 ≤ (20 : Int32) then bd (fX3_startAnew N x1 σ) (fun r3 s4 => some (x1, s4)) else some ((-1 : Int32), σ)
set_option maxHeartbeats 4000000 in
set_option maxRecDepth 100000 in
theorem kX7_points {l : Launch} {D : va_G} {cA : Nat → ClassId} {ad : Nat → Nat} {N : Nat} {x1 : Int32} {σ : St} {r : Int32} {σ' : St} (hf : fX7_points N x1 σ = some (r, σ')) : MW kdX 140 l D cA ad ⟨RX7, "points", "(I)I"⟩ cX7_points 2 (some .int) rmX7_points [.ref (ad 0), .int x1] σ (some (.int r)) σ' := by
  refine MW.of (by decide) (Nat.le_of_ble_eq_true rfl) ?_
  intro p e s m args below meth c ls hC hW hl
  have hx := hC.1
  have hb := hC.2.1
  have hown := hC.2.2.2.1
  have hts := hC.2.2.2.2.1
  have hl : lv_has ls 2 [(0, .ref (ad 0)), (1, .int x1)] := hl
  unfold fX7_points at hf
  refine lv_iload_n hx hb dX7_points_0 rfl (lv_at hl 1 rfl) ?_
  refine lv_if_lt (tgt := 10) hx hb dX7_points_1 (by decide) (fun h1 => ?_) (fun h1 => ?_)
  · have hf := it_t h1 hf
    refine lv_iconst (v := (-1)) hx hb dX7_points_10 (by decide) ?_
    obtain ⟨rfl, rfl⟩ := sp hf
    exact Wd.iret hC hW dX7_points_11
  · have hf := it_f h1 hf
    refine lv_iload_n hx hb dX7_points_4 rfl (lv_at hl 1 rfl) ?_
    refine lv_bipush (v := 20) hx hb dX7_points_5 (by decide) ?_
    refine lv_icmp_le (tgt := 12) hx hb dX7_points_7 (by decide) (fun h2 => ?_) (fun h2 => ?_)
    · have hf := it_t h2 hf
      refine lv_aload_n hx hb dX7_points_12 rfl (lv_at hl 0 rfl) ?_
      refine gfX7_12 hC hW 0 (by decide) rfl (q := 1) rfl dX7_points_13 ?_
      refine lv_iload_n hx hb dX7_points_16 rfl (lv_at hl 1 rfl) ?_
      obtain ⟨r3, s4, c5, hf⟩ := bd_some hf
      refine Wd.callVN (n := 1) (As := [.int x1]) (rest := []) (rv := none) hC hW 1 (kX3_startAnew c5) (by decide) rfl rfl q244 q246 qs0 q2 q247 ⟨rfl, rfl⟩ ⟨by decide +kernel, by decide +kernel, by decide +kernel⟩ ⟨Nat.le_of_ble_eq_true rfl, Nat.le_of_ble_eq_true rfl⟩ ⟨Nat.zero_le _, Nat.zero_le _⟩ rfl hl.1 rfl (st2 := []) rfl (Nat.le_of_ble_eq_true rfl) dX7_points_17 (fun H locs hW => ?_)
      refine lv_iload_n hx hb dX7_points_20 rfl (lv_at hl 1 rfl) ?_
      obtain ⟨rfl, rfl⟩ := sp hf
      exact Wd.iret hC hW dX7_points_21
    · have hf := it_f h2 hf
      refine lv_iconst (v := (-1)) hx hb dX7_points_10 (by decide) ?_
      obtain ⟨rfl, rfl⟩ := sp hf
      exact Wd.iret hC hW dX7_points_11
abbrev rmX3_has : Room := { frames := 0, cells := 0, slots := 0, locals := 0 }
def fX3_has (N : Nat) (x1 : Int32) (σ : St) : Option (Int32 × St) := if x1 < 0 then some ((0 : Int32), σ) else if (σ.1 1 0) ≤ x1 then some ((0 : Int32), σ) else some ((1 : Int32), σ)
set_option maxHeartbeats 4000000 in
set_option maxRecDepth 100000 in
theorem kX3_has {l : Launch} {D : va_G} {cA : Nat → ClassId} {ad : Nat → Nat} {N : Nat} {x1 : Int32} {σ : St} {r : Int32} {σ' : St} (hf : fX3_has N x1 σ = some (r, σ')) : MW kdX 140 l D cA ad ⟨RX3, "has", "(I)Z"⟩ cX3_has 2 (some .boolean) rmX3_has [.ref (ad 1), .int x1] σ (some (.int r)) σ' := by
  refine MW.of (by decide) (Nat.le_of_ble_eq_true rfl) ?_
  intro p e s m args below meth c ls hC hW hl
  have hx := hC.1
  have hb := hC.2.1
  have hown := hC.2.2.2.1
  have hts := hC.2.2.2.2.1
  have hl : lv_has ls 2 [(0, .ref (ad 1)), (1, .int x1)] := hl
  unfold fX3_has at hf
  refine lv_iload_n hx hb dX3_has_0 rfl (lv_at hl 1 rfl) ?_
  refine lv_if_lt (tgt := 16) hx hb dX3_has_1 (by decide) (fun h1 => ?_) (fun h1 => ?_)
  · have hf := it_t h1 hf
    refine lv_iconst (v := 0) hx hb dX3_has_16 (by decide) ?_
    obtain ⟨rfl, rfl⟩ := sp hf
    exact Wd.zret hC hW (Or.inl rfl) dX3_has_17
  · have hf := it_f h1 hf
    refine lv_iload_n hx hb dX3_has_4 rfl (lv_at hl 1 rfl) ?_
    refine lv_aload_n hx hb dX3_has_5 rfl (lv_at hl 0 rfl) ?_
    refine gfX3_23 hC hW 1 (by decide) rfl rfl dX3_has_6 ?_
    refine lv_icmp_ge (tgt := 16) hx hb dX3_has_9 (by decide) (fun h2 => ?_) (fun h2 => ?_)
    · have hf := it_t h2 hf
      refine lv_iconst (v := 0) hx hb dX3_has_16 (by decide) ?_
      obtain ⟨rfl, rfl⟩ := sp hf
      exact Wd.zret hC hW (Or.inl rfl) dX3_has_17
    · have hf := it_f h2 hf
      refine lv_iconst (v := 1) hx hb dX3_has_12 (by decide) ?_
      refine lv_goto (tgt := 17) hx hb dX3_has_13 (by decide) ?_
      obtain ⟨rfl, rfl⟩ := sp hf
      exact Wd.zret hC hW (Or.inr rfl) dX3_has_17
abbrev rmX3_setApart : Room := { frames := 0, cells := 0, slots := 0, locals := 0 }
def fX3_setApart (N : Nat) (x1 : Int32) (x2 : Int32) (x3 : Int32) (σ : St) : Option (Unit × St) := gd (ib x1 20) (gd (ib x2 20) (nx (sI σ (60 + 1 * x1.toNatClampNeg) x2.toNatClampNeg x3) (fun s3 => gd (ib x2 20) (gd (ib x1 20) (nx (sI s3 (60 + 1 * x2.toNatClampNeg) x1.toNatClampNeg x3) (fun s6 => some ((), s6)))))))
set_option maxHeartbeats 4000000 in
set_option maxRecDepth 100000 in
theorem kX3_setApart {l : Launch} {D : va_G} {cA : Nat → ClassId} {ad : Nat → Nat} {N : Nat} {x1 : Int32} {x2 : Int32} {x3 : Int32} {σ : St} {r : Unit} {σ' : St} (hf : fX3_setApart N x1 x2 x3 σ = some (r, σ')) : MW kdX 140 l D cA ad ⟨RX3, "setApart", "(III)V"⟩ cX3_setApart 4 none rmX3_setApart [.ref (ad 1), .int x1, .int x2, .int x3] σ none σ' := by
  refine MW.of (by decide) (Nat.le_of_ble_eq_true rfl) ?_
  intro p e s m args below meth c ls hC hW hl
  have hx := hC.1
  have hb := hC.2.1
  have hown := hC.2.2.2.1
  have hts := hC.2.2.2.2.1
  have hl : lv_has ls 4 [(0, .ref (ad 1)), (1, .int x1), (2, .int x2), (3, .int x3)] := hl
  unfold fX3_setApart at hf
  refine lv_aload_n hx hb dX3_setApart_0 rfl (lv_at hl 0 rfl) ?_
  refine gfX3_11 hC hW 1 (by decide) rfl (q := 4) rfl dX3_setApart_1 ?_
  refine lv_iload_n hx hb dX3_setApart_4 rfl (lv_at hl 1 rfl) ?_
  obtain ⟨h1, hf⟩ := gd_some hf
  refine Wd.aald hC hW 4 ⟨by decide, by decide⟩ (by decide) rfl h1 dX3_setApart_5 ?_
  refine lv_iload_n hx hb dX3_setApart_6 rfl (lv_at hl 2 rfl) ?_
  refine lv_iload_n hx hb dX3_setApart_7 rfl (lv_at hl 3 rfl) ?_
  obtain ⟨h2, hf⟩ := gd_some hf
  refine Wd.iast hC hW (60 + 1 * x1.toNatClampNeg) (Rw.b60 h1) (Rw.k60 h1) h2 dX3_setApart_8 (fun H locs hW => ?_)
  obtain ⟨s3, es3, hf⟩ := nx_ex hf
  rw [← es3] at hW
  refine lv_aload_n hx hb dX3_setApart_9 rfl (lv_at hl 0 rfl) ?_
  refine gfX3_11 hC hW 1 (by decide) rfl (q := 4) rfl dX3_setApart_10 ?_
  refine lv_iload_n hx hb dX3_setApart_13 rfl (lv_at hl 2 rfl) ?_
  obtain ⟨h4, hf⟩ := gd_some hf
  refine Wd.aald hC hW 4 ⟨by decide, by decide⟩ (by decide) rfl h4 dX3_setApart_14 ?_
  refine lv_iload_n hx hb dX3_setApart_15 rfl (lv_at hl 1 rfl) ?_
  refine lv_iload_n hx hb dX3_setApart_16 rfl (lv_at hl 3 rfl) ?_
  obtain ⟨h5, hf⟩ := gd_some hf
  refine Wd.iast hC hW (60 + 1 * x2.toNatClampNeg) (Rw.b60 h4) (Rw.k60 h4) h5 dX3_setApart_17 (fun H locs hW => ?_)
  obtain ⟨s6, es6, hf⟩ := nx_ex hf
  rw [← es6] at hW
  obtain ⟨-, rfl⟩ := sp hf
  exact Wd.vret hC hW dX3_setApart_18
abbrev rmX7_put : Room := { frames := 1, cells := 0, slots := 0, locals := 23 }
def fX7_put (N : Nat) (x1 : Int32) (x2 : Int32) (x3 : Int32) (σ : St) : Option (Int32 × St) := bd (fX3_has N x1 σ) (fun r1 s2 => if r1 = 0 then some ((0 : Int32), s2) else bd (fX3_has N x2 s2) (fun r5 s6 => if r5 = 0 then some ((0 : Int32), s6) else if x1 = x2 then some ((0 : Int32), s6) else if x3 < 0 then some ((0 : Int32), s6) else if x3 ≤ (2000000 : Int32) then bd (fX3_setApart N x1 x2 x3 s6) (fun r12 s13 => some ((1 : Int32), s13)) else some ((0 : Int32), s6)))
set_option maxHeartbeats 4000000 in
set_option maxRecDepth 100000 in
theorem kX7_put {l : Launch} {D : va_G} {cA : Nat → ClassId} {ad : Nat → Nat} {N : Nat} {x1 : Int32} {x2 : Int32} {x3 : Int32} {σ : St} {r : Int32} {σ' : St} (hf : fX7_put N x1 x2 x3 σ = some (r, σ')) : MW kdX 140 l D cA ad ⟨RX7, "put", "(III)Z"⟩ cX7_put 4 (some .boolean) rmX7_put [.ref (ad 0), .int x1, .int x2, .int x3] σ (some (.int r)) σ' := by
  refine MW.of (by decide) (Nat.le_of_ble_eq_true rfl) ?_
  intro p e s m args below meth c ls hC hW hl
  have hx := hC.1
  have hb := hC.2.1
  have hown := hC.2.2.2.1
  have hts := hC.2.2.2.2.1
  have hl : lv_has ls 4 [(0, .ref (ad 0)), (1, .int x1), (2, .int x2), (3, .int x3)] := hl
  unfold fX7_put at hf
  refine lv_aload_n hx hb dX7_put_0 rfl (lv_at hl 0 rfl) ?_
  refine gfX7_12 hC hW 0 (by decide) rfl (q := 1) rfl dX7_put_1 ?_
  refine lv_iload_n hx hb dX7_put_4 rfl (lv_at hl 1 rfl) ?_
  obtain ⟨r1, s2, c3, hf⟩ := bd_some hf
  refine Wd.callVN (n := 1) (As := [.int x1]) (rest := []) (rv := some (.int r1)) hC hW 1 (kX3_has c3) (by decide) rfl rfl q252 q254 qs1 q2 q255 ⟨rfl, rfl⟩ ⟨by decide +kernel, by decide +kernel, by decide +kernel⟩ ⟨Nat.le_of_ble_eq_true rfl, Nat.le_of_ble_eq_true rfl⟩ ⟨Nat.zero_le _, Nat.zero_le _⟩ rfl hl.1 rfl (st2 := [.int r1]) rfl (Nat.le_of_ble_eq_true rfl) dX7_put_5 (fun H locs hW => ?_)
  refine lv_if_eq (tgt := 37) hx hb dX7_put_8 (by decide) (fun h4 => ?_) (fun h4 => ?_)
  · have hf := it_t h4 hf
    refine lv_iconst (v := 0) hx hb dX7_put_37 (by decide) ?_
    obtain ⟨rfl, rfl⟩ := sp hf
    exact Wd.zret hC hW (Or.inl rfl) dX7_put_38
  · have hf := it_f h4 hf
    refine lv_aload_n hx hb dX7_put_11 rfl (lv_at hl 0 rfl) ?_
    refine gfX7_12 hC hW 0 (by decide) rfl (q := 1) rfl dX7_put_12 ?_
    refine lv_iload_n hx hb dX7_put_15 rfl (lv_at hl 2 rfl) ?_
    obtain ⟨r5, s6, c7, hf⟩ := bd_some hf
    refine Wd.callVN (n := 1) (As := [.int x2]) (rest := []) (rv := some (.int r5)) hC hW 1 (kX3_has c7) (by decide) rfl rfl q252 q254 qs1 q2 q255 ⟨rfl, rfl⟩ ⟨by decide +kernel, by decide +kernel, by decide +kernel⟩ ⟨Nat.le_of_ble_eq_true rfl, Nat.le_of_ble_eq_true rfl⟩ ⟨Nat.zero_le _, Nat.zero_le _⟩ rfl hl.1 rfl (st2 := [.int r5]) rfl (Nat.le_of_ble_eq_true rfl) dX7_put_16 (fun H locs hW => ?_)
    refine lv_if_eq (tgt := 37) hx hb dX7_put_19 (by decide) (fun h8 => ?_) (fun h8 => ?_)
    · have hf := it_t h8 hf
      refine lv_iconst (v := 0) hx hb dX7_put_37 (by decide) ?_
      obtain ⟨rfl, rfl⟩ := sp hf
      exact Wd.zret hC hW (Or.inl rfl) dX7_put_38
    · have hf := it_f h8 hf
      refine lv_iload_n hx hb dX7_put_22 rfl (lv_at hl 1 rfl) ?_
      refine lv_iload_n hx hb dX7_put_23 rfl (lv_at hl 2 rfl) ?_
      refine lv_icmp_eq (tgt := 37) hx hb dX7_put_24 (by decide) (fun h9 => ?_) (fun h9 => ?_)
      · have hf := it_t h9 hf
        refine lv_iconst (v := 0) hx hb dX7_put_37 (by decide) ?_
        obtain ⟨rfl, rfl⟩ := sp hf
        exact Wd.zret hC hW (Or.inl rfl) dX7_put_38
      · have hf := it_f h9 hf
        refine lv_iload_n hx hb dX7_put_27 rfl (lv_at hl 3 rfl) ?_
        refine lv_if_lt (tgt := 37) hx hb dX7_put_28 (by decide) (fun h10 => ?_) (fun h10 => ?_)
        · have hf := it_t h10 hf
          refine lv_iconst (v := 0) hx hb dX7_put_37 (by decide) ?_
          obtain ⟨rfl, rfl⟩ := sp hf
          exact Wd.zret hC hW (Or.inl rfl) dX7_put_38
        · have hf := it_f h10 hf
          refine lv_iload_n hx hb dX7_put_31 rfl (lv_at hl 3 rfl) ?_
          refine lv_ldc hx hb hown (hts _ q256) dX7_put_32 ?_
          refine lv_icmp_le (tgt := 39) hx hb dX7_put_34 (by decide) (fun h11 => ?_) (fun h11 => ?_)
          · have hf := it_t h11 hf
            refine lv_aload_n hx hb dX7_put_39 rfl (lv_at hl 0 rfl) ?_
            refine gfX7_12 hC hW 0 (by decide) rfl (q := 1) rfl dX7_put_40 ?_
            refine lv_iload_n hx hb dX7_put_43 rfl (lv_at hl 1 rfl) ?_
            refine lv_iload_n hx hb dX7_put_44 rfl (lv_at hl 2 rfl) ?_
            refine lv_iload_n hx hb dX7_put_45 rfl (lv_at hl 3 rfl) ?_
            obtain ⟨r12, s13, c14, hf⟩ := bd_some hf
            refine Wd.callVN (n := 3) (As := [.int x1, .int x2, .int x3]) (rest := []) (rv := none) hC hW 1 (kX3_setApart c14) (by decide) rfl rfl q257 q259 qs2 q2 q260 ⟨rfl, rfl⟩ ⟨by decide +kernel, by decide +kernel, by decide +kernel⟩ ⟨Nat.le_of_ble_eq_true rfl, Nat.le_of_ble_eq_true rfl⟩ ⟨Nat.zero_le _, Nat.zero_le _⟩ rfl hl.1 rfl (st2 := []) rfl (Nat.le_of_ble_eq_true rfl) dX7_put_46 (fun H locs hW => ?_)
            refine lv_iconst (v := 1) hx hb dX7_put_49 (by decide) ?_
            obtain ⟨rfl, rfl⟩ := sp hf
            exact Wd.zret hC hW (Or.inr rfl) dX7_put_50
          · have hf := it_f h11 hf
            refine lv_iconst (v := 0) hx hb dX7_put_37 (by decide) ?_
            obtain ⟨rfl, rfl⟩ := sp hf
            exact Wd.zret hC hW (Or.inl rfl) dX7_put_38
abbrev rmX7_distance : Room := { frames := 1, cells := 0, slots := 0, locals := 21 }
def fX7_distance (N : Nat) (x1 : Int32) (x2 : Int32) (σ : St) : Option (Int32 × St) := bd (fX3_has N x1 σ) (fun r1 s2 => if r1 = 0 then some ((-1 : Int32), s2) else bd (fX3_has N x2 s2) (fun r5 s6 => if r5 = 0 then some ((-1 : Int32), s6) else gd (ib x1 20) (gd (ib x2 20) (some ((s6.1 (60 + 1 * x1.toNatClampNeg) x2.toNatClampNeg), s6)))))
set_option maxHeartbeats 4000000 in
set_option maxRecDepth 100000 in
theorem kX7_distance {l : Launch} {D : va_G} {cA : Nat → ClassId} {ad : Nat → Nat} {N : Nat} {x1 : Int32} {x2 : Int32} {σ : St} {r : Int32} {σ' : St} (hf : fX7_distance N x1 x2 σ = some (r, σ')) : MW kdX 140 l D cA ad ⟨RX7, "distance", "(II)I"⟩ cX7_distance 3 (some .int) rmX7_distance [.ref (ad 0), .int x1, .int x2] σ (some (.int r)) σ' := by
  refine MW.of (by decide) (Nat.le_of_ble_eq_true rfl) ?_
  intro p e s m args below meth c ls hC hW hl
  have hx := hC.1
  have hb := hC.2.1
  have hown := hC.2.2.2.1
  have hts := hC.2.2.2.2.1
  have hl : lv_has ls 3 [(0, .ref (ad 0)), (1, .int x1), (2, .int x2)] := hl
  unfold fX7_distance at hf
  refine lv_aload_n hx hb dX7_distance_0 rfl (lv_at hl 0 rfl) ?_
  refine gfX7_12 hC hW 0 (by decide) rfl (q := 1) rfl dX7_distance_1 ?_
  refine lv_iload_n hx hb dX7_distance_4 rfl (lv_at hl 1 rfl) ?_
  obtain ⟨r1, s2, c3, hf⟩ := bd_some hf
  refine Wd.callVN (n := 1) (As := [.int x1]) (rest := []) (rv := some (.int r1)) hC hW 1 (kX3_has c3) (by decide) rfl rfl q252 q254 qs1 q2 q255 ⟨rfl, rfl⟩ ⟨by decide +kernel, by decide +kernel, by decide +kernel⟩ ⟨Nat.le_of_ble_eq_true rfl, Nat.le_of_ble_eq_true rfl⟩ ⟨Nat.zero_le _, Nat.zero_le _⟩ rfl hl.1 rfl (st2 := [.int r1]) rfl (Nat.le_of_ble_eq_true rfl) dX7_distance_5 (fun H locs hW => ?_)
  refine lv_if_eq (tgt := 22) hx hb dX7_distance_8 (by decide) (fun h4 => ?_) (fun h4 => ?_)
  · have hf := it_t h4 hf
    refine lv_iconst (v := (-1)) hx hb dX7_distance_22 (by decide) ?_
    obtain ⟨rfl, rfl⟩ := sp hf
    exact Wd.iret hC hW dX7_distance_23
  · have hf := it_f h4 hf
    refine lv_aload_n hx hb dX7_distance_11 rfl (lv_at hl 0 rfl) ?_
    refine gfX7_12 hC hW 0 (by decide) rfl (q := 1) rfl dX7_distance_12 ?_
    refine lv_iload_n hx hb dX7_distance_15 rfl (lv_at hl 2 rfl) ?_
    obtain ⟨r5, s6, c7, hf⟩ := bd_some hf
    refine Wd.callVN (n := 1) (As := [.int x2]) (rest := []) (rv := some (.int r5)) hC hW 1 (kX3_has c7) (by decide) rfl rfl q252 q254 qs1 q2 q255 ⟨rfl, rfl⟩ ⟨by decide +kernel, by decide +kernel, by decide +kernel⟩ ⟨Nat.le_of_ble_eq_true rfl, Nat.le_of_ble_eq_true rfl⟩ ⟨Nat.zero_le _, Nat.zero_le _⟩ rfl hl.1 rfl (st2 := [.int r5]) rfl (Nat.le_of_ble_eq_true rfl) dX7_distance_16 (fun H locs hW => ?_)
    refine lv_if_ne (tgt := 24) hx hb dX7_distance_19 (by decide) (fun h8 => ?_) (fun h8 => ?_)
    · have hf := it_f h8 hf
      refine lv_aload_n hx hb dX7_distance_24 rfl (lv_at hl 0 rfl) ?_
      refine gfX7_12 hC hW 0 (by decide) rfl (q := 1) rfl dX7_distance_25 ?_
      refine gfX7_60 hC hW 1 (by decide) rfl (q := 4) rfl dX7_distance_28 ?_
      refine lv_iload_n hx hb dX7_distance_31 rfl (lv_at hl 1 rfl) ?_
      obtain ⟨h9, hf⟩ := gd_some hf
      refine Wd.aald hC hW 4 ⟨by decide, by decide⟩ (by decide) rfl h9 dX7_distance_32 ?_
      refine lv_iload_n hx hb dX7_distance_33 rfl (lv_at hl 2 rfl) ?_
      obtain ⟨h10, hf⟩ := gd_some hf
      refine Wd.iald hC hW (60 + 1 * x1.toNatClampNeg) (Rw.b60 h9) (Rw.k60 h9) h10 dX7_distance_34 ?_
      obtain ⟨rfl, rfl⟩ := sp hf
      exact Wd.iret hC hW dX7_distance_35
    · have hf := it_t h8 hf
      refine lv_iconst (v := (-1)) hx hb dX7_distance_22 (by decide) ?_
      obtain ⟨rfl, rfl⟩ := sp hf
      exact Wd.iret hC hW dX7_distance_23
abbrev rmX7_isTooFar : Room := { frames := 0, cells := 0, slots := 0, locals := 0 }
def fX7_isTooFar (N : Nat) (x0 : Int32) (σ : St) : Option (Int32 × St) := if x0 < (-500 : Int32) then some ((1 : Int32), σ) else if x0 ≤ (500 : Int32) then some ((0 : Int32), σ) else some ((1 : Int32), σ)
set_option maxHeartbeats 4000000 in
set_option maxRecDepth 100000 in
theorem kX7_isTooFar {l : Launch} {D : va_G} {cA : Nat → ClassId} {ad : Nat → Nat} {N : Nat} {x0 : Int32} {σ : St} {r : Int32} {σ' : St} (hf : fX7_isTooFar N x0 σ = some (r, σ')) : MW kdX 140 l D cA ad ⟨RX7, "isTooFar", "(I)Z"⟩ cX7_isTooFar 1 (some .boolean) rmX7_isTooFar [.int x0] σ (some (.int r)) σ' := by
  refine MW.of (by decide) (Nat.le_of_ble_eq_true rfl) ?_
  intro p e s m args below meth c ls hC hW hl
  have hx := hC.1
  have hb := hC.2.1
  have hown := hC.2.2.2.1
  have hts := hC.2.2.2.2.1
  have hl : lv_has ls 1 [(0, .int x0)] := hl
  unfold fX7_isTooFar at hf
  refine lv_iload_n hx hb dX7_isTooFar_0 rfl (lv_at hl 0 rfl) ?_
  refine lv_sipush (v := (-500)) hx hb dX7_isTooFar_1 (by decide) ?_
  refine lv_icmp_lt (tgt := 14) hx hb dX7_isTooFar_4 (by decide) (fun h1 => ?_) (fun h1 => ?_)
  · have hf := it_t h1 hf
    refine lv_iconst (v := 1) hx hb dX7_isTooFar_14 (by decide) ?_
    refine lv_goto (tgt := 19) hx hb dX7_isTooFar_15 (by decide) ?_
    obtain ⟨rfl, rfl⟩ := sp hf
    exact Wd.zret hC hW (Or.inr rfl) dX7_isTooFar_19
  · have hf := it_f h1 hf
    refine lv_iload_n hx hb dX7_isTooFar_7 rfl (lv_at hl 0 rfl) ?_
    refine lv_sipush (v := 500) hx hb dX7_isTooFar_8 (by decide) ?_
    refine lv_icmp_le (tgt := 18) hx hb dX7_isTooFar_11 (by decide) (fun h2 => ?_) (fun h2 => ?_)
    · have hf := it_t h2 hf
      refine lv_iconst (v := 0) hx hb dX7_isTooFar_18 (by decide) ?_
      obtain ⟨rfl, rfl⟩ := sp hf
      exact Wd.zret hC hW (Or.inl rfl) dX7_isTooFar_19
    · have hf := it_f h2 hf
      refine lv_iconst (v := 1) hx hb dX7_isTooFar_14 (by decide) ?_
      refine lv_goto (tgt := 19) hx hb dX7_isTooFar_15 (by decide) ?_
      obtain ⟨rfl, rfl⟩ := sp hf
      exact Wd.zret hC hW (Or.inr rfl) dX7_isTooFar_19
abbrev rmX7_place : Room := { frames := 1, cells := 0, slots := 0, locals := 21 }
def fX7_place (N : Nat) (x1 : Int32) (x2 : Int32) (x3 : Int32) (σ : St) : Option (Int32 × St) := bd (fX3_has N x1 σ) (fun r1 s2 => if r1 = 0 then some ((0 : Int32), s2) else bd (fX7_isTooFar N x2 s2) (fun r5 s6 => if r5 = 0 then bd (fX7_isTooFar N x3 s6) (fun r9 s10 => if r9 = 0 then gd (ib x1 20) (nx (sI s10 2 x1.toNatClampNeg x2) (fun s14 => gd (ib x1 20) (nx (sI s14 3 x1.toNatClampNeg x3) (fun s16 => some ((1 : Int32), s16))))) else some ((0 : Int32), s10)) else some ((0 : Int32), s6)))
set_option maxHeartbeats 4000000 in
set_option maxRecDepth 100000 in
theorem kX7_place {l : Launch} {D : va_G} {cA : Nat → ClassId} {ad : Nat → Nat} {N : Nat} {x1 : Int32} {x2 : Int32} {x3 : Int32} {σ : St} {r : Int32} {σ' : St} (hf : fX7_place N x1 x2 x3 σ = some (r, σ')) : MW kdX 140 l D cA ad ⟨RX7, "place", "(III)Z"⟩ cX7_place 4 (some .boolean) rmX7_place [.ref (ad 0), .int x1, .int x2, .int x3] σ (some (.int r)) σ' := by
  refine MW.of (by decide) (Nat.le_of_ble_eq_true rfl) ?_
  intro p e s m args below meth c ls hC hW hl
  have hx := hC.1
  have hb := hC.2.1
  have hown := hC.2.2.2.1
  have hts := hC.2.2.2.2.1
  have hl : lv_has ls 4 [(0, .ref (ad 0)), (1, .int x1), (2, .int x2), (3, .int x3)] := hl
  unfold fX7_place at hf
  refine lv_aload_n hx hb dX7_place_0 rfl (lv_at hl 0 rfl) ?_
  refine gfX7_12 hC hW 0 (by decide) rfl (q := 1) rfl dX7_place_1 ?_
  refine lv_iload_n hx hb dX7_place_4 rfl (lv_at hl 1 rfl) ?_
  obtain ⟨r1, s2, c3, hf⟩ := bd_some hf
  refine Wd.callVN (n := 1) (As := [.int x1]) (rest := []) (rv := some (.int r1)) hC hW 1 (kX3_has c3) (by decide) rfl rfl q252 q254 qs1 q2 q255 ⟨rfl, rfl⟩ ⟨by decide +kernel, by decide +kernel, by decide +kernel⟩ ⟨Nat.le_of_ble_eq_true rfl, Nat.le_of_ble_eq_true rfl⟩ ⟨Nat.zero_le _, Nat.zero_le _⟩ rfl hl.1 rfl (st2 := [.int r1]) rfl (Nat.le_of_ble_eq_true rfl) dX7_place_5 (fun H locs hW => ?_)
  refine lv_if_eq (tgt := 25) hx hb dX7_place_8 (by decide) (fun h4 => ?_) (fun h4 => ?_)
  · have hf := it_t h4 hf
    refine lv_iconst (v := 0) hx hb dX7_place_25 (by decide) ?_
    obtain ⟨rfl, rfl⟩ := sp hf
    exact Wd.zret hC hW (Or.inl rfl) dX7_place_26
  · have hf := it_f h4 hf
    refine lv_iload_n hx hb dX7_place_11 rfl (lv_at hl 2 rfl) ?_
    obtain ⟨r5, s6, c7, hf⟩ := bd_some hf
    refine Wd.callS (n := 1) (As := [.int x2]) (rest := []) (rv := some (.int r5)) hC hW (kX7_isTooFar c7) q269 q270 q1 q271 ⟨rfl, rfl⟩ ⟨by decide +kernel, by decide +kernel, by decide +kernel⟩ ⟨Nat.le_of_ble_eq_true rfl, Nat.le_of_ble_eq_true rfl⟩ ⟨Nat.zero_le _, Nat.zero_le _⟩ rfl hl.1 rfl (st2 := [.int r5]) rfl (Nat.le_of_ble_eq_true rfl) dX7_place_12 (fun H locs hW => ?_)
    refine lv_if_ne (tgt := 25) hx hb dX7_place_15 (by decide) (fun h8 => ?_) (fun h8 => ?_)
    · have hf := it_f h8 hf
      refine lv_iconst (v := 0) hx hb dX7_place_25 (by decide) ?_
      obtain ⟨rfl, rfl⟩ := sp hf
      exact Wd.zret hC hW (Or.inl rfl) dX7_place_26
    · have hf := it_t h8 hf
      refine lv_iload_n hx hb dX7_place_18 rfl (lv_at hl 3 rfl) ?_
      obtain ⟨r9, s10, c11, hf⟩ := bd_some hf
      refine Wd.callS (n := 1) (As := [.int x3]) (rest := []) (rv := some (.int r9)) hC hW (kX7_isTooFar c11) q269 q270 q1 q271 ⟨rfl, rfl⟩ ⟨by decide +kernel, by decide +kernel, by decide +kernel⟩ ⟨Nat.le_of_ble_eq_true rfl, Nat.le_of_ble_eq_true rfl⟩ ⟨Nat.zero_le _, Nat.zero_le _⟩ rfl hl.1 rfl (st2 := [.int r9]) rfl (Nat.le_of_ble_eq_true rfl) dX7_place_19 (fun H locs hW => ?_)
      refine lv_if_eq (tgt := 27) hx hb dX7_place_22 (by decide) (fun h12 => ?_) (fun h12 => ?_)
      · have hf := it_t h12 hf
        refine lv_aload_n hx hb dX7_place_27 rfl (lv_at hl 0 rfl) ?_
        refine gfX7_12 hC hW 0 (by decide) rfl (q := 1) rfl dX7_place_28 ?_
        refine gfX7_67 hC hW 1 (by decide) rfl (q := 2) rfl dX7_place_31 ?_
        refine lv_iload_n hx hb dX7_place_34 rfl (lv_at hl 1 rfl) ?_
        refine lv_iload_n hx hb dX7_place_35 rfl (lv_at hl 2 rfl) ?_
        obtain ⟨h13, hf⟩ := gd_some hf
        refine Wd.iast hC hW 2 (by decide) rfl h13 dX7_place_36 (fun H locs hW => ?_)
        obtain ⟨s14, es14, hf⟩ := nx_ex hf
        rw [← es14] at hW
        refine lv_aload_n hx hb dX7_place_37 rfl (lv_at hl 0 rfl) ?_
        refine gfX7_12 hC hW 0 (by decide) rfl (q := 1) rfl dX7_place_38 ?_
        refine gfX7_71 hC hW 1 (by decide) rfl (q := 3) rfl dX7_place_41 ?_
        refine lv_iload_n hx hb dX7_place_44 rfl (lv_at hl 1 rfl) ?_
        refine lv_iload_n hx hb dX7_place_45 rfl (lv_at hl 3 rfl) ?_
        obtain ⟨h15, hf⟩ := gd_some hf
        refine Wd.iast hC hW 3 (by decide) rfl h15 dX7_place_46 (fun H locs hW => ?_)
        obtain ⟨s16, es16, hf⟩ := nx_ex hf
        rw [← es16] at hW
        refine lv_iconst (v := 1) hx hb dX7_place_47 (by decide) ?_
        obtain ⟨rfl, rfl⟩ := sp hf
        exact Wd.zret hC hW (Or.inr rfl) dX7_place_48
      · have hf := it_f h12 hf
        refine lv_iconst (v := 0) hx hb dX7_place_25 (by decide) ?_
        obtain ⟨rfl, rfl⟩ := sp hf
        exact Wd.zret hC hW (Or.inl rfl) dX7_place_26
abbrev rmJ9_abs_0f7a4 : Room := { frames := 0, cells := 0, slots := 0, locals := 0 }
def fJ9_abs_0f7a4 (N : Nat) (x0 : Int32) (σ : St) : Option (Int32 × St) := if 0 ≤ x0 then some (x0, σ) else some ((-x0), σ)
set_option maxHeartbeats 4000000 in
set_option maxRecDepth 100000 in
theorem kJ9_abs_0f7a4 {l : Launch} {D : va_G} {cA : Nat → ClassId} {ad : Nat → Nat} {N : Nat} {x0 : Int32} {σ : St} {r : Int32} {σ' : St} (hf : fJ9_abs_0f7a4 N x0 σ = some (r, σ')) : MW kdX 140 l D cA ad ⟨RJ9, "abs", "(I)I"⟩ cJ9_abs_0f7a4 1 (some .int) rmJ9_abs_0f7a4 [.int x0] σ (some (.int r)) σ' := by
  refine MW.ofF (by decide +kernel) (Nat.le_of_ble_eq_true rfl) ?_
  intro p e s m args below meth c ls hC hW hl
  have hx := hC.1
  have hb := hC.2.1
  have hown := hC.2.2.2.1
  have hts := hC.2.2.2.2.1
  have hl : lv_has ls 1 [(0, .int x0)] := hl
  unfold fJ9_abs_0f7a4 at hf
  refine lv_iload_n hx hb dJ9_abs_0f7a4_0 rfl (lv_at hl 0 rfl) ?_
  refine lv_if_ge (tgt := 9) hx hb dJ9_abs_0f7a4_1 (by decide) (fun h1 => ?_) (fun h1 => ?_)
  · have hf := it_t h1 hf
    refine lv_iload_n hx hb dJ9_abs_0f7a4_9 rfl (lv_at hl 0 rfl) ?_
    obtain ⟨rfl, rfl⟩ := sp hf
    exact Wd.iret hC hW dJ9_abs_0f7a4_10
  · have hf := it_f h1 hf
    refine lv_iload_n hx hb dJ9_abs_0f7a4_4 rfl (lv_at hl 0 rfl) ?_
    refine lv_ineg hx hb dJ9_abs_0f7a4_5 ?_
    refine lv_goto (tgt := 10) hx hb dJ9_abs_0f7a4_6 (by decide) ?_
    obtain ⟨rfl, rfl⟩ := sp hf
    exact Wd.iret hC hW dJ9_abs_0f7a4_10
abbrev rmJ9_max_7cf53 : Room := { frames := 0, cells := 0, slots := 0, locals := 0 }
def fJ9_max_7cf53 (N : Nat) (x0 : Int32) (x1 : Int32) (σ : St) : Option (Int32 × St) := if x0 < x1 then some (x1, σ) else some (x0, σ)
set_option maxHeartbeats 4000000 in
set_option maxRecDepth 100000 in
theorem kJ9_max_7cf53 {l : Launch} {D : va_G} {cA : Nat → ClassId} {ad : Nat → Nat} {N : Nat} {x0 : Int32} {x1 : Int32} {σ : St} {r : Int32} {σ' : St} (hf : fJ9_max_7cf53 N x0 x1 σ = some (r, σ')) : MW kdX 140 l D cA ad ⟨RJ9, "max", "(II)I"⟩ cJ9_max_7cf53 2 (some .int) rmJ9_max_7cf53 [.int x0, .int x1] σ (some (.int r)) σ' := by
  refine MW.ofF (by decide +kernel) (Nat.le_of_ble_eq_true rfl) ?_
  intro p e s m args below meth c ls hC hW hl
  have hx := hC.1
  have hb := hC.2.1
  have hown := hC.2.2.2.1
  have hts := hC.2.2.2.2.1
  have hl : lv_has ls 2 [(0, .int x0), (1, .int x1)] := hl
  unfold fJ9_max_7cf53 at hf
  refine lv_iload_n hx hb dJ9_max_7cf53_0 rfl (lv_at hl 0 rfl) ?_
  refine lv_iload_n hx hb dJ9_max_7cf53_1 rfl (lv_at hl 1 rfl) ?_
  refine lv_icmp_lt (tgt := 9) hx hb dJ9_max_7cf53_2 (by decide) (fun h1 => ?_) (fun h1 => ?_)
  · have hf := it_t h1 hf
    refine lv_iload_n hx hb dJ9_max_7cf53_9 rfl (lv_at hl 1 rfl) ?_
    obtain ⟨rfl, rfl⟩ := sp hf
    exact Wd.iret hC hW dJ9_max_7cf53_10
  · have hf := it_f h1 hf
    refine lv_iload_n hx hb dJ9_max_7cf53_5 rfl (lv_at hl 0 rfl) ?_
    refine lv_goto (tgt := 10) hx hb dJ9_max_7cf53_6 (by decide) ?_
    obtain ⟨rfl, rfl⟩ := sp hf
    exact Wd.iret hC hW dJ9_max_7cf53_10
abbrev rmX3_measured : Room := { frames := 1, cells := 0, slots := 0, locals := 21 }
def fX3_measured (N : Nat) (x0 : Int32) (x1 : Int32) (x2 : Int32) (σ : St) : Option (Int32 × St) := if x0 = 0 then some (((x1 * x1) + (x2 * x2)), σ) else if x0 = (1 : Int32) then some ((x1 + x2), σ) else bd (fJ9_max_7cf53 N x1 x2 σ) (fun r3 s4 => some (r3, s4))
set_option maxHeartbeats 4000000 in
set_option maxRecDepth 100000 in
theorem kX3_measured {l : Launch} {D : va_G} {cA : Nat → ClassId} {ad : Nat → Nat} {N : Nat} {x0 : Int32} {x1 : Int32} {x2 : Int32} {σ : St} {r : Int32} {σ' : St} (hf : fX3_measured N x0 x1 x2 σ = some (r, σ')) : MW kdX 140 l D cA ad ⟨RX3, "measured", "(III)I"⟩ cX3_measured 3 (some .int) rmX3_measured [.int x0, .int x1, .int x2] σ (some (.int r)) σ' := by
  refine MW.of (by decide) (Nat.le_of_ble_eq_true rfl) ?_
  intro p e s m args below meth c ls hC hW hl
  have hx := hC.1
  have hb := hC.2.1
  have hown := hC.2.2.2.1
  have hts := hC.2.2.2.2.1
  have hl : lv_has ls 3 [(0, .int x0), (1, .int x1), (2, .int x2)] := hl
  unfold fX3_measured at hf
  refine lv_iload_n hx hb dX3_measured_0 rfl (lv_at hl 0 rfl) ?_
  refine lv_if_ne (tgt := 12) hx hb dX3_measured_1 (by decide) (fun h1 => ?_) (fun h1 => ?_)
  · have hf := it_f h1 hf
    refine lv_iload_n hx hb dX3_measured_12 rfl (lv_at hl 0 rfl) ?_
    refine lv_iconst (v := 1) hx hb dX3_measured_13 (by decide) ?_
    refine lv_icmp_ne (tgt := 23) hx hb dX3_measured_14 (by decide) (fun h2 => ?_) (fun h2 => ?_)
    · have hf := it_f h2 hf
      refine lv_iload_n hx hb dX3_measured_23 rfl (lv_at hl 1 rfl) ?_
      refine lv_iload_n hx hb dX3_measured_24 rfl (lv_at hl 2 rfl) ?_
      obtain ⟨r3, s4, c5, hf⟩ := bd_some hf
      refine Wd.callS (n := 2) (As := [.int x1, .int x2]) (rest := []) (rv := some (.int r3)) hC hW (kJ9_max_7cf53 c5) q286 q287 q9 q288 ⟨rfl, rfl⟩ ⟨by decide +kernel, by decide +kernel, by decide +kernel⟩ ⟨Nat.le_of_ble_eq_true rfl, Nat.le_of_ble_eq_true rfl⟩ ⟨Nat.zero_le _, Nat.zero_le _⟩ rfl hl.1 rfl (st2 := [.int r3]) rfl (Nat.le_of_ble_eq_true rfl) dX3_measured_25 (fun H locs hW => ?_)
      obtain ⟨rfl, rfl⟩ := sp hf
      exact Wd.iret hC hW dX3_measured_28
    · have hf := it_t h2 hf
      refine lv_iload_n hx hb dX3_measured_17 rfl (lv_at hl 1 rfl) ?_
      refine lv_iload_n hx hb dX3_measured_18 rfl (lv_at hl 2 rfl) ?_
      refine lv_iadd hx hb dX3_measured_19 ?_
      refine lv_goto (tgt := 28) hx hb dX3_measured_20 (by decide) ?_
      obtain ⟨rfl, rfl⟩ := sp hf
      exact Wd.iret hC hW dX3_measured_28
  · have hf := it_t h1 hf
    refine lv_iload_n hx hb dX3_measured_4 rfl (lv_at hl 1 rfl) ?_
    refine lv_iload_n hx hb dX3_measured_5 rfl (lv_at hl 1 rfl) ?_
    refine lv_imul hx hb dX3_measured_6 ?_
    refine lv_iload_n hx hb dX3_measured_7 rfl (lv_at hl 2 rfl) ?_
    refine lv_iload_n hx hb dX3_measured_8 rfl (lv_at hl 2 rfl) ?_
    refine lv_imul hx hb dX3_measured_9 ?_
    refine lv_iadd hx hb dX3_measured_10 ?_
    obtain ⟨rfl, rfl⟩ := sp hf
    exact Wd.iret hC hW dX3_measured_11
abbrev rmX3_measureAll : Room := { frames := 2, cells := 0, slots := 0, locals := 43 }
def fX3_measureAll_12 (N : Nat) (K2 : Int32 → Int32 → St → Option (Unit × St)) : Nat → Int32 → Int32 → Int32 → St → Option (Unit × St)
  | 0, _, _, _, _ => none
  | n + 1, x1, x2, x3, σ => if x2 ≤ x3 then nx (x2 + (1 : Int32)) (fun v2 => (K2 x1 v2 σ)) else gd (ib x2 20) (gd (ib x3 20) (bd (fJ9_abs_0f7a4 N ((σ.1 2 x2.toNatClampNeg) - (σ.1 2 x3.toNatClampNeg)) σ) (fun r5 s6 => gd (ib x2 20) (gd (ib x3 20) (bd (fJ9_abs_0f7a4 N ((s6.1 3 x2.toNatClampNeg) - (s6.1 3 x3.toNatClampNeg)) s6) (fun r10 s11 => bd (fX3_measured N x1 r5 r10 s11) (fun r13 s14 => bd (fX3_setApart N x2 x3 r13 s14) (fun r16 s17 => nx (x3 + (1 : Int32)) (fun v19 => ((fX3_measureAll_12 N K2 n) x1 x2 v19 s17))))))))))
set_option maxHeartbeats 4000000 in
set_option maxRecDepth 100000 in
theorem wX3_measureAll_12 (hC : Cx RX3 cX3_measureAll 4 none D cA p s m args meth c) {N : Nat} {K2 : Int32 → Int32 → St → Option (Unit × St)} {r : Unit} {σ' : St} (hK2 : ∀ (x1 : Int32) (x2 : Int32) (σ : St) (H : Heap) (locs : List Loc) (ls : Array Slot), K2 x1 x2 σ = some (r, σ') → Wd kdX 140 D cA ad s σ H locs → lv_has ls 4 [(0, .ref (ad 1)), (1, .int x1), (2, .int x2)] → W p l e rmX3_measureAll s m args below meth c H locs 0 0 (EndW kdX 140 D cA ad below args s none σ') (F0 m 2 ls [])) : ∀ (n : Nat) (x1 : Int32) (x2 : Int32) (x3 : Int32) (σ : St) (H : Heap) (locs : List Loc) (ls : Array Slot), fX3_measureAll_12 N K2 n x1 x2 x3 σ = some (r, σ') → Wd kdX 140 D cA ad s σ H locs → lv_has ls 4 [(0, .ref (ad 1)), (1, .int x1), (2, .int x2), (3, .int x3)] → W p l e rmX3_measureAll s m args below meth c H locs 0 0 (EndW kdX 140 D cA ad below args s none σ') (F0 m 12 ls []) := by
  have hx := hC.1
  have hb := hC.2.1
  have hown := hC.2.2.2.1
  have hts := hC.2.2.2.2.1
  intro n
  induction n with
  | zero =>
    intro x1 x2 x3 σ H locs ls hf
    rw [fX3_measureAll_12] at hf
    cases hf
  | succ n ih =>
    intro x1 x2 x3 σ H locs ls hf hW hl
    rw [fX3_measureAll_12] at hf
    refine lv_iload_n hx hb dX3_measureAll_12 rfl (lv_at hl 3 rfl) ?_
    refine lv_iload_n hx hb dX3_measureAll_13 rfl (lv_at hl 2 rfl) ?_
    refine lv_icmp_ge (tgt := 65) hx hb dX3_measureAll_14 (by decide) (fun h1 => ?_) (fun h1 => ?_)
    · have hf := it_t h1 hf
      obtain ⟨v2, ev2⟩ : ∃ y : Int32, y = x2 + (1 : Int32) := ⟨_, rfl⟩
      have hf := nx_at ev2 hf
      refine lv_iinc (v := v2) (lv' := [(2, .int v2), (0, .ref (ad 1)), (1, .int x1), (3, .int x3)]) hx hb dX3_measureAll_65 hl (k := 2) rfl (by rw [ev2]; rfl) (by decide) rfl (fun ls hl => ?_)
      refine lv_goto (tgt := 2) hx hb dX3_measureAll_68 (by decide) ?_
      exact hK2 _ _ _ _ _ _ hf hW (lv_sub hl [1, 2, 0] rfl)
    · have hf := it_f h1 hf
      refine lv_aload_n hx hb dX3_measureAll_17 rfl (lv_at hl 0 rfl) ?_
      refine lv_iload_n hx hb dX3_measureAll_18 rfl (lv_at hl 2 rfl) ?_
      refine lv_iload_n hx hb dX3_measureAll_19 rfl (lv_at hl 3 rfl) ?_
      refine lv_iload_n hx hb dX3_measureAll_20 rfl (lv_at hl 1 rfl) ?_
      refine lv_aload_n hx hb dX3_measureAll_21 rfl (lv_at hl 0 rfl) ?_
      refine gfX3_16 hC hW 1 (by decide) rfl (q := 2) rfl dX3_measureAll_22 ?_
      refine lv_iload_n hx hb dX3_measureAll_25 rfl (lv_at hl 2 rfl) ?_
      obtain ⟨h3, hf⟩ := gd_some hf
      refine Wd.iald hC hW 2 (by decide) rfl h3 dX3_measureAll_26 ?_
      refine lv_aload_n hx hb dX3_measureAll_27 rfl (lv_at hl 0 rfl) ?_
      refine gfX3_16 hC hW 1 (by decide) rfl (q := 2) rfl dX3_measureAll_28 ?_
      refine lv_iload_n hx hb dX3_measureAll_31 rfl (lv_at hl 3 rfl) ?_
      obtain ⟨h4, hf⟩ := gd_some hf
      refine Wd.iald hC hW 2 (by decide) rfl h4 dX3_measureAll_32 ?_
      refine lv_isub hx hb dX3_measureAll_33 ?_
      obtain ⟨r5, s6, c7, hf⟩ := bd_some hf
      refine Wd.callS (n := 1) (As := [.int ((σ.1 2 x2.toNatClampNeg) - (σ.1 2 x3.toNatClampNeg))]) (rest := [.int x1, .int x3, .int x2, .ref (ad 1)]) (rv := some (.int r5)) hC hW (kJ9_abs_0f7a4 c7) q280 q281 q9 q282 ⟨rfl, rfl⟩ ⟨by decide +kernel, by decide +kernel, by decide +kernel⟩ ⟨Nat.le_of_ble_eq_true rfl, Nat.le_of_ble_eq_true rfl⟩ ⟨Nat.zero_le _, Nat.zero_le _⟩ rfl hl.1 rfl (st2 := [.int r5, .int x1, .int x3, .int x2, .ref (ad 1)]) rfl (Nat.le_of_ble_eq_true rfl) dX3_measureAll_34 (fun H locs hW => ?_)
      refine lv_aload_n hx hb dX3_measureAll_37 rfl (lv_at hl 0 rfl) ?_
      refine gfX3_20 hC hW 1 (by decide) rfl (q := 3) rfl dX3_measureAll_38 ?_
      refine lv_iload_n hx hb dX3_measureAll_41 rfl (lv_at hl 2 rfl) ?_
      obtain ⟨h8, hf⟩ := gd_some hf
      refine Wd.iald hC hW 3 (by decide) rfl h8 dX3_measureAll_42 ?_
      refine lv_aload_n hx hb dX3_measureAll_43 rfl (lv_at hl 0 rfl) ?_
      refine gfX3_20 hC hW 1 (by decide) rfl (q := 3) rfl dX3_measureAll_44 ?_
      refine lv_iload_n hx hb dX3_measureAll_47 rfl (lv_at hl 3 rfl) ?_
      obtain ⟨h9, hf⟩ := gd_some hf
      refine Wd.iald hC hW 3 (by decide) rfl h9 dX3_measureAll_48 ?_
      refine lv_isub hx hb dX3_measureAll_49 ?_
      obtain ⟨r10, s11, c12, hf⟩ := bd_some hf
      refine Wd.callS (n := 1) (As := [.int ((s6.1 3 x2.toNatClampNeg) - (s6.1 3 x3.toNatClampNeg))]) (rest := [.int r5, .int x1, .int x3, .int x2, .ref (ad 1)]) (rv := some (.int r10)) hC hW (kJ9_abs_0f7a4 c12) q280 q281 q9 q282 ⟨rfl, rfl⟩ ⟨by decide +kernel, by decide +kernel, by decide +kernel⟩ ⟨Nat.le_of_ble_eq_true rfl, Nat.le_of_ble_eq_true rfl⟩ ⟨Nat.zero_le _, Nat.zero_le _⟩ rfl hl.1 rfl (st2 := [.int r10, .int r5, .int x1, .int x3, .int x2, .ref (ad 1)]) rfl (Nat.le_of_ble_eq_true rfl) dX3_measureAll_50 (fun H locs hW => ?_)
      obtain ⟨r13, s14, c15, hf⟩ := bd_some hf
      refine Wd.callS (n := 3) (As := [.int x1, .int r5, .int r10]) (rest := [.int x3, .int x2, .ref (ad 1)]) (rv := some (.int r13)) hC hW (kX3_measured c15) q283 q284 q2 q285 ⟨rfl, rfl⟩ ⟨by decide +kernel, by decide +kernel, by decide +kernel⟩ ⟨Nat.le_of_ble_eq_true rfl, Nat.le_of_ble_eq_true rfl⟩ ⟨Nat.zero_le _, Nat.zero_le _⟩ rfl hl.1 rfl (st2 := [.int r13, .int x3, .int x2, .ref (ad 1)]) rfl (Nat.le_of_ble_eq_true rfl) dX3_measureAll_53 (fun H locs hW => ?_)
      obtain ⟨r16, s17, c18, hf⟩ := bd_some hf
      refine Wd.callV (n := 3) (As := [.int x2, .int x3, .int r13]) (rest := []) (rv := none) hC hW 1 (kX3_setApart c18) (by decide) rfl rfl q289 q259 qs2 q2 q260 ⟨rfl, rfl⟩ ⟨by decide +kernel, by decide +kernel, by decide +kernel⟩ ⟨Nat.le_of_ble_eq_true rfl, Nat.le_of_ble_eq_true rfl⟩ ⟨Nat.zero_le _, Nat.zero_le _⟩ rfl hl.1 rfl (st2 := []) rfl (Nat.le_of_ble_eq_true rfl) dX3_measureAll_56 (fun H locs hW => ?_)
      obtain ⟨v19, ev19⟩ : ∃ y : Int32, y = x3 + (1 : Int32) := ⟨_, rfl⟩
      have hf := nx_at ev19 hf
      refine lv_iinc (v := v19) (lv' := [(3, .int v19), (0, .ref (ad 1)), (1, .int x1), (2, .int x2)]) hx hb dX3_measureAll_59 hl (k := 3) rfl (by rw [ev19]; rfl) (by decide) rfl (fun ls hl => ?_)
      refine lv_goto (tgt := 12) hx hb dX3_measureAll_62 (by decide) ?_
      exact ih _ _ _ _ _ _ _ hf hW (lv_sub hl [1, 2, 3, 0] rfl)
def fX3_measureAll_2 (N : Nat) : Nat → Int32 → Int32 → St → Option (Unit × St)
  | 0, _, _, _ => none
  | n + 1, x1, x2, σ => if (σ.1 1 0) ≤ x2 then some ((), σ) else (fX3_measureAll_12 N (fX3_measureAll_2 N n) N x1 x2 (0 : Int32) σ)
set_option maxHeartbeats 4000000 in
set_option maxRecDepth 100000 in
theorem wX3_measureAll_2 (hC : Cx RX3 cX3_measureAll 4 none D cA p s m args meth c) {N : Nat} {r : Unit} {σ' : St} : ∀ (n : Nat) (x1 : Int32) (x2 : Int32) (σ : St) (H : Heap) (locs : List Loc) (ls : Array Slot), fX3_measureAll_2 N n x1 x2 σ = some (r, σ') → Wd kdX 140 D cA ad s σ H locs → lv_has ls 4 [(0, .ref (ad 1)), (1, .int x1), (2, .int x2)] → W p l e rmX3_measureAll s m args below meth c H locs 0 0 (EndW kdX 140 D cA ad below args s none σ') (F0 m 2 ls []) := by
  have hx := hC.1
  have hb := hC.2.1
  have hown := hC.2.2.2.1
  have hts := hC.2.2.2.2.1
  intro n
  induction n with
  | zero =>
    intro x1 x2 σ H locs ls hf
    rw [fX3_measureAll_2] at hf
    cases hf
  | succ n ih =>
    intro x1 x2 σ H locs ls hf hW hl
    rw [fX3_measureAll_2] at hf
    refine lv_iload_n hx hb dX3_measureAll_2 rfl (lv_at hl 2 rfl) ?_
    refine lv_aload_n hx hb dX3_measureAll_3 rfl (lv_at hl 0 rfl) ?_
    refine gfX3_23 hC hW 1 (by decide) rfl rfl dX3_measureAll_4 ?_
    refine lv_icmp_ge (tgt := 71) hx hb dX3_measureAll_7 (by decide) (fun h1 => ?_) (fun h1 => ?_)
    · have hf := it_t h1 hf
      obtain ⟨-, rfl⟩ := sp hf
      exact Wd.vret hC hW dX3_measureAll_71
    · have hf := it_f h1 hf
      refine lv_iconst (v := 0) hx hb dX3_measureAll_10 (by decide) ?_
      refine lv_istore_n (lv' := [(3, .int (0 : Int32)), (0, .ref (ad 1)), (1, .int x1), (2, .int x2)]) hx hb dX3_measureAll_11 rfl hl (by decide) rfl (fun ls hl => ?_)
      exact wX3_measureAll_12 hC ih N _ _ _ _ _ _ _ hf hW (lv_sub hl [1, 2, 3, 0] rfl)
def fX3_measureAll (N : Nat) (x1 : Int32) (σ : St) : Option (Unit × St) := (fX3_measureAll_2 N N x1 (1 : Int32) σ)
set_option maxHeartbeats 4000000 in
set_option maxRecDepth 100000 in
theorem kX3_measureAll {l : Launch} {D : va_G} {cA : Nat → ClassId} {ad : Nat → Nat} {N : Nat} {x1 : Int32} {σ : St} {r : Unit} {σ' : St} (hf : fX3_measureAll N x1 σ = some (r, σ')) : MW kdX 140 l D cA ad ⟨RX3, "measureAll", "(I)V"⟩ cX3_measureAll 4 none rmX3_measureAll [.ref (ad 1), .int x1] σ none σ' := by
  refine MW.of (by decide) (Nat.le_of_ble_eq_true rfl) ?_
  intro p e s m args below meth c ls hC hW hl
  have hx := hC.1
  have hb := hC.2.1
  have hown := hC.2.2.2.1
  have hts := hC.2.2.2.2.1
  have hl : lv_has ls 4 [(0, .ref (ad 1)), (1, .int x1)] := hl
  unfold fX3_measureAll at hf
  refine lv_iconst (v := 1) hx hb dX3_measureAll_0 (by decide) ?_
  refine lv_istore_n (lv' := [(2, .int (1 : Int32)), (0, .ref (ad 1)), (1, .int x1)]) hx hb dX3_measureAll_1 rfl hl (by decide) rfl (fun ls hl => ?_)
  exact wX3_measureAll_2 hC N _ _ _ _ _ _ hf hW (lv_sub hl [1, 2, 0] rfl)
abbrev rmX7_measure : Room := { frames := 3, cells := 0, slots := 0, locals := 66 }
def fX7_measure (N : Nat) (x1 : Int32) (σ : St) : Option (Int32 × St) := if x1 < 0 then some ((0 : Int32), σ) else if x1 ≤ (2 : Int32) then bd (fX3_measureAll N x1 σ) (fun r3 s4 => some ((1 : Int32), s4)) else some ((0 : Int32), σ)
set_option maxHeartbeats 4000000 in
set_option maxRecDepth 100000 in
theorem kX7_measure {l : Launch} {D : va_G} {cA : Nat → ClassId} {ad : Nat → Nat} {N : Nat} {x1 : Int32} {σ : St} {r : Int32} {σ' : St} (hf : fX7_measure N x1 σ = some (r, σ')) : MW kdX 140 l D cA ad ⟨RX7, "measure", "(I)Z"⟩ cX7_measure 2 (some .boolean) rmX7_measure [.ref (ad 0), .int x1] σ (some (.int r)) σ' := by
  refine MW.of (by decide) (Nat.le_of_ble_eq_true rfl) ?_
  intro p e s m args below meth c ls hC hW hl
  have hx := hC.1
  have hb := hC.2.1
  have hown := hC.2.2.2.1
  have hts := hC.2.2.2.2.1
  have hl : lv_has ls 2 [(0, .ref (ad 0)), (1, .int x1)] := hl
  unfold fX7_measure at hf
  refine lv_iload_n hx hb dX7_measure_0 rfl (lv_at hl 1 rfl) ?_
  refine lv_if_lt (tgt := 9) hx hb dX7_measure_1 (by decide) (fun h1 => ?_) (fun h1 => ?_)
  · have hf := it_t h1 hf
    refine lv_iconst (v := 0) hx hb dX7_measure_9 (by decide) ?_
    obtain ⟨rfl, rfl⟩ := sp hf
    exact Wd.zret hC hW (Or.inl rfl) dX7_measure_10
  · have hf := it_f h1 hf
    refine lv_iload_n hx hb dX7_measure_4 rfl (lv_at hl 1 rfl) ?_
    refine lv_iconst (v := 2) hx hb dX7_measure_5 (by decide) ?_
    refine lv_icmp_le (tgt := 11) hx hb dX7_measure_6 (by decide) (fun h2 => ?_) (fun h2 => ?_)
    · have hf := it_t h2 hf
      refine lv_aload_n hx hb dX7_measure_11 rfl (lv_at hl 0 rfl) ?_
      refine gfX7_12 hC hW 0 (by decide) rfl (q := 1) rfl dX7_measure_12 ?_
      refine lv_iload_n hx hb dX7_measure_15 rfl (lv_at hl 1 rfl) ?_
      obtain ⟨r3, s4, c5, hf⟩ := bd_some hf
      refine Wd.callVN (n := 1) (As := [.int x1]) (rest := []) (rv := none) hC hW 1 (kX3_measureAll c5) (by decide) rfl rfl q276 q278 qs3 q2 q279 ⟨rfl, rfl⟩ ⟨by decide +kernel, by decide +kernel, by decide +kernel⟩ ⟨Nat.le_of_ble_eq_true rfl, Nat.le_of_ble_eq_true rfl⟩ ⟨Nat.zero_le _, Nat.zero_le _⟩ rfl hl.1 rfl (st2 := []) rfl (Nat.le_of_ble_eq_true rfl) dX7_measure_16 (fun H locs hW => ?_)
      refine lv_iconst (v := 1) hx hb dX7_measure_19 (by decide) ?_
      obtain ⟨rfl, rfl⟩ := sp hf
      exact Wd.zret hC hW (Or.inr rfl) dX7_measure_20
    · have hf := it_f h2 hf
      refine lv_iconst (v := 0) hx hb dX7_measure_9 (by decide) ?_
      obtain ⟨rfl, rfl⟩ := sp hf
      exact Wd.zret hC hW (Or.inl rfl) dX7_measure_10
abbrev rmX0_add : Room := { frames := 0, cells := 0, slots := 0, locals := 0 }
def fX0_add (N : Nat) (a : Nat) (x1 : Int32) (σ : St) : Option (Unit × St) := if (2400 : Int32) ≤ (σ.1 a 1) then some ((), σ) else gd (ib (σ.1 a 1) 2400) (nx (sI σ (a + 1) (σ.1 a 1).toNatClampNeg x1.toInt8.toInt32.toInt8.toInt32) (fun s3 => nx (sI s3 a 1 ((s3.1 a 1) + (1 : Int32))) (fun s4 => some ((), s4))))
set_option maxHeartbeats 4000000 in
set_option maxRecDepth 100000 in
theorem kX0_add {l : Launch} {D : va_G} {cA : Nat → ClassId} {ad : Nat → Nat} {N : Nat} {a : Nat} (ha : isBy a) {x1 : Int32} {σ : St} {r : Unit} {σ' : St} (hf : fX0_add N a x1 σ = some (r, σ')) : MW kdX 140 l D cA ad ⟨RX0, "add", "(I)V"⟩ cX0_add 2 none rmX0_add [.ref (ad a), .int x1] σ none σ' := by
  refine MW.of (by decide) (Nat.le_of_ble_eq_true rfl) ?_
  intro p e s m args below meth c ls hC hW hl
  have hx := hC.1
  have hb := hC.2.1
  have hown := hC.2.2.2.1
  have hts := hC.2.2.2.2.1
  have hl : lv_has ls 2 [(0, .ref (ad a)), (1, .int x1)] := hl
  unfold fX0_add at hf
  refine lv_aload_n hx hb dX0_add_0 rfl (lv_at hl 0 rfl) ?_
  refine gfX0_15 hC hW a (By.b ha) (By.o ha) rfl dX0_add_1 ?_
  refine lv_sipush (v := 2400) hx hb dX0_add_4 (by decide) ?_
  refine lv_icmp_ge (tgt := 31) hx hb dX0_add_7 (by decide) (fun h1 => ?_) (fun h1 => ?_)
  · have hf := it_t h1 hf
    obtain ⟨-, rfl⟩ := sp hf
    exact Wd.vret hC hW dX0_add_31
  · have hf := it_f h1 hf
    refine lv_aload_n hx hb dX0_add_10 rfl (lv_at hl 0 rfl) ?_
    refine gfX0_9 hC hW a (By.b ha) (By.o ha) (q := (a + 1)) rfl dX0_add_11 ?_
    refine lv_aload_n hx hb dX0_add_14 rfl (lv_at hl 0 rfl) ?_
    refine gfX0_15 hC hW a (By.b ha) (By.o ha) rfl dX0_add_15 ?_
    refine lv_iload_n hx hb dX0_add_18 rfl (lv_at hl 1 rfl) ?_
    refine lv_i2b (v := x1.toInt8.toInt32) hx hb dX0_add_19 rfl ?_
    obtain ⟨h2, hf⟩ := gd_some hf
    refine Wd.bast hC hW (a + 1) (By.br ha) (By.r ha) h2 dX0_add_20 (fun H locs hW => ?_)
    obtain ⟨s3, es3, hf⟩ := nx_ex hf
    rw [← es3] at hW
    refine lv_aload_n hx hb dX0_add_21 rfl (lv_at hl 0 rfl) ?_
    refine lv_dup hx hb dX0_add_22 rfl ?_
    refine gfX0_15 hC hW a (By.b ha) (By.o ha) rfl dX0_add_23 ?_
    refine lv_iconst (v := 1) hx hb dX0_add_26 (by decide) ?_
    refine lv_iadd hx hb dX0_add_27 ?_
    refine pgfX0_15 hC hW a (By.b ha) (By.o ha) rfl dX0_add_28 (fun H locs hW => ?_)
    obtain ⟨s4, es4, hf⟩ := nx_ex hf
    rw [← es4] at hW
    obtain ⟨-, rfl⟩ := sp hf
    exact Wd.vret hC hW dX0_add_31
abbrev rmX0_addFour : Room := { frames := 1, cells := 0, slots := 0, locals := 21 }
def fX0_addFour (N : Nat) (a : Nat) (x1 : Int32) (σ : St) : Option (Unit × St) := bd (fX0_add N a (x1 >>> ((24 : Int32) &&& 31)) σ) (fun r1 s2 => bd (fX0_add N a (x1 >>> ((16 : Int32) &&& 31)) s2) (fun r4 s5 => bd (fX0_add N a (x1 >>> ((8 : Int32) &&& 31)) s5) (fun r7 s8 => bd (fX0_add N a x1 s8) (fun r10 s11 => some ((), s11)))))
set_option maxHeartbeats 4000000 in
set_option maxRecDepth 100000 in
theorem kX0_addFour {l : Launch} {D : va_G} {cA : Nat → ClassId} {ad : Nat → Nat} {N : Nat} {a : Nat} (ha : isBy a) {x1 : Int32} {σ : St} {r : Unit} {σ' : St} (hf : fX0_addFour N a x1 σ = some (r, σ')) : MW kdX 140 l D cA ad ⟨RX0, "addFour", "(I)V"⟩ cX0_addFour 2 none rmX0_addFour [.ref (ad a), .int x1] σ none σ' := by
  refine MW.of (by decide) (Nat.le_of_ble_eq_true rfl) ?_
  intro p e s m args below meth c ls hC hW hl
  have hx := hC.1
  have hb := hC.2.1
  have hown := hC.2.2.2.1
  have hts := hC.2.2.2.2.1
  have hl : lv_has ls 2 [(0, .ref (ad a)), (1, .int x1)] := hl
  unfold fX0_addFour at hf
  refine lv_aload_n hx hb dX0_addFour_0 rfl (lv_at hl 0 rfl) ?_
  refine lv_iload_n hx hb dX0_addFour_1 rfl (lv_at hl 1 rfl) ?_
  refine lv_bipush (v := 24) hx hb dX0_addFour_2 (by decide) ?_
  refine lv_ishr hx hb dX0_addFour_4 ?_
  obtain ⟨r1, s2, c3, hf⟩ := bd_some hf
  refine Wd.callV (n := 1) (As := [.int (x1 >>> ((24 : Int32) &&& 31))]) (rest := []) (rv := none) hC hW a (kX0_add ha c3) (By.b ha) (By.o ha) rfl q298 q300 qs5 q3 q301 ⟨rfl, rfl⟩ ⟨by decide +kernel, by decide +kernel, by decide +kernel⟩ ⟨Nat.le_of_ble_eq_true rfl, Nat.le_of_ble_eq_true rfl⟩ ⟨Nat.zero_le _, Nat.zero_le _⟩ rfl hl.1 rfl (st2 := []) rfl (Nat.le_of_ble_eq_true rfl) dX0_addFour_5 (fun H locs hW => ?_)
  refine lv_aload_n hx hb dX0_addFour_8 rfl (lv_at hl 0 rfl) ?_
  refine lv_iload_n hx hb dX0_addFour_9 rfl (lv_at hl 1 rfl) ?_
  refine lv_bipush (v := 16) hx hb dX0_addFour_10 (by decide) ?_
  refine lv_ishr hx hb dX0_addFour_12 ?_
  obtain ⟨r4, s5, c6, hf⟩ := bd_some hf
  refine Wd.callV (n := 1) (As := [.int (x1 >>> ((16 : Int32) &&& 31))]) (rest := []) (rv := none) hC hW a (kX0_add ha c6) (By.b ha) (By.o ha) rfl q298 q300 qs5 q3 q301 ⟨rfl, rfl⟩ ⟨by decide +kernel, by decide +kernel, by decide +kernel⟩ ⟨Nat.le_of_ble_eq_true rfl, Nat.le_of_ble_eq_true rfl⟩ ⟨Nat.zero_le _, Nat.zero_le _⟩ rfl hl.1 rfl (st2 := []) rfl (Nat.le_of_ble_eq_true rfl) dX0_addFour_13 (fun H locs hW => ?_)
  refine lv_aload_n hx hb dX0_addFour_16 rfl (lv_at hl 0 rfl) ?_
  refine lv_iload_n hx hb dX0_addFour_17 rfl (lv_at hl 1 rfl) ?_
  refine lv_bipush (v := 8) hx hb dX0_addFour_18 (by decide) ?_
  refine lv_ishr hx hb dX0_addFour_20 ?_
  obtain ⟨r7, s8, c9, hf⟩ := bd_some hf
  refine Wd.callV (n := 1) (As := [.int (x1 >>> ((8 : Int32) &&& 31))]) (rest := []) (rv := none) hC hW a (kX0_add ha c9) (By.b ha) (By.o ha) rfl q298 q300 qs5 q3 q301 ⟨rfl, rfl⟩ ⟨by decide +kernel, by decide +kernel, by decide +kernel⟩ ⟨Nat.le_of_ble_eq_true rfl, Nat.le_of_ble_eq_true rfl⟩ ⟨Nat.zero_le _, Nat.zero_le _⟩ rfl hl.1 rfl (st2 := []) rfl (Nat.le_of_ble_eq_true rfl) dX0_addFour_21 (fun H locs hW => ?_)
  refine lv_aload_n hx hb dX0_addFour_24 rfl (lv_at hl 0 rfl) ?_
  refine lv_iload_n hx hb dX0_addFour_25 rfl (lv_at hl 1 rfl) ?_
  obtain ⟨r10, s11, c12, hf⟩ := bd_some hf
  refine Wd.callV (n := 1) (As := [.int x1]) (rest := []) (rv := none) hC hW a (kX0_add ha c12) (By.b ha) (By.o ha) rfl q298 q300 qs5 q3 q301 ⟨rfl, rfl⟩ ⟨by decide +kernel, by decide +kernel, by decide +kernel⟩ ⟨Nat.le_of_ble_eq_true rfl, Nat.le_of_ble_eq_true rfl⟩ ⟨Nat.zero_le _, Nat.zero_le _⟩ rfl hl.1 rfl (st2 := []) rfl (Nat.le_of_ble_eq_true rfl) dX0_addFour_26 (fun H locs hW => ?_)
  obtain ⟨-, rfl⟩ := sp hf
  exact Wd.vret hC hW dX0_addFour_29
abbrev rmX7_feed : Room := { frames := 2, cells := 0, slots := 0, locals := 42 }
def fX7_feed (N : Nat) (x1 : Int32) (x2 : Int32) (x3 : Int32) (x4 : Int32) (x5 : Int32) (σ : St) : Option (Int32 × St) := if ((σ.1 5 1) + (20 : Int32)) ≤ (2400 : Int32) then bd (fX0_addFour N 5 x1 σ) (fun r2 s3 => bd (fX0_addFour N 5 x2 s3) (fun r5 s6 => bd (fX0_addFour N 5 x3 s6) (fun r8 s9 => bd (fX0_addFour N 5 x4 s9) (fun r11 s12 => bd (fX0_addFour N 5 x5 s12) (fun r14 s15 => some ((s15.1 5 1), s15)))))) else some ((-1 : Int32), σ)
set_option maxHeartbeats 4000000 in
set_option maxRecDepth 100000 in
theorem kX7_feed {l : Launch} {D : va_G} {cA : Nat → ClassId} {ad : Nat → Nat} {N : Nat} {x1 : Int32} {x2 : Int32} {x3 : Int32} {x4 : Int32} {x5 : Int32} {σ : St} {r : Int32} {σ' : St} (hf : fX7_feed N x1 x2 x3 x4 x5 σ = some (r, σ')) : MW kdX 140 l D cA ad ⟨RX7, "feed", "(IIIII)I"⟩ cX7_feed 6 (some .int) rmX7_feed [.ref (ad 0), .int x1, .int x2, .int x3, .int x4, .int x5] σ (some (.int r)) σ' := by
  refine MW.of (by decide) (Nat.le_of_ble_eq_true rfl) ?_
  intro p e s m args below meth c ls hC hW hl
  have hx := hC.1
  have hb := hC.2.1
  have hown := hC.2.2.2.1
  have hts := hC.2.2.2.2.1
  have hl : lv_has ls 6 [(0, .ref (ad 0)), (1, .int x1), (2, .int x2), (3, .int x3), (4, .int x4), (5, .int x5)] := hl
  unfold fX7_feed at hf
  refine lv_aload_n hx hb dX7_feed_0 rfl (lv_at hl 0 rfl) ?_
  refine gfX7_19 hC hW 0 (by decide) rfl (q := 5) rfl dX7_feed_1 ?_
  refine gfX7_77 hC hW 5 (by decide) rfl rfl dX7_feed_4 ?_
  refine lv_bipush (v := 20) hx hb dX7_feed_7 (by decide) ?_
  refine lv_iadd hx hb dX7_feed_9 ?_
  refine lv_sipush (v := 2400) hx hb dX7_feed_10 (by decide) ?_
  refine lv_icmp_le (tgt := 18) hx hb dX7_feed_13 (by decide) (fun h1 => ?_) (fun h1 => ?_)
  · have hf := it_t h1 hf
    refine lv_aload_n hx hb dX7_feed_18 rfl (lv_at hl 0 rfl) ?_
    refine gfX7_19 hC hW 0 (by decide) rfl (q := 5) rfl dX7_feed_19 ?_
    refine lv_iload_n hx hb dX7_feed_22 rfl (lv_at hl 1 rfl) ?_
    obtain ⟨r2, s3, c4, hf⟩ := bd_some hf
    refine Wd.callVN (n := 1) (As := [.int x1]) (rest := []) (rv := none) hC hW 5 (kX0_addFour (Or.inl rfl) c4) (by decide) rfl rfl q294 q296 qs4 q3 q297 ⟨rfl, rfl⟩ ⟨by decide +kernel, by decide +kernel, by decide +kernel⟩ ⟨Nat.le_of_ble_eq_true rfl, Nat.le_of_ble_eq_true rfl⟩ ⟨Nat.zero_le _, Nat.zero_le _⟩ rfl hl.1 rfl (st2 := []) rfl (Nat.le_of_ble_eq_true rfl) dX7_feed_23 (fun H locs hW => ?_)
    refine lv_aload_n hx hb dX7_feed_26 rfl (lv_at hl 0 rfl) ?_
    refine gfX7_19 hC hW 0 (by decide) rfl (q := 5) rfl dX7_feed_27 ?_
    refine lv_iload_n hx hb dX7_feed_30 rfl (lv_at hl 2 rfl) ?_
    obtain ⟨r5, s6, c7, hf⟩ := bd_some hf
    refine Wd.callVN (n := 1) (As := [.int x2]) (rest := []) (rv := none) hC hW 5 (kX0_addFour (Or.inl rfl) c7) (by decide) rfl rfl q294 q296 qs4 q3 q297 ⟨rfl, rfl⟩ ⟨by decide +kernel, by decide +kernel, by decide +kernel⟩ ⟨Nat.le_of_ble_eq_true rfl, Nat.le_of_ble_eq_true rfl⟩ ⟨Nat.zero_le _, Nat.zero_le _⟩ rfl hl.1 rfl (st2 := []) rfl (Nat.le_of_ble_eq_true rfl) dX7_feed_31 (fun H locs hW => ?_)
    refine lv_aload_n hx hb dX7_feed_34 rfl (lv_at hl 0 rfl) ?_
    refine gfX7_19 hC hW 0 (by decide) rfl (q := 5) rfl dX7_feed_35 ?_
    refine lv_iload_n hx hb dX7_feed_38 rfl (lv_at hl 3 rfl) ?_
    obtain ⟨r8, s9, c10, hf⟩ := bd_some hf
    refine Wd.callVN (n := 1) (As := [.int x3]) (rest := []) (rv := none) hC hW 5 (kX0_addFour (Or.inl rfl) c10) (by decide) rfl rfl q294 q296 qs4 q3 q297 ⟨rfl, rfl⟩ ⟨by decide +kernel, by decide +kernel, by decide +kernel⟩ ⟨Nat.le_of_ble_eq_true rfl, Nat.le_of_ble_eq_true rfl⟩ ⟨Nat.zero_le _, Nat.zero_le _⟩ rfl hl.1 rfl (st2 := []) rfl (Nat.le_of_ble_eq_true rfl) dX7_feed_39 (fun H locs hW => ?_)
    refine lv_aload_n hx hb dX7_feed_42 rfl (lv_at hl 0 rfl) ?_
    refine gfX7_19 hC hW 0 (by decide) rfl (q := 5) rfl dX7_feed_43 ?_
    refine lv_iload hx hb dX7_feed_46 (lv_at hl 4 rfl) ?_
    obtain ⟨r11, s12, c13, hf⟩ := bd_some hf
    refine Wd.callVN (n := 1) (As := [.int x4]) (rest := []) (rv := none) hC hW 5 (kX0_addFour (Or.inl rfl) c13) (by decide) rfl rfl q294 q296 qs4 q3 q297 ⟨rfl, rfl⟩ ⟨by decide +kernel, by decide +kernel, by decide +kernel⟩ ⟨Nat.le_of_ble_eq_true rfl, Nat.le_of_ble_eq_true rfl⟩ ⟨Nat.zero_le _, Nat.zero_le _⟩ rfl hl.1 rfl (st2 := []) rfl (Nat.le_of_ble_eq_true rfl) dX7_feed_48 (fun H locs hW => ?_)
    refine lv_aload_n hx hb dX7_feed_51 rfl (lv_at hl 0 rfl) ?_
    refine gfX7_19 hC hW 0 (by decide) rfl (q := 5) rfl dX7_feed_52 ?_
    refine lv_iload hx hb dX7_feed_55 (lv_at hl 5 rfl) ?_
    obtain ⟨r14, s15, c16, hf⟩ := bd_some hf
    refine Wd.callVN (n := 1) (As := [.int x5]) (rest := []) (rv := none) hC hW 5 (kX0_addFour (Or.inl rfl) c16) (by decide) rfl rfl q294 q296 qs4 q3 q297 ⟨rfl, rfl⟩ ⟨by decide +kernel, by decide +kernel, by decide +kernel⟩ ⟨Nat.le_of_ble_eq_true rfl, Nat.le_of_ble_eq_true rfl⟩ ⟨Nat.zero_le _, Nat.zero_le _⟩ rfl hl.1 rfl (st2 := []) rfl (Nat.le_of_ble_eq_true rfl) dX7_feed_57 (fun H locs hW => ?_)
    refine lv_aload_n hx hb dX7_feed_60 rfl (lv_at hl 0 rfl) ?_
    refine gfX7_19 hC hW 0 (by decide) rfl (q := 5) rfl dX7_feed_61 ?_
    refine gfX7_77 hC hW 5 (by decide) rfl rfl dX7_feed_64 ?_
    obtain ⟨rfl, rfl⟩ := sp hf
    exact Wd.iret hC hW dX7_feed_67
  · have hf := it_f h1 hf
    refine lv_iconst (v := (-1)) hx hb dX7_feed_16 (by decide) ?_
    obtain ⟨rfl, rfl⟩ := sp hf
    exact Wd.iret hC hW dX7_feed_17
abbrev rmX7_end : Room := { frames := 0, cells := 0, slots := 0, locals := 0 }
def fX7_end (N : Nat) (x1 : Int32) (σ : St) : Option (Int32 × St) := if x1 < 0 then some ((-1 : Int32), σ) else if x1 ≤ (σ.1 5 1) then nx (sI σ 5 1 x1) (fun s3 => some (x1, s3)) else some ((-1 : Int32), σ)
set_option maxHeartbeats 4000000 in
set_option maxRecDepth 100000 in
theorem kX7_end {l : Launch} {D : va_G} {cA : Nat → ClassId} {ad : Nat → Nat} {N : Nat} {x1 : Int32} {σ : St} {r : Int32} {σ' : St} (hf : fX7_end N x1 σ = some (r, σ')) : MW kdX 140 l D cA ad ⟨RX7, "end", "(I)I"⟩ cX7_end 2 (some .int) rmX7_end [.ref (ad 0), .int x1] σ (some (.int r)) σ' := by
  refine MW.of (by decide) (Nat.le_of_ble_eq_true rfl) ?_
  intro p e s m args below meth c ls hC hW hl
  have hx := hC.1
  have hb := hC.2.1
  have hown := hC.2.2.2.1
  have hts := hC.2.2.2.2.1
  have hl : lv_has ls 2 [(0, .ref (ad 0)), (1, .int x1)] := hl
  unfold fX7_end at hf
  refine lv_iload_n hx hb dX7_end_0 rfl (lv_at hl 1 rfl) ?_
  refine lv_if_lt (tgt := 15) hx hb dX7_end_1 (by decide) (fun h1 => ?_) (fun h1 => ?_)
  · have hf := it_t h1 hf
    refine lv_iconst (v := (-1)) hx hb dX7_end_15 (by decide) ?_
    obtain ⟨rfl, rfl⟩ := sp hf
    exact Wd.iret hC hW dX7_end_16
  · have hf := it_f h1 hf
    refine lv_iload_n hx hb dX7_end_4 rfl (lv_at hl 1 rfl) ?_
    refine lv_aload_n hx hb dX7_end_5 rfl (lv_at hl 0 rfl) ?_
    refine gfX7_19 hC hW 0 (by decide) rfl (q := 5) rfl dX7_end_6 ?_
    refine gfX7_77 hC hW 5 (by decide) rfl rfl dX7_end_9 ?_
    refine lv_icmp_le (tgt := 17) hx hb dX7_end_12 (by decide) (fun h2 => ?_) (fun h2 => ?_)
    · have hf := it_t h2 hf
      refine lv_aload_n hx hb dX7_end_17 rfl (lv_at hl 0 rfl) ?_
      refine gfX7_19 hC hW 0 (by decide) rfl (q := 5) rfl dX7_end_18 ?_
      refine lv_iload_n hx hb dX7_end_21 rfl (lv_at hl 1 rfl) ?_
      refine pgfX7_77 hC hW 5 (by decide) rfl rfl dX7_end_22 (fun H locs hW => ?_)
      obtain ⟨s3, es3, hf⟩ := nx_ex hf
      rw [← es3] at hW
      refine lv_iload_n hx hb dX7_end_25 rfl (lv_at hl 1 rfl) ?_
      obtain ⟨rfl, rfl⟩ := sp hf
      exact Wd.iret hC hW dX7_end_26
    · have hf := it_f h2 hf
      refine lv_iconst (v := (-1)) hx hb dX7_end_15 (by decide) ?_
      obtain ⟨rfl, rfl⟩ := sp hf
      exact Wd.iret hC hW dX7_end_16
abbrev rmX0_copyFrom : Room := { frames := 1, cells := 0, slots := 0, locals := 100 }
def fX0_copyFrom (N : Nat) (a : Nat) (σ : St) : Option (Unit × St) := gd (cpOk σ 8 (σ.1 7 1) 2400 2400) (nx (sC σ 8 (a + 1) (σ.1 7 1).toNatClampNeg) (fun s2 => nx (sI s2 a 1 (s2.1 7 1)) (fun s3 => some ((), s3))))
set_option maxHeartbeats 4000000 in
set_option maxRecDepth 100000 in
theorem kX0_copyFrom {l : Launch} {D : va_G} {cA : Nat → ClassId} {ad : Nat → Nat} {N : Nat} {a : Nat} (ha : isBy a) {σ : St} {r : Unit} {σ' : St} (hf : fX0_copyFrom N a σ = some (r, σ')) : MW kdX 140 l D cA ad ⟨RX0, "copyFrom", "(LDendroDesk$Bytes;)V"⟩ cX0_copyFrom 2 none rmX0_copyFrom [.ref (ad a), .ref (ad 7)] σ none σ' := by
  refine MW.of (by decide) (Nat.le_of_ble_eq_true rfl) ?_
  intro p e s m args below meth c ls hC hW hl
  have hx := hC.1
  have hb := hC.2.1
  have hown := hC.2.2.2.1
  have hts := hC.2.2.2.2.1
  have hl : lv_has ls 2 [(0, .ref (ad a)), (1, .ref (ad 7))] := hl
  unfold fX0_copyFrom at hf
  refine lv_aload_n hx hb dX0_copyFrom_0 rfl (lv_at hl 1 rfl) ?_
  refine gfX0_9 hC hW 7 (by decide) rfl (q := 8) rfl dX0_copyFrom_1 ?_
  refine lv_iconst (v := 0) hx hb dX0_copyFrom_4 (by decide) ?_
  refine lv_aload_n hx hb dX0_copyFrom_5 rfl (lv_at hl 0 rfl) ?_
  refine gfX0_9 hC hW a (By.b ha) (By.o ha) (q := (a + 1)) rfl dX0_copyFrom_6 ?_
  refine lv_iconst (v := 0) hx hb dX0_copyFrom_9 (by decide) ?_
  refine lv_aload_n hx hb dX0_copyFrom_10 rfl (lv_at hl 1 rfl) ?_
  refine gfX0_15 hC hW 7 (by decide) rfl rfl dX0_copyFrom_11 ?_
  obtain ⟨h1, hf⟩ := gd_some hf
  refine Wd.copy hC hW 8 (a + 1) (by decide) rfl (By.br ha) (By.r ha) hl.1 h1 q314 q316 q315 q10 (Nat.le_of_ble_eq_true rfl) (by decide) dX0_copyFrom_14 (fun H locs hW => ?_)
  obtain ⟨s2, es2, hf⟩ := nx_ex hf
  rw [← es2] at hW
  refine lv_aload_n hx hb dX0_copyFrom_17 rfl (lv_at hl 0 rfl) ?_
  refine lv_aload_n hx hb dX0_copyFrom_18 rfl (lv_at hl 1 rfl) ?_
  refine gfX0_15 hC hW 7 (by decide) rfl rfl dX0_copyFrom_19 ?_
  refine pgfX0_15 hC hW a (By.b ha) (By.o ha) rfl dX0_copyFrom_22 (fun H locs hW => ?_)
  obtain ⟨s3, es3, hf⟩ := nx_ex hf
  rw [← es3] at hW
  obtain ⟨-, rfl⟩ := sp hf
  exact Wd.vret hC hW dX0_copyFrom_25
abbrev rmX7_take : Room := { frames := 2, cells := 0, slots := 0, locals := 121 }
def fX7_take (N : Nat) (σ : St) : Option (Int32 × St) := bd (fX0_copyFrom N 5 σ) (fun r1 s2 => some ((s2.1 5 1), s2))
set_option maxHeartbeats 4000000 in
set_option maxRecDepth 100000 in
theorem kX7_take {l : Launch} {D : va_G} {cA : Nat → ClassId} {ad : Nat → Nat} {N : Nat} {σ : St} {r : Int32} {σ' : St} (hf : fX7_take N σ = some (r, σ')) : MW kdX 140 l D cA ad ⟨RX7, "take", "()I"⟩ cX7_take 1 (some .int) rmX7_take [.ref (ad 0)] σ (some (.int r)) σ' := by
  refine MW.of (by decide) (Nat.le_of_ble_eq_true rfl) ?_
  intro p e s m args below meth c ls hC hW hl
  have hx := hC.1
  have hb := hC.2.1
  have hown := hC.2.2.2.1
  have hts := hC.2.2.2.2.1
  have hl : lv_has ls 1 [(0, .ref (ad 0))] := hl
  unfold fX7_take at hf
  refine lv_aload_n hx hb dX7_take_0 rfl (lv_at hl 0 rfl) ?_
  refine gfX7_19 hC hW 0 (by decide) rfl (q := 5) rfl dX7_take_1 ?_
  refine lv_aload_n hx hb dX7_take_4 rfl (lv_at hl 0 rfl) ?_
  refine gfX7_23 hC hW 0 (by decide) rfl (q := 7) rfl dX7_take_5 ?_
  obtain ⟨r1, s2, c3, hf⟩ := bd_some hf
  refine Wd.callVN (n := 1) (As := [.ref (ad 7)]) (rest := []) (rv := none) hC hW 5 (kX0_copyFrom (Or.inl rfl) c3) (by decide) rfl rfl q310 q312 qs6 q3 q313 ⟨rfl, rfl⟩ ⟨by decide +kernel, by decide +kernel, by decide +kernel⟩ ⟨Nat.le_of_ble_eq_true rfl, Nat.le_of_ble_eq_true rfl⟩ ⟨Nat.zero_le _, Nat.zero_le _⟩ rfl hl.1 rfl (st2 := []) rfl (Nat.le_of_ble_eq_true rfl) dX7_take_8 (fun H locs hW => ?_)
  refine lv_aload_n hx hb dX7_take_11 rfl (lv_at hl 0 rfl) ?_
  refine gfX7_19 hC hW 0 (by decide) rfl (q := 5) rfl dX7_take_12 ?_
  refine gfX7_77 hC hW 5 (by decide) rfl rfl dX7_take_15 ?_
  obtain ⟨rfl, rfl⟩ := sp hf
  exact Wd.iret hC hW dX7_take_18
abbrev rmX0_at : Room := { frames := 0, cells := 0, slots := 0, locals := 0 }
def fX0_at (N : Nat) (a : Nat) (x1 : Int32) (σ : St) : Option (Int32 × St) := if x1 < 0 then some ((-1 : Int32), σ) else if x1 < (σ.1 a 1) then gd (ib x1 2400) (some (((σ.1 (a + 1) x1.toNatClampNeg) &&& (255 : Int32)), σ)) else some ((-1 : Int32), σ)
set_option maxHeartbeats 4000000 in
set_option maxRecDepth 100000 in
theorem kX0_at {l : Launch} {D : va_G} {cA : Nat → ClassId} {ad : Nat → Nat} {N : Nat} {a : Nat} (ha : isBy a) {x1 : Int32} {σ : St} {r : Int32} {σ' : St} (hf : fX0_at N a x1 σ = some (r, σ')) : MW kdX 140 l D cA ad ⟨RX0, "at", "(I)I"⟩ cX0_at 2 (some .int) rmX0_at [.ref (ad a), .int x1] σ (some (.int r)) σ' := by
  refine MW.of (by decide) (Nat.le_of_ble_eq_true rfl) ?_
  intro p e s m args below meth c ls hC hW hl
  have hx := hC.1
  have hb := hC.2.1
  have hown := hC.2.2.2.1
  have hts := hC.2.2.2.2.1
  have hl : lv_has ls 2 [(0, .ref (ad a)), (1, .int x1)] := hl
  unfold fX0_at at hf
  refine lv_iload_n hx hb dX0_at_0 rfl (lv_at hl 1 rfl) ?_
  refine lv_if_lt (tgt := 12) hx hb dX0_at_1 (by decide) (fun h1 => ?_) (fun h1 => ?_)
  · have hf := it_t h1 hf
    refine lv_iconst (v := (-1)) hx hb dX0_at_12 (by decide) ?_
    refine lv_goto (tgt := 26) hx hb dX0_at_13 (by decide) ?_
    obtain ⟨rfl, rfl⟩ := sp hf
    exact Wd.iret hC hW dX0_at_26
  · have hf := it_f h1 hf
    refine lv_iload_n hx hb dX0_at_4 rfl (lv_at hl 1 rfl) ?_
    refine lv_aload_n hx hb dX0_at_5 rfl (lv_at hl 0 rfl) ?_
    refine gfX0_15 hC hW a (By.b ha) (By.o ha) rfl dX0_at_6 ?_
    refine lv_icmp_lt (tgt := 16) hx hb dX0_at_9 (by decide) (fun h2 => ?_) (fun h2 => ?_)
    · have hf := it_t h2 hf
      refine lv_aload_n hx hb dX0_at_16 rfl (lv_at hl 0 rfl) ?_
      refine gfX0_9 hC hW a (By.b ha) (By.o ha) (q := (a + 1)) rfl dX0_at_17 ?_
      refine lv_iload_n hx hb dX0_at_20 rfl (lv_at hl 1 rfl) ?_
      obtain ⟨h3, hf⟩ := gd_some hf
      refine Wd.bald hC hW (a + 1) (By.br ha) (By.r ha) h3 dX0_at_21 ?_
      refine lv_sipush (v := 255) hx hb dX0_at_22 (by decide) ?_
      refine lv_iand hx hb dX0_at_25 ?_
      obtain ⟨rfl, rfl⟩ := sp hf
      exact Wd.iret hC hW dX0_at_26
    · have hf := it_f h2 hf
      refine lv_iconst (v := (-1)) hx hb dX0_at_12 (by decide) ?_
      refine lv_goto (tgt := 26) hx hb dX0_at_13 (by decide) ?_
      obtain ⟨rfl, rfl⟩ := sp hf
      exact Wd.iret hC hW dX0_at_26
abbrev rmX5_isBlank : Room := { frames := 0, cells := 0, slots := 0, locals := 0 }
def fX5_isBlank (N : Nat) (x0 : Int32) (σ : St) : Option (Int32 × St) := if x0 = (32 : Int32) then some ((1 : Int32), σ) else if x0 = (10 : Int32) then some ((1 : Int32), σ) else some ((0 : Int32), σ)
set_option maxHeartbeats 4000000 in
set_option maxRecDepth 100000 in
theorem kX5_isBlank {l : Launch} {D : va_G} {cA : Nat → ClassId} {ad : Nat → Nat} {N : Nat} {x0 : Int32} {σ : St} {r : Int32} {σ' : St} (hf : fX5_isBlank N x0 σ = some (r, σ')) : MW kdX 140 l D cA ad ⟨RX5, "isBlank", "(I)Z"⟩ cX5_isBlank 1 (some .boolean) rmX5_isBlank [.int x0] σ (some (.int r)) σ' := by
  refine MW.of (by decide) (Nat.le_of_ble_eq_true rfl) ?_
  intro p e s m args below meth c ls hC hW hl
  have hx := hC.1
  have hb := hC.2.1
  have hown := hC.2.2.2.1
  have hts := hC.2.2.2.2.1
  have hl : lv_has ls 1 [(0, .int x0)] := hl
  unfold fX5_isBlank at hf
  refine lv_iload_n hx hb dX5_isBlank_0 rfl (lv_at hl 0 rfl) ?_
  refine lv_bipush (v := 32) hx hb dX5_isBlank_1 (by decide) ?_
  refine lv_icmp_eq (tgt := 12) hx hb dX5_isBlank_3 (by decide) (fun h1 => ?_) (fun h1 => ?_)
  · have hf := it_t h1 hf
    refine lv_iconst (v := 1) hx hb dX5_isBlank_12 (by decide) ?_
    refine lv_goto (tgt := 17) hx hb dX5_isBlank_13 (by decide) ?_
    obtain ⟨rfl, rfl⟩ := sp hf
    exact Wd.zret hC hW (Or.inr rfl) dX5_isBlank_17
  · have hf := it_f h1 hf
    refine lv_iload_n hx hb dX5_isBlank_6 rfl (lv_at hl 0 rfl) ?_
    refine lv_bipush (v := 10) hx hb dX5_isBlank_7 (by decide) ?_
    refine lv_icmp_ne (tgt := 16) hx hb dX5_isBlank_9 (by decide) (fun h2 => ?_) (fun h2 => ?_)
    · have hf := it_f h2 hf
      refine lv_iconst (v := 0) hx hb dX5_isBlank_16 (by decide) ?_
      obtain ⟨rfl, rfl⟩ := sp hf
      exact Wd.zret hC hW (Or.inl rfl) dX5_isBlank_17
    · have hf := it_t h2 hf
      refine lv_iconst (v := 1) hx hb dX5_isBlank_12 (by decide) ?_
      refine lv_goto (tgt := 17) hx hb dX5_isBlank_13 (by decide) ?_
      obtain ⟨rfl, rfl⟩ := sp hf
      exact Wd.zret hC hW (Or.inr rfl) dX5_isBlank_17
abbrev rmX5_skipBlanks : Room := { frames := 1, cells := 0, slots := 0, locals := 21 }
def fX5_skipBlanks_0 (N : Nat) : Nat → St → Option (Unit × St)
  | 0, _ => none
  | n + 1, σ => if (σ.1 5 1) ≤ (σ.1 9 1) then some ((), σ) else bd (fX0_at N 5 (σ.1 9 1) σ) (fun r2 s3 => bd (fX5_isBlank N r2 s3) (fun r5 s6 => if r5 = 0 then some ((), s6) else nx (sI s6 9 1 ((s6.1 9 1) + (1 : Int32))) (fun s9 => ((fX5_skipBlanks_0 N n) s9))))
set_option maxHeartbeats 4000000 in
set_option maxRecDepth 100000 in
theorem wX5_skipBlanks_0 (hC : Cx RX5 cX5_skipBlanks 2 none D cA p s m args meth c) {N : Nat} {r : Unit} {σ' : St} : ∀ (n : Nat) (σ : St) (H : Heap) (locs : List Loc) (ls : Array Slot), fX5_skipBlanks_0 N n σ = some (r, σ') → Wd kdX 140 D cA ad s σ H locs → lv_has ls 2 [(0, .ref (ad 9)), (1, .ref (ad 5))] → W p l e rmX5_skipBlanks s m args below meth c H locs 0 0 (EndW kdX 140 D cA ad below args s none σ') (F0 m 0 ls []) := by
  have hx := hC.1
  have hb := hC.2.1
  have hown := hC.2.2.2.1
  have hts := hC.2.2.2.2.1
  intro n
  induction n with
  | zero =>
    intro  σ H locs ls hf
    rw [fX5_skipBlanks_0] at hf
    cases hf
  | succ n ih =>
    intro  σ H locs ls hf hW hl
    rw [fX5_skipBlanks_0] at hf
    refine lv_aload_n hx hb dX5_skipBlanks_0 rfl (lv_at hl 0 rfl) ?_
    refine gfX5_19 hC hW 9 (by decide) rfl rfl dX5_skipBlanks_1 ?_
    refine lv_aload_n hx hb dX5_skipBlanks_4 rfl (lv_at hl 1 rfl) ?_
    refine gfX5_31 hC hW 5 (by decide) rfl rfl dX5_skipBlanks_5 ?_
    refine lv_icmp_ge (tgt := 38) hx hb dX5_skipBlanks_8 (by decide) (fun h1 => ?_) (fun h1 => ?_)
    · have hf := it_t h1 hf
      obtain ⟨-, rfl⟩ := sp hf
      exact Wd.vret hC hW dX5_skipBlanks_38
    · have hf := it_f h1 hf
      refine lv_aload_n hx hb dX5_skipBlanks_11 rfl (lv_at hl 1 rfl) ?_
      refine lv_aload_n hx hb dX5_skipBlanks_12 rfl (lv_at hl 0 rfl) ?_
      refine gfX5_19 hC hW 9 (by decide) rfl rfl dX5_skipBlanks_13 ?_
      obtain ⟨r2, s3, c4, hf⟩ := bd_some hf
      refine Wd.callVN (n := 1) (As := [.int (σ.1 9 1)]) (rest := []) (rv := some (.int r2)) hC hW 5 (kX0_at (Or.inl rfl) c4) (by decide) rfl rfl q334 q336 qs10 q3 q337 ⟨rfl, rfl⟩ ⟨by decide +kernel, by decide +kernel, by decide +kernel⟩ ⟨Nat.le_of_ble_eq_true rfl, Nat.le_of_ble_eq_true rfl⟩ ⟨Nat.zero_le _, Nat.zero_le _⟩ rfl hl.1 rfl (st2 := [.int r2]) rfl (Nat.le_of_ble_eq_true rfl) dX5_skipBlanks_16 (fun H locs hW => ?_)
      obtain ⟨r5, s6, c7, hf⟩ := bd_some hf
      refine Wd.callS (n := 1) (As := [.int r2]) (rest := []) (rv := some (.int r5)) hC hW (kX5_isBlank c7) q338 q339 q4 q340 ⟨rfl, rfl⟩ ⟨by decide +kernel, by decide +kernel, by decide +kernel⟩ ⟨Nat.le_of_ble_eq_true rfl, Nat.le_of_ble_eq_true rfl⟩ ⟨Nat.zero_le _, Nat.zero_le _⟩ rfl hl.1 rfl (st2 := [.int r5]) rfl (Nat.le_of_ble_eq_true rfl) dX5_skipBlanks_19 (fun H locs hW => ?_)
      refine lv_if_eq (tgt := 38) hx hb dX5_skipBlanks_22 (by decide) (fun h8 => ?_) (fun h8 => ?_)
      · have hf := it_t h8 hf
        obtain ⟨-, rfl⟩ := sp hf
        exact Wd.vret hC hW dX5_skipBlanks_38
      · have hf := it_f h8 hf
        refine lv_aload_n hx hb dX5_skipBlanks_25 rfl (lv_at hl 0 rfl) ?_
        refine lv_dup hx hb dX5_skipBlanks_26 rfl ?_
        refine gfX5_19 hC hW 9 (by decide) rfl rfl dX5_skipBlanks_27 ?_
        refine lv_iconst (v := 1) hx hb dX5_skipBlanks_30 (by decide) ?_
        refine lv_iadd hx hb dX5_skipBlanks_31 ?_
        refine pgfX5_19 hC hW 9 (by decide) rfl rfl dX5_skipBlanks_32 (fun H locs hW => ?_)
        obtain ⟨s9, es9, hf⟩ := nx_ex hf
        rw [← es9] at hW
        refine lv_goto (tgt := 0) hx hb dX5_skipBlanks_35 (by decide) ?_
        exact ih  _ _ _ _ hf hW (lv_sub hl [0, 1] rfl)
def fX5_skipBlanks (N : Nat) (σ : St) : Option (Unit × St) := (fX5_skipBlanks_0 N N σ)
set_option maxHeartbeats 4000000 in
set_option maxRecDepth 100000 in
theorem kX5_skipBlanks {l : Launch} {D : va_G} {cA : Nat → ClassId} {ad : Nat → Nat} {N : Nat} {σ : St} {r : Unit} {σ' : St} (hf : fX5_skipBlanks N σ = some (r, σ')) : MW kdX 140 l D cA ad ⟨RX5, "skipBlanks", "(LDendroDesk$Bytes;)V"⟩ cX5_skipBlanks 2 none rmX5_skipBlanks [.ref (ad 9), .ref (ad 5)] σ none σ' := by
  refine MW.of (by decide) (Nat.le_of_ble_eq_true rfl) ?_
  intro p e s m args below meth c ls hC hW hl
  have hx := hC.1
  have hb := hC.2.1
  have hown := hC.2.2.2.1
  have hts := hC.2.2.2.2.1
  have hl : lv_has ls 2 [(0, .ref (ad 9)), (1, .ref (ad 5))] := hl
  unfold fX5_skipBlanks at hf
  exact wX5_skipBlanks_0 hC N _ _ _ _ hf hW (lv_sub hl [0, 1] rfl)
abbrev rmX5_isDigit : Room := { frames := 0, cells := 0, slots := 0, locals := 0 }
def fX5_isDigit (N : Nat) (x0 : Int32) (σ : St) : Option (Int32 × St) := if x0 < (48 : Int32) then some ((0 : Int32), σ) else if (57 : Int32) < x0 then some ((0 : Int32), σ) else some ((1 : Int32), σ)
set_option maxHeartbeats 4000000 in
set_option maxRecDepth 100000 in
theorem kX5_isDigit {l : Launch} {D : va_G} {cA : Nat → ClassId} {ad : Nat → Nat} {N : Nat} {x0 : Int32} {σ : St} {r : Int32} {σ' : St} (hf : fX5_isDigit N x0 σ = some (r, σ')) : MW kdX 140 l D cA ad ⟨RX5, "isDigit", "(I)Z"⟩ cX5_isDigit 1 (some .boolean) rmX5_isDigit [.int x0] σ (some (.int r)) σ' := by
  refine MW.of (by decide) (Nat.le_of_ble_eq_true rfl) ?_
  intro p e s m args below meth c ls hC hW hl
  have hx := hC.1
  have hb := hC.2.1
  have hown := hC.2.2.2.1
  have hts := hC.2.2.2.2.1
  have hl : lv_has ls 1 [(0, .int x0)] := hl
  unfold fX5_isDigit at hf
  refine lv_iload_n hx hb dX5_isDigit_0 rfl (lv_at hl 0 rfl) ?_
  refine lv_bipush (v := 48) hx hb dX5_isDigit_1 (by decide) ?_
  refine lv_icmp_lt (tgt := 16) hx hb dX5_isDigit_3 (by decide) (fun h1 => ?_) (fun h1 => ?_)
  · have hf := it_t h1 hf
    refine lv_iconst (v := 0) hx hb dX5_isDigit_16 (by decide) ?_
    obtain ⟨rfl, rfl⟩ := sp hf
    exact Wd.zret hC hW (Or.inl rfl) dX5_isDigit_17
  · have hf := it_f h1 hf
    refine lv_iload_n hx hb dX5_isDigit_6 rfl (lv_at hl 0 rfl) ?_
    refine lv_bipush (v := 57) hx hb dX5_isDigit_7 (by decide) ?_
    refine lv_icmp_gt (tgt := 16) hx hb dX5_isDigit_9 (by decide) (fun h2 => ?_) (fun h2 => ?_)
    · have hf := it_t h2 hf
      refine lv_iconst (v := 0) hx hb dX5_isDigit_16 (by decide) ?_
      obtain ⟨rfl, rfl⟩ := sp hf
      exact Wd.zret hC hW (Or.inl rfl) dX5_isDigit_17
    · have hf := it_f h2 hf
      refine lv_iconst (v := 1) hx hb dX5_isDigit_12 (by decide) ?_
      refine lv_goto (tgt := 17) hx hb dX5_isDigit_13 (by decide) ?_
      obtain ⟨rfl, rfl⟩ := sp hf
      exact Wd.zret hC hW (Or.inr rfl) dX5_isDigit_17
abbrev rmX5_readNumber : Room := { frames := 2, cells := 0, slots := 0, locals := 42 }
def fX5_readNumber_107 (N : Nat) (x3 : Int32) (x4 : Int32) (σ : St) : Option (Int32 × St) := nx (sI σ 9 2 x3) (fun s1 => some (x4, s1))
set_option maxHeartbeats 4000000 in
set_option maxRecDepth 100000 in
theorem wX5_readNumber_107 (hC : Cx RX5 cX5_readNumber 6 (some .int) D cA p s m args meth c) {N : Nat} {x3 : Int32} {x4 : Int32} {σ : St} {r : Int32} {σ' : St} {H : Heap} {locs : List Loc} {ls : Array Slot} (hf : fX5_readNumber_107 N x3 x4 σ = some (r, σ')) (hW : Wd kdX 140 D cA ad s σ H locs) (hl : lv_has ls 6 [(0, .ref (ad 9)), (3, .int x3), (4, .int x4)]) : W p l e rmX5_readNumber s m args below meth c H locs 0 0 (EndW kdX 140 D cA ad below args s (some (.int r)) σ') (F0 m 107 ls []) := by
  have hx := hC.1
  have hb := hC.2.1
  have hown := hC.2.2.2.1
  have hts := hC.2.2.2.2.1
  unfold fX5_readNumber_107 at hf
  refine lv_aload_n hx hb dX5_readNumber_107 rfl (lv_at hl 0 rfl) ?_
  refine lv_iload_n hx hb dX5_readNumber_108 rfl (lv_at hl 1 rfl) ?_
  refine pgfX5_15 hC hW 9 (by decide) rfl rfl dX5_readNumber_109 (fun H locs hW => ?_)
  obtain ⟨s1, es1, hf⟩ := nx_ex hf
  rw [← es1] at hW
  refine lv_iload hx hb dX5_readNumber_112 (lv_at hl 2 rfl) ?_
  obtain ⟨rfl, rfl⟩ := sp hf
  exact Wd.iret hC hW dX5_readNumber_114
def fX5_readNumber_81 (N : Nat) (x2 : Int32) (x3 : Int32) (x4 : Int32) (σ : St) : Option (Int32 × St) := nx ((σ.1 9 1) - x3) (fun v1 => if v1 = 0 then (fX5_readNumber_107 N x3 x4 σ) else if (7 : Int32) < v1 then (fX5_readNumber_107 N x3 x4 σ) else if x4 ≤ x2 then some (x4, σ) else (fX5_readNumber_107 N x3 x4 σ))
set_option maxHeartbeats 4000000 in
set_option maxRecDepth 100000 in
theorem wX5_readNumber_81 (hC : Cx RX5 cX5_readNumber 6 (some .int) D cA p s m args meth c) {N : Nat} {x2 : Int32} {x3 : Int32} {x4 : Int32} {σ : St} {r : Int32} {σ' : St} {H : Heap} {locs : List Loc} {ls : Array Slot} (hf : fX5_readNumber_81 N x2 x3 x4 σ = some (r, σ')) (hW : Wd kdX 140 D cA ad s σ H locs) (hl : lv_has ls 6 [(0, .ref (ad 9)), (2, .int x2), (3, .int x3), (4, .int x4)]) : W p l e rmX5_readNumber s m args below meth c H locs 0 0 (EndW kdX 140 D cA ad below args s (some (.int r)) σ') (F0 m 81 ls []) := by
  have hx := hC.1
  have hb := hC.2.1
  have hown := hC.2.2.2.1
  have hts := hC.2.2.2.2.1
  unfold fX5_readNumber_81 at hf
  refine lv_aload_n hx hb dX5_readNumber_81 rfl (lv_at hl 0 rfl) ?_
  refine gfX5_19 hC hW 9 (by decide) rfl rfl dX5_readNumber_82 ?_
  refine lv_iload_n hx hb dX5_readNumber_85 rfl (lv_at hl 2 rfl) ?_
  refine lv_isub hx hb dX5_readNumber_86 ?_
  refine lv_topi (fun v1 ev1 => ?_)
  have hf := nx_at ev1 hf
  refine lv_istore (lv' := [(5, .int v1), (0, .ref (ad 9)), (2, .int x2), (3, .int x3), (4, .int x4)]) hx hb dX5_readNumber_87 hl (by decide) rfl (fun ls hl => ?_)
  refine lv_iload hx hb dX5_readNumber_89 (lv_at hl 0 rfl) ?_
  refine lv_if_eq (tgt := 107) hx hb dX5_readNumber_91 (by decide) (fun h2 => ?_) (fun h2 => ?_)
  · have hf := it_t h2 hf
    exact wX5_readNumber_107 hC hf hW (lv_sub hl [1, 3, 4] rfl)
  · have hf := it_f h2 hf
    refine lv_iload hx hb dX5_readNumber_94 (lv_at hl 0 rfl) ?_
    refine lv_bipush (v := 7) hx hb dX5_readNumber_96 (by decide) ?_
    refine lv_icmp_gt (tgt := 107) hx hb dX5_readNumber_98 (by decide) (fun h3 => ?_) (fun h3 => ?_)
    · have hf := it_t h3 hf
      exact wX5_readNumber_107 hC hf hW (lv_sub hl [1, 3, 4] rfl)
    · have hf := it_f h3 hf
      refine lv_iload hx hb dX5_readNumber_101 (lv_at hl 4 rfl) ?_
      refine lv_iload_n hx hb dX5_readNumber_103 rfl (lv_at hl 2 rfl) ?_
      refine lv_icmp_le (tgt := 112) hx hb dX5_readNumber_104 (by decide) (fun h4 => ?_) (fun h4 => ?_)
      · have hf := it_t h4 hf
        refine lv_iload hx hb dX5_readNumber_112 (lv_at hl 4 rfl) ?_
        obtain ⟨rfl, rfl⟩ := sp hf
        exact Wd.iret hC hW dX5_readNumber_114
      · have hf := it_f h4 hf
        exact wX5_readNumber_107 hC hf hW (lv_sub hl [1, 3, 4] rfl)
def fX5_readNumber_13 (N : Nat) : Nat → Int32 → Int32 → Int32 → St → Option (Int32 × St)
  | 0, _, _, _, _ => none
  | n + 1, x2, x3, x4, σ => if (σ.1 5 1) ≤ (σ.1 9 1) then (fX5_readNumber_81 N x2 x3 x4 σ) else if (7 : Int32) < ((σ.1 9 1) - x3) then (fX5_readNumber_81 N x2 x3 x4 σ) else bd (fX0_at N 5 (σ.1 9 1) σ) (fun r3 s4 => bd (fX5_isDigit N r3 s4) (fun r6 s7 => if r6 = 0 then (fX5_readNumber_81 N x2 x3 x4 s7) else bd (fX0_at N 5 (s7.1 9 1) s7) (fun r10 s11 => nx (((x4 * (10 : Int32)) + r10) - (48 : Int32)) (fun v13 => nx (sI s11 9 1 ((s11.1 9 1) + (1 : Int32))) (fun s14 => ((fX5_readNumber_13 N n) x2 x3 v13 s14))))))
set_option maxHeartbeats 4000000 in
set_option maxRecDepth 100000 in
theorem wX5_readNumber_13 (hC : Cx RX5 cX5_readNumber 6 (some .int) D cA p s m args meth c) {N : Nat} {r : Int32} {σ' : St} : ∀ (n : Nat) (x2 : Int32) (x3 : Int32) (x4 : Int32) (σ : St) (H : Heap) (locs : List Loc) (ls : Array Slot), fX5_readNumber_13 N n x2 x3 x4 σ = some (r, σ') → Wd kdX 140 D cA ad s σ H locs → lv_has ls 6 [(0, .ref (ad 9)), (1, .ref (ad 5)), (2, .int x2), (3, .int x3), (4, .int x4)] → W p l e rmX5_readNumber s m args below meth c H locs 0 0 (EndW kdX 140 D cA ad below args s (some (.int r)) σ') (F0 m 13 ls []) := by
  have hx := hC.1
  have hb := hC.2.1
  have hown := hC.2.2.2.1
  have hts := hC.2.2.2.2.1
  intro n
  induction n with
  | zero =>
    intro x2 x3 x4 σ H locs ls hf
    rw [fX5_readNumber_13] at hf
    cases hf
  | succ n ih =>
    intro x2 x3 x4 σ H locs ls hf hW hl
    rw [fX5_readNumber_13] at hf
    refine lv_aload_n hx hb dX5_readNumber_13 rfl (lv_at hl 0 rfl) ?_
    refine gfX5_19 hC hW 9 (by decide) rfl rfl dX5_readNumber_14 ?_
    refine lv_aload_n hx hb dX5_readNumber_17 rfl (lv_at hl 1 rfl) ?_
    refine gfX5_31 hC hW 5 (by decide) rfl rfl dX5_readNumber_18 ?_
    refine lv_icmp_ge (tgt := 81) hx hb dX5_readNumber_21 (by decide) (fun h1 => ?_) (fun h1 => ?_)
    · have hf := it_t h1 hf
      exact wX5_readNumber_81 hC hf hW (lv_sub hl [0, 2, 3, 4] rfl)
    · have hf := it_f h1 hf
      refine lv_aload_n hx hb dX5_readNumber_24 rfl (lv_at hl 0 rfl) ?_
      refine gfX5_19 hC hW 9 (by decide) rfl rfl dX5_readNumber_25 ?_
      refine lv_iload_n hx hb dX5_readNumber_28 rfl (lv_at hl 3 rfl) ?_
      refine lv_isub hx hb dX5_readNumber_29 ?_
      refine lv_bipush (v := 7) hx hb dX5_readNumber_30 (by decide) ?_
      refine lv_icmp_gt (tgt := 81) hx hb dX5_readNumber_32 (by decide) (fun h2 => ?_) (fun h2 => ?_)
      · have hf := it_t h2 hf
        exact wX5_readNumber_81 hC hf hW (lv_sub hl [0, 2, 3, 4] rfl)
      · have hf := it_f h2 hf
        refine lv_aload_n hx hb dX5_readNumber_35 rfl (lv_at hl 1 rfl) ?_
        refine lv_aload_n hx hb dX5_readNumber_36 rfl (lv_at hl 0 rfl) ?_
        refine gfX5_19 hC hW 9 (by decide) rfl rfl dX5_readNumber_37 ?_
        obtain ⟨r3, s4, c5, hf⟩ := bd_some hf
        refine Wd.callVN (n := 1) (As := [.int (σ.1 9 1)]) (rest := []) (rv := some (.int r3)) hC hW 5 (kX0_at (Or.inl rfl) c5) (by decide) rfl rfl q334 q336 qs10 q3 q337 ⟨rfl, rfl⟩ ⟨by decide +kernel, by decide +kernel, by decide +kernel⟩ ⟨Nat.le_of_ble_eq_true rfl, Nat.le_of_ble_eq_true rfl⟩ ⟨Nat.zero_le _, Nat.zero_le _⟩ rfl hl.1 rfl (st2 := [.int r3]) rfl (Nat.le_of_ble_eq_true rfl) dX5_readNumber_40 (fun H locs hW => ?_)
        obtain ⟨r6, s7, c8, hf⟩ := bd_some hf
        refine Wd.callS (n := 1) (As := [.int r3]) (rest := []) (rv := some (.int r6)) hC hW (kX5_isDigit c8) q341 q342 q4 q343 ⟨rfl, rfl⟩ ⟨by decide +kernel, by decide +kernel, by decide +kernel⟩ ⟨Nat.le_of_ble_eq_true rfl, Nat.le_of_ble_eq_true rfl⟩ ⟨Nat.zero_le _, Nat.zero_le _⟩ rfl hl.1 rfl (st2 := [.int r6]) rfl (Nat.le_of_ble_eq_true rfl) dX5_readNumber_43 (fun H locs hW => ?_)
        refine lv_if_eq (tgt := 81) hx hb dX5_readNumber_46 (by decide) (fun h9 => ?_) (fun h9 => ?_)
        · have hf := it_t h9 hf
          exact wX5_readNumber_81 hC hf hW (lv_sub hl [0, 2, 3, 4] rfl)
        · have hf := it_f h9 hf
          refine lv_iload hx hb dX5_readNumber_49 (lv_at hl 4 rfl) ?_
          refine lv_bipush (v := 10) hx hb dX5_readNumber_51 (by decide) ?_
          refine lv_imul hx hb dX5_readNumber_53 ?_
          refine lv_aload_n hx hb dX5_readNumber_54 rfl (lv_at hl 1 rfl) ?_
          refine lv_aload_n hx hb dX5_readNumber_55 rfl (lv_at hl 0 rfl) ?_
          refine gfX5_19 hC hW 9 (by decide) rfl rfl dX5_readNumber_56 ?_
          obtain ⟨r10, s11, c12, hf⟩ := bd_some hf
          refine Wd.callVN (n := 1) (As := [.int (s7.1 9 1)]) (rest := [.int (x4 * (10 : Int32))]) (rv := some (.int r10)) hC hW 5 (kX0_at (Or.inl rfl) c12) (by decide) rfl rfl q334 q336 qs10 q3 q337 ⟨rfl, rfl⟩ ⟨by decide +kernel, by decide +kernel, by decide +kernel⟩ ⟨Nat.le_of_ble_eq_true rfl, Nat.le_of_ble_eq_true rfl⟩ ⟨Nat.zero_le _, Nat.zero_le _⟩ rfl hl.1 rfl (st2 := [.int r10, .int (x4 * (10 : Int32))]) rfl (Nat.le_of_ble_eq_true rfl) dX5_readNumber_59 (fun H locs hW => ?_)
          refine lv_iadd hx hb dX5_readNumber_62 ?_
          refine lv_bipush (v := 48) hx hb dX5_readNumber_63 (by decide) ?_
          refine lv_isub hx hb dX5_readNumber_65 ?_
          refine lv_topi (fun v13 ev13 => ?_)
          have hf := nx_at ev13 hf
          refine lv_istore (lv' := [(4, .int v13), (0, .ref (ad 9)), (1, .ref (ad 5)), (2, .int x2), (3, .int x3)]) hx hb dX5_readNumber_66 hl (by decide) rfl (fun ls hl => ?_)
          refine lv_aload_n hx hb dX5_readNumber_68 rfl (lv_at hl 1 rfl) ?_
          refine lv_dup hx hb dX5_readNumber_69 rfl ?_
          refine gfX5_19 hC hW 9 (by decide) rfl rfl dX5_readNumber_70 ?_
          refine lv_iconst (v := 1) hx hb dX5_readNumber_73 (by decide) ?_
          refine lv_iadd hx hb dX5_readNumber_74 ?_
          refine pgfX5_19 hC hW 9 (by decide) rfl rfl dX5_readNumber_75 (fun H locs hW => ?_)
          obtain ⟨s14, es14, hf⟩ := nx_ex hf
          rw [← es14] at hW
          refine lv_goto (tgt := 13) hx hb dX5_readNumber_78 (by decide) ?_
          exact ih _ _ _ _ _ _ _ hf hW (lv_sub hl [1, 2, 3, 4, 0] rfl)
def fX5_readNumber (N : Nat) (x2 : Int32) (σ : St) : Option (Int32 × St) := bd (fX5_skipBlanks N σ) (fun r1 s2 => nx (s2.1 9 1) (fun v4 => (fX5_readNumber_13 N N x2 v4 (0 : Int32) s2)))
set_option maxHeartbeats 4000000 in
set_option maxRecDepth 100000 in
theorem kX5_readNumber {l : Launch} {D : va_G} {cA : Nat → ClassId} {ad : Nat → Nat} {N : Nat} {x2 : Int32} {σ : St} {r : Int32} {σ' : St} (hf : fX5_readNumber N x2 σ = some (r, σ')) : MW kdX 140 l D cA ad ⟨RX5, "readNumber", "(LDendroDesk$Bytes;I)I"⟩ cX5_readNumber 6 (some .int) rmX5_readNumber [.ref (ad 9), .ref (ad 5), .int x2] σ (some (.int r)) σ' := by
  refine MW.of (by decide) (Nat.le_of_ble_eq_true rfl) ?_
  intro p e s m args below meth c ls hC hW hl
  have hx := hC.1
  have hb := hC.2.1
  have hown := hC.2.2.2.1
  have hts := hC.2.2.2.2.1
  have hl : lv_has ls 6 [(0, .ref (ad 9)), (1, .ref (ad 5)), (2, .int x2)] := hl
  unfold fX5_readNumber at hf
  refine lv_aload_n hx hb dX5_readNumber_0 rfl (lv_at hl 0 rfl) ?_
  refine lv_aload_n hx hb dX5_readNumber_1 rfl (lv_at hl 1 rfl) ?_
  obtain ⟨r1, s2, c3, hf⟩ := bd_some hf
  refine Wd.callV (n := 1) (As := [.ref (ad 5)]) (rest := []) (rv := none) hC hW 9 (kX5_skipBlanks c3) (by decide) rfl rfl q330 q332 qs9 q4 q333 ⟨rfl, rfl⟩ ⟨by decide +kernel, by decide +kernel, by decide +kernel⟩ ⟨Nat.le_of_ble_eq_true rfl, Nat.le_of_ble_eq_true rfl⟩ ⟨Nat.zero_le _, Nat.zero_le _⟩ rfl hl.1 rfl (st2 := []) rfl (Nat.le_of_ble_eq_true rfl) dX5_readNumber_2 (fun H locs hW => ?_)
  refine lv_aload_n hx hb dX5_readNumber_5 rfl (lv_at hl 0 rfl) ?_
  refine gfX5_19 hC hW 9 (by decide) rfl rfl dX5_readNumber_6 ?_
  refine lv_topi (fun v4 ev4 => ?_)
  have hf := nx_at ev4 hf
  refine lv_istore_n (lv' := [(3, .int v4), (0, .ref (ad 9)), (1, .ref (ad 5)), (2, .int x2)]) hx hb dX5_readNumber_9 rfl hl (by decide) rfl (fun ls hl => ?_)
  refine lv_iconst (v := 0) hx hb dX5_readNumber_10 (by decide) ?_
  refine lv_istore (lv' := [(4, .int (0 : Int32)), (3, .int v4), (0, .ref (ad 9)), (1, .ref (ad 5)), (2, .int x2)]) hx hb dX5_readNumber_11 hl (by decide) rfl (fun ls hl => ?_)
  exact wX5_readNumber_13 hC N _ _ _ _ _ _ _ hf hW (lv_sub hl [2, 3, 4, 1, 0] rfl)
abbrev rmX5_readTable : Room := { frames := 3, cells := 0, slots := 0, locals := 67 }
def fX5_readTable_132 (N : Nat) (σ : St) : Option (Int32 × St) := if (σ.1 9 2) = (-1 : Int32) then some ((1 : Int32), σ) else some ((0 : Int32), σ)
set_option maxHeartbeats 4000000 in
set_option maxRecDepth 100000 in
theorem wX5_readTable_132 (hC : Cx RX5 cX5_readTable 4 (some .boolean) D cA p s m args meth c) {N : Nat} {σ : St} {r : Int32} {σ' : St} {H : Heap} {locs : List Loc} {ls : Array Slot} (hf : fX5_readTable_132 N σ = some (r, σ')) (hW : Wd kdX 140 D cA ad s σ H locs) (hl : lv_has ls 4 [(0, .ref (ad 9))]) : W p l e rmX5_readTable s m args below meth c H locs 0 0 (EndW kdX 140 D cA ad below args s (some (.int r)) σ') (F0 m 132 ls []) := by
  have hx := hC.1
  have hb := hC.2.1
  have hown := hC.2.2.2.1
  have hts := hC.2.2.2.2.1
  unfold fX5_readTable_132 at hf
  refine lv_aload_n hx hb dX5_readTable_132 rfl (lv_at hl 0 rfl) ?_
  refine gfX5_15 hC hW 9 (by decide) rfl rfl dX5_readTable_133 ?_
  refine lv_iconst (v := (-1)) hx hb dX5_readTable_136 (by decide) ?_
  refine lv_icmp_ne (tgt := 144) hx hb dX5_readTable_137 (by decide) (fun h1 => ?_) (fun h1 => ?_)
  · have hf := it_f h1 hf
    refine lv_iconst (v := 0) hx hb dX5_readTable_144 (by decide) ?_
    obtain ⟨rfl, rfl⟩ := sp hf
    exact Wd.zret hC hW (Or.inl rfl) dX5_readTable_145
  · have hf := it_t h1 hf
    refine lv_iconst (v := 1) hx hb dX5_readTable_140 (by decide) ?_
    refine lv_goto (tgt := 145) hx hb dX5_readTable_141 (by decide) ?_
    obtain ⟨rfl, rfl⟩ := sp hf
    exact Wd.zret hC hW (Or.inr rfl) dX5_readTable_145
def fX5_readTable_129 (N : Nat) (y0 : Int32) (σ : St) : Option (Int32 × St) := nx (sI σ 9 2 y0) (fun s1 => (fX5_readTable_132 N s1))
set_option maxHeartbeats 4000000 in
set_option maxRecDepth 100000 in
theorem wX5_readTable_129 (hC : Cx RX5 cX5_readTable 4 (some .boolean) D cA p s m args meth c) {N : Nat} {y0 : Int32} {σ : St} {r : Int32} {σ' : St} {H : Heap} {locs : List Loc} {ls : Array Slot} (hf : fX5_readTable_129 N y0 σ = some (r, σ')) (hW : Wd kdX 140 D cA ad s σ H locs) (hl : lv_has ls 4 [(0, .ref (ad 9))]) : W p l e rmX5_readTable s m args below meth c H locs 0 0 (EndW kdX 140 D cA ad below args s (some (.int r)) σ') (F0 m 129 ls [.int y0, .ref (ad 9)]) := by
  have hx := hC.1
  have hb := hC.2.1
  have hown := hC.2.2.2.1
  have hts := hC.2.2.2.2.1
  unfold fX5_readTable_129 at hf
  refine pgfX5_15 hC hW 9 (by decide) rfl rfl dX5_readTable_129 (fun H locs hW => ?_)
  obtain ⟨s1, es1, hf⟩ := nx_ex hf
  rw [← es1] at hW
  exact wX5_readTable_132 hC hf hW (lv_sub hl [0] rfl)
def fX5_readTable_96 (N : Nat) (σ : St) : Option (Int32 × St) := if (σ.1 9 2) = (-1 : Int32) then bd (fX5_skipBlanks N σ) (fun r2 s3 => if (s3.1 5 1) ≤ (s3.1 9 1) then (fX5_readTable_129 N (-1 : Int32) s3) else (fX5_readTable_129 N (s3.1 9 1) s3)) else (fX5_readTable_132 N σ)
set_option maxHeartbeats 4000000 in
set_option maxRecDepth 100000 in
theorem wX5_readTable_96 (hC : Cx RX5 cX5_readTable 4 (some .boolean) D cA p s m args meth c) {N : Nat} {σ : St} {r : Int32} {σ' : St} {H : Heap} {locs : List Loc} {ls : Array Slot} (hf : fX5_readTable_96 N σ = some (r, σ')) (hW : Wd kdX 140 D cA ad s σ H locs) (hl : lv_has ls 4 [(0, .ref (ad 9)), (1, .ref (ad 5))]) : W p l e rmX5_readTable s m args below meth c H locs 0 0 (EndW kdX 140 D cA ad below args s (some (.int r)) σ') (F0 m 96 ls []) := by
  have hx := hC.1
  have hb := hC.2.1
  have hown := hC.2.2.2.1
  have hts := hC.2.2.2.2.1
  unfold fX5_readTable_96 at hf
  refine lv_aload_n hx hb dX5_readTable_96 rfl (lv_at hl 0 rfl) ?_
  refine gfX5_15 hC hW 9 (by decide) rfl rfl dX5_readTable_97 ?_
  refine lv_iconst (v := (-1)) hx hb dX5_readTable_100 (by decide) ?_
  refine lv_icmp_ne (tgt := 132) hx hb dX5_readTable_101 (by decide) (fun h1 => ?_) (fun h1 => ?_)
  · have hf := it_f h1 hf
    exact wX5_readTable_132 hC hf hW (lv_sub hl [0] rfl)
  · have hf := it_t h1 hf
    refine lv_aload_n hx hb dX5_readTable_104 rfl (lv_at hl 0 rfl) ?_
    refine lv_aload_n hx hb dX5_readTable_105 rfl (lv_at hl 1 rfl) ?_
    obtain ⟨r2, s3, c4, hf⟩ := bd_some hf
    refine Wd.callV (n := 1) (As := [.ref (ad 5)]) (rest := []) (rv := none) hC hW 9 (kX5_skipBlanks c4) (by decide) rfl rfl q330 q332 qs9 q4 q333 ⟨rfl, rfl⟩ ⟨by decide +kernel, by decide +kernel, by decide +kernel⟩ ⟨Nat.le_of_ble_eq_true rfl, Nat.le_of_ble_eq_true rfl⟩ ⟨Nat.zero_le _, Nat.zero_le _⟩ rfl hl.1 rfl (st2 := []) rfl (Nat.le_of_ble_eq_true rfl) dX5_readTable_106 (fun H locs hW => ?_)
    refine lv_aload_n hx hb dX5_readTable_109 rfl (lv_at hl 0 rfl) ?_
    refine lv_aload_n hx hb dX5_readTable_110 rfl (lv_at hl 0 rfl) ?_
    refine gfX5_19 hC hW 9 (by decide) rfl rfl dX5_readTable_111 ?_
    refine lv_aload_n hx hb dX5_readTable_114 rfl (lv_at hl 1 rfl) ?_
    refine gfX5_31 hC hW 5 (by decide) rfl rfl dX5_readTable_115 ?_
    refine lv_icmp_ge (tgt := 128) hx hb dX5_readTable_118 (by decide) (fun h5 => ?_) (fun h5 => ?_)
    · have hf := it_t h5 hf
      refine lv_iconst (v := (-1)) hx hb dX5_readTable_128 (by decide) ?_
      exact wX5_readTable_129 hC hf hW (lv_sub hl [0] rfl)
    · have hf := it_f h5 hf
      refine lv_aload_n hx hb dX5_readTable_121 rfl (lv_at hl 0 rfl) ?_
      refine gfX5_19 hC hW 9 (by decide) rfl rfl dX5_readTable_122 ?_
      refine lv_goto (tgt := 129) hx hb dX5_readTable_125 (by decide) ?_
      exact wX5_readTable_129 hC hf hW (lv_sub hl [0] rfl)
def fX5_readTable_90 (N : Nat) (K14 : Int32 → Int32 → St → Option (Int32 × St)) (x2 : Int32) (x3 : Int32) (σ : St) : Option (Int32 × St) := nx (x3 + (1 : Int32)) (fun v1 => (K14 x2 v1 σ))
set_option maxHeartbeats 4000000 in
set_option maxRecDepth 100000 in
theorem wX5_readTable_90 (hC : Cx RX5 cX5_readTable 4 (some .boolean) D cA p s m args meth c) {N : Nat} {K14 : Int32 → Int32 → St → Option (Int32 × St)} {x2 : Int32} {x3 : Int32} {σ : St} {r : Int32} {σ' : St} (hK14 : ∀ (x2 : Int32) (x3 : Int32) (σ : St) (H : Heap) (locs : List Loc) (ls : Array Slot), K14 x2 x3 σ = some (r, σ') → Wd kdX 140 D cA ad s σ H locs → lv_has ls 4 [(0, .ref (ad 9)), (1, .ref (ad 5)), (2, .int x2), (3, .int x3)] → W p l e rmX5_readTable s m args below meth c H locs 0 0 (EndW kdX 140 D cA ad below args s (some (.int r)) σ') (F0 m 14 ls [])) {H : Heap} {locs : List Loc} {ls : Array Slot} (hf : fX5_readTable_90 N K14 x2 x3 σ = some (r, σ')) (hW : Wd kdX 140 D cA ad s σ H locs) (hl : lv_has ls 4 [(0, .ref (ad 9)), (1, .ref (ad 5)), (2, .int x2), (3, .int x3)]) : W p l e rmX5_readTable s m args below meth c H locs 0 0 (EndW kdX 140 D cA ad below args s (some (.int r)) σ') (F0 m 90 ls []) := by
  have hx := hC.1
  have hb := hC.2.1
  have hown := hC.2.2.2.1
  have hts := hC.2.2.2.2.1
  unfold fX5_readTable_90 at hf
  obtain ⟨v1, ev1⟩ : ∃ y : Int32, y = x3 + (1 : Int32) := ⟨_, rfl⟩
  have hf := nx_at ev1 hf
  refine lv_iinc (v := v1) (lv' := [(3, .int v1), (0, .ref (ad 9)), (1, .ref (ad 5)), (2, .int x2)]) hx hb dX5_readTable_90 hl (k := 3) rfl (by rw [ev1]; rfl) (by decide) rfl (fun ls hl => ?_)
  refine lv_goto (tgt := 14) hx hb dX5_readTable_93 (by decide) ?_
  exact hK14 _ _ _ _ _ _ hf hW (lv_sub hl [1, 2, 3, 0] rfl)
def fX5_readTable_54 (N : Nat) (K14 : Int32 → Int32 → St → Option (Int32 × St)) (x2 : Int32) (x3 : Int32) (y0 : Int32) (y3 : Int32) (σ : St) : Option (Int32 × St) := bd (fX5_readNumber N y0 σ) (fun r1 s2 => gd (ib y3 191) (nx (sI s2 10 y3.toNatClampNeg r1) (fun s5 => if x3 = 0 then if (s5.1 9 2) = (-1 : Int32) then gd (ib (0 : Int32) 191) (gd (ib (0 : Int32) 191) (nx ((1 : Int32) + (((s5.1 10 (0 : Int32).toNatClampNeg) * ((s5.1 10 (0 : Int32).toNatClampNeg) - (1 : Int32))) / (2 : Int32))) (fun v11 => (fX5_readTable_90 N K14 v11 x3 s5)))) else (fX5_readTable_90 N K14 x2 x3 s5) else (fX5_readTable_90 N K14 x2 x3 s5))))
set_option maxHeartbeats 4000000 in
set_option maxRecDepth 100000 in
theorem wX5_readTable_54 (hC : Cx RX5 cX5_readTable 4 (some .boolean) D cA p s m args meth c) {N : Nat} {K14 : Int32 → Int32 → St → Option (Int32 × St)} {x2 : Int32} {x3 : Int32} {y0 : Int32} {y3 : Int32} {σ : St} {r : Int32} {σ' : St} (hK14 : ∀ (x2 : Int32) (x3 : Int32) (σ : St) (H : Heap) (locs : List Loc) (ls : Array Slot), K14 x2 x3 σ = some (r, σ') → Wd kdX 140 D cA ad s σ H locs → lv_has ls 4 [(0, .ref (ad 9)), (1, .ref (ad 5)), (2, .int x2), (3, .int x3)] → W p l e rmX5_readTable s m args below meth c H locs 0 0 (EndW kdX 140 D cA ad below args s (some (.int r)) σ') (F0 m 14 ls [])) {H : Heap} {locs : List Loc} {ls : Array Slot} (hf : fX5_readTable_54 N K14 x2 x3 y0 y3 σ = some (r, σ')) (hW : Wd kdX 140 D cA ad s σ H locs) (hl : lv_has ls 4 [(0, .ref (ad 9)), (1, .ref (ad 5)), (2, .int x2), (3, .int x3)]) : W p l e rmX5_readTable s m args below meth c H locs 0 0 (EndW kdX 140 D cA ad below args s (some (.int r)) σ') (F0 m 54 ls [.int y0, .ref (ad 5), .ref (ad 9), .int y3, .ref (ad 10)]) := by
  have hx := hC.1
  have hb := hC.2.1
  have hown := hC.2.2.2.1
  have hts := hC.2.2.2.2.1
  unfold fX5_readTable_54 at hf
  obtain ⟨r1, s2, c3, hf⟩ := bd_some hf
  refine Wd.callV (n := 2) (As := [.ref (ad 5), .int y0]) (rest := [.int y3, .ref (ad 10)]) (rv := some (.int r1)) hC hW 9 (kX5_readNumber c3) (by decide) rfl rfl q326 q328 qs8 q4 q329 ⟨rfl, rfl⟩ ⟨by decide +kernel, by decide +kernel, by decide +kernel⟩ ⟨Nat.le_of_ble_eq_true rfl, Nat.le_of_ble_eq_true rfl⟩ ⟨Nat.zero_le _, Nat.zero_le _⟩ rfl hl.1 rfl (st2 := [.int r1, .int y3, .ref (ad 10)]) rfl (Nat.le_of_ble_eq_true rfl) dX5_readTable_54 (fun H locs hW => ?_)
  obtain ⟨h4, hf⟩ := gd_some hf
  refine Wd.iast hC hW 10 (by decide) rfl h4 dX5_readTable_57 (fun H locs hW => ?_)
  obtain ⟨s5, es5, hf⟩ := nx_ex hf
  rw [← es5] at hW
  refine lv_iload_n hx hb dX5_readTable_58 rfl (lv_at hl 3 rfl) ?_
  refine lv_if_ne (tgt := 90) hx hb dX5_readTable_59 (by decide) (fun h6 => ?_) (fun h6 => ?_)
  · have hf := it_f h6 hf
    exact wX5_readTable_90 hC hK14 hf hW (lv_sub hl [0, 1, 2, 3] rfl)
  · have hf := it_t h6 hf
    refine lv_aload_n hx hb dX5_readTable_62 rfl (lv_at hl 0 rfl) ?_
    refine gfX5_15 hC hW 9 (by decide) rfl rfl dX5_readTable_63 ?_
    refine lv_iconst (v := (-1)) hx hb dX5_readTable_66 (by decide) ?_
    refine lv_icmp_ne (tgt := 90) hx hb dX5_readTable_67 (by decide) (fun h7 => ?_) (fun h7 => ?_)
    · have hf := it_f h7 hf
      exact wX5_readTable_90 hC hK14 hf hW (lv_sub hl [0, 1, 2, 3] rfl)
    · have hf := it_t h7 hf
      refine lv_iconst (v := 1) hx hb dX5_readTable_70 (by decide) ?_
      refine lv_aload_n hx hb dX5_readTable_71 rfl (lv_at hl 0 rfl) ?_
      refine gfX5_9 hC hW 9 (by decide) rfl (q := 10) rfl dX5_readTable_72 ?_
      refine lv_iconst (v := 0) hx hb dX5_readTable_75 (by decide) ?_
      obtain ⟨h8, hf⟩ := gd_some hf
      refine Wd.iald hC hW 10 (by decide) rfl h8 dX5_readTable_76 ?_
      refine lv_aload_n hx hb dX5_readTable_77 rfl (lv_at hl 0 rfl) ?_
      refine gfX5_9 hC hW 9 (by decide) rfl (q := 10) rfl dX5_readTable_78 ?_
      refine lv_iconst (v := 0) hx hb dX5_readTable_81 (by decide) ?_
      obtain ⟨h9, hf⟩ := gd_some hf
      refine Wd.iald hC hW 10 (by decide) rfl h9 dX5_readTable_82 ?_
      refine lv_iconst (v := 1) hx hb dX5_readTable_83 (by decide) ?_
      refine lv_isub hx hb dX5_readTable_84 ?_
      refine lv_imul hx hb dX5_readTable_85 ?_
      refine lv_iconst (v := 2) hx hb dX5_readTable_86 (by decide) ?_
      refine lv_idiv hx hb dX5_readTable_87 (by decide) ?_
      refine lv_iadd hx hb dX5_readTable_88 ?_
      refine lv_topi (fun v11 ev11 => ?_)
      have hf := nx_at ev11 hf
      refine lv_istore_n (lv' := [(2, .int v11), (0, .ref (ad 9)), (1, .ref (ad 5)), (3, .int x3)]) hx hb dX5_readTable_89 rfl hl (by decide) rfl (fun ls hl => ?_)
      exact wX5_readTable_90 hC hK14 hf hW (lv_sub hl [1, 2, 0, 3] rfl)
def fX5_readTable_14 (N : Nat) : Nat → Int32 → Int32 → St → Option (Int32 × St)
  | 0, _, _, _ => none
  | n + 1, x2, x3, σ => if x2 ≤ x3 then (fX5_readTable_96 N σ) else if (Int32.ofNat 191) ≤ x3 then (fX5_readTable_96 N σ) else if (σ.1 9 2) = (-1 : Int32) then if x3 = 0 then (fX5_readTable_54 N (fX5_readTable_14 N n) x2 x3 (20 : Int32) x3 σ) else (fX5_readTable_54 N (fX5_readTable_14 N n) x2 x3 (2000000 : Int32) x3 σ) else (fX5_readTable_96 N σ)
set_option maxHeartbeats 4000000 in
set_option maxRecDepth 100000 in
theorem wX5_readTable_14 (hC : Cx RX5 cX5_readTable 4 (some .boolean) D cA p s m args meth c) {N : Nat} {r : Int32} {σ' : St} : ∀ (n : Nat) (x2 : Int32) (x3 : Int32) (σ : St) (H : Heap) (locs : List Loc) (ls : Array Slot), fX5_readTable_14 N n x2 x3 σ = some (r, σ') → Wd kdX 140 D cA ad s σ H locs → lv_has ls 4 [(0, .ref (ad 9)), (1, .ref (ad 5)), (2, .int x2), (3, .int x3)] → W p l e rmX5_readTable s m args below meth c H locs 0 0 (EndW kdX 140 D cA ad below args s (some (.int r)) σ') (F0 m 14 ls []) := by
  have hx := hC.1
  have hb := hC.2.1
  have hown := hC.2.2.2.1
  have hts := hC.2.2.2.2.1
  intro n
  induction n with
  | zero =>
    intro x2 x3 σ H locs ls hf
    rw [fX5_readTable_14] at hf
    cases hf
  | succ n ih =>
    intro x2 x3 σ H locs ls hf hW hl
    rw [fX5_readTable_14] at hf
    refine lv_iload_n hx hb dX5_readTable_14 rfl (lv_at hl 3 rfl) ?_
    refine lv_iload_n hx hb dX5_readTable_15 rfl (lv_at hl 2 rfl) ?_
    refine lv_icmp_ge (tgt := 96) hx hb dX5_readTable_16 (by decide) (fun h1 => ?_) (fun h1 => ?_)
    · have hf := it_t h1 hf
      exact wX5_readTable_96 hC hf hW (lv_sub hl [0, 1] rfl)
    · have hf := it_f h1 hf
      refine lv_iload_n hx hb dX5_readTable_19 rfl (lv_at hl 3 rfl) ?_
      refine lv_aload_n hx hb dX5_readTable_20 rfl (lv_at hl 0 rfl) ?_
      refine gfX5_9 hC hW 9 (by decide) rfl (q := 10) rfl dX5_readTable_21 ?_
      refine Wd.alen hC hW 10 (by decide) rfl dX5_readTable_24 ?_
      refine lv_icmp_ge (tgt := 96) hx hb dX5_readTable_25 (by decide) (fun h2 => ?_) (fun h2 => ?_)
      · have hf := it_t h2 hf
        exact wX5_readTable_96 hC hf hW (lv_sub hl [0, 1] rfl)
      · have hf := it_f h2 hf
        refine lv_aload_n hx hb dX5_readTable_28 rfl (lv_at hl 0 rfl) ?_
        refine gfX5_15 hC hW 9 (by decide) rfl rfl dX5_readTable_29 ?_
        refine lv_iconst (v := (-1)) hx hb dX5_readTable_32 (by decide) ?_
        refine lv_icmp_ne (tgt := 96) hx hb dX5_readTable_33 (by decide) (fun h3 => ?_) (fun h3 => ?_)
        · have hf := it_f h3 hf
          exact wX5_readTable_96 hC hf hW (lv_sub hl [0, 1] rfl)
        · have hf := it_t h3 hf
          refine lv_aload_n hx hb dX5_readTable_36 rfl (lv_at hl 0 rfl) ?_
          refine gfX5_9 hC hW 9 (by decide) rfl (q := 10) rfl dX5_readTable_37 ?_
          refine lv_iload_n hx hb dX5_readTable_40 rfl (lv_at hl 3 rfl) ?_
          refine lv_aload_n hx hb dX5_readTable_41 rfl (lv_at hl 0 rfl) ?_
          refine lv_aload_n hx hb dX5_readTable_42 rfl (lv_at hl 1 rfl) ?_
          refine lv_iload_n hx hb dX5_readTable_43 rfl (lv_at hl 3 rfl) ?_
          refine lv_if_ne (tgt := 52) hx hb dX5_readTable_44 (by decide) (fun h4 => ?_) (fun h4 => ?_)
          · have hf := it_f h4 hf
            refine lv_ldc hx hb hown (hts _ q325) dX5_readTable_52 ?_
            exact wX5_readTable_54 hC ih hf hW (lv_sub hl [0, 1, 2, 3] rfl)
          · have hf := it_t h4 hf
            refine lv_bipush (v := 20) hx hb dX5_readTable_47 (by decide) ?_
            refine lv_goto (tgt := 54) hx hb dX5_readTable_49 (by decide) ?_
            exact wX5_readTable_54 hC ih hf hW (lv_sub hl [0, 1, 2, 3] rfl)
def fX5_readTable (N : Nat) (σ : St) : Option (Int32 × St) := nx (sI σ 9 1 (0 : Int32)) (fun s1 => nx (sI s1 9 2 (-1 : Int32)) (fun s2 => (fX5_readTable_14 N N (1 : Int32) (0 : Int32) s2)))
set_option maxHeartbeats 4000000 in
set_option maxRecDepth 100000 in
theorem kX5_readTable {l : Launch} {D : va_G} {cA : Nat → ClassId} {ad : Nat → Nat} {N : Nat} {σ : St} {r : Int32} {σ' : St} (hf : fX5_readTable N σ = some (r, σ')) : MW kdX 140 l D cA ad ⟨RX5, "readTable", "(LDendroDesk$Bytes;)Z"⟩ cX5_readTable 4 (some .boolean) rmX5_readTable [.ref (ad 9), .ref (ad 5)] σ (some (.int r)) σ' := by
  refine MW.of (by decide) (Nat.le_of_ble_eq_true rfl) ?_
  intro p e s m args below meth c ls hC hW hl
  have hx := hC.1
  have hb := hC.2.1
  have hown := hC.2.2.2.1
  have hts := hC.2.2.2.2.1
  have hl : lv_has ls 4 [(0, .ref (ad 9)), (1, .ref (ad 5))] := hl
  unfold fX5_readTable at hf
  refine lv_aload_n hx hb dX5_readTable_0 rfl (lv_at hl 0 rfl) ?_
  refine lv_iconst (v := 0) hx hb dX5_readTable_1 (by decide) ?_
  refine pgfX5_19 hC hW 9 (by decide) rfl rfl dX5_readTable_2 (fun H locs hW => ?_)
  obtain ⟨s1, es1, hf⟩ := nx_ex hf
  rw [← es1] at hW
  refine lv_aload_n hx hb dX5_readTable_5 rfl (lv_at hl 0 rfl) ?_
  refine lv_iconst (v := (-1)) hx hb dX5_readTable_6 (by decide) ?_
  refine pgfX5_15 hC hW 9 (by decide) rfl rfl dX5_readTable_7 (fun H locs hW => ?_)
  obtain ⟨s2, es2, hf⟩ := nx_ex hf
  rw [← es2] at hW
  refine lv_iconst (v := 1) hx hb dX5_readTable_10 (by decide) ?_
  refine lv_istore_n (lv' := [(2, .int (1 : Int32)), (0, .ref (ad 9)), (1, .ref (ad 5))]) hx hb dX5_readTable_11 rfl hl (by decide) rfl (fun ls hl => ?_)
  refine lv_iconst (v := 0) hx hb dX5_readTable_12 (by decide) ?_
  refine lv_istore_n (lv' := [(3, .int (0 : Int32)), (2, .int (1 : Int32)), (0, .ref (ad 9)), (1, .ref (ad 5))]) hx hb dX5_readTable_13 rfl hl (by decide) rfl (fun ls hl => ?_)
  exact wX5_readTable_14 hC N _ _ _ _ _ _ hf hW (lv_sub hl [2, 3, 1, 0] rfl)
abbrev rmX7_read : Room := { frames := 4, cells := 0, slots := 0, locals := 90 }
def fX7_read_60 (N : Nat) (K46 : Int32 → Int32 → St → Option (Int32 × St)) : Nat → Int32 → Int32 → Int32 → St → Option (Int32 × St)
  | 0, _, _, _, _ => none
  | n + 1, x2, x3, x4, σ => if x3 ≤ x4 then nx (x3 + (1 : Int32)) (fun v2 => (K46 x2 v2 σ)) else gd (ib x2 191) (bd (fX3_setApart N x3 x4 (σ.1 10 x2.toNatClampNeg) σ) (fun r4 s5 => nx (x2 + (1 : Int32)) (fun v7 => nx (x4 + (1 : Int32)) (fun v8 => ((fX7_read_60 N K46 n) v7 x3 v8 s5)))))
set_option maxHeartbeats 4000000 in
set_option maxRecDepth 100000 in
theorem wX7_read_60 (hC : Cx RX7 cX7_read 5 (some .int) D cA p s m args meth c) {N : Nat} {K46 : Int32 → Int32 → St → Option (Int32 × St)} {r : Int32} {σ' : St} (hK46 : ∀ (x2 : Int32) (x3 : Int32) (σ : St) (H : Heap) (locs : List Loc) (ls : Array Slot), K46 x2 x3 σ = some (r, σ') → Wd kdX 140 D cA ad s σ H locs → lv_has ls 5 [(0, .ref (ad 0)), (2, .int x2), (3, .int x3)] → W p l e rmX7_read s m args below meth c H locs 0 0 (EndW kdX 140 D cA ad below args s (some (.int r)) σ') (F0 m 46 ls [])) : ∀ (n : Nat) (x2 : Int32) (x3 : Int32) (x4 : Int32) (σ : St) (H : Heap) (locs : List Loc) (ls : Array Slot), fX7_read_60 N K46 n x2 x3 x4 σ = some (r, σ') → Wd kdX 140 D cA ad s σ H locs → lv_has ls 5 [(0, .ref (ad 0)), (2, .int x2), (3, .int x3), (4, .int x4)] → W p l e rmX7_read s m args below meth c H locs 0 0 (EndW kdX 140 D cA ad below args s (some (.int r)) σ') (F0 m 60 ls []) := by
  have hx := hC.1
  have hb := hC.2.1
  have hown := hC.2.2.2.1
  have hts := hC.2.2.2.2.1
  intro n
  induction n with
  | zero =>
    intro x2 x3 x4 σ H locs ls hf
    rw [fX7_read_60] at hf
    cases hf
  | succ n ih =>
    intro x2 x3 x4 σ H locs ls hf hW hl
    rw [fX7_read_60] at hf
    refine lv_iload hx hb dX7_read_60 (lv_at hl 3 rfl) ?_
    refine lv_iload_n hx hb dX7_read_62 rfl (lv_at hl 2 rfl) ?_
    refine lv_icmp_ge (tgt := 94) hx hb dX7_read_63 (by decide) (fun h1 => ?_) (fun h1 => ?_)
    · have hf := it_t h1 hf
      obtain ⟨v2, ev2⟩ : ∃ y : Int32, y = x3 + (1 : Int32) := ⟨_, rfl⟩
      have hf := nx_at ev2 hf
      refine lv_iinc (v := v2) (lv' := [(3, .int v2), (0, .ref (ad 0)), (2, .int x2), (4, .int x4)]) hx hb dX7_read_94 hl (k := 2) rfl (by rw [ev2]; rfl) (by decide) rfl (fun ls hl => ?_)
      refine lv_goto (tgt := 46) hx hb dX7_read_97 (by decide) ?_
      exact hK46 _ _ _ _ _ _ hf hW (lv_sub hl [1, 2, 0] rfl)
    · have hf := it_f h1 hf
      refine lv_aload_n hx hb dX7_read_66 rfl (lv_at hl 0 rfl) ?_
      refine gfX7_12 hC hW 0 (by decide) rfl (q := 1) rfl dX7_read_67 ?_
      refine lv_iload_n hx hb dX7_read_70 rfl (lv_at hl 2 rfl) ?_
      refine lv_iload hx hb dX7_read_71 (lv_at hl 3 rfl) ?_
      refine lv_aload_n hx hb dX7_read_73 rfl (lv_at hl 0 rfl) ?_
      refine gfX7_29 hC hW 0 (by decide) rfl (q := 9) rfl dX7_read_74 ?_
      refine gfX7_92 hC hW 9 (by decide) rfl (q := 10) rfl dX7_read_77 ?_
      refine lv_iload_n hx hb dX7_read_80 rfl (lv_at hl 1 rfl) ?_
      obtain ⟨h3, hf⟩ := gd_some hf
      refine Wd.iald hC hW 10 (by decide) rfl h3 dX7_read_81 ?_
      obtain ⟨r4, s5, c6, hf⟩ := bd_some hf
      refine Wd.callVN (n := 3) (As := [.int x3, .int x4, .int (σ.1 10 x2.toNatClampNeg)]) (rest := []) (rv := none) hC hW 1 (kX3_setApart c6) (by decide) rfl rfl q257 q259 qs2 q2 q260 ⟨rfl, rfl⟩ ⟨by decide +kernel, by decide +kernel, by decide +kernel⟩ ⟨Nat.le_of_ble_eq_true rfl, Nat.le_of_ble_eq_true rfl⟩ ⟨Nat.zero_le _, Nat.zero_le _⟩ rfl hl.1 rfl (st2 := []) rfl (Nat.le_of_ble_eq_true rfl) dX7_read_82 (fun H locs hW => ?_)
      obtain ⟨v7, ev7⟩ : ∃ y : Int32, y = x2 + (1 : Int32) := ⟨_, rfl⟩
      have hf := nx_at ev7 hf
      refine lv_iinc (v := v7) (lv' := [(2, .int v7), (0, .ref (ad 0)), (3, .int x3), (4, .int x4)]) hx hb dX7_read_85 hl (k := 1) rfl (by rw [ev7]; rfl) (by decide) rfl (fun ls hl => ?_)
      obtain ⟨v8, ev8⟩ : ∃ y : Int32, y = x4 + (1 : Int32) := ⟨_, rfl⟩
      have hf := nx_at ev8 hf
      refine lv_iinc (v := v8) (lv' := [(4, .int v8), (2, .int v7), (0, .ref (ad 0)), (3, .int x3)]) hx hb dX7_read_88 hl (k := 3) rfl (by rw [ev8]; rfl) (by decide) rfl (fun ls hl => ?_)
      refine lv_goto (tgt := 60) hx hb dX7_read_91 (by decide) ?_
      exact ih _ _ _ _ _ _ _ hf hW (lv_sub hl [2, 1, 3, 0] rfl)
def fX7_read_46 (N : Nat) : Nat → Int32 → Int32 → St → Option (Int32 × St)
  | 0, _, _, _ => none
  | n + 1, x2, x3, σ => if (σ.1 1 0) ≤ x3 then some ((σ.1 1 0), σ) else (fX7_read_60 N (fX7_read_46 N n) N x2 x3 (0 : Int32) σ)
set_option maxHeartbeats 4000000 in
set_option maxRecDepth 100000 in
theorem wX7_read_46 (hC : Cx RX7 cX7_read 5 (some .int) D cA p s m args meth c) {N : Nat} {r : Int32} {σ' : St} : ∀ (n : Nat) (x2 : Int32) (x3 : Int32) (σ : St) (H : Heap) (locs : List Loc) (ls : Array Slot), fX7_read_46 N n x2 x3 σ = some (r, σ') → Wd kdX 140 D cA ad s σ H locs → lv_has ls 5 [(0, .ref (ad 0)), (2, .int x2), (3, .int x3)] → W p l e rmX7_read s m args below meth c H locs 0 0 (EndW kdX 140 D cA ad below args s (some (.int r)) σ') (F0 m 46 ls []) := by
  have hx := hC.1
  have hb := hC.2.1
  have hown := hC.2.2.2.1
  have hts := hC.2.2.2.2.1
  intro n
  induction n with
  | zero =>
    intro x2 x3 σ H locs ls hf
    rw [fX7_read_46] at hf
    cases hf
  | succ n ih =>
    intro x2 x3 σ H locs ls hf hW hl
    rw [fX7_read_46] at hf
    refine lv_iload_n hx hb dX7_read_46 rfl (lv_at hl 2 rfl) ?_
    refine lv_aload_n hx hb dX7_read_47 rfl (lv_at hl 0 rfl) ?_
    refine gfX7_12 hC hW 0 (by decide) rfl (q := 1) rfl dX7_read_48 ?_
    refine gfX7_95 hC hW 1 (by decide) rfl rfl dX7_read_51 ?_
    refine lv_icmp_ge (tgt := 100) hx hb dX7_read_54 (by decide) (fun h1 => ?_) (fun h1 => ?_)
    · have hf := it_t h1 hf
      refine lv_aload_n hx hb dX7_read_100 rfl (lv_at hl 0 rfl) ?_
      refine gfX7_12 hC hW 0 (by decide) rfl (q := 1) rfl dX7_read_101 ?_
      refine gfX7_95 hC hW 1 (by decide) rfl rfl dX7_read_104 ?_
      obtain ⟨rfl, rfl⟩ := sp hf
      exact Wd.iret hC hW dX7_read_107
    · have hf := it_f h1 hf
      refine lv_iconst (v := 0) hx hb dX7_read_57 (by decide) ?_
      refine lv_istore (lv' := [(4, .int (0 : Int32)), (0, .ref (ad 0)), (2, .int x2), (3, .int x3)]) hx hb dX7_read_58 hl (by decide) rfl (fun ls hl => ?_)
      exact wX7_read_60 hC ih N _ _ _ _ _ _ _ hf hW (lv_sub hl [1, 2, 3, 0] rfl)
def fX7_read (N : Nat) (σ : St) : Option (Int32 × St) := bd (fX5_readTable N σ) (fun r1 s2 => nx (sI s2 5 1 (0 : Int32)) (fun s4 => if r1 = 0 then some ((-1 : Int32), s4) else gd (ib (0 : Int32) 191) (bd (fX3_startAnew N (s4.1 10 (0 : Int32).toNatClampNeg) s4) (fun r7 s8 => (fX7_read_46 N N (1 : Int32) (1 : Int32) s8)))))
set_option maxHeartbeats 4000000 in
set_option maxRecDepth 100000 in
theorem kX7_read {l : Launch} {D : va_G} {cA : Nat → ClassId} {ad : Nat → Nat} {N : Nat} {σ : St} {r : Int32} {σ' : St} (hf : fX7_read N σ = some (r, σ')) : MW kdX 140 l D cA ad ⟨RX7, "read", "()I"⟩ cX7_read 5 (some .int) rmX7_read [.ref (ad 0)] σ (some (.int r)) σ' := by
  refine MW.of (by decide) (Nat.le_of_ble_eq_true rfl) ?_
  intro p e s m args below meth c ls hC hW hl
  have hx := hC.1
  have hb := hC.2.1
  have hown := hC.2.2.2.1
  have hts := hC.2.2.2.2.1
  have hl : lv_has ls 5 [(0, .ref (ad 0))] := hl
  unfold fX7_read at hf
  refine lv_aload_n hx hb dX7_read_0 rfl (lv_at hl 0 rfl) ?_
  refine gfX7_29 hC hW 0 (by decide) rfl (q := 9) rfl dX7_read_1 ?_
  refine lv_aload_n hx hb dX7_read_4 rfl (lv_at hl 0 rfl) ?_
  refine gfX7_19 hC hW 0 (by decide) rfl (q := 5) rfl dX7_read_5 ?_
  obtain ⟨r1, s2, c3, hf⟩ := bd_some hf
  refine Wd.callVN (n := 1) (As := [.ref (ad 5)]) (rest := []) (rv := some (.int r1)) hC hW 9 (kX5_readTable c3) (by decide) rfl rfl q321 q323 qs7 q4 q324 ⟨rfl, rfl⟩ ⟨by decide +kernel, by decide +kernel, by decide +kernel⟩ ⟨Nat.le_of_ble_eq_true rfl, Nat.le_of_ble_eq_true rfl⟩ ⟨Nat.zero_le _, Nat.zero_le _⟩ rfl hl.1 rfl (st2 := [.int r1]) rfl (Nat.le_of_ble_eq_true rfl) dX7_read_8 (fun H locs hW => ?_)
  refine lv_istore_n (lv' := [(1, .int r1), (0, .ref (ad 0))]) hx hb dX7_read_11 rfl hl (by decide) rfl (fun ls hl => ?_)
  refine lv_aload_n hx hb dX7_read_12 rfl (lv_at hl 1 rfl) ?_
  refine gfX7_19 hC hW 0 (by decide) rfl (q := 5) rfl dX7_read_13 ?_
  refine lv_iconst (v := 0) hx hb dX7_read_16 (by decide) ?_
  refine pgfX7_77 hC hW 5 (by decide) rfl rfl dX7_read_17 (fun H locs hW => ?_)
  obtain ⟨s4, es4, hf⟩ := nx_ex hf
  rw [← es4] at hW
  refine lv_iload_n hx hb dX7_read_20 rfl (lv_at hl 0 rfl) ?_
  refine lv_if_ne (tgt := 26) hx hb dX7_read_21 (by decide) (fun h5 => ?_) (fun h5 => ?_)
  · have hf := it_f h5 hf
    refine lv_aload_n hx hb dX7_read_26 rfl (lv_at hl 1 rfl) ?_
    refine gfX7_12 hC hW 0 (by decide) rfl (q := 1) rfl dX7_read_27 ?_
    refine lv_aload_n hx hb dX7_read_30 rfl (lv_at hl 1 rfl) ?_
    refine gfX7_29 hC hW 0 (by decide) rfl (q := 9) rfl dX7_read_31 ?_
    refine gfX7_92 hC hW 9 (by decide) rfl (q := 10) rfl dX7_read_34 ?_
    refine lv_iconst (v := 0) hx hb dX7_read_37 (by decide) ?_
    obtain ⟨h6, hf⟩ := gd_some hf
    refine Wd.iald hC hW 10 (by decide) rfl h6 dX7_read_38 ?_
    obtain ⟨r7, s8, c9, hf⟩ := bd_some hf
    refine Wd.callVN (n := 1) (As := [.int (s4.1 10 (0 : Int32).toNatClampNeg)]) (rest := []) (rv := none) hC hW 1 (kX3_startAnew c9) (by decide) rfl rfl q244 q246 qs0 q2 q247 ⟨rfl, rfl⟩ ⟨by decide +kernel, by decide +kernel, by decide +kernel⟩ ⟨Nat.le_of_ble_eq_true rfl, Nat.le_of_ble_eq_true rfl⟩ ⟨Nat.zero_le _, Nat.zero_le _⟩ rfl hl.1 rfl (st2 := []) rfl (Nat.le_of_ble_eq_true rfl) dX7_read_39 (fun H locs hW => ?_)
    refine lv_iconst (v := 1) hx hb dX7_read_42 (by decide) ?_
    refine lv_istore_n (lv' := [(2, .int (1 : Int32)), (1, .int r1), (0, .ref (ad 0))]) hx hb dX7_read_43 rfl hl (by decide) rfl (fun ls hl => ?_)
    refine lv_iconst (v := 1) hx hb dX7_read_44 (by decide) ?_
    refine lv_istore_n (lv' := [(3, .int (1 : Int32)), (2, .int (1 : Int32)), (1, .int r1), (0, .ref (ad 0))]) hx hb dX7_read_45 rfl hl (by decide) rfl (fun ls hl => ?_)
    exact wX7_read_46 hC N _ _ _ _ _ _ hf hW (lv_sub hl [3, 1, 0] rfl)
  · have hf := it_t h5 hf
    refine lv_iconst (v := (-1)) hx hb dX7_read_24 (by decide) ?_
    obtain ⟨rfl, rfl⟩ := sp hf
    exact Wd.iret hC hW dX7_read_25
abbrev rmX7_fault : Room := { frames := 0, cells := 0, slots := 0, locals := 0 }
def fX7_fault (N : Nat) (σ : St) : Option (Int32 × St) := some ((σ.1 9 2), σ)
set_option maxHeartbeats 4000000 in
set_option maxRecDepth 100000 in
theorem kX7_fault {l : Launch} {D : va_G} {cA : Nat → ClassId} {ad : Nat → Nat} {N : Nat} {σ : St} {r : Int32} {σ' : St} (hf : fX7_fault N σ = some (r, σ')) : MW kdX 140 l D cA ad ⟨RX7, "fault", "()I"⟩ cX7_fault 1 (some .int) rmX7_fault [.ref (ad 0)] σ (some (.int r)) σ' := by
  refine MW.of (by decide) (Nat.le_of_ble_eq_true rfl) ?_
  intro p e s m args below meth c ls hC hW hl
  have hx := hC.1
  have hb := hC.2.1
  have hown := hC.2.2.2.1
  have hts := hC.2.2.2.2.1
  have hl : lv_has ls 1 [(0, .ref (ad 0))] := hl
  unfold fX7_fault at hf
  refine lv_aload_n hx hb dX7_fault_0 rfl (lv_at hl 0 rfl) ?_
  refine gfX7_29 hC hW 0 (by decide) rfl (q := 9) rfl dX7_fault_1 ?_
  refine gfX7_98 hC hW 9 (by decide) rfl rfl dX7_fault_4 ?_
  obtain ⟨rfl, rfl⟩ := sp hf
  exact Wd.iret hC hW dX7_fault_7
abbrev rmX0_addNumber : Room := { frames := 1, cells := 0, slots := 0, locals := 21 }
def fX0_addNumber_37 (N : Nat) (a : Nat) : Nat → Int64 → Int64 → Int32 → St → Option (Unit × St)
  | 0, _, _, _, _ => none
  | n + 1, x1, x3, x5, σ => if (18 : Int32) ≤ x5 then some ((), σ) else if (lg_cmp x3 (0 : Int64)) ≤ 0 then some ((), σ) else ndz (x3 = 0) inferInstance (bd (fX0_add N a ((48 : Int32) + ((x1 / x3) - (x1 / x3) / (10 : Int64) * (10 : Int64)).toInt32) σ) (fun r5 s6 => nx (x3 / (10 : Int64)) (fun v9 => nx (x5 + (1 : Int32)) (fun v10 => ((fX0_addNumber_37 N a n) x1 v9 v10 s6)))))
set_option maxHeartbeats 4000000 in
set_option maxRecDepth 100000 in
theorem wX0_addNumber_37 (hC : Cx RX0 cX0_addNumber 6 none D cA p s m args meth c) {N : Nat} {a : Nat} (ha : isBy a) {r : Unit} {σ' : St} : ∀ (n : Nat) (x1 : Int64) (x3 : Int64) (x5 : Int32) (σ : St) (H : Heap) (locs : List Loc) (ls : Array Slot), fX0_addNumber_37 N a n x1 x3 x5 σ = some (r, σ') → Wd kdX 140 D cA ad s σ H locs → lv_has ls 6 [(0, .ref (ad a)), (1, .long x1), (3, .long x3), (5, .int x5)] → W p l e rmX0_addNumber s m args below meth c H locs 0 0 (EndW kdX 140 D cA ad below args s none σ') (F0 m 37 ls []) := by
  have hx := hC.1
  have hb := hC.2.1
  have hown := hC.2.2.2.1
  have hts := hC.2.2.2.2.1
  intro n
  induction n with
  | zero =>
    intro x1 x3 x5 σ H locs ls hf
    rw [fX0_addNumber_37] at hf
    cases hf
  | succ n ih =>
    intro x1 x3 x5 σ H locs ls hf hW hl
    rw [fX0_addNumber_37] at hf
    refine lv_iload hx hb dX0_addNumber_37 (lv_at hl 3 rfl) ?_
    refine lv_bipush (v := 18) hx hb dX0_addNumber_39 (by decide) ?_
    refine lv_icmp_ge (tgt := 77) hx hb dX0_addNumber_41 (by decide) (fun h1 => ?_) (fun h1 => ?_)
    · have hf := it_t h1 hf
      obtain ⟨-, rfl⟩ := sp hf
      exact Wd.vret hC hW dX0_addNumber_77
    · have hf := it_f h1 hf
      refine lv_lload_n hx hb dX0_addNumber_44 rfl (lv_at hl 2 rfl) ?_
      refine lv_lconst (v := 0) hx hb dX0_addNumber_45 (by decide) ?_
      refine W.lcmp hx hb dX0_addNumber_46 ?_
      refine lv_if_le (tgt := 77) hx hb dX0_addNumber_47 (by decide) (fun h2 => ?_) (fun h2 => ?_)
      · have hf := it_t h2 hf
        obtain ⟨-, rfl⟩ := sp hf
        exact Wd.vret hC hW dX0_addNumber_77
      · have hf := it_f h2 hf
        refine lv_aload_n hx hb dX0_addNumber_50 rfl (lv_at hl 0 rfl) ?_
        refine lv_bipush (v := 48) hx hb dX0_addNumber_51 (by decide) ?_
        refine lv_lload_n hx hb dX0_addNumber_53 rfl (lv_at hl 1 rfl) ?_
        refine lv_lload_n hx hb dX0_addNumber_54 rfl (lv_at hl 2 rfl) ?_
        obtain ⟨h3, hf⟩ := ndz_some hf
        refine lv_ldiv hx hb dX0_addNumber_55 h3 ?_
        refine lv_ldc2 hx hb hown (hts _ q356) dX0_addNumber_56 ?_
        refine lv_lrem hx hb dX0_addNumber_59 (by decide) ?_
        refine lv_l2i (v := ((x1 / x3) - (x1 / x3) / (10 : Int64) * (10 : Int64)).toInt32) hx hb dX0_addNumber_60 rfl ?_
        refine lv_iadd hx hb dX0_addNumber_61 ?_
        obtain ⟨r5, s6, c7, hf⟩ := bd_some hf
        refine Wd.callV (n := 1) (As := [.int ((48 : Int32) + ((x1 / x3) - (x1 / x3) / (10 : Int64) * (10 : Int64)).toInt32)]) (rest := []) (rv := none) hC hW a (kX0_add ha c7) (By.b ha) (By.o ha) rfl q298 q300 qs5 q3 q301 ⟨rfl, rfl⟩ ⟨by decide +kernel, by decide +kernel, by decide +kernel⟩ ⟨Nat.le_of_ble_eq_true rfl, Nat.le_of_ble_eq_true rfl⟩ ⟨Nat.zero_le _, Nat.zero_le _⟩ rfl hl.1 rfl (st2 := []) rfl (Nat.le_of_ble_eq_true rfl) dX0_addNumber_62 (fun H locs hW => ?_)
        refine lv_lload_n hx hb dX0_addNumber_65 rfl (lv_at hl 2 rfl) ?_
        refine lv_ldc2 hx hb hown (hts _ q356) dX0_addNumber_66 ?_
        refine lv_ldiv hx hb dX0_addNumber_69 (by decide) ?_
        refine lv_topl (fun v9 ev9 => ?_)
        have hf := nx_at ev9 hf
        refine lv_lstore_n (lv' := [(3, .long v9), (0, .ref (ad a)), (1, .long x1), (5, .int x5)]) hx hb dX0_addNumber_70 rfl hl (by decide) rfl (fun ls hl => ?_)
        obtain ⟨v10, ev10⟩ : ∃ y : Int32, y = x5 + (1 : Int32) := ⟨_, rfl⟩
        have hf := nx_at ev10 hf
        refine lv_iinc (v := v10) (lv' := [(5, .int v10), (3, .long v9), (0, .ref (ad a)), (1, .long x1)]) hx hb dX0_addNumber_71 hl (k := 3) rfl (by rw [ev10]; rfl) (by decide) rfl (fun ls hl => ?_)
        refine lv_goto (tgt := 37) hx hb dX0_addNumber_74 (by decide) ?_
        exact ih _ _ _ _ _ _ _ hf hW (lv_sub hl [2, 3, 1, 0] rfl)
def fX0_addNumber_34 (N : Nat) (a : Nat) (x1 : Int64) (x3 : Int64) (σ : St) : Option (Unit × St) := (fX0_addNumber_37 N a N x1 x3 (0 : Int32) σ)
set_option maxHeartbeats 4000000 in
set_option maxRecDepth 100000 in
theorem wX0_addNumber_34 (hC : Cx RX0 cX0_addNumber 6 none D cA p s m args meth c) {N : Nat} {a : Nat} (ha : isBy a) {x1 : Int64} {x3 : Int64} {σ : St} {r : Unit} {σ' : St} {H : Heap} {locs : List Loc} {ls : Array Slot} (hf : fX0_addNumber_34 N a x1 x3 σ = some (r, σ')) (hW : Wd kdX 140 D cA ad s σ H locs) (hl : lv_has ls 6 [(0, .ref (ad a)), (1, .long x1), (3, .long x3)]) : W p l e rmX0_addNumber s m args below meth c H locs 0 0 (EndW kdX 140 D cA ad below args s none σ') (F0 m 34 ls []) := by
  have hx := hC.1
  have hb := hC.2.1
  have hown := hC.2.2.2.1
  have hts := hC.2.2.2.2.1
  unfold fX0_addNumber_34 at hf
  refine lv_iconst (v := 0) hx hb dX0_addNumber_34 (by decide) ?_
  refine lv_istore (lv' := [(5, .int (0 : Int32)), (0, .ref (ad a)), (1, .long x1), (3, .long x3)]) hx hb dX0_addNumber_35 hl (by decide) rfl (fun ls hl => ?_)
  exact wX0_addNumber_37 hC ha N _ _ _ _ _ _ _ hf hW (lv_sub hl [1, 2, 3, 0] rfl)
def fX0_addNumber_5 (N : Nat) (a : Nat) : Nat → Int64 → Int64 → Int32 → St → Option (Unit × St)
  | 0, _, _, _, _ => none
  | n + 1, x1, x3, x5, σ => if (18 : Int32) ≤ x5 then (fX0_addNumber_34 N a x1 x3 σ) else ndz (x3 = 0) inferInstance (if (lg_cmp (x1 / x3) (10 : Int64)) < 0 then (fX0_addNumber_34 N a x1 x3 σ) else nx (x3 * (10 : Int64)) (fun v4 => nx (x5 + (1 : Int32)) (fun v5 => ((fX0_addNumber_5 N a n) x1 v4 v5 σ))))
set_option maxHeartbeats 4000000 in
set_option maxRecDepth 100000 in
theorem wX0_addNumber_5 (hC : Cx RX0 cX0_addNumber 6 none D cA p s m args meth c) {N : Nat} {a : Nat} (ha : isBy a) {r : Unit} {σ' : St} : ∀ (n : Nat) (x1 : Int64) (x3 : Int64) (x5 : Int32) (σ : St) (H : Heap) (locs : List Loc) (ls : Array Slot), fX0_addNumber_5 N a n x1 x3 x5 σ = some (r, σ') → Wd kdX 140 D cA ad s σ H locs → lv_has ls 6 [(0, .ref (ad a)), (1, .long x1), (3, .long x3), (5, .int x5)] → W p l e rmX0_addNumber s m args below meth c H locs 0 0 (EndW kdX 140 D cA ad below args s none σ') (F0 m 5 ls []) := by
  have hx := hC.1
  have hb := hC.2.1
  have hown := hC.2.2.2.1
  have hts := hC.2.2.2.2.1
  intro n
  induction n with
  | zero =>
    intro x1 x3 x5 σ H locs ls hf
    rw [fX0_addNumber_5] at hf
    cases hf
  | succ n ih =>
    intro x1 x3 x5 σ H locs ls hf hW hl
    rw [fX0_addNumber_5] at hf
    refine lv_iload hx hb dX0_addNumber_5 (lv_at hl 3 rfl) ?_
    refine lv_bipush (v := 18) hx hb dX0_addNumber_7 (by decide) ?_
    refine lv_icmp_ge (tgt := 34) hx hb dX0_addNumber_9 (by decide) (fun h1 => ?_) (fun h1 => ?_)
    · have hf := it_t h1 hf
      exact wX0_addNumber_34 hC ha hf hW (lv_sub hl [0, 1, 2] rfl)
    · have hf := it_f h1 hf
      refine lv_lload_n hx hb dX0_addNumber_12 rfl (lv_at hl 1 rfl) ?_
      refine lv_lload_n hx hb dX0_addNumber_13 rfl (lv_at hl 2 rfl) ?_
      obtain ⟨h2, hf⟩ := ndz_some hf
      refine lv_ldiv hx hb dX0_addNumber_14 h2 ?_
      refine lv_ldc2 hx hb hown (hts _ q356) dX0_addNumber_15 ?_
      refine W.lcmp hx hb dX0_addNumber_18 ?_
      refine lv_if_lt (tgt := 34) hx hb dX0_addNumber_19 (by decide) (fun h3 => ?_) (fun h3 => ?_)
      · have hf := it_t h3 hf
        exact wX0_addNumber_34 hC ha hf hW (lv_sub hl [0, 1, 2] rfl)
      · have hf := it_f h3 hf
        refine lv_lload_n hx hb dX0_addNumber_22 rfl (lv_at hl 2 rfl) ?_
        refine lv_ldc2 hx hb hown (hts _ q356) dX0_addNumber_23 ?_
        refine lv_lmul hx hb dX0_addNumber_26 ?_
        refine lv_topl (fun v4 ev4 => ?_)
        have hf := nx_at ev4 hf
        refine lv_lstore_n (lv' := [(3, .long v4), (0, .ref (ad a)), (1, .long x1), (5, .int x5)]) hx hb dX0_addNumber_27 rfl hl (by decide) rfl (fun ls hl => ?_)
        obtain ⟨v5, ev5⟩ : ∃ y : Int32, y = x5 + (1 : Int32) := ⟨_, rfl⟩
        have hf := nx_at ev5 hf
        refine lv_iinc (v := v5) (lv' := [(5, .int v5), (3, .long v4), (0, .ref (ad a)), (1, .long x1)]) hx hb dX0_addNumber_28 hl (k := 3) rfl (by rw [ev5]; rfl) (by decide) rfl (fun ls hl => ?_)
        refine lv_goto (tgt := 5) hx hb dX0_addNumber_31 (by decide) ?_
        exact ih _ _ _ _ _ _ _ hf hW (lv_sub hl [2, 3, 1, 0] rfl)
def fX0_addNumber (N : Nat) (a : Nat) (x1 : Int64) (σ : St) : Option (Unit × St) := (fX0_addNumber_5 N a N x1 (1 : Int64) (1 : Int32) σ)
set_option maxHeartbeats 4000000 in
set_option maxRecDepth 100000 in
theorem kX0_addNumber {l : Launch} {D : va_G} {cA : Nat → ClassId} {ad : Nat → Nat} {N : Nat} {a : Nat} (ha : isBy a) {x1 : Int64} {σ : St} {r : Unit} {σ' : St} (hf : fX0_addNumber N a x1 σ = some (r, σ')) : MW kdX 140 l D cA ad ⟨RX0, "addNumber", "(J)V"⟩ cX0_addNumber 6 none rmX0_addNumber [.ref (ad a), .long x1] σ none σ' := by
  refine MW.of (by decide) (Nat.le_of_ble_eq_true rfl) ?_
  intro p e s m args below meth c ls hC hW hl
  have hx := hC.1
  have hb := hC.2.1
  have hown := hC.2.2.2.1
  have hts := hC.2.2.2.2.1
  have hl : lv_has ls 6 [(0, .ref (ad a)), (1, .long x1)] := hl
  unfold fX0_addNumber at hf
  refine lv_lconst (v := 1) hx hb dX0_addNumber_0 (by decide) ?_
  refine lv_lstore_n (lv' := [(3, .long (1 : Int64)), (0, .ref (ad a)), (1, .long x1)]) hx hb dX0_addNumber_1 rfl hl (by decide) rfl (fun ls hl => ?_)
  refine lv_iconst (v := 1) hx hb dX0_addNumber_2 (by decide) ?_
  refine lv_istore (lv' := [(5, .int (1 : Int32)), (3, .long (1 : Int64)), (0, .ref (ad a)), (1, .long x1)]) hx hb dX0_addNumber_3 hl (by decide) rfl (fun ls hl => ?_)
  exact wX0_addNumber_5 hC ha N _ _ _ _ _ _ _ hf hW (lv_sub hl [2, 3, 1, 0] rfl)
end
