section
variable {D : va_G} {cA : Nat → ClassId} {ad : Nat → Nat} {p : Program} {l : Launch} {e : Env} {s : State} {m : MethodId} {args : Array Value} {below : List Frame} {meth : Method} {c : Code}
abbrev rmX8_text : Room := { frames := 3, cells := 0, slots := 0, locals := 74 }
def fX8_text (N : Nat) (x1 : Int32) (σ : St) : Option (Int32 × St) := bd (fX8_isTree N x1 σ) (fun r1 s2 => if r1 = 0 then some ((-1 : Int32), s2) else bd (fX8_tells N x1 s2) (fun r5 s6 => some ((s6.1 0 7), s6)))
set_option maxHeartbeats 4000000 in
set_option maxRecDepth 100000 in
theorem kX8_text {l : Launch} {D : va_G} {cA : Nat → ClassId} {ad : Nat → Nat} {N : Nat} {x1 : Int32} {σ : St} {r : Int32} {σ' : St} (hf : fX8_text N x1 σ = some (r, σ')) : MW kdM 31 l D cA ad ⟨RX8, "text", "(I)I"⟩ cX8_text 2 (some .int) rmX8_text [.ref (ad 0), .int x1] σ (some (.int r)) σ' := by
  refine MW.of (by decide) (Nat.le_of_ble_eq_true rfl) ?_
  intro p e s m args below meth c ls hC hW hl
  have hx := hC.1
  have hb := hC.2.1
  have hown := hC.2.2.2.1
  have hts := hC.2.2.2.2.1
  have hl : lv_has ls 2 [(0, .ref (ad 0)), (1, .int x1)] := hl
  unfold fX8_text at hf
  refine lv_aload_n hx hb dX8_text_0 rfl (lv_at hl 0 rfl) ?_
  refine lv_iload_n hx hb dX8_text_1 rfl (lv_at hl 1 rfl) ?_
  obtain ⟨r1, s2, c3, hf⟩ := bd_some hf
  refine Wd.callV (n := 1) (As := [.int x1]) (rest := []) (rv := some (.int r1)) hC hW 0 (kX8_isTree c3) (by decide) rfl rfl q895 q897 qs62 q8 q898 ⟨rfl, rfl⟩ ⟨by decide +kernel, by decide +kernel, by decide +kernel⟩ ⟨Nat.le_of_ble_eq_true rfl, Nat.le_of_ble_eq_true rfl⟩ ⟨Nat.zero_le _, Nat.zero_le _⟩ rfl hl.1 rfl (st2 := [.int r1]) rfl (Nat.le_of_ble_eq_true rfl) dX8_text_2 (fun H locs hW => ?_)
  refine lv_if_ne (tgt := 10) hx hb dX8_text_5 (by decide) (fun h4 => ?_) (fun h4 => ?_)
  · have hf := it_f h4 hf
    refine lv_aload_n hx hb dX8_text_10 rfl (lv_at hl 0 rfl) ?_
    refine lv_iload_n hx hb dX8_text_11 rfl (lv_at hl 1 rfl) ?_
    obtain ⟨r5, s6, c7, hf⟩ := bd_some hf
    refine Wd.callV (n := 1) (As := [.int x1]) (rest := []) (rv := none) hC hW 0 (kX8_tells c7) (by decide) rfl rfl q927 q929 qs65 q8 q930 ⟨rfl, rfl⟩ ⟨by decide +kernel, by decide +kernel, by decide +kernel⟩ ⟨Nat.le_of_ble_eq_true rfl, Nat.le_of_ble_eq_true rfl⟩ ⟨Nat.zero_le _, Nat.zero_le _⟩ rfl hl.1 rfl (st2 := []) rfl (Nat.le_of_ble_eq_true rfl) dX8_text_12 (fun H locs hW => ?_)
    refine lv_aload_n hx hb dX8_text_15 rfl (lv_at hl 0 rfl) ?_
    refine gfX8_126 hC hW 0 (by decide) rfl rfl dX8_text_16 ?_
    obtain ⟨rfl, rfl⟩ := sp hf
    exact Wd.iret hC hW dX8_text_19
  · have hf := it_t h4 hf
    refine lv_iconst (v := (-1)) hx hb dX8_text_8 (by decide) ?_
    obtain ⟨rfl, rfl⟩ := sp hf
    exact Wd.iret hC hW dX8_text_9
abbrev rmX8_order : Room := { frames := 3, cells := 0, slots := 0, locals := 74 }
def fX8_order_65 (N : Nat) : Nat → Int32 → Int32 → Int32 → St → Option (Int32 × St)
  | 0, _, _, _, _ => none
  | n + 1, x2, x3, x4, σ => if x3 ≤ x4 then nx (sI σ 0 7 x3) (fun s2 => gd (ib x2 20) (some ((s2.1 29 x2.toNatClampNeg), s2))) else gd (ib x4 2400) (gd (ib x4 2400) (nx (sI σ 5 x4.toNatClampNeg (σ.1 30 x4.toNatClampNeg).toInt8.toInt32) (fun s6 => nx (x4 + (1 : Int32)) (fun v7 => ((fX8_order_65 N n) x2 x3 v7 s6)))))
set_option maxHeartbeats 4000000 in
set_option maxRecDepth 100000 in
theorem wX8_order_65 (hC : Cx RX8 cX8_order 5 (some .int) D cA p s m args meth c) {N : Nat} {r : Int32} {σ' : St} : ∀ (n : Nat) (x2 : Int32) (x3 : Int32) (x4 : Int32) (σ : St) (H : Heap) (locs : List Loc) (ls : Array Slot), fX8_order_65 N n x2 x3 x4 σ = some (r, σ') → Wd kdM 31 D cA ad s σ H locs → lv_has ls 5 [(0, .ref (ad 0)), (2, .int x2), (3, .int x3), (4, .int x4)] → W p l e rmX8_order s m args below meth c H locs 0 0 (EndW kdM 31 D cA ad below args s (some (.int r)) σ') (F0 m 65 ls []) := by
  have hx := hC.1
  have hb := hC.2.1
  have hown := hC.2.2.2.1
  have hts := hC.2.2.2.2.1
  intro n
  induction n with
  | zero =>
    intro x2 x3 x4 σ H locs ls hf
    rw [fX8_order_65] at hf
    cases hf
  | succ n ih =>
    intro x2 x3 x4 σ H locs ls hf hW hl
    rw [fX8_order_65] at hf
    refine lv_iload hx hb dX8_order_65 (lv_at hl 3 rfl) ?_
    refine lv_iload_n hx hb dX8_order_67 rfl (lv_at hl 2 rfl) ?_
    refine lv_icmp_ge (tgt := 91) hx hb dX8_order_68 (by decide) (fun h1 => ?_) (fun h1 => ?_)
    · have hf := it_t h1 hf
      refine lv_aload_n hx hb dX8_order_91 rfl (lv_at hl 0 rfl) ?_
      refine lv_iload_n hx hb dX8_order_92 rfl (lv_at hl 2 rfl) ?_
      refine pgfX8_126 hC hW 0 (by decide) rfl rfl dX8_order_93 (fun H locs hW => ?_)
      obtain ⟨s2, es2, hf⟩ := nx_ex hf
      rw [← es2] at hW
      refine lv_aload_n hx hb dX8_order_96 rfl (lv_at hl 0 rfl) ?_
      refine gfX8_101 hC hW 0 (by decide) rfl (q := 29) rfl dX8_order_97 ?_
      refine lv_iload_n hx hb dX8_order_100 rfl (lv_at hl 1 rfl) ?_
      obtain ⟨h3, hf⟩ := gd_some hf
      refine Wd.iald hC hW 29 (by decide) rfl h3 dX8_order_101 ?_
      obtain ⟨rfl, rfl⟩ := sp hf
      exact Wd.iret hC hW dX8_order_102
    · have hf := it_f h1 hf
      refine lv_aload_n hx hb dX8_order_71 rfl (lv_at hl 0 rfl) ?_
      refine gfX8_23 hC hW 0 (by decide) rfl (q := 5) rfl dX8_order_72 ?_
      refine lv_iload hx hb dX8_order_75 (lv_at hl 3 rfl) ?_
      refine lv_aload_n hx hb dX8_order_77 rfl (lv_at hl 0 rfl) ?_
      refine gfX8_104 hC hW 0 (by decide) rfl (q := 30) rfl dX8_order_78 ?_
      refine lv_iload hx hb dX8_order_81 (lv_at hl 3 rfl) ?_
      obtain ⟨h4, hf⟩ := gd_some hf
      refine Wd.bald hC hW 30 (by decide) rfl h4 dX8_order_83 ?_
      obtain ⟨h5, hf⟩ := gd_some hf
      refine Wd.bast hC hW 5 (by decide) rfl h5 dX8_order_84 (fun H locs hW => ?_)
      obtain ⟨s6, es6, hf⟩ := nx_ex hf
      rw [← es6] at hW
      obtain ⟨v7, ev7⟩ : ∃ y : Int32, y = x4 + (1 : Int32) := ⟨_, rfl⟩
      have hf := nx_at ev7 hf
      refine lv_iinc (v := v7) (lv' := [(4, .int v7), (0, .ref (ad 0)), (2, .int x2), (3, .int x3)]) hx hb dX8_order_85 hl (k := 3) rfl (by rw [ev7]; rfl) (by decide) rfl (fun ls hl => ?_)
      refine lv_goto (tgt := 65) hx hb dX8_order_88 (by decide) ?_
      exact ih _ _ _ _ _ _ _ hf hW (lv_sub hl [1, 2, 3, 0] rfl)
def fX8_order_31 (N : Nat) : Nat → Int32 → Int32 → Int32 → Int32 → St → Option (Int32 × St)
  | 0, _, _, _, _, _ => none
  | n + 1, x1, x2, x3, x4, σ => if x3 ≤ x4 then bd (fX8_tells N x1 σ) (fun r2 s3 => (fX8_order_65 N N x2 x3 (0 : Int32) s3)) else gd (ib x4 2400) (gd (ib x4 2400) (nx (sI σ 30 x4.toNatClampNeg (σ.1 5 x4.toNatClampNeg).toInt8.toInt32) (fun s7 => nx (x4 + (1 : Int32)) (fun v8 => ((fX8_order_31 N n) x1 x2 x3 v8 s7)))))
set_option maxHeartbeats 4000000 in
set_option maxRecDepth 100000 in
theorem wX8_order_31 (hC : Cx RX8 cX8_order 5 (some .int) D cA p s m args meth c) {N : Nat} {r : Int32} {σ' : St} : ∀ (n : Nat) (x1 : Int32) (x2 : Int32) (x3 : Int32) (x4 : Int32) (σ : St) (H : Heap) (locs : List Loc) (ls : Array Slot), fX8_order_31 N n x1 x2 x3 x4 σ = some (r, σ') → Wd kdM 31 D cA ad s σ H locs → lv_has ls 5 [(0, .ref (ad 0)), (1, .int x1), (2, .int x2), (3, .int x3), (4, .int x4)] → W p l e rmX8_order s m args below meth c H locs 0 0 (EndW kdM 31 D cA ad below args s (some (.int r)) σ') (F0 m 31 ls []) := by
  have hx := hC.1
  have hb := hC.2.1
  have hown := hC.2.2.2.1
  have hts := hC.2.2.2.2.1
  intro n
  induction n with
  | zero =>
    intro x1 x2 x3 x4 σ H locs ls hf
    rw [fX8_order_31] at hf
    cases hf
  | succ n ih =>
    intro x1 x2 x3 x4 σ H locs ls hf hW hl
    rw [fX8_order_31] at hf
    refine lv_iload hx hb dX8_order_31 (lv_at hl 4 rfl) ?_
    refine lv_iload_n hx hb dX8_order_33 rfl (lv_at hl 3 rfl) ?_
    refine lv_icmp_ge (tgt := 57) hx hb dX8_order_34 (by decide) (fun h1 => ?_) (fun h1 => ?_)
    · have hf := it_t h1 hf
      refine lv_aload_n hx hb dX8_order_57 rfl (lv_at hl 0 rfl) ?_
      refine lv_iload_n hx hb dX8_order_58 rfl (lv_at hl 1 rfl) ?_
      obtain ⟨r2, s3, c4, hf⟩ := bd_some hf
      refine Wd.callV (n := 1) (As := [.int x1]) (rest := []) (rv := none) hC hW 0 (kX8_tells c4) (by decide) rfl rfl q927 q929 qs65 q8 q930 ⟨rfl, rfl⟩ ⟨by decide +kernel, by decide +kernel, by decide +kernel⟩ ⟨Nat.le_of_ble_eq_true rfl, Nat.le_of_ble_eq_true rfl⟩ ⟨Nat.zero_le _, Nat.zero_le _⟩ rfl hl.1 rfl (st2 := []) rfl (Nat.le_of_ble_eq_true rfl) dX8_order_59 (fun H locs hW => ?_)
      refine lv_iconst (v := 0) hx hb dX8_order_62 (by decide) ?_
      refine lv_istore (lv' := [(4, .int (0 : Int32)), (0, .ref (ad 0)), (1, .int x1), (2, .int x2), (3, .int x3)]) hx hb dX8_order_63 hl (by decide) rfl (fun ls hl => ?_)
      exact wX8_order_65 hC N _ _ _ _ _ _ _ hf hW (lv_sub hl [1, 3, 4, 0] rfl)
    · have hf := it_f h1 hf
      refine lv_aload_n hx hb dX8_order_37 rfl (lv_at hl 0 rfl) ?_
      refine gfX8_104 hC hW 0 (by decide) rfl (q := 30) rfl dX8_order_38 ?_
      refine lv_iload hx hb dX8_order_41 (lv_at hl 4 rfl) ?_
      refine lv_aload_n hx hb dX8_order_43 rfl (lv_at hl 0 rfl) ?_
      refine gfX8_23 hC hW 0 (by decide) rfl (q := 5) rfl dX8_order_44 ?_
      refine lv_iload hx hb dX8_order_47 (lv_at hl 4 rfl) ?_
      obtain ⟨h5, hf⟩ := gd_some hf
      refine Wd.bald hC hW 5 (by decide) rfl h5 dX8_order_49 ?_
      obtain ⟨h6, hf⟩ := gd_some hf
      refine Wd.bast hC hW 30 (by decide) rfl h6 dX8_order_50 (fun H locs hW => ?_)
      obtain ⟨s7, es7, hf⟩ := nx_ex hf
      rw [← es7] at hW
      obtain ⟨v8, ev8⟩ : ∃ y : Int32, y = x4 + (1 : Int32) := ⟨_, rfl⟩
      have hf := nx_at ev8 hf
      refine lv_iinc (v := v8) (lv' := [(4, .int v8), (0, .ref (ad 0)), (1, .int x1), (2, .int x2), (3, .int x3)]) hx hb dX8_order_51 hl (k := 4) rfl (by rw [ev8]; rfl) (by decide) rfl (fun ls hl => ?_)
      refine lv_goto (tgt := 31) hx hb dX8_order_54 (by decide) ?_
      exact ih _ _ _ _ _ _ _ _ hf hW (lv_sub hl [1, 2, 3, 4, 0] rfl)
def fX8_order (N : Nat) (x1 : Int32) (x2 : Int32) (σ : St) : Option (Int32 × St) := bd (fX8_isTree N x1 σ) (fun r1 s2 => if r1 = 0 then some ((-1 : Int32), s2) else gd (ib x1 4) (bd (fX8_isIn N x2 (s2.1 9 x1.toNatClampNeg) s2) (fun r6 s7 => if r6 = 0 then some ((-1 : Int32), s7) else nx (s7.1 0 7) (fun v10 => (fX8_order_31 N N x1 x2 v10 (0 : Int32) s7)))))
set_option maxHeartbeats 4000000 in
set_option maxRecDepth 100000 in
theorem kX8_order {l : Launch} {D : va_G} {cA : Nat → ClassId} {ad : Nat → Nat} {N : Nat} {x1 : Int32} {x2 : Int32} {σ : St} {r : Int32} {σ' : St} (hf : fX8_order N x1 x2 σ = some (r, σ')) : MW kdM 31 l D cA ad ⟨RX8, "order", "(II)I"⟩ cX8_order 5 (some .int) rmX8_order [.ref (ad 0), .int x1, .int x2] σ (some (.int r)) σ' := by
  refine MW.of (by decide) (Nat.le_of_ble_eq_true rfl) ?_
  intro p e s m args below meth c ls hC hW hl
  have hx := hC.1
  have hb := hC.2.1
  have hown := hC.2.2.2.1
  have hts := hC.2.2.2.2.1
  have hl : lv_has ls 5 [(0, .ref (ad 0)), (1, .int x1), (2, .int x2)] := hl
  unfold fX8_order at hf
  refine lv_aload_n hx hb dX8_order_0 rfl (lv_at hl 0 rfl) ?_
  refine lv_iload_n hx hb dX8_order_1 rfl (lv_at hl 1 rfl) ?_
  obtain ⟨r1, s2, c3, hf⟩ := bd_some hf
  refine Wd.callV (n := 1) (As := [.int x1]) (rest := []) (rv := some (.int r1)) hC hW 0 (kX8_isTree c3) (by decide) rfl rfl q895 q897 qs62 q8 q898 ⟨rfl, rfl⟩ ⟨by decide +kernel, by decide +kernel, by decide +kernel⟩ ⟨Nat.le_of_ble_eq_true rfl, Nat.le_of_ble_eq_true rfl⟩ ⟨Nat.zero_le _, Nat.zero_le _⟩ rfl hl.1 rfl (st2 := [.int r1]) rfl (Nat.le_of_ble_eq_true rfl) dX8_order_2 (fun H locs hW => ?_)
  refine lv_if_eq (tgt := 21) hx hb dX8_order_5 (by decide) (fun h4 => ?_) (fun h4 => ?_)
  · have hf := it_t h4 hf
    refine lv_iconst (v := (-1)) hx hb dX8_order_21 (by decide) ?_
    obtain ⟨rfl, rfl⟩ := sp hf
    exact Wd.iret hC hW dX8_order_22
  · have hf := it_f h4 hf
    refine lv_iload_n hx hb dX8_order_8 rfl (lv_at hl 2 rfl) ?_
    refine lv_aload_n hx hb dX8_order_9 rfl (lv_at hl 0 rfl) ?_
    refine gfX8_40 hC hW 0 (by decide) rfl (q := 9) rfl dX8_order_10 ?_
    refine lv_iload_n hx hb dX8_order_13 rfl (lv_at hl 1 rfl) ?_
    obtain ⟨h5, hf⟩ := gd_some hf
    refine Wd.iald hC hW 9 (by decide) rfl h5 dX8_order_14 ?_
    obtain ⟨r6, s7, c8, hf⟩ := bd_some hf
    refine Wd.callS (n := 2) (As := [.int x2, .int (s2.1 9 x1.toNatClampNeg)]) (rest := []) (rv := some (.int r6)) hC hW (kX8_isIn c8) q762 q763 q8 q764 ⟨rfl, rfl⟩ ⟨by decide +kernel, by decide +kernel, by decide +kernel⟩ ⟨Nat.le_of_ble_eq_true rfl, Nat.le_of_ble_eq_true rfl⟩ ⟨Nat.zero_le _, Nat.zero_le _⟩ rfl hl.1 rfl (st2 := [.int r6]) rfl (Nat.le_of_ble_eq_true rfl) dX8_order_15 (fun H locs hW => ?_)
    refine lv_if_ne (tgt := 23) hx hb dX8_order_18 (by decide) (fun h9 => ?_) (fun h9 => ?_)
    · have hf := it_f h9 hf
      refine lv_aload_n hx hb dX8_order_23 rfl (lv_at hl 0 rfl) ?_
      refine gfX8_126 hC hW 0 (by decide) rfl rfl dX8_order_24 ?_
      refine lv_topi (fun v10 ev10 => ?_)
      have hf := nx_at ev10 hf
      refine lv_istore_n (lv' := [(3, .int v10), (0, .ref (ad 0)), (1, .int x1), (2, .int x2)]) hx hb dX8_order_27 rfl hl (by decide) rfl (fun ls hl => ?_)
      refine lv_iconst (v := 0) hx hb dX8_order_28 (by decide) ?_
      refine lv_istore (lv' := [(4, .int (0 : Int32)), (3, .int v10), (0, .ref (ad 0)), (1, .int x1), (2, .int x2)]) hx hb dX8_order_29 hl (by decide) rfl (fun ls hl => ?_)
      exact wX8_order_31 hC N _ _ _ _ _ _ _ _ hf hW (lv_sub hl [2, 3, 4, 1, 0] rfl)
    · have hf := it_t h9 hf
      refine lv_iconst (v := (-1)) hx hb dX8_order_21 (by decide) ?_
      obtain ⟨rfl, rfl⟩ := sp hf
      exact Wd.iret hC hW dX8_order_22
abbrev rmX8_labelled : Room := { frames := 1, cells := 0, slots := 0, locals := 21 }
def fX8_labelled_162 (N : Nat) (K13 : Int32 → Int32 → Int32 → Int32 → Int32 → St → Option (Int32 × St)) (x1 : Int32) (x2 : Int32) (x3 : Int32) (x4 : Int32) (x5 : Int32) (σ : St) : Option (Int32 × St) := nx (x5 + (1 : Int32)) (fun v1 => (K13 x1 x2 x3 x4 v1 σ))
set_option maxHeartbeats 4000000 in
set_option maxRecDepth 100000 in
theorem wX8_labelled_162 (hC : Cx RX8 cX8_labelled 8 (some .int) D cA p s m args meth c) {N : Nat} {K13 : Int32 → Int32 → Int32 → Int32 → Int32 → St → Option (Int32 × St)} {x1 : Int32} {x2 : Int32} {x3 : Int32} {x4 : Int32} {x5 : Int32} {σ : St} {r : Int32} {σ' : St} (hK13 : ∀ (x1 : Int32) (x2 : Int32) (x3 : Int32) (x4 : Int32) (x5 : Int32) (σ : St) (H : Heap) (locs : List Loc) (ls : Array Slot), K13 x1 x2 x3 x4 x5 σ = some (r, σ') → Wd kdM 31 D cA ad s σ H locs → lv_has ls 8 [(0, .ref (ad 0)), (1, .int x1), (2, .int x2), (3, .int x3), (4, .int x4), (5, .int x5)] → W p l e rmX8_labelled s m args below meth c H locs 0 0 (EndW kdM 31 D cA ad below args s (some (.int r)) σ') (F0 m 13 ls [])) {H : Heap} {locs : List Loc} {ls : Array Slot} (hf : fX8_labelled_162 N K13 x1 x2 x3 x4 x5 σ = some (r, σ')) (hW : Wd kdM 31 D cA ad s σ H locs) (hl : lv_has ls 8 [(0, .ref (ad 0)), (1, .int x1), (2, .int x2), (3, .int x3), (4, .int x4), (5, .int x5)]) : W p l e rmX8_labelled s m args below meth c H locs 0 0 (EndW kdM 31 D cA ad below args s (some (.int r)) σ') (F0 m 162 ls []) := by
  have hx := hC.1
  have hb := hC.2.1
  have hown := hC.2.2.2.1
  have hts := hC.2.2.2.2.1
  unfold fX8_labelled_162 at hf
  obtain ⟨v1, ev1⟩ : ∃ y : Int32, y = x5 + (1 : Int32) := ⟨_, rfl⟩
  have hf := nx_at ev1 hf
  refine lv_iinc (v := v1) (lv' := [(5, .int v1), (0, .ref (ad 0)), (1, .int x1), (2, .int x2), (3, .int x3), (4, .int x4)]) hx hb dX8_labelled_162 hl (k := 5) rfl (by rw [ev1]; rfl) (by decide) rfl (fun ls hl => ?_)
  refine lv_goto (tgt := 13) hx hb dX8_labelled_165 (by decide) ?_
  exact hK13 _ _ _ _ _ _ _ _ _ hf hW (lv_sub hl [1, 2, 3, 4, 5, 0] rfl)
def fX8_labelled_95 (N : Nat) (K13 : Int32 → Int32 → Int32 → Int32 → Int32 → St → Option (Int32 × St)) : Nat → Int32 → Int32 → Int32 → Int32 → Int32 → Int32 → Int32 → St → Option (Int32 × St)
  | 0, _, _, _, _, _, _, _, _ => none
  | n + 1, x1, x2, x3, x4, x5, x6, x7, σ => if ((x6 >>> (x7 &&& 31)) &&& (1 : Int32)) = 0 then nx (x7 + (1 : Int32)) (fun v9 => ((fX8_labelled_95 N K13 n) x1 x2 x3 x4 x5 x6 v9 σ)) else if x7 = x5 then gd (ib (((20 : Int32) * x1) + x5) 80) (nx (sI σ 18 (((20 : Int32) * x1) + x5).toNatClampNeg x4) (fun s7 => nx (x4 + (1 : Int32)) (fun v8 => (fX8_labelled_162 N K13 x1 x2 x3 v8 x5 s7)))) else gd (ib (((20 : Int32) * x1) + x7) 80) (gd (ib (((20 : Int32) * x1) + x5) 80) (nx (sI σ 18 (((20 : Int32) * x1) + x5).toNatClampNeg (σ.1 18 (((20 : Int32) * x1) + x7).toNatClampNeg)) (fun s5 => (fX8_labelled_162 N K13 x1 x2 x3 x4 x5 s5))))
set_option maxHeartbeats 4000000 in
set_option maxRecDepth 100000 in
theorem wX8_labelled_95 (hC : Cx RX8 cX8_labelled 8 (some .int) D cA p s m args meth c) {N : Nat} {K13 : Int32 → Int32 → Int32 → Int32 → Int32 → St → Option (Int32 × St)} {r : Int32} {σ' : St} (hK13 : ∀ (x1 : Int32) (x2 : Int32) (x3 : Int32) (x4 : Int32) (x5 : Int32) (σ : St) (H : Heap) (locs : List Loc) (ls : Array Slot), K13 x1 x2 x3 x4 x5 σ = some (r, σ') → Wd kdM 31 D cA ad s σ H locs → lv_has ls 8 [(0, .ref (ad 0)), (1, .int x1), (2, .int x2), (3, .int x3), (4, .int x4), (5, .int x5)] → W p l e rmX8_labelled s m args below meth c H locs 0 0 (EndW kdM 31 D cA ad below args s (some (.int r)) σ') (F0 m 13 ls [])) : ∀ (n : Nat) (x1 : Int32) (x2 : Int32) (x3 : Int32) (x4 : Int32) (x5 : Int32) (x6 : Int32) (x7 : Int32) (σ : St) (H : Heap) (locs : List Loc) (ls : Array Slot), fX8_labelled_95 N K13 n x1 x2 x3 x4 x5 x6 x7 σ = some (r, σ') → Wd kdM 31 D cA ad s σ H locs → lv_has ls 8 [(0, .ref (ad 0)), (1, .int x1), (2, .int x2), (3, .int x3), (4, .int x4), (5, .int x5), (6, .int x6), (7, .int x7)] → W p l e rmX8_labelled s m args below meth c H locs 0 0 (EndW kdM 31 D cA ad below args s (some (.int r)) σ') (F0 m 95 ls []) := by
  have hx := hC.1
  have hb := hC.2.1
  have hown := hC.2.2.2.1
  have hts := hC.2.2.2.2.1
  intro n
  induction n with
  | zero =>
    intro x1 x2 x3 x4 x5 x6 x7 σ H locs ls hf
    rw [fX8_labelled_95] at hf
    cases hf
  | succ n ih =>
    intro x1 x2 x3 x4 x5 x6 x7 σ H locs ls hf hW hl
    rw [fX8_labelled_95] at hf
    refine lv_iload hx hb dX8_labelled_95 (lv_at hl 6 rfl) ?_
    refine lv_iload hx hb dX8_labelled_97 (lv_at hl 7 rfl) ?_
    refine lv_ishr hx hb dX8_labelled_99 ?_
    refine lv_iconst (v := 1) hx hb dX8_labelled_100 (by decide) ?_
    refine lv_iand hx hb dX8_labelled_101 ?_
    refine lv_if_ne (tgt := 111) hx hb dX8_labelled_102 (by decide) (fun h1 => ?_) (fun h1 => ?_)
    · have hf := it_f h1 hf
      refine lv_iload hx hb dX8_labelled_111 (lv_at hl 7 rfl) ?_
      refine lv_iload hx hb dX8_labelled_113 (lv_at hl 5 rfl) ?_
      refine lv_icmp_ne (tgt := 138) hx hb dX8_labelled_115 (by decide) (fun h2 => ?_) (fun h2 => ?_)
      · have hf := it_f h2 hf
        refine lv_aload_n hx hb dX8_labelled_138 rfl (lv_at hl 0 rfl) ?_
        refine gfX8_68 hC hW 0 (by decide) rfl (q := 18) rfl dX8_labelled_139 ?_
        refine lv_bipush (v := 20) hx hb dX8_labelled_142 (by decide) ?_
        refine lv_iload_n hx hb dX8_labelled_144 rfl (lv_at hl 1 rfl) ?_
        refine lv_imul hx hb dX8_labelled_145 ?_
        refine lv_iload hx hb dX8_labelled_146 (lv_at hl 5 rfl) ?_
        refine lv_iadd hx hb dX8_labelled_148 ?_
        refine lv_aload_n hx hb dX8_labelled_149 rfl (lv_at hl 0 rfl) ?_
        refine gfX8_68 hC hW 0 (by decide) rfl (q := 18) rfl dX8_labelled_150 ?_
        refine lv_bipush (v := 20) hx hb dX8_labelled_153 (by decide) ?_
        refine lv_iload_n hx hb dX8_labelled_155 rfl (lv_at hl 1 rfl) ?_
        refine lv_imul hx hb dX8_labelled_156 ?_
        refine lv_iload hx hb dX8_labelled_157 (lv_at hl 7 rfl) ?_
        refine lv_iadd hx hb dX8_labelled_159 ?_
        obtain ⟨h3, hf⟩ := gd_some hf
        refine Wd.iald hC hW 18 (by decide) rfl h3 dX8_labelled_160 ?_
        obtain ⟨h4, hf⟩ := gd_some hf
        refine Wd.iast hC hW 18 (by decide) rfl h4 dX8_labelled_161 (fun H locs hW => ?_)
        obtain ⟨s5, es5, hf⟩ := nx_ex hf
        rw [← es5] at hW
        exact wX8_labelled_162 hC hK13 hf hW (lv_sub hl [0, 1, 2, 3, 4, 5] rfl)
      · have hf := it_t h2 hf
        refine lv_aload_n hx hb dX8_labelled_118 rfl (lv_at hl 0 rfl) ?_
        refine gfX8_68 hC hW 0 (by decide) rfl (q := 18) rfl dX8_labelled_119 ?_
        refine lv_bipush (v := 20) hx hb dX8_labelled_122 (by decide) ?_
        refine lv_iload_n hx hb dX8_labelled_124 rfl (lv_at hl 1 rfl) ?_
        refine lv_imul hx hb dX8_labelled_125 ?_
        refine lv_iload hx hb dX8_labelled_126 (lv_at hl 5 rfl) ?_
        refine lv_iadd hx hb dX8_labelled_128 ?_
        refine lv_iload hx hb dX8_labelled_129 (lv_at hl 4 rfl) ?_
        obtain ⟨h6, hf⟩ := gd_some hf
        refine Wd.iast hC hW 18 (by decide) rfl h6 dX8_labelled_131 (fun H locs hW => ?_)
        obtain ⟨s7, es7, hf⟩ := nx_ex hf
        rw [← es7] at hW
        obtain ⟨v8, ev8⟩ : ∃ y : Int32, y = x4 + (1 : Int32) := ⟨_, rfl⟩
        have hf := nx_at ev8 hf
        refine lv_iinc (v := v8) (lv' := [(4, .int v8), (0, .ref (ad 0)), (1, .int x1), (2, .int x2), (3, .int x3), (5, .int x5), (6, .int x6), (7, .int x7)]) hx hb dX8_labelled_132 hl (k := 4) rfl (by rw [ev8]; rfl) (by decide) rfl (fun ls hl => ?_)
        refine lv_goto (tgt := 162) hx hb dX8_labelled_135 (by decide) ?_
        exact wX8_labelled_162 hC hK13 hf hW (lv_sub hl [1, 2, 3, 4, 0, 5] rfl)
    · have hf := it_t h1 hf
      obtain ⟨v9, ev9⟩ : ∃ y : Int32, y = x7 + (1 : Int32) := ⟨_, rfl⟩
      have hf := nx_at ev9 hf
      refine lv_iinc (v := v9) (lv' := [(7, .int v9), (0, .ref (ad 0)), (1, .int x1), (2, .int x2), (3, .int x3), (4, .int x4), (5, .int x5), (6, .int x6)]) hx hb dX8_labelled_105 hl (k := 7) rfl (by rw [ev9]; rfl) (by decide) rfl (fun ls hl => ?_)
      refine lv_goto (tgt := 95) hx hb dX8_labelled_108 (by decide) ?_
      exact ih _ _ _ _ _ _ _ _ _ _ _ hf hW (lv_sub hl [1, 2, 3, 4, 5, 6, 7, 0] rfl)
def fX8_labelled_86 (N : Nat) (K13 : Int32 → Int32 → Int32 → Int32 → Int32 → St → Option (Int32 × St)) (K28 : Int32 → Int32 → Int32 → Int32 → Int32 → Int32 → Int32 → St → Option (Int32 × St)) (x1 : Int32) (x2 : Int32) (x3 : Int32) (x4 : Int32) (x5 : Int32) (x6 : Int32) (x7 : Int32) (σ : St) : Option (Int32 × St) := nx (x7 + (1 : Int32)) (fun v1 => (K28 x1 x2 x3 x4 x5 x6 v1 σ))
set_option maxHeartbeats 4000000 in
set_option maxRecDepth 100000 in
theorem wX8_labelled_86 (hC : Cx RX8 cX8_labelled 8 (some .int) D cA p s m args meth c) {N : Nat} {K13 : Int32 → Int32 → Int32 → Int32 → Int32 → St → Option (Int32 × St)} {K28 : Int32 → Int32 → Int32 → Int32 → Int32 → Int32 → Int32 → St → Option (Int32 × St)} {x1 : Int32} {x2 : Int32} {x3 : Int32} {x4 : Int32} {x5 : Int32} {x6 : Int32} {x7 : Int32} {σ : St} {r : Int32} {σ' : St} (hK13 : ∀ (x1 : Int32) (x2 : Int32) (x3 : Int32) (x4 : Int32) (x5 : Int32) (σ : St) (H : Heap) (locs : List Loc) (ls : Array Slot), K13 x1 x2 x3 x4 x5 σ = some (r, σ') → Wd kdM 31 D cA ad s σ H locs → lv_has ls 8 [(0, .ref (ad 0)), (1, .int x1), (2, .int x2), (3, .int x3), (4, .int x4), (5, .int x5)] → W p l e rmX8_labelled s m args below meth c H locs 0 0 (EndW kdM 31 D cA ad below args s (some (.int r)) σ') (F0 m 13 ls [])) (hK28 : ∀ (x1 : Int32) (x2 : Int32) (x3 : Int32) (x4 : Int32) (x5 : Int32) (x6 : Int32) (x7 : Int32) (σ : St) (H : Heap) (locs : List Loc) (ls : Array Slot), K28 x1 x2 x3 x4 x5 x6 x7 σ = some (r, σ') → Wd kdM 31 D cA ad s σ H locs → lv_has ls 8 [(0, .ref (ad 0)), (1, .int x1), (2, .int x2), (3, .int x3), (4, .int x4), (5, .int x5), (6, .int x6), (7, .int x7)] → W p l e rmX8_labelled s m args below meth c H locs 0 0 (EndW kdM 31 D cA ad below args s (some (.int r)) σ') (F0 m 28 ls [])) {H : Heap} {locs : List Loc} {ls : Array Slot} (hf : fX8_labelled_86 N K13 K28 x1 x2 x3 x4 x5 x6 x7 σ = some (r, σ')) (hW : Wd kdM 31 D cA ad s σ H locs) (hl : lv_has ls 8 [(0, .ref (ad 0)), (1, .int x1), (2, .int x2), (3, .int x3), (4, .int x4), (5, .int x5), (6, .int x6), (7, .int x7)]) : W p l e rmX8_labelled s m args below meth c H locs 0 0 (EndW kdM 31 D cA ad below args s (some (.int r)) σ') (F0 m 86 ls []) := by
  have hx := hC.1
  have hb := hC.2.1
  have hown := hC.2.2.2.1
  have hts := hC.2.2.2.2.1
  unfold fX8_labelled_86 at hf
  obtain ⟨v1, ev1⟩ : ∃ y : Int32, y = x7 + (1 : Int32) := ⟨_, rfl⟩
  have hf := nx_at ev1 hf
  refine lv_iinc (v := v1) (lv' := [(7, .int v1), (0, .ref (ad 0)), (1, .int x1), (2, .int x2), (3, .int x3), (4, .int x4), (5, .int x5), (6, .int x6)]) hx hb dX8_labelled_86 hl (k := 7) rfl (by rw [ev1]; rfl) (by decide) rfl (fun ls hl => ?_)
  refine lv_goto (tgt := 28) hx hb dX8_labelled_89 (by decide) ?_
  exact hK28 _ _ _ _ _ _ _ _ _ _ _ hf hW (lv_sub hl [1, 2, 3, 4, 5, 6, 7, 0] rfl)
def fX8_labelled_28 (N : Nat) (K13 : Int32 → Int32 → Int32 → Int32 → Int32 → St → Option (Int32 × St)) : Nat → Int32 → Int32 → Int32 → Int32 → Int32 → Int32 → Int32 → St → Option (Int32 × St)
  | 0, _, _, _, _, _, _, _, _ => none
  | n + 1, x1, x2, x3, x4, x5, x6, x7, σ => bd (fX8_steps N x1 σ) (fun r1 s2 => if r1 ≤ x7 then (fX8_labelled_95 N K13 N x1 x2 x3 x4 x5 x6 (0 : Int32) s2) else if ((x2 >>> (x7 &&& 31)) &&& (1 : Int32)) = (1 : Int32) then gd (ib (((19 : Int32) * x1) + x7) 76) (if (((s2.1 15 (((19 : Int32) * x1) + x7).toNatClampNeg) >>> (x5 &&& 31)) &&& (1 : Int32)) = (1 : Int32) then gd (ib (((19 : Int32) * x1) + x7) 76) (nx (x6 ||| (s2.1 15 (((19 : Int32) * x1) + x7).toNatClampNeg)) (fun v9 => (fX8_labelled_86 N K13 (fX8_labelled_28 N K13 n) x1 x2 x3 x4 x5 v9 x7 s2))) else (fX8_labelled_86 N K13 (fX8_labelled_28 N K13 n) x1 x2 x3 x4 x5 x6 x7 s2)) else (fX8_labelled_86 N K13 (fX8_labelled_28 N K13 n) x1 x2 x3 x4 x5 x6 x7 s2))
set_option maxHeartbeats 4000000 in
set_option maxRecDepth 100000 in
theorem wX8_labelled_28 (hC : Cx RX8 cX8_labelled 8 (some .int) D cA p s m args meth c) {N : Nat} {K13 : Int32 → Int32 → Int32 → Int32 → Int32 → St → Option (Int32 × St)} {r : Int32} {σ' : St} (hK13 : ∀ (x1 : Int32) (x2 : Int32) (x3 : Int32) (x4 : Int32) (x5 : Int32) (σ : St) (H : Heap) (locs : List Loc) (ls : Array Slot), K13 x1 x2 x3 x4 x5 σ = some (r, σ') → Wd kdM 31 D cA ad s σ H locs → lv_has ls 8 [(0, .ref (ad 0)), (1, .int x1), (2, .int x2), (3, .int x3), (4, .int x4), (5, .int x5)] → W p l e rmX8_labelled s m args below meth c H locs 0 0 (EndW kdM 31 D cA ad below args s (some (.int r)) σ') (F0 m 13 ls [])) : ∀ (n : Nat) (x1 : Int32) (x2 : Int32) (x3 : Int32) (x4 : Int32) (x5 : Int32) (x6 : Int32) (x7 : Int32) (σ : St) (H : Heap) (locs : List Loc) (ls : Array Slot), fX8_labelled_28 N K13 n x1 x2 x3 x4 x5 x6 x7 σ = some (r, σ') → Wd kdM 31 D cA ad s σ H locs → lv_has ls 8 [(0, .ref (ad 0)), (1, .int x1), (2, .int x2), (3, .int x3), (4, .int x4), (5, .int x5), (6, .int x6), (7, .int x7)] → W p l e rmX8_labelled s m args below meth c H locs 0 0 (EndW kdM 31 D cA ad below args s (some (.int r)) σ') (F0 m 28 ls []) := by
  have hx := hC.1
  have hb := hC.2.1
  have hown := hC.2.2.2.1
  have hts := hC.2.2.2.2.1
  intro n
  induction n with
  | zero =>
    intro x1 x2 x3 x4 x5 x6 x7 σ H locs ls hf
    rw [fX8_labelled_28] at hf
    cases hf
  | succ n ih =>
    intro x1 x2 x3 x4 x5 x6 x7 σ H locs ls hf hW hl
    rw [fX8_labelled_28] at hf
    refine lv_iload hx hb dX8_labelled_28 (lv_at hl 7 rfl) ?_
    refine lv_aload_n hx hb dX8_labelled_30 rfl (lv_at hl 0 rfl) ?_
    refine lv_iload_n hx hb dX8_labelled_31 rfl (lv_at hl 1 rfl) ?_
    obtain ⟨r1, s2, c3, hf⟩ := bd_some hf
    refine Wd.callV (n := 1) (As := [.int x1]) (rest := [.int x7]) (rv := some (.int r1)) hC hW 0 (kX8_steps c3) (by decide) rfl rfl q899 q901 qs63 q8 q902 ⟨rfl, rfl⟩ ⟨by decide +kernel, by decide +kernel, by decide +kernel⟩ ⟨Nat.le_of_ble_eq_true rfl, Nat.le_of_ble_eq_true rfl⟩ ⟨Nat.zero_le _, Nat.zero_le _⟩ rfl hl.1 rfl (st2 := [.int r1, .int x7]) rfl (Nat.le_of_ble_eq_true rfl) dX8_labelled_32 (fun H locs hW => ?_)
    refine lv_icmp_ge (tgt := 92) hx hb dX8_labelled_35 (by decide) (fun h4 => ?_) (fun h4 => ?_)
    · have hf := it_t h4 hf
      refine lv_iconst (v := 0) hx hb dX8_labelled_92 (by decide) ?_
      refine lv_istore (lv' := [(7, .int (0 : Int32)), (0, .ref (ad 0)), (1, .int x1), (2, .int x2), (3, .int x3), (4, .int x4), (5, .int x5), (6, .int x6)]) hx hb dX8_labelled_93 hl (by decide) rfl (fun ls hl => ?_)
      exact wX8_labelled_95 hC hK13 N _ _ _ _ _ _ _ _ _ _ _ hf hW (lv_sub hl [1, 2, 3, 4, 5, 6, 7, 0] rfl)
    · have hf := it_f h4 hf
      refine lv_iload_n hx hb dX8_labelled_38 rfl (lv_at hl 2 rfl) ?_
      refine lv_iload hx hb dX8_labelled_39 (lv_at hl 7 rfl) ?_
      refine lv_ishr hx hb dX8_labelled_41 ?_
      refine lv_iconst (v := 1) hx hb dX8_labelled_42 (by decide) ?_
      refine lv_iand hx hb dX8_labelled_43 ?_
      refine lv_iconst (v := 1) hx hb dX8_labelled_44 (by decide) ?_
      refine lv_icmp_ne (tgt := 86) hx hb dX8_labelled_45 (by decide) (fun h5 => ?_) (fun h5 => ?_)
      · have hf := it_f h5 hf
        exact wX8_labelled_86 hC hK13 ih hf hW (lv_sub hl [0, 1, 2, 3, 4, 5, 6, 7] rfl)
      · have hf := it_t h5 hf
        refine lv_aload_n hx hb dX8_labelled_48 rfl (lv_at hl 0 rfl) ?_
        refine gfX8_58 hC hW 0 (by decide) rfl (q := 15) rfl dX8_labelled_49 ?_
        refine lv_bipush (v := 19) hx hb dX8_labelled_52 (by decide) ?_
        refine lv_iload_n hx hb dX8_labelled_54 rfl (lv_at hl 1 rfl) ?_
        refine lv_imul hx hb dX8_labelled_55 ?_
        refine lv_iload hx hb dX8_labelled_56 (lv_at hl 7 rfl) ?_
        refine lv_iadd hx hb dX8_labelled_58 ?_
        obtain ⟨h6, hf⟩ := gd_some hf
        refine Wd.iald hC hW 15 (by decide) rfl h6 dX8_labelled_59 ?_
        refine lv_iload hx hb dX8_labelled_60 (lv_at hl 5 rfl) ?_
        refine lv_ishr hx hb dX8_labelled_62 ?_
        refine lv_iconst (v := 1) hx hb dX8_labelled_63 (by decide) ?_
        refine lv_iand hx hb dX8_labelled_64 ?_
        refine lv_iconst (v := 1) hx hb dX8_labelled_65 (by decide) ?_
        refine lv_icmp_ne (tgt := 86) hx hb dX8_labelled_66 (by decide) (fun h7 => ?_) (fun h7 => ?_)
        · have hf := it_f h7 hf
          exact wX8_labelled_86 hC hK13 ih hf hW (lv_sub hl [0, 1, 2, 3, 4, 5, 6, 7] rfl)
        · have hf := it_t h7 hf
          refine lv_iload hx hb dX8_labelled_69 (lv_at hl 6 rfl) ?_
          refine lv_aload_n hx hb dX8_labelled_71 rfl (lv_at hl 0 rfl) ?_
          refine gfX8_58 hC hW 0 (by decide) rfl (q := 15) rfl dX8_labelled_72 ?_
          refine lv_bipush (v := 19) hx hb dX8_labelled_75 (by decide) ?_
          refine lv_iload_n hx hb dX8_labelled_77 rfl (lv_at hl 1 rfl) ?_
          refine lv_imul hx hb dX8_labelled_78 ?_
          refine lv_iload hx hb dX8_labelled_79 (lv_at hl 7 rfl) ?_
          refine lv_iadd hx hb dX8_labelled_81 ?_
          obtain ⟨h8, hf⟩ := gd_some hf
          refine Wd.iald hC hW 15 (by decide) rfl h8 dX8_labelled_82 ?_
          refine lv_ior hx hb dX8_labelled_83 ?_
          refine lv_topi (fun v9 ev9 => ?_)
          have hf := nx_at ev9 hf
          refine lv_istore (lv' := [(6, .int v9), (0, .ref (ad 0)), (1, .int x1), (2, .int x2), (3, .int x3), (4, .int x4), (5, .int x5), (7, .int x7)]) hx hb dX8_labelled_84 hl (by decide) rfl (fun ls hl => ?_)
          exact wX8_labelled_86 hC hK13 ih hf hW (lv_sub hl [1, 2, 3, 4, 5, 6, 0, 7] rfl)
def fX8_labelled_13 (N : Nat) : Nat → Int32 → Int32 → Int32 → Int32 → Int32 → St → Option (Int32 × St)
  | 0, _, _, _, _, _, _ => none
  | n + 1, x1, x2, x3, x4, x5, σ => if x3 ≤ x5 then some (x4, σ) else nx ((1 : Int32) <<< (x5 &&& 31)) (fun v2 => (fX8_labelled_28 N (fX8_labelled_13 N n) N x1 x2 x3 x4 x5 v2 (0 : Int32) σ))
set_option maxHeartbeats 4000000 in
set_option maxRecDepth 100000 in
theorem wX8_labelled_13 (hC : Cx RX8 cX8_labelled 8 (some .int) D cA p s m args meth c) {N : Nat} {r : Int32} {σ' : St} : ∀ (n : Nat) (x1 : Int32) (x2 : Int32) (x3 : Int32) (x4 : Int32) (x5 : Int32) (σ : St) (H : Heap) (locs : List Loc) (ls : Array Slot), fX8_labelled_13 N n x1 x2 x3 x4 x5 σ = some (r, σ') → Wd kdM 31 D cA ad s σ H locs → lv_has ls 8 [(0, .ref (ad 0)), (1, .int x1), (2, .int x2), (3, .int x3), (4, .int x4), (5, .int x5)] → W p l e rmX8_labelled s m args below meth c H locs 0 0 (EndW kdM 31 D cA ad below args s (some (.int r)) σ') (F0 m 13 ls []) := by
  have hx := hC.1
  have hb := hC.2.1
  have hown := hC.2.2.2.1
  have hts := hC.2.2.2.2.1
  intro n
  induction n with
  | zero =>
    intro x1 x2 x3 x4 x5 σ H locs ls hf
    rw [fX8_labelled_13] at hf
    cases hf
  | succ n ih =>
    intro x1 x2 x3 x4 x5 σ H locs ls hf hW hl
    rw [fX8_labelled_13] at hf
    refine lv_iload hx hb dX8_labelled_13 (lv_at hl 5 rfl) ?_
    refine lv_iload_n hx hb dX8_labelled_15 rfl (lv_at hl 3 rfl) ?_
    refine lv_icmp_ge (tgt := 168) hx hb dX8_labelled_16 (by decide) (fun h1 => ?_) (fun h1 => ?_)
    · have hf := it_t h1 hf
      refine lv_iload hx hb dX8_labelled_168 (lv_at hl 4 rfl) ?_
      obtain ⟨rfl, rfl⟩ := sp hf
      exact Wd.iret hC hW dX8_labelled_170
    · have hf := it_f h1 hf
      refine lv_iconst (v := 1) hx hb dX8_labelled_19 (by decide) ?_
      refine lv_iload hx hb dX8_labelled_20 (lv_at hl 5 rfl) ?_
      refine lv_ishl hx hb dX8_labelled_22 ?_
      refine lv_topi (fun v2 ev2 => ?_)
      have hf := nx_at ev2 hf
      refine lv_istore (lv' := [(6, .int v2), (0, .ref (ad 0)), (1, .int x1), (2, .int x2), (3, .int x3), (4, .int x4), (5, .int x5)]) hx hb dX8_labelled_23 hl (by decide) rfl (fun ls hl => ?_)
      refine lv_iconst (v := 0) hx hb dX8_labelled_25 (by decide) ?_
      refine lv_istore (lv' := [(7, .int (0 : Int32)), (6, .int v2), (0, .ref (ad 0)), (1, .int x1), (2, .int x2), (3, .int x3), (4, .int x4), (5, .int x5)]) hx hb dX8_labelled_26 hl (by decide) rfl (fun ls hl => ?_)
      exact wX8_labelled_28 hC ih N _ _ _ _ _ _ _ _ _ _ _ hf hW (lv_sub hl [2, 3, 4, 5, 6, 7, 1, 0] rfl)
def fX8_labelled (N : Nat) (x1 : Int32) (x2 : Int32) (σ : St) : Option (Int32 × St) := gd (ib x1 4) (nx (σ.1 9 x1.toNatClampNeg) (fun v2 => (fX8_labelled_13 N N x1 x2 v2 (0 : Int32) (0 : Int32) σ)))
set_option maxHeartbeats 4000000 in
set_option maxRecDepth 100000 in
theorem kX8_labelled {l : Launch} {D : va_G} {cA : Nat → ClassId} {ad : Nat → Nat} {N : Nat} {x1 : Int32} {x2 : Int32} {σ : St} {r : Int32} {σ' : St} (hf : fX8_labelled N x1 x2 σ = some (r, σ')) : MW kdM 31 l D cA ad ⟨RX8, "labelled", "(II)I"⟩ cX8_labelled 8 (some .int) rmX8_labelled [.ref (ad 0), .int x1, .int x2] σ (some (.int r)) σ' := by
  refine MW.of (by decide) (Nat.le_of_ble_eq_true rfl) ?_
  intro p e s m args below meth c ls hC hW hl
  have hx := hC.1
  have hb := hC.2.1
  have hown := hC.2.2.2.1
  have hts := hC.2.2.2.2.1
  have hl : lv_has ls 8 [(0, .ref (ad 0)), (1, .int x1), (2, .int x2)] := hl
  unfold fX8_labelled at hf
  refine lv_aload_n hx hb dX8_labelled_0 rfl (lv_at hl 0 rfl) ?_
  refine gfX8_40 hC hW 0 (by decide) rfl (q := 9) rfl dX8_labelled_1 ?_
  refine lv_iload_n hx hb dX8_labelled_4 rfl (lv_at hl 1 rfl) ?_
  obtain ⟨h1, hf⟩ := gd_some hf
  refine Wd.iald hC hW 9 (by decide) rfl h1 dX8_labelled_5 ?_
  refine lv_topi (fun v2 ev2 => ?_)
  have hf := nx_at ev2 hf
  refine lv_istore_n (lv' := [(3, .int v2), (0, .ref (ad 0)), (1, .int x1), (2, .int x2)]) hx hb dX8_labelled_6 rfl hl (by decide) rfl (fun ls hl => ?_)
  refine lv_iconst (v := 0) hx hb dX8_labelled_7 (by decide) ?_
  refine lv_istore (lv' := [(4, .int (0 : Int32)), (3, .int v2), (0, .ref (ad 0)), (1, .int x1), (2, .int x2)]) hx hb dX8_labelled_8 hl (by decide) rfl (fun ls hl => ?_)
  refine lv_iconst (v := 0) hx hb dX8_labelled_10 (by decide) ?_
  refine lv_istore (lv' := [(5, .int (0 : Int32)), (4, .int (0 : Int32)), (3, .int v2), (0, .ref (ad 0)), (1, .int x1), (2, .int x2)]) hx hb dX8_labelled_11 hl (by decide) rfl (fun ls hl => ?_)
  exact wX8_labelled_13 hC N _ _ _ _ _ _ _ _ _ hf hW (lv_sub hl [3, 4, 5, 2, 1, 0] rfl)
abbrev rmX8_cut : Room := { frames := 2, cells := 0, slots := 0, locals := 48 }
def fX8_cut_40 (N : Nat) (x1 : Int32) (x2 : Int32) (x3 : Int32) (σ : St) : Option (Int32 × St) := if x3 = 0 then some ((0 : Int32), σ) else bd (fX8_labelled N x1 (((1 : Int32) <<< ((x3 - x2) &&& 31)) - (1 : Int32)) σ) (fun r2 s3 => some (r2, s3))
set_option maxHeartbeats 4000000 in
set_option maxRecDepth 100000 in
theorem wX8_cut_40 (hC : Cx RX8 cX8_cut 4 (some .int) D cA p s m args meth c) {N : Nat} {x1 : Int32} {x2 : Int32} {x3 : Int32} {σ : St} {r : Int32} {σ' : St} {H : Heap} {locs : List Loc} {ls : Array Slot} (hf : fX8_cut_40 N x1 x2 x3 σ = some (r, σ')) (hW : Wd kdM 31 D cA ad s σ H locs) (hl : lv_has ls 4 [(0, .ref (ad 0)), (1, .int x1), (2, .int x2), (3, .int x3)]) : W p l e rmX8_cut s m args below meth c H locs 0 0 (EndW kdM 31 D cA ad below args s (some (.int r)) σ') (F0 m 40 ls []) := by
  have hx := hC.1
  have hb := hC.2.1
  have hown := hC.2.2.2.1
  have hts := hC.2.2.2.2.1
  unfold fX8_cut_40 at hf
  refine lv_iload_n hx hb dX8_cut_40 rfl (lv_at hl 3 rfl) ?_
  refine lv_if_ne (tgt := 46) hx hb dX8_cut_41 (by decide) (fun h1 => ?_) (fun h1 => ?_)
  · have hf := it_f h1 hf
    refine lv_aload_n hx hb dX8_cut_46 rfl (lv_at hl 0 rfl) ?_
    refine lv_iload_n hx hb dX8_cut_47 rfl (lv_at hl 1 rfl) ?_
    refine lv_iconst (v := 1) hx hb dX8_cut_48 (by decide) ?_
    refine lv_iload_n hx hb dX8_cut_49 rfl (lv_at hl 3 rfl) ?_
    refine lv_iload_n hx hb dX8_cut_50 rfl (lv_at hl 2 rfl) ?_
    refine lv_isub hx hb dX8_cut_51 ?_
    refine lv_ishl hx hb dX8_cut_52 ?_
    refine lv_iconst (v := 1) hx hb dX8_cut_53 (by decide) ?_
    refine lv_isub hx hb dX8_cut_54 ?_
    obtain ⟨r2, s3, c4, hf⟩ := bd_some hf
    refine Wd.callV (n := 2) (As := [.int x1, .int (((1 : Int32) <<< ((x3 - x2) &&& 31)) - (1 : Int32))]) (rest := []) (rv := some (.int r2)) hC hW 0 (kX8_labelled c4) (by decide) rfl rfl q943 q945 qs67 q8 q946 ⟨rfl, rfl⟩ ⟨by decide +kernel, by decide +kernel, by decide +kernel⟩ ⟨Nat.le_of_ble_eq_true rfl, Nat.le_of_ble_eq_true rfl⟩ ⟨Nat.zero_le _, Nat.zero_le _⟩ rfl hl.1 rfl (st2 := [.int r2]) rfl (Nat.le_of_ble_eq_true rfl) dX8_cut_55 (fun H locs hW => ?_)
    obtain ⟨rfl, rfl⟩ := sp hf
    exact Wd.iret hC hW dX8_cut_58
  · have hf := it_t h1 hf
    refine lv_iconst (v := 0) hx hb dX8_cut_44 (by decide) ?_
    obtain ⟨rfl, rfl⟩ := sp hf
    exact Wd.iret hC hW dX8_cut_45
def fX8_cut (N : Nat) (x1 : Int32) (x2 : Int32) (σ : St) : Option (Int32 × St) := bd (fX8_isTree N x1 σ) (fun r1 s2 => if r1 = 0 then some ((-1 : Int32), s2) else gd (ib x1 4) (nx (s2.1 9 x1.toNatClampNeg) (fun v6 => if v6 = 0 then if x2 = 0 then (fX8_cut_40 N x1 x2 v6 s2) else some ((-1 : Int32), s2) else if x2 < (1 : Int32) then some ((-1 : Int32), s2) else if x2 ≤ v6 then (fX8_cut_40 N x1 x2 v6 s2) else some ((-1 : Int32), s2))))
set_option maxHeartbeats 4000000 in
set_option maxRecDepth 100000 in
theorem kX8_cut {l : Launch} {D : va_G} {cA : Nat → ClassId} {ad : Nat → Nat} {N : Nat} {x1 : Int32} {x2 : Int32} {σ : St} {r : Int32} {σ' : St} (hf : fX8_cut N x1 x2 σ = some (r, σ')) : MW kdM 31 l D cA ad ⟨RX8, "cut", "(II)I"⟩ cX8_cut 4 (some .int) rmX8_cut [.ref (ad 0), .int x1, .int x2] σ (some (.int r)) σ' := by
  refine MW.of (by decide) (Nat.le_of_ble_eq_true rfl) ?_
  intro p e s m args below meth c ls hC hW hl
  have hx := hC.1
  have hb := hC.2.1
  have hown := hC.2.2.2.1
  have hts := hC.2.2.2.2.1
  have hl : lv_has ls 4 [(0, .ref (ad 0)), (1, .int x1), (2, .int x2)] := hl
  unfold fX8_cut at hf
  refine lv_aload_n hx hb dX8_cut_0 rfl (lv_at hl 0 rfl) ?_
  refine lv_iload_n hx hb dX8_cut_1 rfl (lv_at hl 1 rfl) ?_
  obtain ⟨r1, s2, c3, hf⟩ := bd_some hf
  refine Wd.callV (n := 1) (As := [.int x1]) (rest := []) (rv := some (.int r1)) hC hW 0 (kX8_isTree c3) (by decide) rfl rfl q895 q897 qs62 q8 q898 ⟨rfl, rfl⟩ ⟨by decide +kernel, by decide +kernel, by decide +kernel⟩ ⟨Nat.le_of_ble_eq_true rfl, Nat.le_of_ble_eq_true rfl⟩ ⟨Nat.zero_le _, Nat.zero_le _⟩ rfl hl.1 rfl (st2 := [.int r1]) rfl (Nat.le_of_ble_eq_true rfl) dX8_cut_2 (fun H locs hW => ?_)
  refine lv_if_ne (tgt := 10) hx hb dX8_cut_5 (by decide) (fun h4 => ?_) (fun h4 => ?_)
  · have hf := it_f h4 hf
    refine lv_aload_n hx hb dX8_cut_10 rfl (lv_at hl 0 rfl) ?_
    refine gfX8_40 hC hW 0 (by decide) rfl (q := 9) rfl dX8_cut_11 ?_
    refine lv_iload_n hx hb dX8_cut_14 rfl (lv_at hl 1 rfl) ?_
    obtain ⟨h5, hf⟩ := gd_some hf
    refine Wd.iald hC hW 9 (by decide) rfl h5 dX8_cut_15 ?_
    refine lv_topi (fun v6 ev6 => ?_)
    have hf := nx_at ev6 hf
    refine lv_istore_n (lv' := [(3, .int v6), (0, .ref (ad 0)), (1, .int x1), (2, .int x2)]) hx hb dX8_cut_16 rfl hl (by decide) rfl (fun ls hl => ?_)
    refine lv_iload_n hx hb dX8_cut_17 rfl (lv_at hl 0 rfl) ?_
    refine lv_if_ne (tgt := 28) hx hb dX8_cut_18 (by decide) (fun h7 => ?_) (fun h7 => ?_)
    · have hf := it_f h7 hf
      refine lv_iload_n hx hb dX8_cut_28 rfl (lv_at hl 3 rfl) ?_
      refine lv_iconst (v := 1) hx hb dX8_cut_29 (by decide) ?_
      refine lv_icmp_lt (tgt := 38) hx hb dX8_cut_30 (by decide) (fun h8 => ?_) (fun h8 => ?_)
      · have hf := it_t h8 hf
        refine lv_iconst (v := (-1)) hx hb dX8_cut_38 (by decide) ?_
        obtain ⟨rfl, rfl⟩ := sp hf
        exact Wd.iret hC hW dX8_cut_39
      · have hf := it_f h8 hf
        refine lv_iload_n hx hb dX8_cut_33 rfl (lv_at hl 3 rfl) ?_
        refine lv_iload_n hx hb dX8_cut_34 rfl (lv_at hl 0 rfl) ?_
        refine lv_icmp_le (tgt := 40) hx hb dX8_cut_35 (by decide) (fun h9 => ?_) (fun h9 => ?_)
        · have hf := it_t h9 hf
          exact wX8_cut_40 hC hf hW (lv_sub hl [1, 2, 3, 0] rfl)
        · have hf := it_f h9 hf
          refine lv_iconst (v := (-1)) hx hb dX8_cut_38 (by decide) ?_
          obtain ⟨rfl, rfl⟩ := sp hf
          exact Wd.iret hC hW dX8_cut_39
    · have hf := it_t h7 hf
      refine lv_iload_n hx hb dX8_cut_21 rfl (lv_at hl 3 rfl) ?_
      refine lv_if_eq (tgt := 40) hx hb dX8_cut_22 (by decide) (fun h10 => ?_) (fun h10 => ?_)
      · have hf := it_t h10 hf
        exact wX8_cut_40 hC hf hW (lv_sub hl [1, 2, 3, 0] rfl)
      · have hf := it_f h10 hf
        refine lv_goto (tgt := 38) hx hb dX8_cut_25 (by decide) ?_
        refine lv_iconst (v := (-1)) hx hb dX8_cut_38 (by decide) ?_
        obtain ⟨rfl, rfl⟩ := sp hf
        exact Wd.iret hC hW dX8_cut_39
  · have hf := it_t h4 hf
    refine lv_iconst (v := (-1)) hx hb dX8_cut_8 (by decide) ?_
    obtain ⟨rfl, rfl⟩ := sp hf
    exact Wd.iret hC hW dX8_cut_9
abbrev rmX8_cutAt : Room := { frames := 2, cells := 0, slots := 0, locals := 48 }
def fX8_cutAt_91 (N : Nat) (K38 : Int32 → Int32 → Int32 → Int32 → Int32 → St → Option (Int32 × St)) (x1 : Int32) (x2 : Int32) (x3 : Int32) (x4 : Int32) (x5 : Int32) (σ : St) : Option (Int32 × St) := nx (x5 + (1 : Int32)) (fun v1 => (K38 x1 x2 x3 x4 v1 σ))
set_option maxHeartbeats 4000000 in
set_option maxRecDepth 100000 in
theorem wX8_cutAt_91 (hC : Cx RX8 cX8_cutAt 6 (some .int) D cA p s m args meth c) {N : Nat} {K38 : Int32 → Int32 → Int32 → Int32 → Int32 → St → Option (Int32 × St)} {x1 : Int32} {x2 : Int32} {x3 : Int32} {x4 : Int32} {x5 : Int32} {σ : St} {r : Int32} {σ' : St} (hK38 : ∀ (x1 : Int32) (x2 : Int32) (x3 : Int32) (x4 : Int32) (x5 : Int32) (σ : St) (H : Heap) (locs : List Loc) (ls : Array Slot), K38 x1 x2 x3 x4 x5 σ = some (r, σ') → Wd kdM 31 D cA ad s σ H locs → lv_has ls 6 [(0, .ref (ad 0)), (1, .int x1), (2, .int x2), (3, .int x3), (4, .int x4), (5, .int x5)] → W p l e rmX8_cutAt s m args below meth c H locs 0 0 (EndW kdM 31 D cA ad below args s (some (.int r)) σ') (F0 m 38 ls [])) {H : Heap} {locs : List Loc} {ls : Array Slot} (hf : fX8_cutAt_91 N K38 x1 x2 x3 x4 x5 σ = some (r, σ')) (hW : Wd kdM 31 D cA ad s σ H locs) (hl : lv_has ls 6 [(0, .ref (ad 0)), (1, .int x1), (2, .int x2), (3, .int x3), (4, .int x4), (5, .int x5)]) : W p l e rmX8_cutAt s m args below meth c H locs 0 0 (EndW kdM 31 D cA ad below args s (some (.int r)) σ') (F0 m 91 ls []) := by
  have hx := hC.1
  have hb := hC.2.1
  have hown := hC.2.2.2.1
  have hts := hC.2.2.2.2.1
  unfold fX8_cutAt_91 at hf
  obtain ⟨v1, ev1⟩ : ∃ y : Int32, y = x5 + (1 : Int32) := ⟨_, rfl⟩
  have hf := nx_at ev1 hf
  refine lv_iinc (v := v1) (lv' := [(5, .int v1), (0, .ref (ad 0)), (1, .int x1), (2, .int x2), (3, .int x3), (4, .int x4)]) hx hb dX8_cutAt_91 hl (k := 5) rfl (by rw [ev1]; rfl) (by decide) rfl (fun ls hl => ?_)
  refine lv_goto (tgt := 38) hx hb dX8_cutAt_94 (by decide) ?_
  exact hK38 _ _ _ _ _ _ _ _ _ hf hW (lv_sub hl [1, 2, 3, 4, 5, 0] rfl)
def fX8_cutAt_38 (N : Nat) : Nat → Int32 → Int32 → Int32 → Int32 → Int32 → St → Option (Int32 × St)
  | 0, _, _, _, _, _, _ => none
  | n + 1, x1, x2, x3, x4, x5, σ => bd (fX8_steps N x1 σ) (fun r1 s2 => if r1 ≤ x5 then bd (fX8_labelled N x1 x4 s2) (fun r5 s6 => some (r5, s6)) else gd (ib (((19 : Int32) * x1) + x5) 76) (gd (ib (((19 : Int32) * x1) + x5) 76) (bd (fX8_compare N (s2.2 16 (((19 : Int32) * x1) + x5).toNatClampNeg) (s2.2 17 (((19 : Int32) * x1) + x5).toNatClampNeg) x2.toInt64 x3.toInt64 s2) (fun r10 s11 => if 0 < r10 then (fX8_cutAt_91 N (fX8_cutAt_38 N n) x1 x2 x3 x4 x5 s11) else nx (x4 ||| ((1 : Int32) <<< (x5 &&& 31))) (fun v14 => (fX8_cutAt_91 N (fX8_cutAt_38 N n) x1 x2 x3 v14 x5 s11))))))
set_option maxHeartbeats 4000000 in
set_option maxRecDepth 100000 in
theorem wX8_cutAt_38 (hC : Cx RX8 cX8_cutAt 6 (some .int) D cA p s m args meth c) {N : Nat} {r : Int32} {σ' : St} : ∀ (n : Nat) (x1 : Int32) (x2 : Int32) (x3 : Int32) (x4 : Int32) (x5 : Int32) (σ : St) (H : Heap) (locs : List Loc) (ls : Array Slot), fX8_cutAt_38 N n x1 x2 x3 x4 x5 σ = some (r, σ') → Wd kdM 31 D cA ad s σ H locs → lv_has ls 6 [(0, .ref (ad 0)), (1, .int x1), (2, .int x2), (3, .int x3), (4, .int x4), (5, .int x5)] → W p l e rmX8_cutAt s m args below meth c H locs 0 0 (EndW kdM 31 D cA ad below args s (some (.int r)) σ') (F0 m 38 ls []) := by
  have hx := hC.1
  have hb := hC.2.1
  have hown := hC.2.2.2.1
  have hts := hC.2.2.2.2.1
  intro n
  induction n with
  | zero =>
    intro x1 x2 x3 x4 x5 σ H locs ls hf
    rw [fX8_cutAt_38] at hf
    cases hf
  | succ n ih =>
    intro x1 x2 x3 x4 x5 σ H locs ls hf hW hl
    rw [fX8_cutAt_38] at hf
    refine lv_iload hx hb dX8_cutAt_38 (lv_at hl 5 rfl) ?_
    refine lv_aload_n hx hb dX8_cutAt_40 rfl (lv_at hl 0 rfl) ?_
    refine lv_iload_n hx hb dX8_cutAt_41 rfl (lv_at hl 1 rfl) ?_
    obtain ⟨r1, s2, c3, hf⟩ := bd_some hf
    refine Wd.callV (n := 1) (As := [.int x1]) (rest := [.int x5]) (rv := some (.int r1)) hC hW 0 (kX8_steps c3) (by decide) rfl rfl q899 q901 qs63 q8 q902 ⟨rfl, rfl⟩ ⟨by decide +kernel, by decide +kernel, by decide +kernel⟩ ⟨Nat.le_of_ble_eq_true rfl, Nat.le_of_ble_eq_true rfl⟩ ⟨Nat.zero_le _, Nat.zero_le _⟩ rfl hl.1 rfl (st2 := [.int r1, .int x5]) rfl (Nat.le_of_ble_eq_true rfl) dX8_cutAt_42 (fun H locs hW => ?_)
    refine lv_icmp_ge (tgt := 97) hx hb dX8_cutAt_45 (by decide) (fun h4 => ?_) (fun h4 => ?_)
    · have hf := it_t h4 hf
      refine lv_aload_n hx hb dX8_cutAt_97 rfl (lv_at hl 0 rfl) ?_
      refine lv_iload_n hx hb dX8_cutAt_98 rfl (lv_at hl 1 rfl) ?_
      refine lv_iload hx hb dX8_cutAt_99 (lv_at hl 4 rfl) ?_
      obtain ⟨r5, s6, c7, hf⟩ := bd_some hf
      refine Wd.callV (n := 2) (As := [.int x1, .int x4]) (rest := []) (rv := some (.int r5)) hC hW 0 (kX8_labelled c7) (by decide) rfl rfl q943 q945 qs67 q8 q946 ⟨rfl, rfl⟩ ⟨by decide +kernel, by decide +kernel, by decide +kernel⟩ ⟨Nat.le_of_ble_eq_true rfl, Nat.le_of_ble_eq_true rfl⟩ ⟨Nat.zero_le _, Nat.zero_le _⟩ rfl hl.1 rfl (st2 := [.int r5]) rfl (Nat.le_of_ble_eq_true rfl) dX8_cutAt_101 (fun H locs hW => ?_)
      obtain ⟨rfl, rfl⟩ := sp hf
      exact Wd.iret hC hW dX8_cutAt_104
    · have hf := it_f h4 hf
      refine lv_aload_n hx hb dX8_cutAt_48 rfl (lv_at hl 0 rfl) ?_
      refine gfX8_61 hC hW 0 (by decide) rfl (q := 16) rfl dX8_cutAt_49 ?_
      refine lv_bipush (v := 19) hx hb dX8_cutAt_52 (by decide) ?_
      refine lv_iload_n hx hb dX8_cutAt_54 rfl (lv_at hl 1 rfl) ?_
      refine lv_imul hx hb dX8_cutAt_55 ?_
      refine lv_iload hx hb dX8_cutAt_56 (lv_at hl 5 rfl) ?_
      refine lv_iadd hx hb dX8_cutAt_58 ?_
      obtain ⟨h8, hf⟩ := gd_some hf
      refine Wd.lald hC hW 16 (by decide) rfl h8 dX8_cutAt_59 ?_
      refine lv_aload_n hx hb dX8_cutAt_60 rfl (lv_at hl 0 rfl) ?_
      refine gfX8_65 hC hW 0 (by decide) rfl (q := 17) rfl dX8_cutAt_61 ?_
      refine lv_bipush (v := 19) hx hb dX8_cutAt_64 (by decide) ?_
      refine lv_iload_n hx hb dX8_cutAt_66 rfl (lv_at hl 1 rfl) ?_
      refine lv_imul hx hb dX8_cutAt_67 ?_
      refine lv_iload hx hb dX8_cutAt_68 (lv_at hl 5 rfl) ?_
      refine lv_iadd hx hb dX8_cutAt_70 ?_
      obtain ⟨h9, hf⟩ := gd_some hf
      refine Wd.lald hC hW 17 (by decide) rfl h9 dX8_cutAt_71 ?_
      refine lv_iload_n hx hb dX8_cutAt_72 rfl (lv_at hl 2 rfl) ?_
      refine lv_i2l (v := x2.toInt64) hx hb dX8_cutAt_73 rfl ?_
      refine lv_iload_n hx hb dX8_cutAt_74 rfl (lv_at hl 3 rfl) ?_
      refine lv_i2l (v := x3.toInt64) hx hb dX8_cutAt_75 rfl ?_
      obtain ⟨r10, s11, c12, hf⟩ := bd_some hf
      refine Wd.callS (n := 4) (As := [.long (s2.2 16 (((19 : Int32) * x1) + x5).toNatClampNeg), .long (s2.2 17 (((19 : Int32) * x1) + x5).toNatClampNeg), .long x2.toInt64, .long x3.toInt64]) (rest := []) (rv := some (.int r10)) hC hW (kX8_compare c12) q872 q873 q8 q874 ⟨rfl, rfl⟩ ⟨by decide +kernel, by decide +kernel, by decide +kernel⟩ ⟨Nat.le_of_ble_eq_true rfl, Nat.le_of_ble_eq_true rfl⟩ ⟨Nat.zero_le _, Nat.zero_le _⟩ rfl hl.1 rfl (st2 := [.int r10]) rfl (Nat.le_of_ble_eq_true rfl) dX8_cutAt_76 (fun H locs hW => ?_)
      refine lv_if_gt (tgt := 91) hx hb dX8_cutAt_79 (by decide) (fun h13 => ?_) (fun h13 => ?_)
      · have hf := it_t h13 hf
        exact wX8_cutAt_91 hC ih hf hW (lv_sub hl [0, 1, 2, 3, 4, 5] rfl)
      · have hf := it_f h13 hf
        refine lv_iload hx hb dX8_cutAt_82 (lv_at hl 4 rfl) ?_
        refine lv_iconst (v := 1) hx hb dX8_cutAt_84 (by decide) ?_
        refine lv_iload hx hb dX8_cutAt_85 (lv_at hl 5 rfl) ?_
        refine lv_ishl hx hb dX8_cutAt_87 ?_
        refine lv_ior hx hb dX8_cutAt_88 ?_
        refine lv_topi (fun v14 ev14 => ?_)
        have hf := nx_at ev14 hf
        refine lv_istore (lv' := [(4, .int v14), (0, .ref (ad 0)), (1, .int x1), (2, .int x2), (3, .int x3), (5, .int x5)]) hx hb dX8_cutAt_89 hl (by decide) rfl (fun ls hl => ?_)
        exact wX8_cutAt_91 hC ih hf hW (lv_sub hl [1, 2, 3, 4, 0, 5] rfl)
def fX8_cutAt (N : Nat) (x1 : Int32) (x2 : Int32) (x3 : Int32) (σ : St) : Option (Int32 × St) := bd (fX8_isTree N x1 σ) (fun r1 s2 => if r1 = 0 then some ((-1 : Int32), s2) else if x2 < 0 then some ((-1 : Int32), s2) else if (1000000000 : Int32) < x2 then some ((-1 : Int32), s2) else if x3 < (1 : Int32) then some ((-1 : Int32), s2) else if x3 ≤ (1000 : Int32) then (fX8_cutAt_38 N N x1 x2 x3 (0 : Int32) (0 : Int32) s2) else some ((-1 : Int32), s2))
set_option maxHeartbeats 4000000 in
set_option maxRecDepth 100000 in
theorem kX8_cutAt {l : Launch} {D : va_G} {cA : Nat → ClassId} {ad : Nat → Nat} {N : Nat} {x1 : Int32} {x2 : Int32} {x3 : Int32} {σ : St} {r : Int32} {σ' : St} (hf : fX8_cutAt N x1 x2 x3 σ = some (r, σ')) : MW kdM 31 l D cA ad ⟨RX8, "cutAt", "(III)I"⟩ cX8_cutAt 6 (some .int) rmX8_cutAt [.ref (ad 0), .int x1, .int x2, .int x3] σ (some (.int r)) σ' := by
  refine MW.of (by decide) (Nat.le_of_ble_eq_true rfl) ?_
  intro p e s m args below meth c ls hC hW hl
  have hx := hC.1
  have hb := hC.2.1
  have hown := hC.2.2.2.1
  have hts := hC.2.2.2.2.1
  have hl : lv_has ls 6 [(0, .ref (ad 0)), (1, .int x1), (2, .int x2), (3, .int x3)] := hl
  unfold fX8_cutAt at hf
  refine lv_aload_n hx hb dX8_cutAt_0 rfl (lv_at hl 0 rfl) ?_
  refine lv_iload_n hx hb dX8_cutAt_1 rfl (lv_at hl 1 rfl) ?_
  obtain ⟨r1, s2, c3, hf⟩ := bd_some hf
  refine Wd.callV (n := 1) (As := [.int x1]) (rest := []) (rv := some (.int r1)) hC hW 0 (kX8_isTree c3) (by decide) rfl rfl q895 q897 qs62 q8 q898 ⟨rfl, rfl⟩ ⟨by decide +kernel, by decide +kernel, by decide +kernel⟩ ⟨Nat.le_of_ble_eq_true rfl, Nat.le_of_ble_eq_true rfl⟩ ⟨Nat.zero_le _, Nat.zero_le _⟩ rfl hl.1 rfl (st2 := [.int r1]) rfl (Nat.le_of_ble_eq_true rfl) dX8_cutAt_2 (fun H locs hW => ?_)
  refine lv_if_eq (tgt := 30) hx hb dX8_cutAt_5 (by decide) (fun h4 => ?_) (fun h4 => ?_)
  · have hf := it_t h4 hf
    refine lv_iconst (v := (-1)) hx hb dX8_cutAt_30 (by decide) ?_
    obtain ⟨rfl, rfl⟩ := sp hf
    exact Wd.iret hC hW dX8_cutAt_31
  · have hf := it_f h4 hf
    refine lv_iload_n hx hb dX8_cutAt_8 rfl (lv_at hl 2 rfl) ?_
    refine lv_if_lt (tgt := 30) hx hb dX8_cutAt_9 (by decide) (fun h5 => ?_) (fun h5 => ?_)
    · have hf := it_t h5 hf
      refine lv_iconst (v := (-1)) hx hb dX8_cutAt_30 (by decide) ?_
      obtain ⟨rfl, rfl⟩ := sp hf
      exact Wd.iret hC hW dX8_cutAt_31
    · have hf := it_f h5 hf
      refine lv_iload_n hx hb dX8_cutAt_12 rfl (lv_at hl 2 rfl) ?_
      refine lv_ldc hx hb hown (hts _ q951) dX8_cutAt_13 ?_
      refine lv_icmp_gt (tgt := 30) hx hb dX8_cutAt_15 (by decide) (fun h6 => ?_) (fun h6 => ?_)
      · have hf := it_t h6 hf
        refine lv_iconst (v := (-1)) hx hb dX8_cutAt_30 (by decide) ?_
        obtain ⟨rfl, rfl⟩ := sp hf
        exact Wd.iret hC hW dX8_cutAt_31
      · have hf := it_f h6 hf
        refine lv_iload_n hx hb dX8_cutAt_18 rfl (lv_at hl 3 rfl) ?_
        refine lv_iconst (v := 1) hx hb dX8_cutAt_19 (by decide) ?_
        refine lv_icmp_lt (tgt := 30) hx hb dX8_cutAt_20 (by decide) (fun h7 => ?_) (fun h7 => ?_)
        · have hf := it_t h7 hf
          refine lv_iconst (v := (-1)) hx hb dX8_cutAt_30 (by decide) ?_
          obtain ⟨rfl, rfl⟩ := sp hf
          exact Wd.iret hC hW dX8_cutAt_31
        · have hf := it_f h7 hf
          refine lv_iload_n hx hb dX8_cutAt_23 rfl (lv_at hl 3 rfl) ?_
          refine lv_sipush (v := 1000) hx hb dX8_cutAt_24 (by decide) ?_
          refine lv_icmp_le (tgt := 32) hx hb dX8_cutAt_27 (by decide) (fun h8 => ?_) (fun h8 => ?_)
          · have hf := it_t h8 hf
            refine lv_iconst (v := 0) hx hb dX8_cutAt_32 (by decide) ?_
            refine lv_istore (lv' := [(4, .int (0 : Int32)), (0, .ref (ad 0)), (1, .int x1), (2, .int x2), (3, .int x3)]) hx hb dX8_cutAt_33 hl (by decide) rfl (fun ls hl => ?_)
            refine lv_iconst (v := 0) hx hb dX8_cutAt_35 (by decide) ?_
            refine lv_istore (lv' := [(5, .int (0 : Int32)), (4, .int (0 : Int32)), (0, .ref (ad 0)), (1, .int x1), (2, .int x2), (3, .int x3)]) hx hb dX8_cutAt_36 hl (by decide) rfl (fun ls hl => ?_)
            exact wX8_cutAt_38 hC N _ _ _ _ _ _ _ _ _ hf hW (lv_sub hl [2, 3, 4, 5, 1, 0] rfl)
          · have hf := it_f h8 hf
            refine lv_iconst (v := (-1)) hx hb dX8_cutAt_30 (by decide) ?_
            obtain ⟨rfl, rfl⟩ := sp hf
            exact Wd.iret hC hW dX8_cutAt_31
abbrev rmX8_label : Room := { frames := 2, cells := 0, slots := 0, locals := 42 }
def fX8_label (N : Nat) (x1 : Int32) (x2 : Int32) (σ : St) : Option (Int32 × St) := bd (fX8_isTree N x1 σ) (fun r1 s2 => if r1 = 0 then some ((-1 : Int32), s2) else gd (ib x1 4) (bd (fX8_isIn N x2 (s2.1 9 x1.toNatClampNeg) s2) (fun r6 s7 => if r6 = 0 then some ((-1 : Int32), s7) else gd (ib (((20 : Int32) * x1) + x2) 80) (some ((s7.1 18 (((20 : Int32) * x1) + x2).toNatClampNeg), s7)))))
set_option maxHeartbeats 4000000 in
set_option maxRecDepth 100000 in
theorem kX8_label {l : Launch} {D : va_G} {cA : Nat → ClassId} {ad : Nat → Nat} {N : Nat} {x1 : Int32} {x2 : Int32} {σ : St} {r : Int32} {σ' : St} (hf : fX8_label N x1 x2 σ = some (r, σ')) : MW kdM 31 l D cA ad ⟨RX8, "label", "(II)I"⟩ cX8_label 3 (some .int) rmX8_label [.ref (ad 0), .int x1, .int x2] σ (some (.int r)) σ' := by
  refine MW.of (by decide) (Nat.le_of_ble_eq_true rfl) ?_
  intro p e s m args below meth c ls hC hW hl
  have hx := hC.1
  have hb := hC.2.1
  have hown := hC.2.2.2.1
  have hts := hC.2.2.2.2.1
  have hl : lv_has ls 3 [(0, .ref (ad 0)), (1, .int x1), (2, .int x2)] := hl
  unfold fX8_label at hf
  refine lv_aload_n hx hb dX8_label_0 rfl (lv_at hl 0 rfl) ?_
  refine lv_iload_n hx hb dX8_label_1 rfl (lv_at hl 1 rfl) ?_
  obtain ⟨r1, s2, c3, hf⟩ := bd_some hf
  refine Wd.callV (n := 1) (As := [.int x1]) (rest := []) (rv := some (.int r1)) hC hW 0 (kX8_isTree c3) (by decide) rfl rfl q895 q897 qs62 q8 q898 ⟨rfl, rfl⟩ ⟨by decide +kernel, by decide +kernel, by decide +kernel⟩ ⟨Nat.le_of_ble_eq_true rfl, Nat.le_of_ble_eq_true rfl⟩ ⟨Nat.zero_le _, Nat.zero_le _⟩ rfl hl.1 rfl (st2 := [.int r1]) rfl (Nat.le_of_ble_eq_true rfl) dX8_label_2 (fun H locs hW => ?_)
  refine lv_if_eq (tgt := 35) hx hb dX8_label_5 (by decide) (fun h4 => ?_) (fun h4 => ?_)
  · have hf := it_t h4 hf
    refine lv_iconst (v := (-1)) hx hb dX8_label_35 (by decide) ?_
    obtain ⟨rfl, rfl⟩ := sp hf
    exact Wd.iret hC hW dX8_label_36
  · have hf := it_f h4 hf
    refine lv_iload_n hx hb dX8_label_8 rfl (lv_at hl 2 rfl) ?_
    refine lv_aload_n hx hb dX8_label_9 rfl (lv_at hl 0 rfl) ?_
    refine gfX8_40 hC hW 0 (by decide) rfl (q := 9) rfl dX8_label_10 ?_
    refine lv_iload_n hx hb dX8_label_13 rfl (lv_at hl 1 rfl) ?_
    obtain ⟨h5, hf⟩ := gd_some hf
    refine Wd.iald hC hW 9 (by decide) rfl h5 dX8_label_14 ?_
    obtain ⟨r6, s7, c8, hf⟩ := bd_some hf
    refine Wd.callS (n := 2) (As := [.int x2, .int (s2.1 9 x1.toNatClampNeg)]) (rest := []) (rv := some (.int r6)) hC hW (kX8_isIn c8) q762 q763 q8 q764 ⟨rfl, rfl⟩ ⟨by decide +kernel, by decide +kernel, by decide +kernel⟩ ⟨Nat.le_of_ble_eq_true rfl, Nat.le_of_ble_eq_true rfl⟩ ⟨Nat.zero_le _, Nat.zero_le _⟩ rfl hl.1 rfl (st2 := [.int r6]) rfl (Nat.le_of_ble_eq_true rfl) dX8_label_15 (fun H locs hW => ?_)
    refine lv_if_eq (tgt := 35) hx hb dX8_label_18 (by decide) (fun h9 => ?_) (fun h9 => ?_)
    · have hf := it_t h9 hf
      refine lv_iconst (v := (-1)) hx hb dX8_label_35 (by decide) ?_
      obtain ⟨rfl, rfl⟩ := sp hf
      exact Wd.iret hC hW dX8_label_36
    · have hf := it_f h9 hf
      refine lv_aload_n hx hb dX8_label_21 rfl (lv_at hl 0 rfl) ?_
      refine gfX8_68 hC hW 0 (by decide) rfl (q := 18) rfl dX8_label_22 ?_
      refine lv_bipush (v := 20) hx hb dX8_label_25 (by decide) ?_
      refine lv_iload_n hx hb dX8_label_27 rfl (lv_at hl 1 rfl) ?_
      refine lv_imul hx hb dX8_label_28 ?_
      refine lv_iload_n hx hb dX8_label_29 rfl (lv_at hl 2 rfl) ?_
      refine lv_iadd hx hb dX8_label_30 ?_
      obtain ⟨h10, hf⟩ := gd_some hf
      refine Wd.iald hC hW 18 (by decide) rfl h10 dX8_label_31 ?_
      refine lv_goto (tgt := 36) hx hb dX8_label_32 (by decide) ?_
      obtain ⟨rfl, rfl⟩ := sp hf
      exact Wd.iret hC hW dX8_label_36
abbrev rmX8_agree : Room := { frames := 2, cells := 0, slots := 0, locals := 42 }
def fX8_agree_140 (N : Nat) (K38 : Int32 → Int32 → Int32 → Int32 → St → Option (Int32 × St)) (K52 : Int32 → Int32 → Int32 → Int32 → Int32 → St → Option (Int32 × St)) (x1 : Int32) (x2 : Int32) (x4 : Int32) (x5 : Int32) (y0 : Int32) (y1 : Int32) (σ : St) : Option (Int32 × St) := nx (y1 + y0) (fun v1 => nx (x5 + (1 : Int32)) (fun v2 => (K52 x1 x2 v1 x4 v2 σ)))
set_option maxHeartbeats 4000000 in
set_option maxRecDepth 100000 in
theorem wX8_agree_140 (hC : Cx RX8 cX8_agree 8 (some .int) D cA p s m args meth c) {N : Nat} {K38 : Int32 → Int32 → Int32 → Int32 → St → Option (Int32 × St)} {K52 : Int32 → Int32 → Int32 → Int32 → Int32 → St → Option (Int32 × St)} {x1 : Int32} {x2 : Int32} {x4 : Int32} {x5 : Int32} {y0 : Int32} {y1 : Int32} {σ : St} {r : Int32} {σ' : St} (hK38 : ∀ (x1 : Int32) (x2 : Int32) (x3 : Int32) (x4 : Int32) (σ : St) (H : Heap) (locs : List Loc) (ls : Array Slot), K38 x1 x2 x3 x4 σ = some (r, σ') → Wd kdM 31 D cA ad s σ H locs → lv_has ls 8 [(0, .ref (ad 0)), (1, .int x1), (2, .int x2), (3, .int x3), (4, .int x4)] → W p l e rmX8_agree s m args below meth c H locs 0 0 (EndW kdM 31 D cA ad below args s (some (.int r)) σ') (F0 m 38 ls [])) (hK52 : ∀ (x1 : Int32) (x2 : Int32) (x3 : Int32) (x4 : Int32) (x5 : Int32) (σ : St) (H : Heap) (locs : List Loc) (ls : Array Slot), K52 x1 x2 x3 x4 x5 σ = some (r, σ') → Wd kdM 31 D cA ad s σ H locs → lv_has ls 8 [(0, .ref (ad 0)), (1, .int x1), (2, .int x2), (3, .int x3), (4, .int x4), (5, .int x5)] → W p l e rmX8_agree s m args below meth c H locs 0 0 (EndW kdM 31 D cA ad below args s (some (.int r)) σ') (F0 m 52 ls [])) {H : Heap} {locs : List Loc} {ls : Array Slot} (hf : fX8_agree_140 N K38 K52 x1 x2 x4 x5 y0 y1 σ = some (r, σ')) (hW : Wd kdM 31 D cA ad s σ H locs) (hl : lv_has ls 8 [(0, .ref (ad 0)), (1, .int x1), (2, .int x2), (4, .int x4), (5, .int x5)]) : W p l e rmX8_agree s m args below meth c H locs 0 0 (EndW kdM 31 D cA ad below args s (some (.int r)) σ') (F0 m 140 ls [.int y0, .int y1]) := by
  have hx := hC.1
  have hb := hC.2.1
  have hown := hC.2.2.2.1
  have hts := hC.2.2.2.2.1
  unfold fX8_agree_140 at hf
  refine lv_iadd hx hb dX8_agree_140 ?_
  refine lv_topi (fun v1 ev1 => ?_)
  have hf := nx_at ev1 hf
  refine lv_istore_n (lv' := [(3, .int v1), (0, .ref (ad 0)), (1, .int x1), (2, .int x2), (4, .int x4), (5, .int x5)]) hx hb dX8_agree_141 rfl hl (by decide) rfl (fun ls hl => ?_)
  obtain ⟨v2, ev2⟩ : ∃ y : Int32, y = x5 + (1 : Int32) := ⟨_, rfl⟩
  have hf := nx_at ev2 hf
  refine lv_iinc (v := v2) (lv' := [(5, .int v2), (3, .int v1), (0, .ref (ad 0)), (1, .int x1), (2, .int x2), (4, .int x4)]) hx hb dX8_agree_142 hl (k := 5) rfl (by rw [ev2]; rfl) (by decide) rfl (fun ls hl => ?_)
  refine lv_goto (tgt := 52) hx hb dX8_agree_145 (by decide) ?_
  exact hK52 _ _ _ _ _ _ _ _ _ hf hW (lv_sub hl [2, 3, 4, 1, 5, 0] rfl)
def fX8_agree_125 (N : Nat) (K38 : Int32 → Int32 → Int32 → Int32 → St → Option (Int32 × St)) (K52 : Int32 → Int32 → Int32 → Int32 → Int32 → St → Option (Int32 × St)) (x1 : Int32) (x2 : Int32) (x3 : Int32) (x4 : Int32) (x5 : Int32) (x6 : Int32) (y0 : Int32) (σ : St) : Option (Int32 × St) := if x6 = y0 then (fX8_agree_140 N K38 K52 x1 x2 x4 x5 (1 : Int32) x3 σ) else (fX8_agree_140 N K38 K52 x1 x2 x4 x5 (0 : Int32) x3 σ)
set_option maxHeartbeats 4000000 in
set_option maxRecDepth 100000 in
theorem wX8_agree_125 (hC : Cx RX8 cX8_agree 8 (some .int) D cA p s m args meth c) {N : Nat} {K38 : Int32 → Int32 → Int32 → Int32 → St → Option (Int32 × St)} {K52 : Int32 → Int32 → Int32 → Int32 → Int32 → St → Option (Int32 × St)} {x1 : Int32} {x2 : Int32} {x3 : Int32} {x4 : Int32} {x5 : Int32} {x6 : Int32} {y0 : Int32} {σ : St} {r : Int32} {σ' : St} (hK38 : ∀ (x1 : Int32) (x2 : Int32) (x3 : Int32) (x4 : Int32) (σ : St) (H : Heap) (locs : List Loc) (ls : Array Slot), K38 x1 x2 x3 x4 σ = some (r, σ') → Wd kdM 31 D cA ad s σ H locs → lv_has ls 8 [(0, .ref (ad 0)), (1, .int x1), (2, .int x2), (3, .int x3), (4, .int x4)] → W p l e rmX8_agree s m args below meth c H locs 0 0 (EndW kdM 31 D cA ad below args s (some (.int r)) σ') (F0 m 38 ls [])) (hK52 : ∀ (x1 : Int32) (x2 : Int32) (x3 : Int32) (x4 : Int32) (x5 : Int32) (σ : St) (H : Heap) (locs : List Loc) (ls : Array Slot), K52 x1 x2 x3 x4 x5 σ = some (r, σ') → Wd kdM 31 D cA ad s σ H locs → lv_has ls 8 [(0, .ref (ad 0)), (1, .int x1), (2, .int x2), (3, .int x3), (4, .int x4), (5, .int x5)] → W p l e rmX8_agree s m args below meth c H locs 0 0 (EndW kdM 31 D cA ad below args s (some (.int r)) σ') (F0 m 52 ls [])) {H : Heap} {locs : List Loc} {ls : Array Slot} (hf : fX8_agree_125 N K38 K52 x1 x2 x3 x4 x5 x6 y0 σ = some (r, σ')) (hW : Wd kdM 31 D cA ad s σ H locs) (hl : lv_has ls 8 [(0, .ref (ad 0)), (1, .int x1), (2, .int x2), (3, .int x3), (4, .int x4), (5, .int x5), (6, .int x6)]) : W p l e rmX8_agree s m args below meth c H locs 0 0 (EndW kdM 31 D cA ad below args s (some (.int r)) σ') (F0 m 125 ls [.int y0]) := by
  have hx := hC.1
  have hb := hC.2.1
  have hown := hC.2.2.2.1
  have hts := hC.2.2.2.2.1
  unfold fX8_agree_125 at hf
  refine lv_istore (lv' := [(7, .int y0), (0, .ref (ad 0)), (1, .int x1), (2, .int x2), (3, .int x3), (4, .int x4), (5, .int x5), (6, .int x6)]) hx hb dX8_agree_125 hl (by decide) rfl (fun ls hl => ?_)
  refine lv_iload_n hx hb dX8_agree_127 rfl (lv_at hl 4 rfl) ?_
  refine lv_iload hx hb dX8_agree_128 (lv_at hl 7 rfl) ?_
  refine lv_iload hx hb dX8_agree_130 (lv_at hl 0 rfl) ?_
  refine lv_icmp_ne (tgt := 139) hx hb dX8_agree_132 (by decide) (fun h1 => ?_) (fun h1 => ?_)
  · have hf := it_f h1 hf
    refine lv_iconst (v := 0) hx hb dX8_agree_139 (by decide) ?_
    exact wX8_agree_140 hC hK38 hK52 hf hW (lv_sub hl [1, 2, 3, 5, 6] rfl)
  · have hf := it_t h1 hf
    refine lv_iconst (v := 1) hx hb dX8_agree_135 (by decide) ?_
    refine lv_goto (tgt := 140) hx hb dX8_agree_136 (by decide) ?_
    exact wX8_agree_140 hC hK38 hK52 hf hW (lv_sub hl [1, 2, 3, 5, 6] rfl)
def fX8_agree_91 (N : Nat) (K38 : Int32 → Int32 → Int32 → Int32 → St → Option (Int32 × St)) (K52 : Int32 → Int32 → Int32 → Int32 → Int32 → St → Option (Int32 × St)) (x1 : Int32) (x2 : Int32) (x3 : Int32) (x4 : Int32) (x5 : Int32) (y0 : Int32) (σ : St) : Option (Int32 × St) := gd (ib (((20 : Int32) * x2) + x4) 80) (gd (ib (((20 : Int32) * x2) + x5) 80) (if (σ.1 18 (((20 : Int32) * x2) + x4).toNatClampNeg) = (σ.1 18 (((20 : Int32) * x2) + x5).toNatClampNeg) then (fX8_agree_125 N K38 K52 x1 x2 x3 x4 x5 y0 (1 : Int32) σ) else (fX8_agree_125 N K38 K52 x1 x2 x3 x4 x5 y0 (0 : Int32) σ)))
set_option maxHeartbeats 4000000 in
set_option maxRecDepth 100000 in
theorem wX8_agree_91 (hC : Cx RX8 cX8_agree 8 (some .int) D cA p s m args meth c) {N : Nat} {K38 : Int32 → Int32 → Int32 → Int32 → St → Option (Int32 × St)} {K52 : Int32 → Int32 → Int32 → Int32 → Int32 → St → Option (Int32 × St)} {x1 : Int32} {x2 : Int32} {x3 : Int32} {x4 : Int32} {x5 : Int32} {y0 : Int32} {σ : St} {r : Int32} {σ' : St} (hK38 : ∀ (x1 : Int32) (x2 : Int32) (x3 : Int32) (x4 : Int32) (σ : St) (H : Heap) (locs : List Loc) (ls : Array Slot), K38 x1 x2 x3 x4 σ = some (r, σ') → Wd kdM 31 D cA ad s σ H locs → lv_has ls 8 [(0, .ref (ad 0)), (1, .int x1), (2, .int x2), (3, .int x3), (4, .int x4)] → W p l e rmX8_agree s m args below meth c H locs 0 0 (EndW kdM 31 D cA ad below args s (some (.int r)) σ') (F0 m 38 ls [])) (hK52 : ∀ (x1 : Int32) (x2 : Int32) (x3 : Int32) (x4 : Int32) (x5 : Int32) (σ : St) (H : Heap) (locs : List Loc) (ls : Array Slot), K52 x1 x2 x3 x4 x5 σ = some (r, σ') → Wd kdM 31 D cA ad s σ H locs → lv_has ls 8 [(0, .ref (ad 0)), (1, .int x1), (2, .int x2), (3, .int x3), (4, .int x4), (5, .int x5)] → W p l e rmX8_agree s m args below meth c H locs 0 0 (EndW kdM 31 D cA ad below args s (some (.int r)) σ') (F0 m 52 ls [])) {H : Heap} {locs : List Loc} {ls : Array Slot} (hf : fX8_agree_91 N K38 K52 x1 x2 x3 x4 x5 y0 σ = some (r, σ')) (hW : Wd kdM 31 D cA ad s σ H locs) (hl : lv_has ls 8 [(0, .ref (ad 0)), (1, .int x1), (2, .int x2), (3, .int x3), (4, .int x4), (5, .int x5)]) : W p l e rmX8_agree s m args below meth c H locs 0 0 (EndW kdM 31 D cA ad below args s (some (.int r)) σ') (F0 m 91 ls [.int y0]) := by
  have hx := hC.1
  have hb := hC.2.1
  have hown := hC.2.2.2.1
  have hts := hC.2.2.2.2.1
  unfold fX8_agree_91 at hf
  refine lv_istore (lv' := [(6, .int y0), (0, .ref (ad 0)), (1, .int x1), (2, .int x2), (3, .int x3), (4, .int x4), (5, .int x5)]) hx hb dX8_agree_91 hl (by decide) rfl (fun ls hl => ?_)
  refine lv_aload_n hx hb dX8_agree_93 rfl (lv_at hl 1 rfl) ?_
  refine gfX8_68 hC hW 0 (by decide) rfl (q := 18) rfl dX8_agree_94 ?_
  refine lv_bipush (v := 20) hx hb dX8_agree_97 (by decide) ?_
  refine lv_iload_n hx hb dX8_agree_99 rfl (lv_at hl 3 rfl) ?_
  refine lv_imul hx hb dX8_agree_100 ?_
  refine lv_iload hx hb dX8_agree_101 (lv_at hl 5 rfl) ?_
  refine lv_iadd hx hb dX8_agree_103 ?_
  obtain ⟨h1, hf⟩ := gd_some hf
  refine Wd.iald hC hW 18 (by decide) rfl h1 dX8_agree_104 ?_
  refine lv_aload_n hx hb dX8_agree_105 rfl (lv_at hl 1 rfl) ?_
  refine gfX8_68 hC hW 0 (by decide) rfl (q := 18) rfl dX8_agree_106 ?_
  refine lv_bipush (v := 20) hx hb dX8_agree_109 (by decide) ?_
  refine lv_iload_n hx hb dX8_agree_111 rfl (lv_at hl 3 rfl) ?_
  refine lv_imul hx hb dX8_agree_112 ?_
  refine lv_iload hx hb dX8_agree_113 (lv_at hl 6 rfl) ?_
  refine lv_iadd hx hb dX8_agree_115 ?_
  obtain ⟨h2, hf⟩ := gd_some hf
  refine Wd.iald hC hW 18 (by decide) rfl h2 dX8_agree_116 ?_
  refine lv_icmp_ne (tgt := 124) hx hb dX8_agree_117 (by decide) (fun h3 => ?_) (fun h3 => ?_)
  · have hf := it_f h3 hf
    refine lv_iconst (v := 0) hx hb dX8_agree_124 (by decide) ?_
    exact wX8_agree_125 hC hK38 hK52 hf hW (lv_sub hl [1, 2, 3, 4, 5, 6, 0] rfl)
  · have hf := it_t h3 hf
    refine lv_iconst (v := 1) hx hb dX8_agree_120 (by decide) ?_
    refine lv_goto (tgt := 125) hx hb dX8_agree_121 (by decide) ?_
    exact wX8_agree_125 hC hK38 hK52 hf hW (lv_sub hl [1, 2, 3, 4, 5, 6, 0] rfl)
def fX8_agree_52 (N : Nat) (K38 : Int32 → Int32 → Int32 → Int32 → St → Option (Int32 × St)) : Nat → Int32 → Int32 → Int32 → Int32 → Int32 → St → Option (Int32 × St)
  | 0, _, _, _, _, _, _ => none
  | n + 1, x1, x2, x3, x4, x5, σ => if x4 ≤ x5 then nx (x4 + (1 : Int32)) (fun v2 => (K38 x1 x2 x3 v2 σ)) else gd (ib (((20 : Int32) * x1) + x4) 80) (gd (ib (((20 : Int32) * x1) + x5) 80) (if (σ.1 18 (((20 : Int32) * x1) + x4).toNatClampNeg) = (σ.1 18 (((20 : Int32) * x1) + x5).toNatClampNeg) then (fX8_agree_91 N K38 (fX8_agree_52 N K38 n) x1 x2 x3 x4 x5 (1 : Int32) σ) else (fX8_agree_91 N K38 (fX8_agree_52 N K38 n) x1 x2 x3 x4 x5 (0 : Int32) σ)))
set_option maxHeartbeats 4000000 in
set_option maxRecDepth 100000 in
theorem wX8_agree_52 (hC : Cx RX8 cX8_agree 8 (some .int) D cA p s m args meth c) {N : Nat} {K38 : Int32 → Int32 → Int32 → Int32 → St → Option (Int32 × St)} {r : Int32} {σ' : St} (hK38 : ∀ (x1 : Int32) (x2 : Int32) (x3 : Int32) (x4 : Int32) (σ : St) (H : Heap) (locs : List Loc) (ls : Array Slot), K38 x1 x2 x3 x4 σ = some (r, σ') → Wd kdM 31 D cA ad s σ H locs → lv_has ls 8 [(0, .ref (ad 0)), (1, .int x1), (2, .int x2), (3, .int x3), (4, .int x4)] → W p l e rmX8_agree s m args below meth c H locs 0 0 (EndW kdM 31 D cA ad below args s (some (.int r)) σ') (F0 m 38 ls [])) : ∀ (n : Nat) (x1 : Int32) (x2 : Int32) (x3 : Int32) (x4 : Int32) (x5 : Int32) (σ : St) (H : Heap) (locs : List Loc) (ls : Array Slot), fX8_agree_52 N K38 n x1 x2 x3 x4 x5 σ = some (r, σ') → Wd kdM 31 D cA ad s σ H locs → lv_has ls 8 [(0, .ref (ad 0)), (1, .int x1), (2, .int x2), (3, .int x3), (4, .int x4), (5, .int x5)] → W p l e rmX8_agree s m args below meth c H locs 0 0 (EndW kdM 31 D cA ad below args s (some (.int r)) σ') (F0 m 52 ls []) := by
  have hx := hC.1
  have hb := hC.2.1
  have hown := hC.2.2.2.1
  have hts := hC.2.2.2.2.1
  intro n
  induction n with
  | zero =>
    intro x1 x2 x3 x4 x5 σ H locs ls hf
    rw [fX8_agree_52] at hf
    cases hf
  | succ n ih =>
    intro x1 x2 x3 x4 x5 σ H locs ls hf hW hl
    rw [fX8_agree_52] at hf
    refine lv_iload hx hb dX8_agree_52 (lv_at hl 5 rfl) ?_
    refine lv_iload hx hb dX8_agree_54 (lv_at hl 4 rfl) ?_
    refine lv_icmp_ge (tgt := 148) hx hb dX8_agree_56 (by decide) (fun h1 => ?_) (fun h1 => ?_)
    · have hf := it_t h1 hf
      obtain ⟨v2, ev2⟩ : ∃ y : Int32, y = x4 + (1 : Int32) := ⟨_, rfl⟩
      have hf := nx_at ev2 hf
      refine lv_iinc (v := v2) (lv' := [(4, .int v2), (0, .ref (ad 0)), (1, .int x1), (2, .int x2), (3, .int x3), (5, .int x5)]) hx hb dX8_agree_148 hl (k := 4) rfl (by rw [ev2]; rfl) (by decide) rfl (fun ls hl => ?_)
      refine lv_goto (tgt := 38) hx hb dX8_agree_151 (by decide) ?_
      exact hK38 _ _ _ _ _ _ _ _ hf hW (lv_sub hl [1, 2, 3, 4, 0] rfl)
    · have hf := it_f h1 hf
      refine lv_aload_n hx hb dX8_agree_59 rfl (lv_at hl 0 rfl) ?_
      refine gfX8_68 hC hW 0 (by decide) rfl (q := 18) rfl dX8_agree_60 ?_
      refine lv_bipush (v := 20) hx hb dX8_agree_63 (by decide) ?_
      refine lv_iload_n hx hb dX8_agree_65 rfl (lv_at hl 1 rfl) ?_
      refine lv_imul hx hb dX8_agree_66 ?_
      refine lv_iload hx hb dX8_agree_67 (lv_at hl 4 rfl) ?_
      refine lv_iadd hx hb dX8_agree_69 ?_
      obtain ⟨h3, hf⟩ := gd_some hf
      refine Wd.iald hC hW 18 (by decide) rfl h3 dX8_agree_70 ?_
      refine lv_aload_n hx hb dX8_agree_71 rfl (lv_at hl 0 rfl) ?_
      refine gfX8_68 hC hW 0 (by decide) rfl (q := 18) rfl dX8_agree_72 ?_
      refine lv_bipush (v := 20) hx hb dX8_agree_75 (by decide) ?_
      refine lv_iload_n hx hb dX8_agree_77 rfl (lv_at hl 1 rfl) ?_
      refine lv_imul hx hb dX8_agree_78 ?_
      refine lv_iload hx hb dX8_agree_79 (lv_at hl 5 rfl) ?_
      refine lv_iadd hx hb dX8_agree_81 ?_
      obtain ⟨h4, hf⟩ := gd_some hf
      refine Wd.iald hC hW 18 (by decide) rfl h4 dX8_agree_82 ?_
      refine lv_icmp_ne (tgt := 90) hx hb dX8_agree_83 (by decide) (fun h5 => ?_) (fun h5 => ?_)
      · have hf := it_f h5 hf
        refine lv_iconst (v := 0) hx hb dX8_agree_90 (by decide) ?_
        exact wX8_agree_91 hC hK38 ih hf hW (lv_sub hl [0, 1, 2, 3, 4, 5] rfl)
      · have hf := it_t h5 hf
        refine lv_iconst (v := 1) hx hb dX8_agree_86 (by decide) ?_
        refine lv_goto (tgt := 91) hx hb dX8_agree_87 (by decide) ?_
        exact wX8_agree_91 hC hK38 ih hf hW (lv_sub hl [0, 1, 2, 3, 4, 5] rfl)
def fX8_agree_38 (N : Nat) : Nat → Int32 → Int32 → Int32 → Int32 → St → Option (Int32 × St)
  | 0, _, _, _, _, _ => none
  | n + 1, x1, x2, x3, x4, σ => gd (ib x1 4) (if (σ.1 9 x1.toNatClampNeg) ≤ x4 then some (x3, σ) else (fX8_agree_52 N (fX8_agree_38 N n) N x1 x2 x3 x4 (0 : Int32) σ))
set_option maxHeartbeats 4000000 in
set_option maxRecDepth 100000 in
theorem wX8_agree_38 (hC : Cx RX8 cX8_agree 8 (some .int) D cA p s m args meth c) {N : Nat} {r : Int32} {σ' : St} : ∀ (n : Nat) (x1 : Int32) (x2 : Int32) (x3 : Int32) (x4 : Int32) (σ : St) (H : Heap) (locs : List Loc) (ls : Array Slot), fX8_agree_38 N n x1 x2 x3 x4 σ = some (r, σ') → Wd kdM 31 D cA ad s σ H locs → lv_has ls 8 [(0, .ref (ad 0)), (1, .int x1), (2, .int x2), (3, .int x3), (4, .int x4)] → W p l e rmX8_agree s m args below meth c H locs 0 0 (EndW kdM 31 D cA ad below args s (some (.int r)) σ') (F0 m 38 ls []) := by
  have hx := hC.1
  have hb := hC.2.1
  have hown := hC.2.2.2.1
  have hts := hC.2.2.2.2.1
  intro n
  induction n with
  | zero =>
    intro x1 x2 x3 x4 σ H locs ls hf
    rw [fX8_agree_38] at hf
    cases hf
  | succ n ih =>
    intro x1 x2 x3 x4 σ H locs ls hf hW hl
    rw [fX8_agree_38] at hf
    refine lv_iload hx hb dX8_agree_38 (lv_at hl 4 rfl) ?_
    refine lv_aload_n hx hb dX8_agree_40 rfl (lv_at hl 0 rfl) ?_
    refine gfX8_40 hC hW 0 (by decide) rfl (q := 9) rfl dX8_agree_41 ?_
    refine lv_iload_n hx hb dX8_agree_44 rfl (lv_at hl 1 rfl) ?_
    obtain ⟨h1, hf⟩ := gd_some hf
    refine Wd.iald hC hW 9 (by decide) rfl h1 dX8_agree_45 ?_
    refine lv_icmp_ge (tgt := 154) hx hb dX8_agree_46 (by decide) (fun h2 => ?_) (fun h2 => ?_)
    · have hf := it_t h2 hf
      refine lv_iload_n hx hb dX8_agree_154 rfl (lv_at hl 3 rfl) ?_
      obtain ⟨rfl, rfl⟩ := sp hf
      exact Wd.iret hC hW dX8_agree_155
    · have hf := it_f h2 hf
      refine lv_iconst (v := 0) hx hb dX8_agree_49 (by decide) ?_
      refine lv_istore (lv' := [(5, .int (0 : Int32)), (0, .ref (ad 0)), (1, .int x1), (2, .int x2), (3, .int x3), (4, .int x4)]) hx hb dX8_agree_50 hl (by decide) rfl (fun ls hl => ?_)
      exact wX8_agree_52 hC ih N _ _ _ _ _ _ _ _ _ hf hW (lv_sub hl [1, 2, 3, 4, 5, 0] rfl)
def fX8_agree (N : Nat) (x1 : Int32) (x2 : Int32) (σ : St) : Option (Int32 × St) := bd (fX8_isTree N x1 σ) (fun r1 s2 => if r1 = 0 then some ((-1 : Int32), s2) else bd (fX8_isTree N x2 s2) (fun r5 s6 => if r5 = 0 then some ((-1 : Int32), s6) else gd (ib x1 4) (gd (ib x2 4) (if (s6.1 9 x1.toNatClampNeg) = (s6.1 9 x2.toNatClampNeg) then (fX8_agree_38 N N x1 x2 (0 : Int32) (0 : Int32) s6) else some ((-1 : Int32), s6)))))
set_option maxHeartbeats 4000000 in
set_option maxRecDepth 100000 in
theorem kX8_agree {l : Launch} {D : va_G} {cA : Nat → ClassId} {ad : Nat → Nat} {N : Nat} {x1 : Int32} {x2 : Int32} {σ : St} {r : Int32} {σ' : St} (hf : fX8_agree N x1 x2 σ = some (r, σ')) : MW kdM 31 l D cA ad ⟨RX8, "agree", "(II)I"⟩ cX8_agree 8 (some .int) rmX8_agree [.ref (ad 0), .int x1, .int x2] σ (some (.int r)) σ' := by
  refine MW.of (by decide) (Nat.le_of_ble_eq_true rfl) ?_
  intro p e s m args below meth c ls hC hW hl
  have hx := hC.1
  have hb := hC.2.1
  have hown := hC.2.2.2.1
  have hts := hC.2.2.2.2.1
  have hl : lv_has ls 8 [(0, .ref (ad 0)), (1, .int x1), (2, .int x2)] := hl
  unfold fX8_agree at hf
  refine lv_aload_n hx hb dX8_agree_0 rfl (lv_at hl 0 rfl) ?_
  refine lv_iload_n hx hb dX8_agree_1 rfl (lv_at hl 1 rfl) ?_
  obtain ⟨r1, s2, c3, hf⟩ := bd_some hf
  refine Wd.callV (n := 1) (As := [.int x1]) (rest := []) (rv := some (.int r1)) hC hW 0 (kX8_isTree c3) (by decide) rfl rfl q895 q897 qs62 q8 q898 ⟨rfl, rfl⟩ ⟨by decide +kernel, by decide +kernel, by decide +kernel⟩ ⟨Nat.le_of_ble_eq_true rfl, Nat.le_of_ble_eq_true rfl⟩ ⟨Nat.zero_le _, Nat.zero_le _⟩ rfl hl.1 rfl (st2 := [.int r1]) rfl (Nat.le_of_ble_eq_true rfl) dX8_agree_2 (fun H locs hW => ?_)
  refine lv_if_eq (tgt := 31) hx hb dX8_agree_5 (by decide) (fun h4 => ?_) (fun h4 => ?_)
  · have hf := it_t h4 hf
    refine lv_iconst (v := (-1)) hx hb dX8_agree_31 (by decide) ?_
    obtain ⟨rfl, rfl⟩ := sp hf
    exact Wd.iret hC hW dX8_agree_32
  · have hf := it_f h4 hf
    refine lv_aload_n hx hb dX8_agree_8 rfl (lv_at hl 0 rfl) ?_
    refine lv_iload_n hx hb dX8_agree_9 rfl (lv_at hl 2 rfl) ?_
    obtain ⟨r5, s6, c7, hf⟩ := bd_some hf
    refine Wd.callV (n := 1) (As := [.int x2]) (rest := []) (rv := some (.int r5)) hC hW 0 (kX8_isTree c7) (by decide) rfl rfl q895 q897 qs62 q8 q898 ⟨rfl, rfl⟩ ⟨by decide +kernel, by decide +kernel, by decide +kernel⟩ ⟨Nat.le_of_ble_eq_true rfl, Nat.le_of_ble_eq_true rfl⟩ ⟨Nat.zero_le _, Nat.zero_le _⟩ rfl hl.1 rfl (st2 := [.int r5]) rfl (Nat.le_of_ble_eq_true rfl) dX8_agree_10 (fun H locs hW => ?_)
    refine lv_if_eq (tgt := 31) hx hb dX8_agree_13 (by decide) (fun h8 => ?_) (fun h8 => ?_)
    · have hf := it_t h8 hf
      refine lv_iconst (v := (-1)) hx hb dX8_agree_31 (by decide) ?_
      obtain ⟨rfl, rfl⟩ := sp hf
      exact Wd.iret hC hW dX8_agree_32
    · have hf := it_f h8 hf
      refine lv_aload_n hx hb dX8_agree_16 rfl (lv_at hl 0 rfl) ?_
      refine gfX8_40 hC hW 0 (by decide) rfl (q := 9) rfl dX8_agree_17 ?_
      refine lv_iload_n hx hb dX8_agree_20 rfl (lv_at hl 1 rfl) ?_
      obtain ⟨h9, hf⟩ := gd_some hf
      refine Wd.iald hC hW 9 (by decide) rfl h9 dX8_agree_21 ?_
      refine lv_aload_n hx hb dX8_agree_22 rfl (lv_at hl 0 rfl) ?_
      refine gfX8_40 hC hW 0 (by decide) rfl (q := 9) rfl dX8_agree_23 ?_
      refine lv_iload_n hx hb dX8_agree_26 rfl (lv_at hl 2 rfl) ?_
      obtain ⟨h10, hf⟩ := gd_some hf
      refine Wd.iald hC hW 9 (by decide) rfl h10 dX8_agree_27 ?_
      refine lv_icmp_eq (tgt := 33) hx hb dX8_agree_28 (by decide) (fun h11 => ?_) (fun h11 => ?_)
      · have hf := it_t h11 hf
        refine lv_iconst (v := 0) hx hb dX8_agree_33 (by decide) ?_
        refine lv_istore_n (lv' := [(3, .int (0 : Int32)), (0, .ref (ad 0)), (1, .int x1), (2, .int x2)]) hx hb dX8_agree_34 rfl hl (by decide) rfl (fun ls hl => ?_)
        refine lv_iconst (v := 0) hx hb dX8_agree_35 (by decide) ?_
        refine lv_istore (lv' := [(4, .int (0 : Int32)), (3, .int (0 : Int32)), (0, .ref (ad 0)), (1, .int x1), (2, .int x2)]) hx hb dX8_agree_36 hl (by decide) rfl (fun ls hl => ?_)
        exact wX8_agree_38 hC N _ _ _ _ _ _ _ _ hf hW (lv_sub hl [2, 3, 4, 1, 0] rfl)
      · have hf := it_f h11 hf
        refine lv_iconst (v := (-1)) hx hb dX8_agree_31 (by decide) ?_
        obtain ⟨rfl, rfl⟩ := sp hf
        exact Wd.iret hC hW dX8_agree_32
abbrev rmX8_middle : Room := { frames := 2, cells := 0, slots := 0, locals := 42 }
def fX8_middle_171 (N : Nat) (K44 : Int32 → Int32 → Int32 → Int64 → Int32 → St → Option (Int32 × St)) (x1 : Int32) (x2 : Int32) (x3 : Int32) (x4 : Int64) (x6 : Int32) (σ : St) : Option (Int32 × St) := nx (x6 + (1 : Int32)) (fun v1 => (K44 x1 x2 x3 x4 v1 σ))
set_option maxHeartbeats 4000000 in
set_option maxRecDepth 100000 in
theorem wX8_middle_171 (hC : Cx RX8 cX8_middle 10 (some .int) D cA p s m args meth c) {N : Nat} {K44 : Int32 → Int32 → Int32 → Int64 → Int32 → St → Option (Int32 × St)} {x1 : Int32} {x2 : Int32} {x3 : Int32} {x4 : Int64} {x6 : Int32} {σ : St} {r : Int32} {σ' : St} (hK44 : ∀ (x1 : Int32) (x2 : Int32) (x3 : Int32) (x4 : Int64) (x6 : Int32) (σ : St) (H : Heap) (locs : List Loc) (ls : Array Slot), K44 x1 x2 x3 x4 x6 σ = some (r, σ') → Wd kdM 31 D cA ad s σ H locs → lv_has ls 10 [(0, .ref (ad 0)), (1, .int x1), (2, .int x2), (3, .int x3), (4, .long x4), (6, .int x6)] → W p l e rmX8_middle s m args below meth c H locs 0 0 (EndW kdM 31 D cA ad below args s (some (.int r)) σ') (F0 m 44 ls [])) {H : Heap} {locs : List Loc} {ls : Array Slot} (hf : fX8_middle_171 N K44 x1 x2 x3 x4 x6 σ = some (r, σ')) (hW : Wd kdM 31 D cA ad s σ H locs) (hl : lv_has ls 10 [(0, .ref (ad 0)), (1, .int x1), (2, .int x2), (3, .int x3), (4, .long x4), (6, .int x6)]) : W p l e rmX8_middle s m args below meth c H locs 0 0 (EndW kdM 31 D cA ad below args s (some (.int r)) σ') (F0 m 171 ls []) := by
  have hx := hC.1
  have hb := hC.2.1
  have hown := hC.2.2.2.1
  have hts := hC.2.2.2.2.1
  unfold fX8_middle_171 at hf
  obtain ⟨v1, ev1⟩ : ∃ y : Int32, y = x6 + (1 : Int32) := ⟨_, rfl⟩
  have hf := nx_at ev1 hf
  refine lv_iinc (v := v1) (lv' := [(6, .int v1), (0, .ref (ad 0)), (1, .int x1), (2, .int x2), (3, .int x3), (4, .long x4)]) hx hb dX8_middle_171 hl (k := 5) rfl (by rw [ev1]; rfl) (by decide) rfl (fun ls hl => ?_)
  refine lv_goto (tgt := 44) hx hb dX8_middle_174 (by decide) ?_
  exact hK44 _ _ _ _ _ _ _ _ _ hf hW (lv_sub hl [1, 2, 3, 4, 5, 0] rfl)
def fX8_middle_164 (N : Nat) (K44 : Int32 → Int32 → Int32 → Int64 → Int32 → St → Option (Int32 × St)) (x1 : Int32) (x2 : Int32) (x6 : Int32) (x7 : Int64) (σ : St) : Option (Int32 × St) := (fX8_middle_171 N K44 x1 x2 x6 x7 x6 σ)
set_option maxHeartbeats 4000000 in
set_option maxRecDepth 100000 in
theorem wX8_middle_164 (hC : Cx RX8 cX8_middle 10 (some .int) D cA p s m args meth c) {N : Nat} {K44 : Int32 → Int32 → Int32 → Int64 → Int32 → St → Option (Int32 × St)} {x1 : Int32} {x2 : Int32} {x6 : Int32} {x7 : Int64} {σ : St} {r : Int32} {σ' : St} (hK44 : ∀ (x1 : Int32) (x2 : Int32) (x3 : Int32) (x4 : Int64) (x6 : Int32) (σ : St) (H : Heap) (locs : List Loc) (ls : Array Slot), K44 x1 x2 x3 x4 x6 σ = some (r, σ') → Wd kdM 31 D cA ad s σ H locs → lv_has ls 10 [(0, .ref (ad 0)), (1, .int x1), (2, .int x2), (3, .int x3), (4, .long x4), (6, .int x6)] → W p l e rmX8_middle s m args below meth c H locs 0 0 (EndW kdM 31 D cA ad below args s (some (.int r)) σ') (F0 m 44 ls [])) {H : Heap} {locs : List Loc} {ls : Array Slot} (hf : fX8_middle_164 N K44 x1 x2 x6 x7 σ = some (r, σ')) (hW : Wd kdM 31 D cA ad s σ H locs) (hl : lv_has ls 10 [(0, .ref (ad 0)), (1, .int x1), (2, .int x2), (6, .int x6), (7, .long x7)]) : W p l e rmX8_middle s m args below meth c H locs 0 0 (EndW kdM 31 D cA ad below args s (some (.int r)) σ') (F0 m 164 ls []) := by
  have hx := hC.1
  have hb := hC.2.1
  have hown := hC.2.2.2.1
  have hts := hC.2.2.2.2.1
  unfold fX8_middle_164 at hf
  refine lv_iload hx hb dX8_middle_164 (lv_at hl 3 rfl) ?_
  refine lv_istore_n (lv' := [(3, .int x6), (0, .ref (ad 0)), (1, .int x1), (2, .int x2), (6, .int x6), (7, .long x7)]) hx hb dX8_middle_166 rfl hl (by decide) rfl (fun ls hl => ?_)
  refine lv_lload hx hb dX8_middle_167 (lv_at hl 5 rfl) ?_
  refine lv_lstore (lv' := [(4, .long x7), (3, .int x6), (0, .ref (ad 0)), (1, .int x1), (2, .int x2), (6, .int x6), (7, .long x7)]) hx hb dX8_middle_169 hl (by decide) rfl (fun ls hl => ?_)
  exact wX8_middle_171 hC hK44 hf hW (lv_sub hl [2, 3, 4, 1, 0, 5] rfl)
def fX8_middle_143 (N : Nat) (K44 : Int32 → Int32 → Int32 → Int64 → Int32 → St → Option (Int32 × St)) (K88 : Int32 → Int32 → Int32 → Int64 → Int32 → Int64 → Int32 → St → Option (Int32 × St)) (x1 : Int32) (x2 : Int32) (x3 : Int32) (x4 : Int64) (x6 : Int32) (x9 : Int32) (y0 : Int64) (y1 : Int64) (σ : St) : Option (Int32 × St) := nx (y1 + y0) (fun v1 => nx (x9 + (1 : Int32)) (fun v2 => (K88 x1 x2 x3 x4 x6 v1 v2 σ)))
set_option maxHeartbeats 4000000 in
set_option maxRecDepth 100000 in
theorem wX8_middle_143 (hC : Cx RX8 cX8_middle 10 (some .int) D cA p s m args meth c) {N : Nat} {K44 : Int32 → Int32 → Int32 → Int64 → Int32 → St → Option (Int32 × St)} {K88 : Int32 → Int32 → Int32 → Int64 → Int32 → Int64 → Int32 → St → Option (Int32 × St)} {x1 : Int32} {x2 : Int32} {x3 : Int32} {x4 : Int64} {x6 : Int32} {x9 : Int32} {y0 : Int64} {y1 : Int64} {σ : St} {r : Int32} {σ' : St} (hK44 : ∀ (x1 : Int32) (x2 : Int32) (x3 : Int32) (x4 : Int64) (x6 : Int32) (σ : St) (H : Heap) (locs : List Loc) (ls : Array Slot), K44 x1 x2 x3 x4 x6 σ = some (r, σ') → Wd kdM 31 D cA ad s σ H locs → lv_has ls 10 [(0, .ref (ad 0)), (1, .int x1), (2, .int x2), (3, .int x3), (4, .long x4), (6, .int x6)] → W p l e rmX8_middle s m args below meth c H locs 0 0 (EndW kdM 31 D cA ad below args s (some (.int r)) σ') (F0 m 44 ls [])) (hK88 : ∀ (x1 : Int32) (x2 : Int32) (x3 : Int32) (x4 : Int64) (x6 : Int32) (x7 : Int64) (x9 : Int32) (σ : St) (H : Heap) (locs : List Loc) (ls : Array Slot), K88 x1 x2 x3 x4 x6 x7 x9 σ = some (r, σ') → Wd kdM 31 D cA ad s σ H locs → lv_has ls 10 [(0, .ref (ad 0)), (1, .int x1), (2, .int x2), (3, .int x3), (4, .long x4), (6, .int x6), (7, .long x7), (9, .int x9)] → W p l e rmX8_middle s m args below meth c H locs 0 0 (EndW kdM 31 D cA ad below args s (some (.int r)) σ') (F0 m 88 ls [])) {H : Heap} {locs : List Loc} {ls : Array Slot} (hf : fX8_middle_143 N K44 K88 x1 x2 x3 x4 x6 x9 y0 y1 σ = some (r, σ')) (hW : Wd kdM 31 D cA ad s σ H locs) (hl : lv_has ls 10 [(0, .ref (ad 0)), (1, .int x1), (2, .int x2), (3, .int x3), (4, .long x4), (6, .int x6), (9, .int x9)]) : W p l e rmX8_middle s m args below meth c H locs 0 0 (EndW kdM 31 D cA ad below args s (some (.int r)) σ') (F0 m 143 ls [.long y0, .long y1]) := by
  have hx := hC.1
  have hb := hC.2.1
  have hown := hC.2.2.2.1
  have hts := hC.2.2.2.2.1
  unfold fX8_middle_143 at hf
  refine lv_ladd hx hb dX8_middle_143 ?_
  refine lv_topl (fun v1 ev1 => ?_)
  have hf := nx_at ev1 hf
  refine lv_lstore (lv' := [(7, .long v1), (0, .ref (ad 0)), (1, .int x1), (2, .int x2), (3, .int x3), (4, .long x4), (6, .int x6), (9, .int x9)]) hx hb dX8_middle_144 hl (by decide) rfl (fun ls hl => ?_)
  obtain ⟨v2, ev2⟩ : ∃ y : Int32, y = x9 + (1 : Int32) := ⟨_, rfl⟩
  have hf := nx_at ev2 hf
  refine lv_iinc (v := v2) (lv' := [(9, .int v2), (7, .long v1), (0, .ref (ad 0)), (1, .int x1), (2, .int x2), (3, .int x3), (4, .long x4), (6, .int x6)]) hx hb dX8_middle_146 hl (k := 7) rfl (by rw [ev2]; rfl) (by decide) rfl (fun ls hl => ?_)
  refine lv_goto (tgt := 88) hx hb dX8_middle_149 (by decide) ?_
  exact hK88 _ _ _ _ _ _ _ _ _ _ _ hf hW (lv_sub hl [2, 3, 4, 5, 6, 7, 1, 0] rfl)
def fX8_middle_88 (N : Nat) (K44 : Int32 → Int32 → Int32 → Int64 → Int32 → St → Option (Int32 × St)) : Nat → Int32 → Int32 → Int32 → Int64 → Int32 → Int64 → Int32 → St → Option (Int32 × St)
  | 0, _, _, _, _, _, _, _, _ => none
  | n + 1, x1, x2, x3, x4, x6, x7, x9, σ => if (σ.1 0 0) ≤ x9 then if x3 < 0 then (fX8_middle_164 N K44 x1 x2 x6 x7 σ) else if 0 ≤ (lg_cmp x7 x4) then (fX8_middle_171 N K44 x1 x2 x3 x4 x6 σ) else (fX8_middle_164 N K44 x1 x2 x6 x7 σ) else gd (ib (((20 : Int32) * x1) + x9) 80) (gd (ib (((20 : Int32) * x1) + x2) 80) (if (σ.1 18 (((20 : Int32) * x1) + x9).toNatClampNeg) = (σ.1 18 (((20 : Int32) * x1) + x2).toNatClampNeg) then gd (ib (((20 : Int32) * x6) + x9) 400) ((fX8_middle_143 N K44 (fX8_middle_88 N K44 n) x1 x2 x3 x4 x6 x9 ((σ.1 1 (((20 : Int32) * x6) + x9).toNatClampNeg).toInt64) x7 σ)) else (fX8_middle_143 N K44 (fX8_middle_88 N K44 n) x1 x2 x3 x4 x6 x9 (0 : Int64) x7 σ)))
set_option maxHeartbeats 4000000 in
set_option maxRecDepth 100000 in
theorem wX8_middle_88 (hC : Cx RX8 cX8_middle 10 (some .int) D cA p s m args meth c) {N : Nat} {K44 : Int32 → Int32 → Int32 → Int64 → Int32 → St → Option (Int32 × St)} {r : Int32} {σ' : St} (hK44 : ∀ (x1 : Int32) (x2 : Int32) (x3 : Int32) (x4 : Int64) (x6 : Int32) (σ : St) (H : Heap) (locs : List Loc) (ls : Array Slot), K44 x1 x2 x3 x4 x6 σ = some (r, σ') → Wd kdM 31 D cA ad s σ H locs → lv_has ls 10 [(0, .ref (ad 0)), (1, .int x1), (2, .int x2), (3, .int x3), (4, .long x4), (6, .int x6)] → W p l e rmX8_middle s m args below meth c H locs 0 0 (EndW kdM 31 D cA ad below args s (some (.int r)) σ') (F0 m 44 ls [])) : ∀ (n : Nat) (x1 : Int32) (x2 : Int32) (x3 : Int32) (x4 : Int64) (x6 : Int32) (x7 : Int64) (x9 : Int32) (σ : St) (H : Heap) (locs : List Loc) (ls : Array Slot), fX8_middle_88 N K44 n x1 x2 x3 x4 x6 x7 x9 σ = some (r, σ') → Wd kdM 31 D cA ad s σ H locs → lv_has ls 10 [(0, .ref (ad 0)), (1, .int x1), (2, .int x2), (3, .int x3), (4, .long x4), (6, .int x6), (7, .long x7), (9, .int x9)] → W p l e rmX8_middle s m args below meth c H locs 0 0 (EndW kdM 31 D cA ad below args s (some (.int r)) σ') (F0 m 88 ls []) := by
  have hx := hC.1
  have hb := hC.2.1
  have hown := hC.2.2.2.1
  have hts := hC.2.2.2.2.1
  intro n
  induction n with
  | zero =>
    intro x1 x2 x3 x4 x6 x7 x9 σ H locs ls hf
    rw [fX8_middle_88] at hf
    cases hf
  | succ n ih =>
    intro x1 x2 x3 x4 x6 x7 x9 σ H locs ls hf hW hl
    rw [fX8_middle_88] at hf
    refine lv_iload hx hb dX8_middle_88 (lv_at hl 7 rfl) ?_
    refine lv_aload_n hx hb dX8_middle_90 rfl (lv_at hl 0 rfl) ?_
    refine gfX8_107 hC hW 0 (by decide) rfl rfl dX8_middle_91 ?_
    refine lv_icmp_ge (tgt := 152) hx hb dX8_middle_94 (by decide) (fun h1 => ?_) (fun h1 => ?_)
    · have hf := it_t h1 hf
      refine lv_iload_n hx hb dX8_middle_152 rfl (lv_at hl 3 rfl) ?_
      refine lv_if_lt (tgt := 164) hx hb dX8_middle_153 (by decide) (fun h2 => ?_) (fun h2 => ?_)
      · have hf := it_t h2 hf
        exact wX8_middle_164 hC hK44 hf hW (lv_sub hl [0, 1, 2, 5, 6] rfl)
      · have hf := it_f h2 hf
        refine lv_lload hx hb dX8_middle_156 (lv_at hl 6 rfl) ?_
        refine lv_lload hx hb dX8_middle_158 (lv_at hl 4 rfl) ?_
        refine W.lcmp hx hb dX8_middle_160 ?_
        refine lv_if_ge (tgt := 171) hx hb dX8_middle_161 (by decide) (fun h3 => ?_) (fun h3 => ?_)
        · have hf := it_t h3 hf
          exact wX8_middle_171 hC hK44 hf hW (lv_sub hl [0, 1, 2, 3, 4, 5] rfl)
        · have hf := it_f h3 hf
          exact wX8_middle_164 hC hK44 hf hW (lv_sub hl [0, 1, 2, 5, 6] rfl)
    · have hf := it_f h1 hf
      refine lv_lload hx hb dX8_middle_97 (lv_at hl 6 rfl) ?_
      refine lv_aload_n hx hb dX8_middle_99 rfl (lv_at hl 0 rfl) ?_
      refine gfX8_68 hC hW 0 (by decide) rfl (q := 18) rfl dX8_middle_100 ?_
      refine lv_bipush (v := 20) hx hb dX8_middle_103 (by decide) ?_
      refine lv_iload_n hx hb dX8_middle_105 rfl (lv_at hl 1 rfl) ?_
      refine lv_imul hx hb dX8_middle_106 ?_
      refine lv_iload hx hb dX8_middle_107 (lv_at hl 7 rfl) ?_
      refine lv_iadd hx hb dX8_middle_109 ?_
      obtain ⟨h4, hf⟩ := gd_some hf
      refine Wd.iald hC hW 18 (by decide) rfl h4 dX8_middle_110 ?_
      refine lv_aload_n hx hb dX8_middle_111 rfl (lv_at hl 0 rfl) ?_
      refine gfX8_68 hC hW 0 (by decide) rfl (q := 18) rfl dX8_middle_112 ?_
      refine lv_bipush (v := 20) hx hb dX8_middle_115 (by decide) ?_
      refine lv_iload_n hx hb dX8_middle_117 rfl (lv_at hl 1 rfl) ?_
      refine lv_imul hx hb dX8_middle_118 ?_
      refine lv_iload_n hx hb dX8_middle_119 rfl (lv_at hl 2 rfl) ?_
      refine lv_iadd hx hb dX8_middle_120 ?_
      obtain ⟨h5, hf⟩ := gd_some hf
      refine Wd.iald hC hW 18 (by decide) rfl h5 dX8_middle_121 ?_
      refine lv_icmp_ne (tgt := 142) hx hb dX8_middle_122 (by decide) (fun h6 => ?_) (fun h6 => ?_)
      · have hf := it_f h6 hf
        refine lv_lconst (v := 0) hx hb dX8_middle_142 (by decide) ?_
        exact wX8_middle_143 hC hK44 ih hf hW (lv_sub hl [0, 1, 2, 3, 4, 5, 7] rfl)
      · have hf := it_t h6 hf
        refine lv_aload_n hx hb dX8_middle_125 rfl (lv_at hl 0 rfl) ?_
        refine gfX8_7 hC hW 0 (by decide) rfl (q := 1) rfl dX8_middle_126 ?_
        refine lv_bipush (v := 20) hx hb dX8_middle_129 (by decide) ?_
        refine lv_iload hx hb dX8_middle_131 (lv_at hl 5 rfl) ?_
        refine lv_imul hx hb dX8_middle_133 ?_
        refine lv_iload hx hb dX8_middle_134 (lv_at hl 7 rfl) ?_
        refine lv_iadd hx hb dX8_middle_136 ?_
        obtain ⟨h7, hf⟩ := gd_some hf
        refine Wd.iald hC hW 1 (by decide) rfl h7 dX8_middle_137 ?_
        refine lv_i2l (v := (σ.1 1 (((20 : Int32) * x6) + x9).toNatClampNeg).toInt64) hx hb dX8_middle_138 rfl ?_
        refine lv_goto (tgt := 143) hx hb dX8_middle_139 (by decide) ?_
        exact wX8_middle_143 hC hK44 ih hf hW (lv_sub hl [0, 1, 2, 3, 4, 5, 7] rfl)
def fX8_middle_44 (N : Nat) : Nat → Int32 → Int32 → Int32 → Int64 → Int32 → St → Option (Int32 × St)
  | 0, _, _, _, _, _, _ => none
  | n + 1, x1, x2, x3, x4, x6, σ => if (σ.1 0 0) ≤ x6 then some (x3, σ) else gd (ib (((20 : Int32) * x1) + x6) 80) (gd (ib (((20 : Int32) * x1) + x2) 80) (if (σ.1 18 (((20 : Int32) * x1) + x6).toNatClampNeg) = (σ.1 18 (((20 : Int32) * x1) + x2).toNatClampNeg) then (fX8_middle_88 N (fX8_middle_44 N n) N x1 x2 x3 x4 x6 (0 : Int64) (0 : Int32) σ) else (fX8_middle_171 N (fX8_middle_44 N n) x1 x2 x3 x4 x6 σ)))
set_option maxHeartbeats 4000000 in
set_option maxRecDepth 100000 in
theorem wX8_middle_44 (hC : Cx RX8 cX8_middle 10 (some .int) D cA p s m args meth c) {N : Nat} {r : Int32} {σ' : St} : ∀ (n : Nat) (x1 : Int32) (x2 : Int32) (x3 : Int32) (x4 : Int64) (x6 : Int32) (σ : St) (H : Heap) (locs : List Loc) (ls : Array Slot), fX8_middle_44 N n x1 x2 x3 x4 x6 σ = some (r, σ') → Wd kdM 31 D cA ad s σ H locs → lv_has ls 10 [(0, .ref (ad 0)), (1, .int x1), (2, .int x2), (3, .int x3), (4, .long x4), (6, .int x6)] → W p l e rmX8_middle s m args below meth c H locs 0 0 (EndW kdM 31 D cA ad below args s (some (.int r)) σ') (F0 m 44 ls []) := by
  have hx := hC.1
  have hb := hC.2.1
  have hown := hC.2.2.2.1
  have hts := hC.2.2.2.2.1
  intro n
  induction n with
  | zero =>
    intro x1 x2 x3 x4 x6 σ H locs ls hf
    rw [fX8_middle_44] at hf
    cases hf
  | succ n ih =>
    intro x1 x2 x3 x4 x6 σ H locs ls hf hW hl
    rw [fX8_middle_44] at hf
    refine lv_iload hx hb dX8_middle_44 (lv_at hl 5 rfl) ?_
    refine lv_aload_n hx hb dX8_middle_46 rfl (lv_at hl 0 rfl) ?_
    refine gfX8_107 hC hW 0 (by decide) rfl rfl dX8_middle_47 ?_
    refine lv_icmp_ge (tgt := 177) hx hb dX8_middle_50 (by decide) (fun h1 => ?_) (fun h1 => ?_)
    · have hf := it_t h1 hf
      refine lv_iload_n hx hb dX8_middle_177 rfl (lv_at hl 3 rfl) ?_
      obtain ⟨rfl, rfl⟩ := sp hf
      exact Wd.iret hC hW dX8_middle_178
    · have hf := it_f h1 hf
      refine lv_aload_n hx hb dX8_middle_53 rfl (lv_at hl 0 rfl) ?_
      refine gfX8_68 hC hW 0 (by decide) rfl (q := 18) rfl dX8_middle_54 ?_
      refine lv_bipush (v := 20) hx hb dX8_middle_57 (by decide) ?_
      refine lv_iload_n hx hb dX8_middle_59 rfl (lv_at hl 1 rfl) ?_
      refine lv_imul hx hb dX8_middle_60 ?_
      refine lv_iload hx hb dX8_middle_61 (lv_at hl 5 rfl) ?_
      refine lv_iadd hx hb dX8_middle_63 ?_
      obtain ⟨h2, hf⟩ := gd_some hf
      refine Wd.iald hC hW 18 (by decide) rfl h2 dX8_middle_64 ?_
      refine lv_aload_n hx hb dX8_middle_65 rfl (lv_at hl 0 rfl) ?_
      refine gfX8_68 hC hW 0 (by decide) rfl (q := 18) rfl dX8_middle_66 ?_
      refine lv_bipush (v := 20) hx hb dX8_middle_69 (by decide) ?_
      refine lv_iload_n hx hb dX8_middle_71 rfl (lv_at hl 1 rfl) ?_
      refine lv_imul hx hb dX8_middle_72 ?_
      refine lv_iload_n hx hb dX8_middle_73 rfl (lv_at hl 2 rfl) ?_
      refine lv_iadd hx hb dX8_middle_74 ?_
      obtain ⟨h3, hf⟩ := gd_some hf
      refine Wd.iald hC hW 18 (by decide) rfl h3 dX8_middle_75 ?_
      refine lv_icmp_eq (tgt := 82) hx hb dX8_middle_76 (by decide) (fun h4 => ?_) (fun h4 => ?_)
      · have hf := it_t h4 hf
        refine lv_lconst (v := 0) hx hb dX8_middle_82 (by decide) ?_
        refine lv_lstore (lv' := [(7, .long (0 : Int64)), (0, .ref (ad 0)), (1, .int x1), (2, .int x2), (3, .int x3), (4, .long x4), (6, .int x6)]) hx hb dX8_middle_83 hl (by decide) rfl (fun ls hl => ?_)
        refine lv_iconst (v := 0) hx hb dX8_middle_85 (by decide) ?_
        refine lv_istore (lv' := [(9, .int (0 : Int32)), (7, .long (0 : Int64)), (0, .ref (ad 0)), (1, .int x1), (2, .int x2), (3, .int x3), (4, .long x4), (6, .int x6)]) hx hb dX8_middle_86 hl (by decide) rfl (fun ls hl => ?_)
        exact wX8_middle_88 hC ih N _ _ _ _ _ _ _ _ _ _ _ hf hW (lv_sub hl [2, 3, 4, 5, 6, 7, 1, 0] rfl)
      · have hf := it_f h4 hf
        refine lv_goto (tgt := 171) hx hb dX8_middle_79 (by decide) ?_
        exact wX8_middle_171 hC ih hf hW (lv_sub hl [0, 1, 2, 3, 4, 5] rfl)
def fX8_middle (N : Nat) (x1 : Int32) (x2 : Int32) (σ : St) : Option (Int32 × St) := bd (fX8_isTree N x1 σ) (fun r1 s2 => if r1 = 0 then some ((-1 : Int32), s2) else gd (ib x1 4) (bd (fX8_isIn N x2 (s2.1 9 x1.toNatClampNeg) s2) (fun r6 s7 => if r6 = 0 then some ((-1 : Int32), s7) else gd (ib x1 4) (if (s7.1 9 x1.toNatClampNeg) = (s7.1 0 0) then (fX8_middle_44 N N x1 x2 (-1 : Int32) (0 : Int64) (0 : Int32) s7) else some ((-1 : Int32), s7)))))
set_option maxHeartbeats 4000000 in
set_option maxRecDepth 100000 in
theorem kX8_middle {l : Launch} {D : va_G} {cA : Nat → ClassId} {ad : Nat → Nat} {N : Nat} {x1 : Int32} {x2 : Int32} {σ : St} {r : Int32} {σ' : St} (hf : fX8_middle N x1 x2 σ = some (r, σ')) : MW kdM 31 l D cA ad ⟨RX8, "middle", "(II)I"⟩ cX8_middle 10 (some .int) rmX8_middle [.ref (ad 0), .int x1, .int x2] σ (some (.int r)) σ' := by
  refine MW.of (by decide) (Nat.le_of_ble_eq_true rfl) ?_
  intro p e s m args below meth c ls hC hW hl
  have hx := hC.1
  have hb := hC.2.1
  have hown := hC.2.2.2.1
  have hts := hC.2.2.2.2.1
  have hl : lv_has ls 10 [(0, .ref (ad 0)), (1, .int x1), (2, .int x2)] := hl
  unfold fX8_middle at hf
  refine lv_aload_n hx hb dX8_middle_0 rfl (lv_at hl 0 rfl) ?_
  refine lv_iload_n hx hb dX8_middle_1 rfl (lv_at hl 1 rfl) ?_
  obtain ⟨r1, s2, c3, hf⟩ := bd_some hf
  refine Wd.callV (n := 1) (As := [.int x1]) (rest := []) (rv := some (.int r1)) hC hW 0 (kX8_isTree c3) (by decide) rfl rfl q895 q897 qs62 q8 q898 ⟨rfl, rfl⟩ ⟨by decide +kernel, by decide +kernel, by decide +kernel⟩ ⟨Nat.le_of_ble_eq_true rfl, Nat.le_of_ble_eq_true rfl⟩ ⟨Nat.zero_le _, Nat.zero_le _⟩ rfl hl.1 rfl (st2 := [.int r1]) rfl (Nat.le_of_ble_eq_true rfl) dX8_middle_2 (fun H locs hW => ?_)
  refine lv_if_eq (tgt := 34) hx hb dX8_middle_5 (by decide) (fun h4 => ?_) (fun h4 => ?_)
  · have hf := it_t h4 hf
    refine lv_iconst (v := (-1)) hx hb dX8_middle_34 (by decide) ?_
    obtain ⟨rfl, rfl⟩ := sp hf
    exact Wd.iret hC hW dX8_middle_35
  · have hf := it_f h4 hf
    refine lv_iload_n hx hb dX8_middle_8 rfl (lv_at hl 2 rfl) ?_
    refine lv_aload_n hx hb dX8_middle_9 rfl (lv_at hl 0 rfl) ?_
    refine gfX8_40 hC hW 0 (by decide) rfl (q := 9) rfl dX8_middle_10 ?_
    refine lv_iload_n hx hb dX8_middle_13 rfl (lv_at hl 1 rfl) ?_
    obtain ⟨h5, hf⟩ := gd_some hf
    refine Wd.iald hC hW 9 (by decide) rfl h5 dX8_middle_14 ?_
    obtain ⟨r6, s7, c8, hf⟩ := bd_some hf
    refine Wd.callS (n := 2) (As := [.int x2, .int (s2.1 9 x1.toNatClampNeg)]) (rest := []) (rv := some (.int r6)) hC hW (kX8_isIn c8) q762 q763 q8 q764 ⟨rfl, rfl⟩ ⟨by decide +kernel, by decide +kernel, by decide +kernel⟩ ⟨Nat.le_of_ble_eq_true rfl, Nat.le_of_ble_eq_true rfl⟩ ⟨Nat.zero_le _, Nat.zero_le _⟩ rfl hl.1 rfl (st2 := [.int r6]) rfl (Nat.le_of_ble_eq_true rfl) dX8_middle_15 (fun H locs hW => ?_)
    refine lv_if_eq (tgt := 34) hx hb dX8_middle_18 (by decide) (fun h9 => ?_) (fun h9 => ?_)
    · have hf := it_t h9 hf
      refine lv_iconst (v := (-1)) hx hb dX8_middle_34 (by decide) ?_
      obtain ⟨rfl, rfl⟩ := sp hf
      exact Wd.iret hC hW dX8_middle_35
    · have hf := it_f h9 hf
      refine lv_aload_n hx hb dX8_middle_21 rfl (lv_at hl 0 rfl) ?_
      refine gfX8_40 hC hW 0 (by decide) rfl (q := 9) rfl dX8_middle_22 ?_
      refine lv_iload_n hx hb dX8_middle_25 rfl (lv_at hl 1 rfl) ?_
      obtain ⟨h10, hf⟩ := gd_some hf
      refine Wd.iald hC hW 9 (by decide) rfl h10 dX8_middle_26 ?_
      refine lv_aload_n hx hb dX8_middle_27 rfl (lv_at hl 0 rfl) ?_
      refine gfX8_107 hC hW 0 (by decide) rfl rfl dX8_middle_28 ?_
      refine lv_icmp_eq (tgt := 36) hx hb dX8_middle_31 (by decide) (fun h11 => ?_) (fun h11 => ?_)
      · have hf := it_t h11 hf
        refine lv_iconst (v := (-1)) hx hb dX8_middle_36 (by decide) ?_
        refine lv_istore_n (lv' := [(3, .int (-1 : Int32)), (0, .ref (ad 0)), (1, .int x1), (2, .int x2)]) hx hb dX8_middle_37 rfl hl (by decide) rfl (fun ls hl => ?_)
        refine lv_lconst (v := 0) hx hb dX8_middle_38 (by decide) ?_
        refine lv_lstore (lv' := [(4, .long (0 : Int64)), (3, .int (-1 : Int32)), (0, .ref (ad 0)), (1, .int x1), (2, .int x2)]) hx hb dX8_middle_39 hl (by decide) rfl (fun ls hl => ?_)
        refine lv_iconst (v := 0) hx hb dX8_middle_41 (by decide) ?_
        refine lv_istore (lv' := [(6, .int (0 : Int32)), (4, .long (0 : Int64)), (3, .int (-1 : Int32)), (0, .ref (ad 0)), (1, .int x1), (2, .int x2)]) hx hb dX8_middle_42 hl (by decide) rfl (fun ls hl => ?_)
        exact wX8_middle_44 hC N _ _ _ _ _ _ _ _ _ hf hW (lv_sub hl [3, 4, 5, 2, 1, 0] rfl)
      · have hf := it_f h11 hf
        refine lv_iconst (v := (-1)) hx hb dX8_middle_34 (by decide) ?_
        obtain ⟨rfl, rfl⟩ := sp hf
        exact Wd.iret hC hW dX8_middle_35
end
