section
variable {D : va_G} {cA : Nat → ClassId} {ad : Nat → Nat} {p : Program} {l : Launch} {e : Env} {s : State} {m : MethodId} {args : Array Value} {below : List Frame} {meth : Method} {c : Code}
abbrev rmX8_weighted : Room := { frames := 1, cells := 0, slots := 0, locals := 24 }
def fX8_weighted_90 (N : Nat) (K5 : Int32 → Int32 → Int64 → Int32 → St → Option (Int64 × St)) (x1 : Int32) (x2 : Int32) (x3 : Int64) (x5 : Int32) (σ : St) : Option (Int64 × St) := nx (x5 + (1 : Int32)) (fun v1 => (K5 x1 x2 x3 v1 σ))
set_option maxHeartbeats 4000000 in
set_option maxRecDepth 100000 in
theorem wX8_weighted_90 (hC : Cx RX8 cX8_weighted 8 (some .long) D cA p s m args meth c) {N : Nat} {K5 : Int32 → Int32 → Int64 → Int32 → St → Option (Int64 × St)} {x1 : Int32} {x2 : Int32} {x3 : Int64} {x5 : Int32} {σ : St} {r : Int64} {σ' : St} (hK5 : ∀ (x1 : Int32) (x2 : Int32) (x3 : Int64) (x5 : Int32) (σ : St) (H : Heap) (locs : List Loc) (ls : Array Slot), K5 x1 x2 x3 x5 σ = some (r, σ') → Wd kdM 31 D cA ad s σ H locs → lv_has ls 8 [(0, .ref (ad 0)), (1, .int x1), (2, .int x2), (3, .long x3), (5, .int x5)] → W p l e rmX8_weighted s m args below meth c H locs 0 0 (EndW kdM 31 D cA ad below args s (some (.long r)) σ') (F0 m 5 ls [])) {H : Heap} {locs : List Loc} {ls : Array Slot} (hf : fX8_weighted_90 N K5 x1 x2 x3 x5 σ = some (r, σ')) (hW : Wd kdM 31 D cA ad s σ H locs) (hl : lv_has ls 8 [(0, .ref (ad 0)), (1, .int x1), (2, .int x2), (3, .long x3), (5, .int x5)]) : W p l e rmX8_weighted s m args below meth c H locs 0 0 (EndW kdM 31 D cA ad below args s (some (.long r)) σ') (F0 m 90 ls []) := by
  have hx := hC.1
  have hb := hC.2.1
  have hown := hC.2.2.2.1
  have hts := hC.2.2.2.2.1
  unfold fX8_weighted_90 at hf
  obtain ⟨v1, ev1⟩ : ∃ y : Int32, y = x5 + (1 : Int32) := ⟨_, rfl⟩
  have hf := nx_at ev1 hf
  refine lv_iinc (v := v1) (lv' := [(5, .int v1), (0, .ref (ad 0)), (1, .int x1), (2, .int x2), (3, .long x3)]) hx hb dX8_weighted_90 hl (k := 4) rfl (by rw [ev1]; rfl) (by decide) rfl (fun ls hl => ?_)
  refine lv_goto (tgt := 5) hx hb dX8_weighted_93 (by decide) ?_
  exact hK5 _ _ _ _ _ _ _ _ hf hW (lv_sub hl [1, 2, 3, 4, 0] rfl)
def fX8_weighted_84 (N : Nat) (K5 : Int32 → Int32 → Int64 → Int32 → St → Option (Int64 × St)) (K36 : Int32 → Int32 → Int64 → Int32 → Int32 → Int32 → St → Option (Int64 × St)) (x1 : Int32) (x2 : Int32) (x3 : Int64) (x5 : Int32) (x6 : Int32) (x7 : Int32) (σ : St) : Option (Int64 × St) := nx (x7 + (1 : Int32)) (fun v1 => (K36 x1 x2 x3 x5 x6 v1 σ))
set_option maxHeartbeats 4000000 in
set_option maxRecDepth 100000 in
theorem wX8_weighted_84 (hC : Cx RX8 cX8_weighted 8 (some .long) D cA p s m args meth c) {N : Nat} {K5 : Int32 → Int32 → Int64 → Int32 → St → Option (Int64 × St)} {K36 : Int32 → Int32 → Int64 → Int32 → Int32 → Int32 → St → Option (Int64 × St)} {x1 : Int32} {x2 : Int32} {x3 : Int64} {x5 : Int32} {x6 : Int32} {x7 : Int32} {σ : St} {r : Int64} {σ' : St} (hK5 : ∀ (x1 : Int32) (x2 : Int32) (x3 : Int64) (x5 : Int32) (σ : St) (H : Heap) (locs : List Loc) (ls : Array Slot), K5 x1 x2 x3 x5 σ = some (r, σ') → Wd kdM 31 D cA ad s σ H locs → lv_has ls 8 [(0, .ref (ad 0)), (1, .int x1), (2, .int x2), (3, .long x3), (5, .int x5)] → W p l e rmX8_weighted s m args below meth c H locs 0 0 (EndW kdM 31 D cA ad below args s (some (.long r)) σ') (F0 m 5 ls [])) (hK36 : ∀ (x1 : Int32) (x2 : Int32) (x3 : Int64) (x5 : Int32) (x6 : Int32) (x7 : Int32) (σ : St) (H : Heap) (locs : List Loc) (ls : Array Slot), K36 x1 x2 x3 x5 x6 x7 σ = some (r, σ') → Wd kdM 31 D cA ad s σ H locs → lv_has ls 8 [(0, .ref (ad 0)), (1, .int x1), (2, .int x2), (3, .long x3), (5, .int x5), (6, .int x6), (7, .int x7)] → W p l e rmX8_weighted s m args below meth c H locs 0 0 (EndW kdM 31 D cA ad below args s (some (.long r)) σ') (F0 m 36 ls [])) {H : Heap} {locs : List Loc} {ls : Array Slot} (hf : fX8_weighted_84 N K5 K36 x1 x2 x3 x5 x6 x7 σ = some (r, σ')) (hW : Wd kdM 31 D cA ad s σ H locs) (hl : lv_has ls 8 [(0, .ref (ad 0)), (1, .int x1), (2, .int x2), (3, .long x3), (5, .int x5), (6, .int x6), (7, .int x7)]) : W p l e rmX8_weighted s m args below meth c H locs 0 0 (EndW kdM 31 D cA ad below args s (some (.long r)) σ') (F0 m 84 ls []) := by
  have hx := hC.1
  have hb := hC.2.1
  have hown := hC.2.2.2.1
  have hts := hC.2.2.2.2.1
  unfold fX8_weighted_84 at hf
  obtain ⟨v1, ev1⟩ : ∃ y : Int32, y = x7 + (1 : Int32) := ⟨_, rfl⟩
  have hf := nx_at ev1 hf
  refine lv_iinc (v := v1) (lv' := [(7, .int v1), (0, .ref (ad 0)), (1, .int x1), (2, .int x2), (3, .long x3), (5, .int x5), (6, .int x6)]) hx hb dX8_weighted_84 hl (k := 6) rfl (by rw [ev1]; rfl) (by decide) rfl (fun ls hl => ?_)
  refine lv_goto (tgt := 36) hx hb dX8_weighted_87 (by decide) ?_
  exact hK36 _ _ _ _ _ _ _ _ _ _ hf hW (lv_sub hl [1, 2, 3, 4, 5, 6, 0] rfl)
def fX8_weighted_36 (N : Nat) (K5 : Int32 → Int32 → Int64 → Int32 → St → Option (Int64 × St)) : Nat → Int32 → Int32 → Int64 → Int32 → Int32 → Int32 → St → Option (Int64 × St)
  | 0, _, _, _, _, _, _, _ => none
  | n + 1, x1, x2, x3, x5, x6, x7, σ => if (20 : Int32) ≤ x7 then (fX8_weighted_90 N K5 x1 x2 x3 x5 σ) else if ((x2 >>> (x7 &&& 31)) &&& (1 : Int32)) = (1 : Int32) then gd (ib (((20 : Int32) * x5) + x7) 400) (bd (fX8_deep N x7 x2 σ) (fun r4 s5 => nx (x3 + ((σ.1 1 (((20 : Int32) * x5) + x7).toNatClampNeg).toInt64 <<< ((((18 : Int32) - x6) - r4).toInt64 &&& 63))) (fun v7 => (fX8_weighted_84 N K5 (fX8_weighted_36 N K5 n) x1 x2 v7 x5 x6 x7 s5)))) else (fX8_weighted_84 N K5 (fX8_weighted_36 N K5 n) x1 x2 x3 x5 x6 x7 σ)
set_option maxHeartbeats 4000000 in
set_option maxRecDepth 100000 in
theorem wX8_weighted_36 (hC : Cx RX8 cX8_weighted 8 (some .long) D cA p s m args meth c) {N : Nat} {K5 : Int32 → Int32 → Int64 → Int32 → St → Option (Int64 × St)} {r : Int64} {σ' : St} (hK5 : ∀ (x1 : Int32) (x2 : Int32) (x3 : Int64) (x5 : Int32) (σ : St) (H : Heap) (locs : List Loc) (ls : Array Slot), K5 x1 x2 x3 x5 σ = some (r, σ') → Wd kdM 31 D cA ad s σ H locs → lv_has ls 8 [(0, .ref (ad 0)), (1, .int x1), (2, .int x2), (3, .long x3), (5, .int x5)] → W p l e rmX8_weighted s m args below meth c H locs 0 0 (EndW kdM 31 D cA ad below args s (some (.long r)) σ') (F0 m 5 ls [])) : ∀ (n : Nat) (x1 : Int32) (x2 : Int32) (x3 : Int64) (x5 : Int32) (x6 : Int32) (x7 : Int32) (σ : St) (H : Heap) (locs : List Loc) (ls : Array Slot), fX8_weighted_36 N K5 n x1 x2 x3 x5 x6 x7 σ = some (r, σ') → Wd kdM 31 D cA ad s σ H locs → lv_has ls 8 [(0, .ref (ad 0)), (1, .int x1), (2, .int x2), (3, .long x3), (5, .int x5), (6, .int x6), (7, .int x7)] → W p l e rmX8_weighted s m args below meth c H locs 0 0 (EndW kdM 31 D cA ad below args s (some (.long r)) σ') (F0 m 36 ls []) := by
  have hx := hC.1
  have hb := hC.2.1
  have hown := hC.2.2.2.1
  have hts := hC.2.2.2.2.1
  intro n
  induction n with
  | zero =>
    intro x1 x2 x3 x5 x6 x7 σ H locs ls hf
    rw [fX8_weighted_36] at hf
    cases hf
  | succ n ih =>
    intro x1 x2 x3 x5 x6 x7 σ H locs ls hf hW hl
    rw [fX8_weighted_36] at hf
    refine lv_iload hx hb dX8_weighted_36 (lv_at hl 6 rfl) ?_
    refine lv_bipush (v := 20) hx hb dX8_weighted_38 (by decide) ?_
    refine lv_icmp_ge (tgt := 90) hx hb dX8_weighted_40 (by decide) (fun h1 => ?_) (fun h1 => ?_)
    · have hf := it_t h1 hf
      exact wX8_weighted_90 hC hK5 hf hW (lv_sub hl [0, 1, 2, 3, 4] rfl)
    · have hf := it_f h1 hf
      refine lv_iload_n hx hb dX8_weighted_43 rfl (lv_at hl 2 rfl) ?_
      refine lv_iload hx hb dX8_weighted_44 (lv_at hl 6 rfl) ?_
      refine lv_ishr hx hb dX8_weighted_46 ?_
      refine lv_iconst (v := 1) hx hb dX8_weighted_47 (by decide) ?_
      refine lv_iand hx hb dX8_weighted_48 ?_
      refine lv_iconst (v := 1) hx hb dX8_weighted_49 (by decide) ?_
      refine lv_icmp_ne (tgt := 84) hx hb dX8_weighted_50 (by decide) (fun h2 => ?_) (fun h2 => ?_)
      · have hf := it_f h2 hf
        exact wX8_weighted_84 hC hK5 ih hf hW (lv_sub hl [0, 1, 2, 3, 4, 5, 6] rfl)
      · have hf := it_t h2 hf
        refine lv_lload_n hx hb dX8_weighted_53 rfl (lv_at hl 3 rfl) ?_
        refine lv_aload_n hx hb dX8_weighted_54 rfl (lv_at hl 0 rfl) ?_
        refine gfX8_7 hC hW 0 (by decide) rfl (q := 1) rfl dX8_weighted_55 ?_
        refine lv_bipush (v := 20) hx hb dX8_weighted_58 (by decide) ?_
        refine lv_iload hx hb dX8_weighted_60 (lv_at hl 4 rfl) ?_
        refine lv_imul hx hb dX8_weighted_62 ?_
        refine lv_iload hx hb dX8_weighted_63 (lv_at hl 6 rfl) ?_
        refine lv_iadd hx hb dX8_weighted_65 ?_
        obtain ⟨h3, hf⟩ := gd_some hf
        refine Wd.iald hC hW 1 (by decide) rfl h3 dX8_weighted_66 ?_
        refine lv_i2l (v := (σ.1 1 (((20 : Int32) * x5) + x7).toNatClampNeg).toInt64) hx hb dX8_weighted_67 rfl ?_
        refine lv_bipush (v := 18) hx hb dX8_weighted_68 (by decide) ?_
        refine lv_iload hx hb dX8_weighted_70 (lv_at hl 5 rfl) ?_
        refine lv_isub hx hb dX8_weighted_72 ?_
        refine lv_aload_n hx hb dX8_weighted_73 rfl (lv_at hl 0 rfl) ?_
        refine lv_iload hx hb dX8_weighted_74 (lv_at hl 6 rfl) ?_
        refine lv_iload_n hx hb dX8_weighted_76 rfl (lv_at hl 2 rfl) ?_
        obtain ⟨r4, s5, c6, hf⟩ := bd_some hf
        refine Wd.callV (n := 2) (As := [.int x7, .int x2]) (rest := [.int ((18 : Int32) - x6), .long ((σ.1 1 (((20 : Int32) * x5) + x7).toNatClampNeg).toInt64), .long x3]) (rv := some (.int r4)) hC hW 0 (kX8_deep c6) (by decide) rfl rfl q855 q857 qs56 q8 q858 ⟨rfl, rfl⟩ ⟨by decide +kernel, by decide +kernel, by decide +kernel⟩ ⟨Nat.le_of_ble_eq_true rfl, Nat.le_of_ble_eq_true rfl⟩ ⟨Nat.zero_le _, Nat.zero_le _⟩ rfl hl.1 rfl (st2 := [.int r4, .int ((18 : Int32) - x6), .long ((σ.1 1 (((20 : Int32) * x5) + x7).toNatClampNeg).toInt64), .long x3]) rfl (Nat.le_of_ble_eq_true rfl) dX8_weighted_77 (fun H locs hW => ?_)
        refine lv_isub hx hb dX8_weighted_80 ?_
        refine lv_lshl (v := ((σ.1 1 (((20 : Int32) * x5) + x7).toNatClampNeg).toInt64 <<< ((((18 : Int32) - x6) - r4).toInt64 &&& 63))) hx hb dX8_weighted_81 rfl ?_
        refine lv_ladd hx hb dX8_weighted_82 ?_
        refine lv_topl (fun v7 ev7 => ?_)
        have hf := nx_at ev7 hf
        refine lv_lstore_n (lv' := [(3, .long v7), (0, .ref (ad 0)), (1, .int x1), (2, .int x2), (5, .int x5), (6, .int x6), (7, .int x7)]) hx hb dX8_weighted_83 rfl hl (by decide) rfl (fun ls hl => ?_)
        exact wX8_weighted_84 hC hK5 ih hf hW (lv_sub hl [1, 2, 3, 0, 4, 5, 6] rfl)
def fX8_weighted_5 (N : Nat) : Nat → Int32 → Int32 → Int64 → Int32 → St → Option (Int64 × St)
  | 0, _, _, _, _, _ => none
  | n + 1, x1, x2, x3, x5, σ => if (20 : Int32) ≤ x5 then some (x3, σ) else if ((x1 >>> (x5 &&& 31)) &&& (1 : Int32)) = 0 then (fX8_weighted_90 N (fX8_weighted_5 N n) x1 x2 x3 x5 σ) else bd (fX8_deep N x5 x1 σ) (fun r3 s4 => (fX8_weighted_36 N (fX8_weighted_5 N n) N x1 x2 x3 x5 r3 (0 : Int32) s4))
set_option maxHeartbeats 4000000 in
set_option maxRecDepth 100000 in
theorem wX8_weighted_5 (hC : Cx RX8 cX8_weighted 8 (some .long) D cA p s m args meth c) {N : Nat} {r : Int64} {σ' : St} : ∀ (n : Nat) (x1 : Int32) (x2 : Int32) (x3 : Int64) (x5 : Int32) (σ : St) (H : Heap) (locs : List Loc) (ls : Array Slot), fX8_weighted_5 N n x1 x2 x3 x5 σ = some (r, σ') → Wd kdM 31 D cA ad s σ H locs → lv_has ls 8 [(0, .ref (ad 0)), (1, .int x1), (2, .int x2), (3, .long x3), (5, .int x5)] → W p l e rmX8_weighted s m args below meth c H locs 0 0 (EndW kdM 31 D cA ad below args s (some (.long r)) σ') (F0 m 5 ls []) := by
  have hx := hC.1
  have hb := hC.2.1
  have hown := hC.2.2.2.1
  have hts := hC.2.2.2.2.1
  intro n
  induction n with
  | zero =>
    intro x1 x2 x3 x5 σ H locs ls hf
    rw [fX8_weighted_5] at hf
    cases hf
  | succ n ih =>
    intro x1 x2 x3 x5 σ H locs ls hf hW hl
    rw [fX8_weighted_5] at hf
    refine lv_iload hx hb dX8_weighted_5 (lv_at hl 4 rfl) ?_
    refine lv_bipush (v := 20) hx hb dX8_weighted_7 (by decide) ?_
    refine lv_icmp_ge (tgt := 96) hx hb dX8_weighted_9 (by decide) (fun h1 => ?_) (fun h1 => ?_)
    · have hf := it_t h1 hf
      refine lv_lload_n hx hb dX8_weighted_96 rfl (lv_at hl 3 rfl) ?_
      obtain ⟨rfl, rfl⟩ := sp hf
      exact Wd.lret hC hW dX8_weighted_97
    · have hf := it_f h1 hf
      refine lv_iload_n hx hb dX8_weighted_12 rfl (lv_at hl 1 rfl) ?_
      refine lv_iload hx hb dX8_weighted_13 (lv_at hl 4 rfl) ?_
      refine lv_ishr hx hb dX8_weighted_15 ?_
      refine lv_iconst (v := 1) hx hb dX8_weighted_16 (by decide) ?_
      refine lv_iand hx hb dX8_weighted_17 ?_
      refine lv_if_ne (tgt := 24) hx hb dX8_weighted_18 (by decide) (fun h2 => ?_) (fun h2 => ?_)
      · have hf := it_f h2 hf
        refine lv_aload_n hx hb dX8_weighted_24 rfl (lv_at hl 0 rfl) ?_
        refine lv_iload hx hb dX8_weighted_25 (lv_at hl 4 rfl) ?_
        refine lv_iload_n hx hb dX8_weighted_27 rfl (lv_at hl 1 rfl) ?_
        obtain ⟨r3, s4, c5, hf⟩ := bd_some hf
        refine Wd.callV (n := 2) (As := [.int x5, .int x1]) (rest := []) (rv := some (.int r3)) hC hW 0 (kX8_deep c5) (by decide) rfl rfl q855 q857 qs56 q8 q858 ⟨rfl, rfl⟩ ⟨by decide +kernel, by decide +kernel, by decide +kernel⟩ ⟨Nat.le_of_ble_eq_true rfl, Nat.le_of_ble_eq_true rfl⟩ ⟨Nat.zero_le _, Nat.zero_le _⟩ rfl hl.1 rfl (st2 := [.int r3]) rfl (Nat.le_of_ble_eq_true rfl) dX8_weighted_28 (fun H locs hW => ?_)
        refine lv_istore (lv' := [(6, .int r3), (0, .ref (ad 0)), (1, .int x1), (2, .int x2), (3, .long x3), (5, .int x5)]) hx hb dX8_weighted_31 hl (by decide) rfl (fun ls hl => ?_)
        refine lv_iconst (v := 0) hx hb dX8_weighted_33 (by decide) ?_
        refine lv_istore (lv' := [(7, .int (0 : Int32)), (6, .int r3), (0, .ref (ad 0)), (1, .int x1), (2, .int x2), (3, .long x3), (5, .int x5)]) hx hb dX8_weighted_34 hl (by decide) rfl (fun ls hl => ?_)
        exact wX8_weighted_36 hC ih N _ _ _ _ _ _ _ _ _ _ hf hW (lv_sub hl [2, 3, 4, 5, 6, 1, 0] rfl)
      · have hf := it_t h2 hf
        refine lv_goto (tgt := 90) hx hb dX8_weighted_21 (by decide) ?_
        exact wX8_weighted_90 hC ih hf hW (lv_sub hl [0, 1, 2, 3, 4] rfl)
def fX8_weighted (N : Nat) (x1 : Int32) (x2 : Int32) (σ : St) : Option (Int64 × St) := (fX8_weighted_5 N N x1 x2 (0 : Int64) (0 : Int32) σ)
set_option maxHeartbeats 4000000 in
set_option maxRecDepth 100000 in
theorem kX8_weighted {l : Launch} {D : va_G} {cA : Nat → ClassId} {ad : Nat → Nat} {N : Nat} {x1 : Int32} {x2 : Int32} {σ : St} {r : Int64} {σ' : St} (hf : fX8_weighted N x1 x2 σ = some (r, σ')) : MW kdM 31 l D cA ad ⟨RX8, "weighted", "(II)J"⟩ cX8_weighted 8 (some .long) rmX8_weighted [.ref (ad 0), .int x1, .int x2] σ (some (.long r)) σ' := by
  refine MW.of (by decide) (Nat.le_of_ble_eq_true rfl) ?_
  intro p e s m args below meth c ls hC hW hl
  have hx := hC.1
  have hb := hC.2.1
  have hown := hC.2.2.2.1
  have hts := hC.2.2.2.2.1
  have hl : lv_has ls 8 [(0, .ref (ad 0)), (1, .int x1), (2, .int x2)] := hl
  unfold fX8_weighted at hf
  refine lv_lconst (v := 0) hx hb dX8_weighted_0 (by decide) ?_
  refine lv_lstore_n (lv' := [(3, .long (0 : Int64)), (0, .ref (ad 0)), (1, .int x1), (2, .int x2)]) hx hb dX8_weighted_1 rfl hl (by decide) rfl (fun ls hl => ?_)
  refine lv_iconst (v := 0) hx hb dX8_weighted_2 (by decide) ?_
  refine lv_istore (lv' := [(5, .int (0 : Int32)), (3, .long (0 : Int64)), (0, .ref (ad 0)), (1, .int x1), (2, .int x2)]) hx hb dX8_weighted_3 hl (by decide) rfl (fun ls hl => ?_)
  exact wX8_weighted_5 hC N _ _ _ _ _ _ _ _ hf hW (lv_sub hl [2, 3, 4, 1, 0] rfl)
abbrev rmX8_link : Room := { frames := 2, cells := 0, slots := 0, locals := 51 }
def fX8_link (N : Nat) (x1 : Int32) (x2 : Int32) (x3 : Int32) (σ : St) : Option (Unit × St) := bd (fX8_many N x2 σ) (fun r1 s2 => nx r1.toInt64 (fun v4 => bd (fX8_many N x3 s2) (fun r5 s6 => nx r5.toInt64 (fun v8 => nx x1 (fun sw => if sw = (0 : Int32) then bd (fX8_extreme N x2 x3 (0 : Int32) s6) (fun r9 s10 => bd (fX8_lowest N r9.toInt64 (1 : Int64) s10) (fun r12 s13 => some ((), s13))) else if sw = (1 : Int32) then bd (fX8_extreme N x2 x3 (1 : Int32) s6) (fun r15 s16 => bd (fX8_lowest N r15.toInt64 (1 : Int64) s16) (fun r18 s19 => some ((), s19))) else if sw = (2 : Int32) then bd (fX8_between N x2 x3 s6) (fun r21 s22 => bd (fX8_lowest N r21 (v4 * v8) s22) (fun r24 s25 => some ((), s25))) else if sw = (3 : Int32) then bd (fX8_between N x2 x3 s6) (fun r27 s28 => bd (fX8_between N x2 x2 s28) (fun r30 s31 => bd (fX8_between N x3 x3 s31) (fun r33 s34 => bd (fX8_lowest N ((((((2 : Int64) * v4) * v8) * r27) - ((v8 * v8) * r30)) - ((v4 * v4) * r33)) ((v4 * v8) * (v4 + v8)) s34) (fun r36 s37 => some ((), s37))))) else bd (fX8_weighted N x2 x3 s6) (fun r39 s40 => bd (fX8_lowest N r39 (262144 : Int64) s40) (fun r42 s43 => some ((), s43))))))))
set_option maxHeartbeats 4000000 in
set_option maxRecDepth 100000 in
theorem kX8_link {l : Launch} {D : va_G} {cA : Nat → ClassId} {ad : Nat → Nat} {N : Nat} {x1 : Int32} {x2 : Int32} {x3 : Int32} {σ : St} {r : Unit} {σ' : St} (hf : fX8_link N x1 x2 x3 σ = some (r, σ')) : MW kdM 31 l D cA ad ⟨RX8, "link", "(III)V"⟩ cX8_link 8 none rmX8_link [.ref (ad 0), .int x1, .int x2, .int x3] σ none σ' := by
  refine MW.of (by decide) (Nat.le_of_ble_eq_true rfl) ?_
  intro p e s m args below meth c ls hC hW hl
  have hx := hC.1
  have hb := hC.2.1
  have hown := hC.2.2.2.1
  have hts := hC.2.2.2.2.1
  have hl : lv_has ls 8 [(0, .ref (ad 0)), (1, .int x1), (2, .int x2), (3, .int x3)] := hl
  unfold fX8_link at hf
  refine lv_iload_n hx hb dX8_link_0 rfl (lv_at hl 2 rfl) ?_
  obtain ⟨r1, s2, c3, hf⟩ := bd_some hf
  refine Wd.callS (n := 1) (As := [.int x2]) (rest := []) (rv := some (.int r1)) hC hW (kX8_many c3) q835 q836 q8 q837 ⟨rfl, rfl⟩ ⟨by decide +kernel, by decide +kernel, by decide +kernel⟩ ⟨Nat.le_of_ble_eq_true rfl, Nat.le_of_ble_eq_true rfl⟩ ⟨Nat.zero_le _, Nat.zero_le _⟩ rfl hl.1 rfl (st2 := [.int r1]) rfl (Nat.le_of_ble_eq_true rfl) dX8_link_1 (fun H locs hW => ?_)
  refine lv_i2l (v := r1.toInt64) hx hb dX8_link_4 rfl ?_
  refine lv_topl (fun v4 ev4 => ?_)
  have hf := nx_at ev4 hf
  refine lv_lstore (lv' := [(4, .long v4), (0, .ref (ad 0)), (1, .int x1), (2, .int x2), (3, .int x3)]) hx hb dX8_link_5 hl (by decide) rfl (fun ls hl => ?_)
  refine lv_iload_n hx hb dX8_link_7 rfl (lv_at hl 4 rfl) ?_
  obtain ⟨r5, s6, c7, hf⟩ := bd_some hf
  refine Wd.callS (n := 1) (As := [.int x3]) (rest := []) (rv := some (.int r5)) hC hW (kX8_many c7) q835 q836 q8 q837 ⟨rfl, rfl⟩ ⟨by decide +kernel, by decide +kernel, by decide +kernel⟩ ⟨Nat.le_of_ble_eq_true rfl, Nat.le_of_ble_eq_true rfl⟩ ⟨Nat.zero_le _, Nat.zero_le _⟩ rfl hl.1 rfl (st2 := [.int r5]) rfl (Nat.le_of_ble_eq_true rfl) dX8_link_8 (fun H locs hW => ?_)
  refine lv_i2l (v := r5.toInt64) hx hb dX8_link_11 rfl ?_
  refine lv_topl (fun v8 ev8 => ?_)
  have hf := nx_at ev8 hf
  refine lv_lstore (lv' := [(6, .long v8), (4, .long v4), (0, .ref (ad 0)), (1, .int x1), (2, .int x2), (3, .int x3)]) hx hb dX8_link_12 hl (by decide) rfl (fun ls hl => ?_)
  refine lv_iload_n hx hb dX8_link_14 rfl (lv_at hl 3 rfl) ?_
  refine lv_topi (fun sw esw => ?_)
  have hf := nx_at esw hf
  by_cases hs0 : sw = (0 : Int32)
  · have hf := it_t hs0 hf
    refine lv_tableIn (tgt := 44) hx hb dX8_link_15 (by rw [hs0]; decide) (by rw [hs0]; decide) (by rw [hs0]; rfl) (by decide) ?_
    refine lv_aload_n hx hb dX8_link_44 rfl (lv_at hl 2 rfl) ?_
    refine lv_aload_n hx hb dX8_link_45 rfl (lv_at hl 2 rfl) ?_
    refine lv_iload_n hx hb dX8_link_46 rfl (lv_at hl 4 rfl) ?_
    refine lv_iload_n hx hb dX8_link_47 rfl (lv_at hl 5 rfl) ?_
    refine lv_iconst (v := 0) hx hb dX8_link_48 (by decide) ?_
    obtain ⟨r9, s10, c11, hf⟩ := bd_some hf
    refine Wd.callV (n := 3) (As := [.int x2, .int x3, .int (0 : Int32)]) (rest := [.ref (ad 0)]) (rv := some (.int r9)) hC hW 0 (kX8_extreme c11) (by decide) rfl rfl q838 q840 qs52 q8 q841 ⟨rfl, rfl⟩ ⟨by decide +kernel, by decide +kernel, by decide +kernel⟩ ⟨Nat.le_of_ble_eq_true rfl, Nat.le_of_ble_eq_true rfl⟩ ⟨Nat.zero_le _, Nat.zero_le _⟩ rfl hl.1 rfl (st2 := [.int r9, .ref (ad 0)]) rfl (Nat.le_of_ble_eq_true rfl) dX8_link_49 (fun H locs hW => ?_)
    refine lv_i2l (v := r9.toInt64) hx hb dX8_link_52 rfl ?_
    refine lv_lconst (v := 1) hx hb dX8_link_53 (by decide) ?_
    obtain ⟨r12, s13, c14, hf⟩ := bd_some hf
    refine Wd.callV (n := 2) (As := [.long r9.toInt64, .long (1 : Int64)]) (rest := []) (rv := none) hC hW 0 (kX8_lowest c14) (by decide) rfl rfl q842 q844 qs53 q8 q845 ⟨rfl, rfl⟩ ⟨by decide +kernel, by decide +kernel, by decide +kernel⟩ ⟨Nat.le_of_ble_eq_true rfl, Nat.le_of_ble_eq_true rfl⟩ ⟨Nat.zero_le _, Nat.zero_le _⟩ rfl hl.1 rfl (st2 := []) rfl (Nat.le_of_ble_eq_true rfl) dX8_link_54 (fun H locs hW => ?_)
    refine lv_goto (tgt := 167) hx hb dX8_link_57 (by decide) ?_
    obtain ⟨-, rfl⟩ := sp hf
    exact Wd.vret hC hW dX8_link_167
  have hf := it_f hs0 hf
  by_cases hs1 : sw = (1 : Int32)
  · have hf := it_t hs1 hf
    refine lv_tableIn (tgt := 60) hx hb dX8_link_15 (by rw [hs1]; decide) (by rw [hs1]; decide) (by rw [hs1]; rfl) (by decide) ?_
    refine lv_aload_n hx hb dX8_link_60 rfl (lv_at hl 2 rfl) ?_
    refine lv_aload_n hx hb dX8_link_61 rfl (lv_at hl 2 rfl) ?_
    refine lv_iload_n hx hb dX8_link_62 rfl (lv_at hl 4 rfl) ?_
    refine lv_iload_n hx hb dX8_link_63 rfl (lv_at hl 5 rfl) ?_
    refine lv_iconst (v := 1) hx hb dX8_link_64 (by decide) ?_
    obtain ⟨r15, s16, c17, hf⟩ := bd_some hf
    refine Wd.callV (n := 3) (As := [.int x2, .int x3, .int (1 : Int32)]) (rest := [.ref (ad 0)]) (rv := some (.int r15)) hC hW 0 (kX8_extreme c17) (by decide) rfl rfl q838 q840 qs52 q8 q841 ⟨rfl, rfl⟩ ⟨by decide +kernel, by decide +kernel, by decide +kernel⟩ ⟨Nat.le_of_ble_eq_true rfl, Nat.le_of_ble_eq_true rfl⟩ ⟨Nat.zero_le _, Nat.zero_le _⟩ rfl hl.1 rfl (st2 := [.int r15, .ref (ad 0)]) rfl (Nat.le_of_ble_eq_true rfl) dX8_link_65 (fun H locs hW => ?_)
    refine lv_i2l (v := r15.toInt64) hx hb dX8_link_68 rfl ?_
    refine lv_lconst (v := 1) hx hb dX8_link_69 (by decide) ?_
    obtain ⟨r18, s19, c20, hf⟩ := bd_some hf
    refine Wd.callV (n := 2) (As := [.long r15.toInt64, .long (1 : Int64)]) (rest := []) (rv := none) hC hW 0 (kX8_lowest c20) (by decide) rfl rfl q842 q844 qs53 q8 q845 ⟨rfl, rfl⟩ ⟨by decide +kernel, by decide +kernel, by decide +kernel⟩ ⟨Nat.le_of_ble_eq_true rfl, Nat.le_of_ble_eq_true rfl⟩ ⟨Nat.zero_le _, Nat.zero_le _⟩ rfl hl.1 rfl (st2 := []) rfl (Nat.le_of_ble_eq_true rfl) dX8_link_70 (fun H locs hW => ?_)
    refine lv_goto (tgt := 167) hx hb dX8_link_73 (by decide) ?_
    obtain ⟨-, rfl⟩ := sp hf
    exact Wd.vret hC hW dX8_link_167
  have hf := it_f hs1 hf
  by_cases hs2 : sw = (2 : Int32)
  · have hf := it_t hs2 hf
    refine lv_tableIn (tgt := 76) hx hb dX8_link_15 (by rw [hs2]; decide) (by rw [hs2]; decide) (by rw [hs2]; rfl) (by decide) ?_
    refine lv_aload_n hx hb dX8_link_76 rfl (lv_at hl 2 rfl) ?_
    refine lv_aload_n hx hb dX8_link_77 rfl (lv_at hl 2 rfl) ?_
    refine lv_iload_n hx hb dX8_link_78 rfl (lv_at hl 4 rfl) ?_
    refine lv_iload_n hx hb dX8_link_79 rfl (lv_at hl 5 rfl) ?_
    obtain ⟨r21, s22, c23, hf⟩ := bd_some hf
    refine Wd.callV (n := 2) (As := [.int x2, .int x3]) (rest := [.ref (ad 0)]) (rv := some (.long r21)) hC hW 0 (kX8_between c23) (by decide) rfl rfl q846 q848 qs54 q8 q849 ⟨rfl, rfl⟩ ⟨by decide +kernel, by decide +kernel, by decide +kernel⟩ ⟨Nat.le_of_ble_eq_true rfl, Nat.le_of_ble_eq_true rfl⟩ ⟨Nat.zero_le _, Nat.zero_le _⟩ rfl hl.1 rfl (st2 := [.long r21, .ref (ad 0)]) rfl (Nat.le_of_ble_eq_true rfl) dX8_link_80 (fun H locs hW => ?_)
    refine lv_lload hx hb dX8_link_83 (lv_at hl 1 rfl) ?_
    refine lv_lload hx hb dX8_link_85 (lv_at hl 0 rfl) ?_
    refine lv_lmul hx hb dX8_link_87 ?_
    obtain ⟨r24, s25, c26, hf⟩ := bd_some hf
    refine Wd.callV (n := 2) (As := [.long r21, .long (v4 * v8)]) (rest := []) (rv := none) hC hW 0 (kX8_lowest c26) (by decide) rfl rfl q842 q844 qs53 q8 q845 ⟨rfl, rfl⟩ ⟨by decide +kernel, by decide +kernel, by decide +kernel⟩ ⟨Nat.le_of_ble_eq_true rfl, Nat.le_of_ble_eq_true rfl⟩ ⟨Nat.zero_le _, Nat.zero_le _⟩ rfl hl.1 rfl (st2 := []) rfl (Nat.le_of_ble_eq_true rfl) dX8_link_88 (fun H locs hW => ?_)
    refine lv_goto (tgt := 167) hx hb dX8_link_91 (by decide) ?_
    obtain ⟨-, rfl⟩ := sp hf
    exact Wd.vret hC hW dX8_link_167
  have hf := it_f hs2 hf
  by_cases hs3 : sw = (3 : Int32)
  · have hf := it_t hs3 hf
    refine lv_tableIn (tgt := 94) hx hb dX8_link_15 (by rw [hs3]; decide) (by rw [hs3]; decide) (by rw [hs3]; rfl) (by decide) ?_
    refine lv_aload_n hx hb dX8_link_94 rfl (lv_at hl 2 rfl) ?_
    refine lv_ldc2 hx hb hown (hts _ q850) dX8_link_95 ?_
    refine lv_lload hx hb dX8_link_98 (lv_at hl 1 rfl) ?_
    refine lv_lmul hx hb dX8_link_100 ?_
    refine lv_lload hx hb dX8_link_101 (lv_at hl 0 rfl) ?_
    refine lv_lmul hx hb dX8_link_103 ?_
    refine lv_aload_n hx hb dX8_link_104 rfl (lv_at hl 2 rfl) ?_
    refine lv_iload_n hx hb dX8_link_105 rfl (lv_at hl 4 rfl) ?_
    refine lv_iload_n hx hb dX8_link_106 rfl (lv_at hl 5 rfl) ?_
    obtain ⟨r27, s28, c29, hf⟩ := bd_some hf
    refine Wd.callV (n := 2) (As := [.int x2, .int x3]) (rest := [.long (((2 : Int64) * v4) * v8), .ref (ad 0)]) (rv := some (.long r27)) hC hW 0 (kX8_between c29) (by decide) rfl rfl q846 q848 qs54 q8 q849 ⟨rfl, rfl⟩ ⟨by decide +kernel, by decide +kernel, by decide +kernel⟩ ⟨Nat.le_of_ble_eq_true rfl, Nat.le_of_ble_eq_true rfl⟩ ⟨Nat.zero_le _, Nat.zero_le _⟩ rfl hl.1 rfl (st2 := [.long r27, .long (((2 : Int64) * v4) * v8), .ref (ad 0)]) rfl (Nat.le_of_ble_eq_true rfl) dX8_link_107 (fun H locs hW => ?_)
    refine lv_lmul hx hb dX8_link_110 ?_
    refine lv_lload hx hb dX8_link_111 (lv_at hl 0 rfl) ?_
    refine lv_lload hx hb dX8_link_113 (lv_at hl 0 rfl) ?_
    refine lv_lmul hx hb dX8_link_115 ?_
    refine lv_aload_n hx hb dX8_link_116 rfl (lv_at hl 2 rfl) ?_
    refine lv_iload_n hx hb dX8_link_117 rfl (lv_at hl 4 rfl) ?_
    refine lv_iload_n hx hb dX8_link_118 rfl (lv_at hl 4 rfl) ?_
    obtain ⟨r30, s31, c32, hf⟩ := bd_some hf
    refine Wd.callV (n := 2) (As := [.int x2, .int x2]) (rest := [.long (v8 * v8), .long ((((2 : Int64) * v4) * v8) * r27), .ref (ad 0)]) (rv := some (.long r30)) hC hW 0 (kX8_between c32) (by decide) rfl rfl q846 q848 qs54 q8 q849 ⟨rfl, rfl⟩ ⟨by decide +kernel, by decide +kernel, by decide +kernel⟩ ⟨Nat.le_of_ble_eq_true rfl, Nat.le_of_ble_eq_true rfl⟩ ⟨Nat.zero_le _, Nat.zero_le _⟩ rfl hl.1 rfl (st2 := [.long r30, .long (v8 * v8), .long ((((2 : Int64) * v4) * v8) * r27), .ref (ad 0)]) rfl (Nat.le_of_ble_eq_true rfl) dX8_link_119 (fun H locs hW => ?_)
    refine lv_lmul hx hb dX8_link_122 ?_
    refine lv_lsub hx hb dX8_link_123 ?_
    refine lv_lload hx hb dX8_link_124 (lv_at hl 1 rfl) ?_
    refine lv_lload hx hb dX8_link_126 (lv_at hl 1 rfl) ?_
    refine lv_lmul hx hb dX8_link_128 ?_
    refine lv_aload_n hx hb dX8_link_129 rfl (lv_at hl 2 rfl) ?_
    refine lv_iload_n hx hb dX8_link_130 rfl (lv_at hl 5 rfl) ?_
    refine lv_iload_n hx hb dX8_link_131 rfl (lv_at hl 5 rfl) ?_
    obtain ⟨r33, s34, c35, hf⟩ := bd_some hf
    refine Wd.callV (n := 2) (As := [.int x3, .int x3]) (rest := [.long (v4 * v4), .long (((((2 : Int64) * v4) * v8) * r27) - ((v8 * v8) * r30)), .ref (ad 0)]) (rv := some (.long r33)) hC hW 0 (kX8_between c35) (by decide) rfl rfl q846 q848 qs54 q8 q849 ⟨rfl, rfl⟩ ⟨by decide +kernel, by decide +kernel, by decide +kernel⟩ ⟨Nat.le_of_ble_eq_true rfl, Nat.le_of_ble_eq_true rfl⟩ ⟨Nat.zero_le _, Nat.zero_le _⟩ rfl hl.1 rfl (st2 := [.long r33, .long (v4 * v4), .long (((((2 : Int64) * v4) * v8) * r27) - ((v8 * v8) * r30)), .ref (ad 0)]) rfl (Nat.le_of_ble_eq_true rfl) dX8_link_132 (fun H locs hW => ?_)
    refine lv_lmul hx hb dX8_link_135 ?_
    refine lv_lsub hx hb dX8_link_136 ?_
    refine lv_lload hx hb dX8_link_137 (lv_at hl 1 rfl) ?_
    refine lv_lload hx hb dX8_link_139 (lv_at hl 0 rfl) ?_
    refine lv_lmul hx hb dX8_link_141 ?_
    refine lv_lload hx hb dX8_link_142 (lv_at hl 1 rfl) ?_
    refine lv_lload hx hb dX8_link_144 (lv_at hl 0 rfl) ?_
    refine lv_ladd hx hb dX8_link_146 ?_
    refine lv_lmul hx hb dX8_link_147 ?_
    obtain ⟨r36, s37, c38, hf⟩ := bd_some hf
    refine Wd.callV (n := 2) (As := [.long ((((((2 : Int64) * v4) * v8) * r27) - ((v8 * v8) * r30)) - ((v4 * v4) * r33)), .long ((v4 * v8) * (v4 + v8))]) (rest := []) (rv := none) hC hW 0 (kX8_lowest c38) (by decide) rfl rfl q842 q844 qs53 q8 q845 ⟨rfl, rfl⟩ ⟨by decide +kernel, by decide +kernel, by decide +kernel⟩ ⟨Nat.le_of_ble_eq_true rfl, Nat.le_of_ble_eq_true rfl⟩ ⟨Nat.zero_le _, Nat.zero_le _⟩ rfl hl.1 rfl (st2 := []) rfl (Nat.le_of_ble_eq_true rfl) dX8_link_148 (fun H locs hW => ?_)
    refine lv_goto (tgt := 167) hx hb dX8_link_151 (by decide) ?_
    obtain ⟨-, rfl⟩ := sp hf
    exact Wd.vret hC hW dX8_link_167
  have hf := it_f hs3 hf
  refine lv_tableOut (tgt := 154) hx hb dX8_link_15 (by have t0 := lv_neT hs0 (a := 0) (by decide); have t1 := lv_neT hs1 (a := 1) (by decide); have t2 := lv_neT hs2 (a := 2) (by decide); have t3 := lv_neT hs3 (a := 3) (by decide); omega) (by decide) ?_
  refine lv_aload_n hx hb dX8_link_154 rfl (lv_at hl 2 rfl) ?_
  refine lv_aload_n hx hb dX8_link_155 rfl (lv_at hl 2 rfl) ?_
  refine lv_iload_n hx hb dX8_link_156 rfl (lv_at hl 4 rfl) ?_
  refine lv_iload_n hx hb dX8_link_157 rfl (lv_at hl 5 rfl) ?_
  obtain ⟨r39, s40, c41, hf⟩ := bd_some hf
  refine Wd.callV (n := 2) (As := [.int x2, .int x3]) (rest := [.ref (ad 0)]) (rv := some (.long r39)) hC hW 0 (kX8_weighted c41) (by decide) rfl rfl q851 q853 qs55 q8 q854 ⟨rfl, rfl⟩ ⟨by decide +kernel, by decide +kernel, by decide +kernel⟩ ⟨Nat.le_of_ble_eq_true rfl, Nat.le_of_ble_eq_true rfl⟩ ⟨Nat.zero_le _, Nat.zero_le _⟩ rfl hl.1 rfl (st2 := [.long r39, .ref (ad 0)]) rfl (Nat.le_of_ble_eq_true rfl) dX8_link_158 (fun H locs hW => ?_)
  refine lv_ldc2 hx hb hown (hts _ q859) dX8_link_161 ?_
  obtain ⟨r42, s43, c44, hf⟩ := bd_some hf
  refine Wd.callV (n := 2) (As := [.long r39, .long (262144 : Int64)]) (rest := []) (rv := none) hC hW 0 (kX8_lowest c44) (by decide) rfl rfl q842 q844 qs53 q8 q845 ⟨rfl, rfl⟩ ⟨by decide +kernel, by decide +kernel, by decide +kernel⟩ ⟨Nat.le_of_ble_eq_true rfl, Nat.le_of_ble_eq_true rfl⟩ ⟨Nat.zero_le _, Nat.zero_le _⟩ rfl hl.1 rfl (st2 := []) rfl (Nat.le_of_ble_eq_true rfl) dX8_link_164 (fun H locs hW => ?_)
  obtain ⟨-, rfl⟩ := sp hf
  exact Wd.vret hC hW dX8_link_167
abbrev rmX8_linkage : Room := { frames := 3, cells := 0, slots := 0, locals := 78 }
def fX8_linkage (N : Nat) (x1 : Int32) (x2 : Int32) (x3 : Int32) (x4 : Int32) (σ : St) : Option (Int64 × St) := nx (((1 : Int32) <<< ((σ.1 0 0) &&& 31)) - (1 : Int32)) (fun v1 => nx (x2 &&& v1) (fun v2 => nx (x3 &&& v1) (fun v3 => bd (fX8_isIn N x1 (4 : Int32) σ) (fun r4 s5 => if r4 = 0 then some ((-1 : Int64), s5) else bd (fX8_isIn N x4 (2 : Int32) s5) (fun r8 s9 => if r8 = 0 then some ((-1 : Int64), s9) else if v2 = 0 then some ((-1 : Int64), s9) else if v3 = 0 then some ((-1 : Int64), s9) else if (v2 &&& v3) = 0 then bd (fX8_link N x1 v2 v3 s9) (fun r15 s16 => if x4 = 0 then some ((s16.2 0 12), s16) else some ((s16.2 0 13), s16)) else some ((-1 : Int64), s9))))))
set_option maxHeartbeats 4000000 in
set_option maxRecDepth 100000 in
theorem kX8_linkage {l : Launch} {D : va_G} {cA : Nat → ClassId} {ad : Nat → Nat} {N : Nat} {x1 : Int32} {x2 : Int32} {x3 : Int32} {x4 : Int32} {σ : St} {r : Int64} {σ' : St} (hf : fX8_linkage N x1 x2 x3 x4 σ = some (r, σ')) : MW kdM 31 l D cA ad ⟨RX8, "linkage", "(IIII)J"⟩ cX8_linkage 8 (some .long) rmX8_linkage [.ref (ad 0), .int x1, .int x2, .int x3, .int x4] σ (some (.long r)) σ' := by
  refine MW.of (by decide) (Nat.le_of_ble_eq_true rfl) ?_
  intro p e s m args below meth c ls hC hW hl
  have hx := hC.1
  have hb := hC.2.1
  have hown := hC.2.2.2.1
  have hts := hC.2.2.2.2.1
  have hl : lv_has ls 8 [(0, .ref (ad 0)), (1, .int x1), (2, .int x2), (3, .int x3), (4, .int x4)] := hl
  unfold fX8_linkage at hf
  refine lv_iconst (v := 1) hx hb dX8_linkage_0 (by decide) ?_
  refine lv_aload_n hx hb dX8_linkage_1 rfl (lv_at hl 0 rfl) ?_
  refine gfX8_107 hC hW 0 (by decide) rfl rfl dX8_linkage_2 ?_
  refine lv_ishl hx hb dX8_linkage_5 ?_
  refine lv_iconst (v := 1) hx hb dX8_linkage_6 (by decide) ?_
  refine lv_isub hx hb dX8_linkage_7 ?_
  refine lv_topi (fun v1 ev1 => ?_)
  have hf := nx_at ev1 hf
  refine lv_istore (lv' := [(5, .int v1), (0, .ref (ad 0)), (1, .int x1), (2, .int x2), (3, .int x3), (4, .int x4)]) hx hb dX8_linkage_8 hl (by decide) rfl (fun ls hl => ?_)
  refine lv_iload_n hx hb dX8_linkage_10 rfl (lv_at hl 3 rfl) ?_
  refine lv_iload hx hb dX8_linkage_11 (lv_at hl 0 rfl) ?_
  refine lv_iand hx hb dX8_linkage_13 ?_
  refine lv_topi (fun v2 ev2 => ?_)
  have hf := nx_at ev2 hf
  refine lv_istore (lv' := [(6, .int v2), (5, .int v1), (0, .ref (ad 0)), (1, .int x1), (2, .int x2), (3, .int x3), (4, .int x4)]) hx hb dX8_linkage_14 hl (by decide) rfl (fun ls hl => ?_)
  refine lv_iload_n hx hb dX8_linkage_16 rfl (lv_at hl 5 rfl) ?_
  refine lv_iload hx hb dX8_linkage_17 (lv_at hl 1 rfl) ?_
  refine lv_iand hx hb dX8_linkage_19 ?_
  refine lv_topi (fun v3 ev3 => ?_)
  have hf := nx_at ev3 hf
  refine lv_istore (lv' := [(7, .int v3), (6, .int v2), (5, .int v1), (0, .ref (ad 0)), (1, .int x1), (2, .int x2), (3, .int x3), (4, .int x4)]) hx hb dX8_linkage_20 hl (by decide) rfl (fun ls hl => ?_)
  refine lv_iload_n hx hb dX8_linkage_22 rfl (lv_at hl 4 rfl) ?_
  refine lv_iconst (v := 4) hx hb dX8_linkage_23 (by decide) ?_
  obtain ⟨r4, s5, c6, hf⟩ := bd_some hf
  refine Wd.callS (n := 2) (As := [.int x1, .int (4 : Int32)]) (rest := []) (rv := some (.int r4)) hC hW (kX8_isIn c6) q762 q763 q8 q764 ⟨rfl, rfl⟩ ⟨by decide +kernel, by decide +kernel, by decide +kernel⟩ ⟨Nat.le_of_ble_eq_true rfl, Nat.le_of_ble_eq_true rfl⟩ ⟨Nat.zero_le _, Nat.zero_le _⟩ rfl hl.1 rfl (st2 := [.int r4]) rfl (Nat.le_of_ble_eq_true rfl) dX8_linkage_24 (fun H locs hW => ?_)
  refine lv_if_eq (tgt := 57) hx hb dX8_linkage_27 (by decide) (fun h7 => ?_) (fun h7 => ?_)
  · have hf := it_t h7 hf
    refine lv_ldc2 hx hb hown (hts _ q830) dX8_linkage_57 ?_
    obtain ⟨rfl, rfl⟩ := sp hf
    exact Wd.lret hC hW dX8_linkage_60
  · have hf := it_f h7 hf
    refine lv_iload hx hb dX8_linkage_30 (lv_at hl 7 rfl) ?_
    refine lv_iconst (v := 2) hx hb dX8_linkage_32 (by decide) ?_
    obtain ⟨r8, s9, c10, hf⟩ := bd_some hf
    refine Wd.callS (n := 2) (As := [.int x4, .int (2 : Int32)]) (rest := []) (rv := some (.int r8)) hC hW (kX8_isIn c10) q762 q763 q8 q764 ⟨rfl, rfl⟩ ⟨by decide +kernel, by decide +kernel, by decide +kernel⟩ ⟨Nat.le_of_ble_eq_true rfl, Nat.le_of_ble_eq_true rfl⟩ ⟨Nat.zero_le _, Nat.zero_le _⟩ rfl hl.1 rfl (st2 := [.int r8]) rfl (Nat.le_of_ble_eq_true rfl) dX8_linkage_33 (fun H locs hW => ?_)
    refine lv_if_eq (tgt := 57) hx hb dX8_linkage_36 (by decide) (fun h11 => ?_) (fun h11 => ?_)
    · have hf := it_t h11 hf
      refine lv_ldc2 hx hb hown (hts _ q830) dX8_linkage_57 ?_
      obtain ⟨rfl, rfl⟩ := sp hf
      exact Wd.lret hC hW dX8_linkage_60
    · have hf := it_f h11 hf
      refine lv_iload hx hb dX8_linkage_39 (lv_at hl 1 rfl) ?_
      refine lv_if_eq (tgt := 57) hx hb dX8_linkage_41 (by decide) (fun h12 => ?_) (fun h12 => ?_)
      · have hf := it_t h12 hf
        refine lv_ldc2 hx hb hown (hts _ q830) dX8_linkage_57 ?_
        obtain ⟨rfl, rfl⟩ := sp hf
        exact Wd.lret hC hW dX8_linkage_60
      · have hf := it_f h12 hf
        refine lv_iload hx hb dX8_linkage_44 (lv_at hl 0 rfl) ?_
        refine lv_if_eq (tgt := 57) hx hb dX8_linkage_46 (by decide) (fun h13 => ?_) (fun h13 => ?_)
        · have hf := it_t h13 hf
          refine lv_ldc2 hx hb hown (hts _ q830) dX8_linkage_57 ?_
          obtain ⟨rfl, rfl⟩ := sp hf
          exact Wd.lret hC hW dX8_linkage_60
        · have hf := it_f h13 hf
          refine lv_iload hx hb dX8_linkage_49 (lv_at hl 1 rfl) ?_
          refine lv_iload hx hb dX8_linkage_51 (lv_at hl 0 rfl) ?_
          refine lv_iand hx hb dX8_linkage_53 ?_
          refine lv_if_eq (tgt := 61) hx hb dX8_linkage_54 (by decide) (fun h14 => ?_) (fun h14 => ?_)
          · have hf := it_t h14 hf
            refine lv_aload_n hx hb dX8_linkage_61 rfl (lv_at hl 3 rfl) ?_
            refine lv_iload_n hx hb dX8_linkage_62 rfl (lv_at hl 4 rfl) ?_
            refine lv_iload hx hb dX8_linkage_63 (lv_at hl 1 rfl) ?_
            refine lv_iload hx hb dX8_linkage_65 (lv_at hl 0 rfl) ?_
            obtain ⟨r15, s16, c17, hf⟩ := bd_some hf
            refine Wd.callV (n := 3) (As := [.int x1, .int v2, .int v3]) (rest := []) (rv := none) hC hW 0 (kX8_link c17) (by decide) rfl rfl q831 q833 qs51 q8 q834 ⟨rfl, rfl⟩ ⟨by decide +kernel, by decide +kernel, by decide +kernel⟩ ⟨Nat.le_of_ble_eq_true rfl, Nat.le_of_ble_eq_true rfl⟩ ⟨Nat.zero_le _, Nat.zero_le _⟩ rfl hl.1 rfl (st2 := []) rfl (Nat.le_of_ble_eq_true rfl) dX8_linkage_67 (fun H locs hW => ?_)
            refine lv_iload hx hb dX8_linkage_70 (lv_at hl 7 rfl) ?_
            refine lv_if_ne (tgt := 82) hx hb dX8_linkage_72 (by decide) (fun h18 => ?_) (fun h18 => ?_)
            · have hf := it_f h18 hf
              refine lv_aload_n hx hb dX8_linkage_82 rfl (lv_at hl 3 rfl) ?_
              refine gfX8_158 hC hW 0 (by decide) rfl rfl dX8_linkage_83 ?_
              obtain ⟨rfl, rfl⟩ := sp hf
              exact Wd.lret hC hW dX8_linkage_86
            · have hf := it_t h18 hf
              refine lv_aload_n hx hb dX8_linkage_75 rfl (lv_at hl 3 rfl) ?_
              refine gfX8_154 hC hW 0 (by decide) rfl rfl dX8_linkage_76 ?_
              refine lv_goto (tgt := 86) hx hb dX8_linkage_79 (by decide) ?_
              obtain ⟨rfl, rfl⟩ := sp hf
              exact Wd.lret hC hW dX8_linkage_86
          · have hf := it_f h14 hf
            refine lv_ldc2 hx hb hown (hts _ q830) dX8_linkage_57 ?_
            obtain ⟨rfl, rfl⟩ := sp hf
            exact Wd.lret hC hW dX8_linkage_60
abbrev rmX8_begins : Room := { frames := 0, cells := 0, slots := 0, locals := 0 }
def fX8_begins_57 (N : Nat) (K12 : Int32 → St → Option (Unit × St)) (x1 : Int32) (y0 : Int32) (y1 : Int32) (σ : St) : Option (Unit × St) := gd (ib y1 40) (nx (sI σ 20 y1.toNatClampNeg (vp_nar .boolean y0)) (fun s2 => nx (x1 + (1 : Int32)) (fun v3 => (K12 v3 s2))))
set_option maxHeartbeats 4000000 in
set_option maxRecDepth 100000 in
theorem wX8_begins_57 (hC : Cx RX8 cX8_begins 2 none D cA p s m args meth c) {N : Nat} {K12 : Int32 → St → Option (Unit × St)} {x1 : Int32} {y0 : Int32} {y1 : Int32} {σ : St} {r : Unit} {σ' : St} (hK12 : ∀ (x1 : Int32) (σ : St) (H : Heap) (locs : List Loc) (ls : Array Slot), K12 x1 σ = some (r, σ') → Wd kdM 31 D cA ad s σ H locs → lv_has ls 2 [(0, .ref (ad 0)), (1, .int x1)] → W p l e rmX8_begins s m args below meth c H locs 0 0 (EndW kdM 31 D cA ad below args s none σ') (F0 m 12 ls [])) {H : Heap} {locs : List Loc} {ls : Array Slot} (hf : fX8_begins_57 N K12 x1 y0 y1 σ = some (r, σ')) (hW : Wd kdM 31 D cA ad s σ H locs) (hl : lv_has ls 2 [(0, .ref (ad 0)), (1, .int x1)]) : W p l e rmX8_begins s m args below meth c H locs 0 0 (EndW kdM 31 D cA ad below args s none σ') (F0 m 57 ls [.int y0, .int y1, .ref (ad 20)]) := by
  have hx := hC.1
  have hb := hC.2.1
  have hown := hC.2.2.2.1
  have hts := hC.2.2.2.2.1
  unfold fX8_begins_57 at hf
  obtain ⟨h1, hf⟩ := gd_some hf
  refine Wd.zast hC hW 20 (by decide) rfl h1 dX8_begins_57 (fun H locs hW => ?_)
  obtain ⟨s2, es2, hf⟩ := nx_ex hf
  rw [← es2] at hW
  obtain ⟨v3, ev3⟩ : ∃ y : Int32, y = x1 + (1 : Int32) := ⟨_, rfl⟩
  have hf := nx_at ev3 hf
  refine lv_iinc (v := v3) (lv' := [(1, .int v3), (0, .ref (ad 0))]) hx hb dX8_begins_58 hl (k := 1) rfl (by rw [ev3]; rfl) (by decide) rfl (fun ls hl => ?_)
  refine lv_goto (tgt := 12) hx hb dX8_begins_61 (by decide) ?_
  exact hK12 _ _ _ _ _ hf hW (lv_sub hl [1, 0] rfl)
def fX8_begins_38 (N : Nat) (K12 : Int32 → St → Option (Unit × St)) (x1 : Int32) (y0 : Int32) (y1 : Int32) (σ : St) : Option (Unit × St) := gd (ib y1 40) (nx (sI σ 19 y1.toNatClampNeg y0) (fun s2 => if (s2.1 0 0) ≤ x1 then (fX8_begins_57 N K12 x1 (0 : Int32) x1 s2) else (fX8_begins_57 N K12 x1 (1 : Int32) x1 s2)))
set_option maxHeartbeats 4000000 in
set_option maxRecDepth 100000 in
theorem wX8_begins_38 (hC : Cx RX8 cX8_begins 2 none D cA p s m args meth c) {N : Nat} {K12 : Int32 → St → Option (Unit × St)} {x1 : Int32} {y0 : Int32} {y1 : Int32} {σ : St} {r : Unit} {σ' : St} (hK12 : ∀ (x1 : Int32) (σ : St) (H : Heap) (locs : List Loc) (ls : Array Slot), K12 x1 σ = some (r, σ') → Wd kdM 31 D cA ad s σ H locs → lv_has ls 2 [(0, .ref (ad 0)), (1, .int x1)] → W p l e rmX8_begins s m args below meth c H locs 0 0 (EndW kdM 31 D cA ad below args s none σ') (F0 m 12 ls [])) {H : Heap} {locs : List Loc} {ls : Array Slot} (hf : fX8_begins_38 N K12 x1 y0 y1 σ = some (r, σ')) (hW : Wd kdM 31 D cA ad s σ H locs) (hl : lv_has ls 2 [(0, .ref (ad 0)), (1, .int x1)]) : W p l e rmX8_begins s m args below meth c H locs 0 0 (EndW kdM 31 D cA ad below args s none σ') (F0 m 38 ls [.int y0, .int y1, .ref (ad 19)]) := by
  have hx := hC.1
  have hb := hC.2.1
  have hown := hC.2.2.2.1
  have hts := hC.2.2.2.2.1
  unfold fX8_begins_38 at hf
  obtain ⟨h1, hf⟩ := gd_some hf
  refine Wd.iast hC hW 19 (by decide) rfl h1 dX8_begins_38 (fun H locs hW => ?_)
  obtain ⟨s2, es2, hf⟩ := nx_ex hf
  rw [← es2] at hW
  refine lv_aload_n hx hb dX8_begins_39 rfl (lv_at hl 0 rfl) ?_
  refine gfX8_74 hC hW 0 (by decide) rfl (q := 20) rfl dX8_begins_40 ?_
  refine lv_iload_n hx hb dX8_begins_43 rfl (lv_at hl 1 rfl) ?_
  refine lv_iload_n hx hb dX8_begins_44 rfl (lv_at hl 1 rfl) ?_
  refine lv_aload_n hx hb dX8_begins_45 rfl (lv_at hl 0 rfl) ?_
  refine gfX8_107 hC hW 0 (by decide) rfl rfl dX8_begins_46 ?_
  refine lv_icmp_ge (tgt := 56) hx hb dX8_begins_49 (by decide) (fun h3 => ?_) (fun h3 => ?_)
  · have hf := it_t h3 hf
    refine lv_iconst (v := 0) hx hb dX8_begins_56 (by decide) ?_
    exact wX8_begins_57 hC hK12 hf hW (lv_sub hl [0, 1] rfl)
  · have hf := it_f h3 hf
    refine lv_iconst (v := 1) hx hb dX8_begins_52 (by decide) ?_
    refine lv_goto (tgt := 57) hx hb dX8_begins_53 (by decide) ?_
    exact wX8_begins_57 hC hK12 hf hW (lv_sub hl [0, 1] rfl)
def fX8_begins_12 (N : Nat) : Nat → Int32 → St → Option (Unit × St)
  | 0, _, _ => none
  | n + 1, x1, σ => if (40 : Int32) ≤ x1 then some ((), σ) else if (σ.1 0 0) ≤ x1 then (fX8_begins_38 N (fX8_begins_12 N n) x1 (0 : Int32) x1 σ) else (fX8_begins_38 N (fX8_begins_12 N n) x1 ((1 : Int32) <<< (x1 &&& 31)) x1 σ)
set_option maxHeartbeats 4000000 in
set_option maxRecDepth 100000 in
theorem wX8_begins_12 (hC : Cx RX8 cX8_begins 2 none D cA p s m args meth c) {N : Nat} {r : Unit} {σ' : St} : ∀ (n : Nat) (x1 : Int32) (σ : St) (H : Heap) (locs : List Loc) (ls : Array Slot), fX8_begins_12 N n x1 σ = some (r, σ') → Wd kdM 31 D cA ad s σ H locs → lv_has ls 2 [(0, .ref (ad 0)), (1, .int x1)] → W p l e rmX8_begins s m args below meth c H locs 0 0 (EndW kdM 31 D cA ad below args s none σ') (F0 m 12 ls []) := by
  have hx := hC.1
  have hb := hC.2.1
  have hown := hC.2.2.2.1
  have hts := hC.2.2.2.2.1
  intro n
  induction n with
  | zero =>
    intro x1 σ H locs ls hf
    rw [fX8_begins_12] at hf
    cases hf
  | succ n ih =>
    intro x1 σ H locs ls hf hW hl
    rw [fX8_begins_12] at hf
    refine lv_iload_n hx hb dX8_begins_12 rfl (lv_at hl 1 rfl) ?_
    refine lv_bipush (v := 40) hx hb dX8_begins_13 (by decide) ?_
    refine lv_icmp_ge (tgt := 64) hx hb dX8_begins_15 (by decide) (fun h1 => ?_) (fun h1 => ?_)
    · have hf := it_t h1 hf
      obtain ⟨-, rfl⟩ := sp hf
      exact Wd.vret hC hW dX8_begins_64
    · have hf := it_f h1 hf
      refine lv_aload_n hx hb dX8_begins_18 rfl (lv_at hl 0 rfl) ?_
      refine gfX8_71 hC hW 0 (by decide) rfl (q := 19) rfl dX8_begins_19 ?_
      refine lv_iload_n hx hb dX8_begins_22 rfl (lv_at hl 1 rfl) ?_
      refine lv_iload_n hx hb dX8_begins_23 rfl (lv_at hl 1 rfl) ?_
      refine lv_aload_n hx hb dX8_begins_24 rfl (lv_at hl 0 rfl) ?_
      refine gfX8_107 hC hW 0 (by decide) rfl rfl dX8_begins_25 ?_
      refine lv_icmp_ge (tgt := 37) hx hb dX8_begins_28 (by decide) (fun h2 => ?_) (fun h2 => ?_)
      · have hf := it_t h2 hf
        refine lv_iconst (v := 0) hx hb dX8_begins_37 (by decide) ?_
        exact wX8_begins_38 hC ih hf hW (lv_sub hl [0, 1] rfl)
      · have hf := it_f h2 hf
        refine lv_iconst (v := 1) hx hb dX8_begins_31 (by decide) ?_
        refine lv_iload_n hx hb dX8_begins_32 rfl (lv_at hl 1 rfl) ?_
        refine lv_ishl hx hb dX8_begins_33 ?_
        refine lv_goto (tgt := 38) hx hb dX8_begins_34 (by decide) ?_
        exact wX8_begins_38 hC ih hf hW (lv_sub hl [0, 1] rfl)
def fX8_begins (N : Nat) (σ : St) : Option (Unit × St) := nx (sI σ 0 11 (0 : Int32)) (fun s1 => nx (sI s1 0 31 (0 : Int32)) (fun s2 => (fX8_begins_12 N N (0 : Int32) s2)))
set_option maxHeartbeats 4000000 in
set_option maxRecDepth 100000 in
theorem kX8_begins {l : Launch} {D : va_G} {cA : Nat → ClassId} {ad : Nat → Nat} {N : Nat} {σ : St} {r : Unit} {σ' : St} (hf : fX8_begins N σ = some (r, σ')) : MW kdM 31 l D cA ad ⟨RX8, "begins", "()V"⟩ cX8_begins 2 none rmX8_begins [.ref (ad 0)] σ none σ' := by
  refine MW.of (by decide) (Nat.le_of_ble_eq_true rfl) ?_
  intro p e s m args below meth c ls hC hW hl
  have hx := hC.1
  have hb := hC.2.1
  have hown := hC.2.2.2.1
  have hts := hC.2.2.2.2.1
  have hl : lv_has ls 2 [(0, .ref (ad 0))] := hl
  unfold fX8_begins at hf
  refine lv_aload_n hx hb dX8_begins_0 rfl (lv_at hl 0 rfl) ?_
  refine lv_iconst (v := 0) hx hb dX8_begins_1 (by decide) ?_
  refine pgfX8_147 hC hW 0 (by decide) rfl rfl dX8_begins_2 (fun H locs hW => ?_)
  obtain ⟨s1, es1, hf⟩ := nx_ex hf
  rw [← es1] at hW
  refine lv_aload_n hx hb dX8_begins_5 rfl (lv_at hl 0 rfl) ?_
  refine lv_iconst (v := 0) hx hb dX8_begins_6 (by decide) ?_
  refine pgfX8_188 hC hW 0 (by decide) rfl rfl dX8_begins_7 (fun H locs hW => ?_)
  obtain ⟨s2, es2, hf⟩ := nx_ex hf
  rw [← es2] at hW
  refine lv_iconst (v := 0) hx hb dX8_begins_10 (by decide) ?_
  refine lv_istore_n (lv' := [(1, .int (0 : Int32)), (0, .ref (ad 0))]) hx hb dX8_begins_11 rfl hl (by decide) rfl (fun ls hl => ?_)
  exact wX8_begins_12 hC N _ _ _ _ _ hf hW (lv_sub hl [1, 0] rfl)
abbrev rmX8_compare : Room := { frames := 0, cells := 0, slots := 0, locals := 0 }
def fX8_compare (N : Nat) (x0 : Int64) (x2 : Int64) (x4 : Int64) (x6 : Int64) (σ : St) : Option (Int32 × St) := nx ((x0 * x6) - (x4 * x2)) (fun v1 => if 0 ≤ (lg_cmp v1 (0 : Int64)) then if (lg_cmp v1 (0 : Int64)) ≤ 0 then some ((0 : Int32), σ) else some ((1 : Int32), σ) else some ((-1 : Int32), σ))
set_option maxHeartbeats 4000000 in
set_option maxRecDepth 100000 in
theorem kX8_compare {l : Launch} {D : va_G} {cA : Nat → ClassId} {ad : Nat → Nat} {N : Nat} {x0 : Int64} {x2 : Int64} {x4 : Int64} {x6 : Int64} {σ : St} {r : Int32} {σ' : St} (hf : fX8_compare N x0 x2 x4 x6 σ = some (r, σ')) : MW kdM 31 l D cA ad ⟨RX8, "compare", "(JJJJ)I"⟩ cX8_compare 10 (some .int) rmX8_compare [.long x0, .long x2, .long x4, .long x6] σ (some (.int r)) σ' := by
  refine MW.of (by decide) (Nat.le_of_ble_eq_true rfl) ?_
  intro p e s m args below meth c ls hC hW hl
  have hx := hC.1
  have hb := hC.2.1
  have hown := hC.2.2.2.1
  have hts := hC.2.2.2.2.1
  have hl : lv_has ls 10 [(0, .long x0), (2, .long x2), (4, .long x4), (6, .long x6)] := hl
  unfold fX8_compare at hf
  refine lv_lload_n hx hb dX8_compare_0 rfl (lv_at hl 0 rfl) ?_
  refine lv_lload hx hb dX8_compare_1 (lv_at hl 3 rfl) ?_
  refine lv_lmul hx hb dX8_compare_3 ?_
  refine lv_lload hx hb dX8_compare_4 (lv_at hl 2 rfl) ?_
  refine lv_lload_n hx hb dX8_compare_6 rfl (lv_at hl 1 rfl) ?_
  refine lv_lmul hx hb dX8_compare_7 ?_
  refine lv_lsub hx hb dX8_compare_8 ?_
  refine lv_topl (fun v1 ev1 => ?_)
  have hf := nx_at ev1 hf
  refine lv_lstore (lv' := [(8, .long v1), (0, .long x0), (2, .long x2), (4, .long x4), (6, .long x6)]) hx hb dX8_compare_9 hl (by decide) rfl (fun ls hl => ?_)
  refine lv_lload hx hb dX8_compare_11 (lv_at hl 0 rfl) ?_
  refine lv_lconst (v := 0) hx hb dX8_compare_13 (by decide) ?_
  refine W.lcmp hx hb dX8_compare_14 ?_
  refine lv_if_ge (tgt := 22) hx hb dX8_compare_15 (by decide) (fun h2 => ?_) (fun h2 => ?_)
  · have hf := it_t h2 hf
    refine lv_lload hx hb dX8_compare_22 (lv_at hl 0 rfl) ?_
    refine lv_lconst (v := 0) hx hb dX8_compare_24 (by decide) ?_
    refine W.lcmp hx hb dX8_compare_25 ?_
    refine lv_if_le (tgt := 33) hx hb dX8_compare_26 (by decide) (fun h3 => ?_) (fun h3 => ?_)
    · have hf := it_t h3 hf
      refine lv_iconst (v := 0) hx hb dX8_compare_33 (by decide) ?_
      obtain ⟨rfl, rfl⟩ := sp hf
      exact Wd.iret hC hW dX8_compare_34
    · have hf := it_f h3 hf
      refine lv_iconst (v := 1) hx hb dX8_compare_29 (by decide) ?_
      refine lv_goto (tgt := 34) hx hb dX8_compare_30 (by decide) ?_
      obtain ⟨rfl, rfl⟩ := sp hf
      exact Wd.iret hC hW dX8_compare_34
  · have hf := it_f h2 hf
    refine lv_iconst (v := (-1)) hx hb dX8_compare_18 (by decide) ?_
    refine lv_goto (tgt := 34) hx hb dX8_compare_19 (by decide) ?_
    obtain ⟨rfl, rfl⟩ := sp hf
    exact Wd.iret hC hW dX8_compare_34
abbrev rmX8_joined : Room := { frames := 0, cells := 0, slots := 0, locals := 0 }
def fX8_joined_37 (N : Nat) (x1 : Int32) (x2 : Int32) (y0 : Int32) (y1 : Int32) (σ : St) : Option (Unit × St) := gd (ib y1 19) (nx (sI σ 22 y1.toNatClampNeg y0) (fun s2 => gd (ib (s2.1 0 11) 19) (nx (sJ s2 23 (s2.1 0 11).toNatClampNeg (s2.2 0 12)) (fun s4 => gd (ib (s4.1 0 11) 19) (nx (sJ s4 24 (s4.1 0 11).toNatClampNeg (s4.2 0 13)) (fun s6 => gd (ib x1 40) (nx (sI s6 20 x1.toNatClampNeg (vp_nar .boolean (0 : Int32))) (fun s8 => gd (ib x2 40) (nx (sI s8 20 x2.toNatClampNeg (vp_nar .boolean (0 : Int32))) (fun s10 => gd (ib x1 40) (gd (ib x2 40) (gd (ib ((s10.1 0 0) + (s10.1 0 11)) 40) (nx (sI s10 19 ((s10.1 0 0) + (s10.1 0 11)).toNatClampNeg ((s10.1 19 x1.toNatClampNeg) ||| (s10.1 19 x2.toNatClampNeg))) (fun s14 => gd (ib ((s14.1 0 0) + (s14.1 0 11)) 40) (nx (sI s14 20 ((s14.1 0 0) + (s14.1 0 11)).toNatClampNeg (vp_nar .boolean (1 : Int32))) (fun s16 => gd (ib ((s16.1 0 0) + (s16.1 0 11)) 40) (gd (ib (s16.1 0 11) 19) (nx (sI s16 7 (s16.1 0 11).toNatClampNeg (s16.1 19 ((s16.1 0 0) + (s16.1 0 11)).toNatClampNeg)) (fun s19 => nx (sI s19 0 11 ((s19.1 0 11) + (1 : Int32))) (fun s20 => some ((), s20)))))))))))))))))))))
set_option maxHeartbeats 4000000 in
set_option maxRecDepth 100000 in
theorem wX8_joined_37 (hC : Cx RX8 cX8_joined 3 none D cA p s m args meth c) {N : Nat} {x1 : Int32} {x2 : Int32} {y0 : Int32} {y1 : Int32} {σ : St} {r : Unit} {σ' : St} {H : Heap} {locs : List Loc} {ls : Array Slot} (hf : fX8_joined_37 N x1 x2 y0 y1 σ = some (r, σ')) (hW : Wd kdM 31 D cA ad s σ H locs) (hl : lv_has ls 3 [(0, .ref (ad 0)), (1, .int x1), (2, .int x2)]) : W p l e rmX8_joined s m args below meth c H locs 0 0 (EndW kdM 31 D cA ad below args s none σ') (F0 m 37 ls [.int y0, .int y1, .ref (ad 22)]) := by
  have hx := hC.1
  have hb := hC.2.1
  have hown := hC.2.2.2.1
  have hts := hC.2.2.2.2.1
  unfold fX8_joined_37 at hf
  obtain ⟨h1, hf⟩ := gd_some hf
  refine Wd.iast hC hW 22 (by decide) rfl h1 dX8_joined_37 (fun H locs hW => ?_)
  obtain ⟨s2, es2, hf⟩ := nx_ex hf
  rw [← es2] at hW
  refine lv_aload_n hx hb dX8_joined_38 rfl (lv_at hl 0 rfl) ?_
  refine gfX8_83 hC hW 0 (by decide) rfl (q := 23) rfl dX8_joined_39 ?_
  refine lv_aload_n hx hb dX8_joined_42 rfl (lv_at hl 0 rfl) ?_
  refine gfX8_147 hC hW 0 (by decide) rfl rfl dX8_joined_43 ?_
  refine lv_aload_n hx hb dX8_joined_46 rfl (lv_at hl 0 rfl) ?_
  refine gfX8_154 hC hW 0 (by decide) rfl rfl dX8_joined_47 ?_
  obtain ⟨h3, hf⟩ := gd_some hf
  refine Wd.last hC hW 23 (by decide) rfl h3 dX8_joined_50 (fun H locs hW => ?_)
  obtain ⟨s4, es4, hf⟩ := nx_ex hf
  rw [← es4] at hW
  refine lv_aload_n hx hb dX8_joined_51 rfl (lv_at hl 0 rfl) ?_
  refine gfX8_86 hC hW 0 (by decide) rfl (q := 24) rfl dX8_joined_52 ?_
  refine lv_aload_n hx hb dX8_joined_55 rfl (lv_at hl 0 rfl) ?_
  refine gfX8_147 hC hW 0 (by decide) rfl rfl dX8_joined_56 ?_
  refine lv_aload_n hx hb dX8_joined_59 rfl (lv_at hl 0 rfl) ?_
  refine gfX8_158 hC hW 0 (by decide) rfl rfl dX8_joined_60 ?_
  obtain ⟨h5, hf⟩ := gd_some hf
  refine Wd.last hC hW 24 (by decide) rfl h5 dX8_joined_63 (fun H locs hW => ?_)
  obtain ⟨s6, es6, hf⟩ := nx_ex hf
  rw [← es6] at hW
  refine lv_aload_n hx hb dX8_joined_64 rfl (lv_at hl 0 rfl) ?_
  refine gfX8_74 hC hW 0 (by decide) rfl (q := 20) rfl dX8_joined_65 ?_
  refine lv_iload_n hx hb dX8_joined_68 rfl (lv_at hl 1 rfl) ?_
  refine lv_iconst (v := 0) hx hb dX8_joined_69 (by decide) ?_
  obtain ⟨h7, hf⟩ := gd_some hf
  refine Wd.zast hC hW 20 (by decide) rfl h7 dX8_joined_70 (fun H locs hW => ?_)
  obtain ⟨s8, es8, hf⟩ := nx_ex hf
  rw [← es8] at hW
  refine lv_aload_n hx hb dX8_joined_71 rfl (lv_at hl 0 rfl) ?_
  refine gfX8_74 hC hW 0 (by decide) rfl (q := 20) rfl dX8_joined_72 ?_
  refine lv_iload_n hx hb dX8_joined_75 rfl (lv_at hl 2 rfl) ?_
  refine lv_iconst (v := 0) hx hb dX8_joined_76 (by decide) ?_
  obtain ⟨h9, hf⟩ := gd_some hf
  refine Wd.zast hC hW 20 (by decide) rfl h9 dX8_joined_77 (fun H locs hW => ?_)
  obtain ⟨s10, es10, hf⟩ := nx_ex hf
  rw [← es10] at hW
  refine lv_aload_n hx hb dX8_joined_78 rfl (lv_at hl 0 rfl) ?_
  refine gfX8_71 hC hW 0 (by decide) rfl (q := 19) rfl dX8_joined_79 ?_
  refine lv_aload_n hx hb dX8_joined_82 rfl (lv_at hl 0 rfl) ?_
  refine gfX8_107 hC hW 0 (by decide) rfl rfl dX8_joined_83 ?_
  refine lv_aload_n hx hb dX8_joined_86 rfl (lv_at hl 0 rfl) ?_
  refine gfX8_147 hC hW 0 (by decide) rfl rfl dX8_joined_87 ?_
  refine lv_iadd hx hb dX8_joined_90 ?_
  refine lv_aload_n hx hb dX8_joined_91 rfl (lv_at hl 0 rfl) ?_
  refine gfX8_71 hC hW 0 (by decide) rfl (q := 19) rfl dX8_joined_92 ?_
  refine lv_iload_n hx hb dX8_joined_95 rfl (lv_at hl 1 rfl) ?_
  obtain ⟨h11, hf⟩ := gd_some hf
  refine Wd.iald hC hW 19 (by decide) rfl h11 dX8_joined_96 ?_
  refine lv_aload_n hx hb dX8_joined_97 rfl (lv_at hl 0 rfl) ?_
  refine gfX8_71 hC hW 0 (by decide) rfl (q := 19) rfl dX8_joined_98 ?_
  refine lv_iload_n hx hb dX8_joined_101 rfl (lv_at hl 2 rfl) ?_
  obtain ⟨h12, hf⟩ := gd_some hf
  refine Wd.iald hC hW 19 (by decide) rfl h12 dX8_joined_102 ?_
  refine lv_ior hx hb dX8_joined_103 ?_
  obtain ⟨h13, hf⟩ := gd_some hf
  refine Wd.iast hC hW 19 (by decide) rfl h13 dX8_joined_104 (fun H locs hW => ?_)
  obtain ⟨s14, es14, hf⟩ := nx_ex hf
  rw [← es14] at hW
  refine lv_aload_n hx hb dX8_joined_105 rfl (lv_at hl 0 rfl) ?_
  refine gfX8_74 hC hW 0 (by decide) rfl (q := 20) rfl dX8_joined_106 ?_
  refine lv_aload_n hx hb dX8_joined_109 rfl (lv_at hl 0 rfl) ?_
  refine gfX8_107 hC hW 0 (by decide) rfl rfl dX8_joined_110 ?_
  refine lv_aload_n hx hb dX8_joined_113 rfl (lv_at hl 0 rfl) ?_
  refine gfX8_147 hC hW 0 (by decide) rfl rfl dX8_joined_114 ?_
  refine lv_iadd hx hb dX8_joined_117 ?_
  refine lv_iconst (v := 1) hx hb dX8_joined_118 (by decide) ?_
  obtain ⟨h15, hf⟩ := gd_some hf
  refine Wd.zast hC hW 20 (by decide) rfl h15 dX8_joined_119 (fun H locs hW => ?_)
  obtain ⟨s16, es16, hf⟩ := nx_ex hf
  rw [← es16] at hW
  refine lv_aload_n hx hb dX8_joined_120 rfl (lv_at hl 0 rfl) ?_
  refine gfX8_33 hC hW 0 (by decide) rfl (q := 7) rfl dX8_joined_121 ?_
  refine lv_aload_n hx hb dX8_joined_124 rfl (lv_at hl 0 rfl) ?_
  refine gfX8_147 hC hW 0 (by decide) rfl rfl dX8_joined_125 ?_
  refine lv_aload_n hx hb dX8_joined_128 rfl (lv_at hl 0 rfl) ?_
  refine gfX8_71 hC hW 0 (by decide) rfl (q := 19) rfl dX8_joined_129 ?_
  refine lv_aload_n hx hb dX8_joined_132 rfl (lv_at hl 0 rfl) ?_
  refine gfX8_107 hC hW 0 (by decide) rfl rfl dX8_joined_133 ?_
  refine lv_aload_n hx hb dX8_joined_136 rfl (lv_at hl 0 rfl) ?_
  refine gfX8_147 hC hW 0 (by decide) rfl rfl dX8_joined_137 ?_
  refine lv_iadd hx hb dX8_joined_140 ?_
  obtain ⟨h17, hf⟩ := gd_some hf
  refine Wd.iald hC hW 19 (by decide) rfl h17 dX8_joined_141 ?_
  obtain ⟨h18, hf⟩ := gd_some hf
  refine Wd.iast hC hW 7 (by decide) rfl h18 dX8_joined_142 (fun H locs hW => ?_)
  obtain ⟨s19, es19, hf⟩ := nx_ex hf
  rw [← es19] at hW
  refine lv_aload_n hx hb dX8_joined_143 rfl (lv_at hl 0 rfl) ?_
  refine lv_dup hx hb dX8_joined_144 rfl ?_
  refine gfX8_147 hC hW 0 (by decide) rfl rfl dX8_joined_145 ?_
  refine lv_iconst (v := 1) hx hb dX8_joined_148 (by decide) ?_
  refine lv_iadd hx hb dX8_joined_149 ?_
  refine pgfX8_147 hC hW 0 (by decide) rfl rfl dX8_joined_150 (fun H locs hW => ?_)
  obtain ⟨s20, es20, hf⟩ := nx_ex hf
  rw [← es20] at hW
  obtain ⟨-, rfl⟩ := sp hf
  exact Wd.vret hC hW dX8_joined_153
def fX8_joined_18 (N : Nat) (x1 : Int32) (x2 : Int32) (y0 : Int32) (y1 : Int32) (σ : St) : Option (Unit × St) := gd (ib y1 19) (nx (sI σ 21 y1.toNatClampNeg y0) (fun s2 => if x2 ≤ x1 then (fX8_joined_37 N x1 x2 x1 (s2.1 0 11) s2) else (fX8_joined_37 N x1 x2 x2 (s2.1 0 11) s2)))
set_option maxHeartbeats 4000000 in
set_option maxRecDepth 100000 in
theorem wX8_joined_18 (hC : Cx RX8 cX8_joined 3 none D cA p s m args meth c) {N : Nat} {x1 : Int32} {x2 : Int32} {y0 : Int32} {y1 : Int32} {σ : St} {r : Unit} {σ' : St} {H : Heap} {locs : List Loc} {ls : Array Slot} (hf : fX8_joined_18 N x1 x2 y0 y1 σ = some (r, σ')) (hW : Wd kdM 31 D cA ad s σ H locs) (hl : lv_has ls 3 [(0, .ref (ad 0)), (1, .int x1), (2, .int x2)]) : W p l e rmX8_joined s m args below meth c H locs 0 0 (EndW kdM 31 D cA ad below args s none σ') (F0 m 18 ls [.int y0, .int y1, .ref (ad 21)]) := by
  have hx := hC.1
  have hb := hC.2.1
  have hown := hC.2.2.2.1
  have hts := hC.2.2.2.2.1
  unfold fX8_joined_18 at hf
  obtain ⟨h1, hf⟩ := gd_some hf
  refine Wd.iast hC hW 21 (by decide) rfl h1 dX8_joined_18 (fun H locs hW => ?_)
  obtain ⟨s2, es2, hf⟩ := nx_ex hf
  rw [← es2] at hW
  refine lv_aload_n hx hb dX8_joined_19 rfl (lv_at hl 0 rfl) ?_
  refine gfX8_80 hC hW 0 (by decide) rfl (q := 22) rfl dX8_joined_20 ?_
  refine lv_aload_n hx hb dX8_joined_23 rfl (lv_at hl 0 rfl) ?_
  refine gfX8_147 hC hW 0 (by decide) rfl rfl dX8_joined_24 ?_
  refine lv_iload_n hx hb dX8_joined_27 rfl (lv_at hl 1 rfl) ?_
  refine lv_iload_n hx hb dX8_joined_28 rfl (lv_at hl 2 rfl) ?_
  refine lv_icmp_ge (tgt := 36) hx hb dX8_joined_29 (by decide) (fun h3 => ?_) (fun h3 => ?_)
  · have hf := it_t h3 hf
    refine lv_iload_n hx hb dX8_joined_36 rfl (lv_at hl 1 rfl) ?_
    exact wX8_joined_37 hC hf hW (lv_sub hl [0, 1, 2] rfl)
  · have hf := it_f h3 hf
    refine lv_iload_n hx hb dX8_joined_32 rfl (lv_at hl 2 rfl) ?_
    refine lv_goto (tgt := 37) hx hb dX8_joined_33 (by decide) ?_
    exact wX8_joined_37 hC hf hW (lv_sub hl [0, 1, 2] rfl)
def fX8_joined (N : Nat) (x1 : Int32) (x2 : Int32) (σ : St) : Option (Unit × St) := if x2 ≤ x1 then (fX8_joined_18 N x1 x2 x2 (σ.1 0 11) σ) else (fX8_joined_18 N x1 x2 x1 (σ.1 0 11) σ)
set_option maxHeartbeats 4000000 in
set_option maxRecDepth 100000 in
theorem kX8_joined {l : Launch} {D : va_G} {cA : Nat → ClassId} {ad : Nat → Nat} {N : Nat} {x1 : Int32} {x2 : Int32} {σ : St} {r : Unit} {σ' : St} (hf : fX8_joined N x1 x2 σ = some (r, σ')) : MW kdM 31 l D cA ad ⟨RX8, "joined", "(II)V"⟩ cX8_joined 3 none rmX8_joined [.ref (ad 0), .int x1, .int x2] σ none σ' := by
  refine MW.of (by decide) (Nat.le_of_ble_eq_true rfl) ?_
  intro p e s m args below meth c ls hC hW hl
  have hx := hC.1
  have hb := hC.2.1
  have hown := hC.2.2.2.1
  have hts := hC.2.2.2.2.1
  have hl : lv_has ls 3 [(0, .ref (ad 0)), (1, .int x1), (2, .int x2)] := hl
  unfold fX8_joined at hf
  refine lv_aload_n hx hb dX8_joined_0 rfl (lv_at hl 0 rfl) ?_
  refine gfX8_77 hC hW 0 (by decide) rfl (q := 21) rfl dX8_joined_1 ?_
  refine lv_aload_n hx hb dX8_joined_4 rfl (lv_at hl 0 rfl) ?_
  refine gfX8_147 hC hW 0 (by decide) rfl rfl dX8_joined_5 ?_
  refine lv_iload_n hx hb dX8_joined_8 rfl (lv_at hl 1 rfl) ?_
  refine lv_iload_n hx hb dX8_joined_9 rfl (lv_at hl 2 rfl) ?_
  refine lv_icmp_ge (tgt := 17) hx hb dX8_joined_10 (by decide) (fun h1 => ?_) (fun h1 => ?_)
  · have hf := it_t h1 hf
    refine lv_iload_n hx hb dX8_joined_17 rfl (lv_at hl 2 rfl) ?_
    exact wX8_joined_18 hC hf hW (lv_sub hl [0, 1, 2] rfl)
  · have hf := it_f h1 hf
    refine lv_iload_n hx hb dX8_joined_13 rfl (lv_at hl 1 rfl) ?_
    refine lv_goto (tgt := 18) hx hb dX8_joined_14 (by decide) ?_
    exact wX8_joined_18 hC hf hW (lv_sub hl [0, 1, 2] rfl)
abbrev rmX8_greedyStep : Room := { frames := 3, cells := 0, slots := 0, locals := 78 }
def fX8_greedyStep_181 (N : Nat) (x2 : Int32) (x3 : Int32) (x4 : Int64) (x6 : Int64) (y0 : Int32) (y1 : Int32) (σ : St) : Option (Unit × St) := nx (sI σ 0 31 (y1 + y0)) (fun s1 => nx (sJ s1 0 12 x4) (fun s2 => nx (sJ s2 0 13 x6) (fun s3 => bd (fX8_joined N x2 x3 s3) (fun r4 s5 => some ((), s5)))))
set_option maxHeartbeats 4000000 in
set_option maxRecDepth 100000 in
theorem wX8_greedyStep_181 (hC : Cx RX8 cX8_greedyStep 12 none D cA p s m args meth c) {N : Nat} {x2 : Int32} {x3 : Int32} {x4 : Int64} {x6 : Int64} {y0 : Int32} {y1 : Int32} {σ : St} {r : Unit} {σ' : St} {H : Heap} {locs : List Loc} {ls : Array Slot} (hf : fX8_greedyStep_181 N x2 x3 x4 x6 y0 y1 σ = some (r, σ')) (hW : Wd kdM 31 D cA ad s σ H locs) (hl : lv_has ls 12 [(0, .ref (ad 0)), (2, .int x2), (3, .int x3), (4, .long x4), (6, .long x6)]) : W p l e rmX8_greedyStep s m args below meth c H locs 0 0 (EndW kdM 31 D cA ad below args s none σ') (F0 m 181 ls [.int y0, .int y1, .ref (ad 0)]) := by
  have hx := hC.1
  have hb := hC.2.1
  have hown := hC.2.2.2.1
  have hts := hC.2.2.2.2.1
  unfold fX8_greedyStep_181 at hf
  refine lv_iadd hx hb dX8_greedyStep_181 ?_
  refine pgfX8_188 hC hW 0 (by decide) rfl rfl dX8_greedyStep_182 (fun H locs hW => ?_)
  obtain ⟨s1, es1, hf⟩ := nx_ex hf
  rw [← es1] at hW
  refine lv_aload_n hx hb dX8_greedyStep_185 rfl (lv_at hl 0 rfl) ?_
  refine lv_lload hx hb dX8_greedyStep_186 (lv_at hl 3 rfl) ?_
  refine pgfX8_154 hC hW 0 (by decide) rfl rfl dX8_greedyStep_188 (fun H locs hW => ?_)
  obtain ⟨s2, es2, hf⟩ := nx_ex hf
  rw [← es2] at hW
  refine lv_aload_n hx hb dX8_greedyStep_191 rfl (lv_at hl 0 rfl) ?_
  refine lv_lload hx hb dX8_greedyStep_192 (lv_at hl 4 rfl) ?_
  refine pgfX8_158 hC hW 0 (by decide) rfl rfl dX8_greedyStep_194 (fun H locs hW => ?_)
  obtain ⟨s3, es3, hf⟩ := nx_ex hf
  rw [← es3] at hW
  refine lv_aload_n hx hb dX8_greedyStep_197 rfl (lv_at hl 0 rfl) ?_
  refine lv_iload_n hx hb dX8_greedyStep_198 rfl (lv_at hl 1 rfl) ?_
  refine lv_iload_n hx hb dX8_greedyStep_199 rfl (lv_at hl 2 rfl) ?_
  obtain ⟨r4, s5, c6, hf⟩ := bd_some hf
  refine Wd.callV (n := 2) (As := [.int x2, .int x3]) (rest := []) (rv := none) hC hW 0 (kX8_joined c6) (by decide) rfl rfl q875 q877 qs59 q8 q878 ⟨rfl, rfl⟩ ⟨by decide +kernel, by decide +kernel, by decide +kernel⟩ ⟨Nat.le_of_ble_eq_true rfl, Nat.le_of_ble_eq_true rfl⟩ ⟨Nat.zero_le _, Nat.zero_le _⟩ rfl hl.1 rfl (st2 := []) rfl (Nat.le_of_ble_eq_true rfl) dX8_greedyStep_200 (fun H locs hW => ?_)
  obtain ⟨-, rfl⟩ := sp hf
  exact Wd.vret hC hW dX8_greedyStep_203
def fX8_greedyStep_154 (N : Nat) (K16 : Int32 → Int32 → Int32 → Int64 → Int64 → Int32 → Int32 → St → Option (Unit × St)) (K36 : Int32 → Int32 → Int32 → Int64 → Int64 → Int32 → Int32 → Int32 → St → Option (Unit × St)) (x1 : Int32) (x2 : Int32) (x3 : Int32) (x4 : Int64) (x6 : Int64) (x8 : Int32) (x9 : Int32) (x10 : Int32) (σ : St) : Option (Unit × St) := nx (x10 + (1 : Int32)) (fun v1 => (K36 x1 x2 x3 x4 x6 x8 x9 v1 σ))
set_option maxHeartbeats 4000000 in
set_option maxRecDepth 100000 in
theorem wX8_greedyStep_154 (hC : Cx RX8 cX8_greedyStep 12 none D cA p s m args meth c) {N : Nat} {K16 : Int32 → Int32 → Int32 → Int64 → Int64 → Int32 → Int32 → St → Option (Unit × St)} {K36 : Int32 → Int32 → Int32 → Int64 → Int64 → Int32 → Int32 → Int32 → St → Option (Unit × St)} {x1 : Int32} {x2 : Int32} {x3 : Int32} {x4 : Int64} {x6 : Int64} {x8 : Int32} {x9 : Int32} {x10 : Int32} {σ : St} {r : Unit} {σ' : St} (hK16 : ∀ (x1 : Int32) (x2 : Int32) (x3 : Int32) (x4 : Int64) (x6 : Int64) (x8 : Int32) (x9 : Int32) (σ : St) (H : Heap) (locs : List Loc) (ls : Array Slot), K16 x1 x2 x3 x4 x6 x8 x9 σ = some (r, σ') → Wd kdM 31 D cA ad s σ H locs → lv_has ls 12 [(0, .ref (ad 0)), (1, .int x1), (2, .int x2), (3, .int x3), (4, .long x4), (6, .long x6), (8, .int x8), (9, .int x9)] → W p l e rmX8_greedyStep s m args below meth c H locs 0 0 (EndW kdM 31 D cA ad below args s none σ') (F0 m 16 ls [])) (hK36 : ∀ (x1 : Int32) (x2 : Int32) (x3 : Int32) (x4 : Int64) (x6 : Int64) (x8 : Int32) (x9 : Int32) (x10 : Int32) (σ : St) (H : Heap) (locs : List Loc) (ls : Array Slot), K36 x1 x2 x3 x4 x6 x8 x9 x10 σ = some (r, σ') → Wd kdM 31 D cA ad s σ H locs → lv_has ls 12 [(0, .ref (ad 0)), (1, .int x1), (2, .int x2), (3, .int x3), (4, .long x4), (6, .long x6), (8, .int x8), (9, .int x9), (10, .int x10)] → W p l e rmX8_greedyStep s m args below meth c H locs 0 0 (EndW kdM 31 D cA ad below args s none σ') (F0 m 36 ls [])) {H : Heap} {locs : List Loc} {ls : Array Slot} (hf : fX8_greedyStep_154 N K16 K36 x1 x2 x3 x4 x6 x8 x9 x10 σ = some (r, σ')) (hW : Wd kdM 31 D cA ad s σ H locs) (hl : lv_has ls 12 [(0, .ref (ad 0)), (1, .int x1), (2, .int x2), (3, .int x3), (4, .long x4), (6, .long x6), (8, .int x8), (9, .int x9), (10, .int x10)]) : W p l e rmX8_greedyStep s m args below meth c H locs 0 0 (EndW kdM 31 D cA ad below args s none σ') (F0 m 154 ls []) := by
  have hx := hC.1
  have hb := hC.2.1
  have hown := hC.2.2.2.1
  have hts := hC.2.2.2.2.1
  unfold fX8_greedyStep_154 at hf
  obtain ⟨v1, ev1⟩ : ∃ y : Int32, y = x10 + (1 : Int32) := ⟨_, rfl⟩
  have hf := nx_at ev1 hf
  refine lv_iinc (v := v1) (lv' := [(10, .int v1), (0, .ref (ad 0)), (1, .int x1), (2, .int x2), (3, .int x3), (4, .long x4), (6, .long x6), (8, .int x8), (9, .int x9)]) hx hb dX8_greedyStep_154 hl (k := 8) rfl (by rw [ev1]; rfl) (by decide) rfl (fun ls hl => ?_)
  refine lv_goto (tgt := 36) hx hb dX8_greedyStep_157 (by decide) ?_
  exact hK36 _ _ _ _ _ _ _ _ _ _ _ _ hf hW (lv_sub hl [1, 2, 3, 4, 5, 6, 7, 8, 0] rfl)
def fX8_greedyStep_125 (N : Nat) (K16 : Int32 → Int32 → Int32 → Int64 → Int64 → Int32 → Int32 → St → Option (Unit × St)) (K36 : Int32 → Int32 → Int32 → Int64 → Int64 → Int32 → Int32 → Int32 → St → Option (Unit × St)) (x1 : Int32) (x2 : Int32) (x3 : Int32) (x4 : Int64) (x6 : Int64) (x8 : Int32) (x9 : Int32) (x10 : Int32) (x11 : Int32) (σ : St) : Option (Unit × St) := if x11 < 0 then nx (σ.2 0 12) (fun v2 => nx (σ.2 0 13) (fun v3 => (fX8_greedyStep_154 N K16 K36 x1 x9 x10 v2 v3 (0 : Int32) x9 x10 σ))) else (fX8_greedyStep_154 N K16 K36 x1 x2 x3 x4 x6 x8 x9 x10 σ)
set_option maxHeartbeats 4000000 in
set_option maxRecDepth 100000 in
theorem wX8_greedyStep_125 (hC : Cx RX8 cX8_greedyStep 12 none D cA p s m args meth c) {N : Nat} {K16 : Int32 → Int32 → Int32 → Int64 → Int64 → Int32 → Int32 → St → Option (Unit × St)} {K36 : Int32 → Int32 → Int32 → Int64 → Int64 → Int32 → Int32 → Int32 → St → Option (Unit × St)} {x1 : Int32} {x2 : Int32} {x3 : Int32} {x4 : Int64} {x6 : Int64} {x8 : Int32} {x9 : Int32} {x10 : Int32} {x11 : Int32} {σ : St} {r : Unit} {σ' : St} (hK16 : ∀ (x1 : Int32) (x2 : Int32) (x3 : Int32) (x4 : Int64) (x6 : Int64) (x8 : Int32) (x9 : Int32) (σ : St) (H : Heap) (locs : List Loc) (ls : Array Slot), K16 x1 x2 x3 x4 x6 x8 x9 σ = some (r, σ') → Wd kdM 31 D cA ad s σ H locs → lv_has ls 12 [(0, .ref (ad 0)), (1, .int x1), (2, .int x2), (3, .int x3), (4, .long x4), (6, .long x6), (8, .int x8), (9, .int x9)] → W p l e rmX8_greedyStep s m args below meth c H locs 0 0 (EndW kdM 31 D cA ad below args s none σ') (F0 m 16 ls [])) (hK36 : ∀ (x1 : Int32) (x2 : Int32) (x3 : Int32) (x4 : Int64) (x6 : Int64) (x8 : Int32) (x9 : Int32) (x10 : Int32) (σ : St) (H : Heap) (locs : List Loc) (ls : Array Slot), K36 x1 x2 x3 x4 x6 x8 x9 x10 σ = some (r, σ') → Wd kdM 31 D cA ad s σ H locs → lv_has ls 12 [(0, .ref (ad 0)), (1, .int x1), (2, .int x2), (3, .int x3), (4, .long x4), (6, .long x6), (8, .int x8), (9, .int x9), (10, .int x10)] → W p l e rmX8_greedyStep s m args below meth c H locs 0 0 (EndW kdM 31 D cA ad below args s none σ') (F0 m 36 ls [])) {H : Heap} {locs : List Loc} {ls : Array Slot} (hf : fX8_greedyStep_125 N K16 K36 x1 x2 x3 x4 x6 x8 x9 x10 x11 σ = some (r, σ')) (hW : Wd kdM 31 D cA ad s σ H locs) (hl : lv_has ls 12 [(0, .ref (ad 0)), (1, .int x1), (2, .int x2), (3, .int x3), (4, .long x4), (6, .long x6), (8, .int x8), (9, .int x9), (10, .int x10), (11, .int x11)]) : W p l e rmX8_greedyStep s m args below meth c H locs 0 0 (EndW kdM 31 D cA ad below args s none σ') (F0 m 125 ls []) := by
  have hx := hC.1
  have hb := hC.2.1
  have hown := hC.2.2.2.1
  have hts := hC.2.2.2.2.1
  unfold fX8_greedyStep_125 at hf
  refine lv_iload hx hb dX8_greedyStep_125 (lv_at hl 9 rfl) ?_
  refine lv_if_lt (tgt := 133) hx hb dX8_greedyStep_127 (by decide) (fun h1 => ?_) (fun h1 => ?_)
  · have hf := it_t h1 hf
    refine lv_iconst (v := 0) hx hb dX8_greedyStep_133 (by decide) ?_
    refine lv_istore (lv' := [(8, .int (0 : Int32)), (0, .ref (ad 0)), (1, .int x1), (2, .int x2), (3, .int x3), (4, .long x4), (6, .long x6), (9, .int x9), (10, .int x10), (11, .int x11)]) hx hb dX8_greedyStep_134 hl (by decide) rfl (fun ls hl => ?_)
    refine lv_iload hx hb dX8_greedyStep_136 (lv_at hl 7 rfl) ?_
    refine lv_istore_n (lv' := [(2, .int x9), (8, .int (0 : Int32)), (0, .ref (ad 0)), (1, .int x1), (3, .int x3), (4, .long x4), (6, .long x6), (9, .int x9), (10, .int x10), (11, .int x11)]) hx hb dX8_greedyStep_138 rfl hl (by decide) rfl (fun ls hl => ?_)
    refine lv_iload hx hb dX8_greedyStep_139 (lv_at hl 8 rfl) ?_
    refine lv_istore_n (lv' := [(3, .int x10), (2, .int x9), (8, .int (0 : Int32)), (0, .ref (ad 0)), (1, .int x1), (4, .long x4), (6, .long x6), (9, .int x9), (10, .int x10), (11, .int x11)]) hx hb dX8_greedyStep_141 rfl hl (by decide) rfl (fun ls hl => ?_)
    refine lv_aload_n hx hb dX8_greedyStep_142 rfl (lv_at hl 3 rfl) ?_
    refine gfX8_154 hC hW 0 (by decide) rfl rfl dX8_greedyStep_143 ?_
    refine lv_topl (fun v2 ev2 => ?_)
    have hf := nx_at ev2 hf
    refine lv_lstore (lv' := [(4, .long v2), (3, .int x10), (2, .int x9), (8, .int (0 : Int32)), (0, .ref (ad 0)), (1, .int x1), (6, .long x6), (9, .int x9), (10, .int x10), (11, .int x11)]) hx hb dX8_greedyStep_146 hl (by decide) rfl (fun ls hl => ?_)
    refine lv_aload_n hx hb dX8_greedyStep_148 rfl (lv_at hl 4 rfl) ?_
    refine gfX8_158 hC hW 0 (by decide) rfl rfl dX8_greedyStep_149 ?_
    refine lv_topl (fun v3 ev3 => ?_)
    have hf := nx_at ev3 hf
    refine lv_lstore (lv' := [(6, .long v3), (4, .long v2), (3, .int x10), (2, .int x9), (8, .int (0 : Int32)), (0, .ref (ad 0)), (1, .int x1), (9, .int x9), (10, .int x10), (11, .int x11)]) hx hb dX8_greedyStep_152 hl (by decide) rfl (fun ls hl => ?_)
    exact wX8_greedyStep_154 hC hK16 hK36 hf hW (lv_sub hl [5, 6, 3, 2, 1, 0, 4, 7, 8] rfl)
  · have hf := it_f h1 hf
    refine lv_goto (tgt := 154) hx hb dX8_greedyStep_130 (by decide) ?_
    exact wX8_greedyStep_154 hC hK16 hK36 hf hW (lv_sub hl [0, 1, 2, 3, 4, 5, 6, 7, 8] rfl)
def fX8_greedyStep_115 (N : Nat) (K16 : Int32 → Int32 → Int32 → Int64 → Int64 → Int32 → Int32 → St → Option (Unit × St)) (K36 : Int32 → Int32 → Int32 → Int64 → Int64 → Int32 → Int32 → Int32 → St → Option (Unit × St)) (x1 : Int32) (x2 : Int32) (x3 : Int32) (x4 : Int64) (x6 : Int64) (x8 : Int32) (x9 : Int32) (x10 : Int32) (y0 : Int32) (σ : St) : Option (Unit × St) := if y0 = 0 then (fX8_greedyStep_125 N K16 K36 x1 x2 x3 x4 x6 (1 : Int32) x9 x10 y0 σ) else (fX8_greedyStep_125 N K16 K36 x1 x2 x3 x4 x6 x8 x9 x10 y0 σ)
set_option maxHeartbeats 4000000 in
set_option maxRecDepth 100000 in
theorem wX8_greedyStep_115 (hC : Cx RX8 cX8_greedyStep 12 none D cA p s m args meth c) {N : Nat} {K16 : Int32 → Int32 → Int32 → Int64 → Int64 → Int32 → Int32 → St → Option (Unit × St)} {K36 : Int32 → Int32 → Int32 → Int64 → Int64 → Int32 → Int32 → Int32 → St → Option (Unit × St)} {x1 : Int32} {x2 : Int32} {x3 : Int32} {x4 : Int64} {x6 : Int64} {x8 : Int32} {x9 : Int32} {x10 : Int32} {y0 : Int32} {σ : St} {r : Unit} {σ' : St} (hK16 : ∀ (x1 : Int32) (x2 : Int32) (x3 : Int32) (x4 : Int64) (x6 : Int64) (x8 : Int32) (x9 : Int32) (σ : St) (H : Heap) (locs : List Loc) (ls : Array Slot), K16 x1 x2 x3 x4 x6 x8 x9 σ = some (r, σ') → Wd kdM 31 D cA ad s σ H locs → lv_has ls 12 [(0, .ref (ad 0)), (1, .int x1), (2, .int x2), (3, .int x3), (4, .long x4), (6, .long x6), (8, .int x8), (9, .int x9)] → W p l e rmX8_greedyStep s m args below meth c H locs 0 0 (EndW kdM 31 D cA ad below args s none σ') (F0 m 16 ls [])) (hK36 : ∀ (x1 : Int32) (x2 : Int32) (x3 : Int32) (x4 : Int64) (x6 : Int64) (x8 : Int32) (x9 : Int32) (x10 : Int32) (σ : St) (H : Heap) (locs : List Loc) (ls : Array Slot), K36 x1 x2 x3 x4 x6 x8 x9 x10 σ = some (r, σ') → Wd kdM 31 D cA ad s σ H locs → lv_has ls 12 [(0, .ref (ad 0)), (1, .int x1), (2, .int x2), (3, .int x3), (4, .long x4), (6, .long x6), (8, .int x8), (9, .int x9), (10, .int x10)] → W p l e rmX8_greedyStep s m args below meth c H locs 0 0 (EndW kdM 31 D cA ad below args s none σ') (F0 m 36 ls [])) {H : Heap} {locs : List Loc} {ls : Array Slot} (hf : fX8_greedyStep_115 N K16 K36 x1 x2 x3 x4 x6 x8 x9 x10 y0 σ = some (r, σ')) (hW : Wd kdM 31 D cA ad s σ H locs) (hl : lv_has ls 12 [(0, .ref (ad 0)), (1, .int x1), (2, .int x2), (3, .int x3), (4, .long x4), (6, .long x6), (8, .int x8), (9, .int x9), (10, .int x10)]) : W p l e rmX8_greedyStep s m args below meth c H locs 0 0 (EndW kdM 31 D cA ad below args s none σ') (F0 m 115 ls [.int y0]) := by
  have hx := hC.1
  have hb := hC.2.1
  have hown := hC.2.2.2.1
  have hts := hC.2.2.2.2.1
  unfold fX8_greedyStep_115 at hf
  refine lv_istore (lv' := [(11, .int y0), (0, .ref (ad 0)), (1, .int x1), (2, .int x2), (3, .int x3), (4, .long x4), (6, .long x6), (8, .int x8), (9, .int x9), (10, .int x10)]) hx hb dX8_greedyStep_115 hl (by decide) rfl (fun ls hl => ?_)
  refine lv_iload hx hb dX8_greedyStep_117 (lv_at hl 0 rfl) ?_
  refine lv_if_ne (tgt := 125) hx hb dX8_greedyStep_119 (by decide) (fun h1 => ?_) (fun h1 => ?_)
  · have hf := it_f h1 hf
    exact wX8_greedyStep_125 hC hK16 hK36 hf hW (lv_sub hl [1, 2, 3, 4, 5, 6, 7, 8, 9, 0] rfl)
  · have hf := it_t h1 hf
    refine lv_iconst (v := 1) hx hb dX8_greedyStep_122 (by decide) ?_
    refine lv_istore (lv' := [(8, .int (1 : Int32)), (11, .int y0), (0, .ref (ad 0)), (1, .int x1), (2, .int x2), (3, .int x3), (4, .long x4), (6, .long x6), (9, .int x9), (10, .int x10)]) hx hb dX8_greedyStep_123 hl (by decide) rfl (fun ls hl => ?_)
    exact wX8_greedyStep_125 hC hK16 hK36 hf hW (lv_sub hl [2, 3, 4, 5, 6, 7, 0, 8, 9, 1] rfl)
def fX8_greedyStep_36 (N : Nat) (K16 : Int32 → Int32 → Int32 → Int64 → Int64 → Int32 → Int32 → St → Option (Unit × St)) : Nat → Int32 → Int32 → Int32 → Int64 → Int64 → Int32 → Int32 → Int32 → St → Option (Unit × St)
  | 0, _, _, _, _, _, _, _, _, _ => none
  | n + 1, x1, x2, x3, x4, x6, x8, x9, x10, σ => if ((σ.1 0 0) + (σ.1 0 11)) ≤ x10 then nx (x9 + (1 : Int32)) (fun v2 => (K16 x1 x2 x3 x4 x6 x8 v2 σ)) else gd (ib x9 40) (if (σ.1 20 x9.toNatClampNeg) = 0 then (fX8_greedyStep_154 N K16 (fX8_greedyStep_36 N K16 n) x1 x2 x3 x4 x6 x8 x9 x10 σ) else gd (ib x10 40) (if (σ.1 20 x10.toNatClampNeg) = 0 then (fX8_greedyStep_154 N K16 (fX8_greedyStep_36 N K16 n) x1 x2 x3 x4 x6 x8 x9 x10 σ) else gd (ib x9 40) (gd (ib x10 40) (bd (fX8_link N x1 (σ.1 19 x9.toNatClampNeg) (σ.1 19 x10.toNatClampNeg) σ) (fun r9 s10 => if 0 ≤ x2 then bd (fX8_compare N (s10.2 0 12) (s10.2 0 13) x4 x6 s10) (fun r13 s14 => (fX8_greedyStep_115 N K16 (fX8_greedyStep_36 N K16 n) x1 x2 x3 x4 x6 x8 x9 x10 r13 s14)) else (fX8_greedyStep_115 N K16 (fX8_greedyStep_36 N K16 n) x1 x2 x3 x4 x6 x8 x9 x10 (-1 : Int32) s10))))))
set_option maxHeartbeats 4000000 in
set_option maxRecDepth 100000 in
theorem wX8_greedyStep_36 (hC : Cx RX8 cX8_greedyStep 12 none D cA p s m args meth c) {N : Nat} {K16 : Int32 → Int32 → Int32 → Int64 → Int64 → Int32 → Int32 → St → Option (Unit × St)} {r : Unit} {σ' : St} (hK16 : ∀ (x1 : Int32) (x2 : Int32) (x3 : Int32) (x4 : Int64) (x6 : Int64) (x8 : Int32) (x9 : Int32) (σ : St) (H : Heap) (locs : List Loc) (ls : Array Slot), K16 x1 x2 x3 x4 x6 x8 x9 σ = some (r, σ') → Wd kdM 31 D cA ad s σ H locs → lv_has ls 12 [(0, .ref (ad 0)), (1, .int x1), (2, .int x2), (3, .int x3), (4, .long x4), (6, .long x6), (8, .int x8), (9, .int x9)] → W p l e rmX8_greedyStep s m args below meth c H locs 0 0 (EndW kdM 31 D cA ad below args s none σ') (F0 m 16 ls [])) : ∀ (n : Nat) (x1 : Int32) (x2 : Int32) (x3 : Int32) (x4 : Int64) (x6 : Int64) (x8 : Int32) (x9 : Int32) (x10 : Int32) (σ : St) (H : Heap) (locs : List Loc) (ls : Array Slot), fX8_greedyStep_36 N K16 n x1 x2 x3 x4 x6 x8 x9 x10 σ = some (r, σ') → Wd kdM 31 D cA ad s σ H locs → lv_has ls 12 [(0, .ref (ad 0)), (1, .int x1), (2, .int x2), (3, .int x3), (4, .long x4), (6, .long x6), (8, .int x8), (9, .int x9), (10, .int x10)] → W p l e rmX8_greedyStep s m args below meth c H locs 0 0 (EndW kdM 31 D cA ad below args s none σ') (F0 m 36 ls []) := by
  have hx := hC.1
  have hb := hC.2.1
  have hown := hC.2.2.2.1
  have hts := hC.2.2.2.2.1
  intro n
  induction n with
  | zero =>
    intro x1 x2 x3 x4 x6 x8 x9 x10 σ H locs ls hf
    rw [fX8_greedyStep_36] at hf
    cases hf
  | succ n ih =>
    intro x1 x2 x3 x4 x6 x8 x9 x10 σ H locs ls hf hW hl
    rw [fX8_greedyStep_36] at hf
    refine lv_iload hx hb dX8_greedyStep_36 (lv_at hl 8 rfl) ?_
    refine lv_aload_n hx hb dX8_greedyStep_38 rfl (lv_at hl 0 rfl) ?_
    refine gfX8_107 hC hW 0 (by decide) rfl rfl dX8_greedyStep_39 ?_
    refine lv_aload_n hx hb dX8_greedyStep_42 rfl (lv_at hl 0 rfl) ?_
    refine gfX8_147 hC hW 0 (by decide) rfl rfl dX8_greedyStep_43 ?_
    refine lv_iadd hx hb dX8_greedyStep_46 ?_
    refine lv_icmp_ge (tgt := 160) hx hb dX8_greedyStep_47 (by decide) (fun h1 => ?_) (fun h1 => ?_)
    · have hf := it_t h1 hf
      obtain ⟨v2, ev2⟩ : ∃ y : Int32, y = x9 + (1 : Int32) := ⟨_, rfl⟩
      have hf := nx_at ev2 hf
      refine lv_iinc (v := v2) (lv' := [(9, .int v2), (0, .ref (ad 0)), (1, .int x1), (2, .int x2), (3, .int x3), (4, .long x4), (6, .long x6), (8, .int x8), (10, .int x10)]) hx hb dX8_greedyStep_160 hl (k := 7) rfl (by rw [ev2]; rfl) (by decide) rfl (fun ls hl => ?_)
      refine lv_goto (tgt := 16) hx hb dX8_greedyStep_163 (by decide) ?_
      exact hK16 _ _ _ _ _ _ _ _ _ _ _ hf hW (lv_sub hl [1, 2, 3, 4, 5, 6, 7, 0] rfl)
    · have hf := it_f h1 hf
      refine lv_aload_n hx hb dX8_greedyStep_50 rfl (lv_at hl 0 rfl) ?_
      refine gfX8_74 hC hW 0 (by decide) rfl (q := 20) rfl dX8_greedyStep_51 ?_
      refine lv_iload hx hb dX8_greedyStep_54 (lv_at hl 7 rfl) ?_
      obtain ⟨h3, hf⟩ := gd_some hf
      refine Wd.zald hC hW 20 (by decide) rfl h3 dX8_greedyStep_56 ?_
      refine lv_if_eq (tgt := 154) hx hb dX8_greedyStep_57 (by decide) (fun h4 => ?_) (fun h4 => ?_)
      · have hf := it_t h4 hf
        exact wX8_greedyStep_154 hC hK16 ih hf hW (lv_sub hl [0, 1, 2, 3, 4, 5, 6, 7, 8] rfl)
      · have hf := it_f h4 hf
        refine lv_aload_n hx hb dX8_greedyStep_60 rfl (lv_at hl 0 rfl) ?_
        refine gfX8_74 hC hW 0 (by decide) rfl (q := 20) rfl dX8_greedyStep_61 ?_
        refine lv_iload hx hb dX8_greedyStep_64 (lv_at hl 8 rfl) ?_
        obtain ⟨h5, hf⟩ := gd_some hf
        refine Wd.zald hC hW 20 (by decide) rfl h5 dX8_greedyStep_66 ?_
        refine lv_if_ne (tgt := 73) hx hb dX8_greedyStep_67 (by decide) (fun h6 => ?_) (fun h6 => ?_)
        · have hf := it_f h6 hf
          refine lv_aload_n hx hb dX8_greedyStep_73 rfl (lv_at hl 0 rfl) ?_
          refine lv_iload_n hx hb dX8_greedyStep_74 rfl (lv_at hl 1 rfl) ?_
          refine lv_aload_n hx hb dX8_greedyStep_75 rfl (lv_at hl 0 rfl) ?_
          refine gfX8_71 hC hW 0 (by decide) rfl (q := 19) rfl dX8_greedyStep_76 ?_
          refine lv_iload hx hb dX8_greedyStep_79 (lv_at hl 7 rfl) ?_
          obtain ⟨h7, hf⟩ := gd_some hf
          refine Wd.iald hC hW 19 (by decide) rfl h7 dX8_greedyStep_81 ?_
          refine lv_aload_n hx hb dX8_greedyStep_82 rfl (lv_at hl 0 rfl) ?_
          refine gfX8_71 hC hW 0 (by decide) rfl (q := 19) rfl dX8_greedyStep_83 ?_
          refine lv_iload hx hb dX8_greedyStep_86 (lv_at hl 8 rfl) ?_
          obtain ⟨h8, hf⟩ := gd_some hf
          refine Wd.iald hC hW 19 (by decide) rfl h8 dX8_greedyStep_88 ?_
          obtain ⟨r9, s10, c11, hf⟩ := bd_some hf
          refine Wd.callV (n := 3) (As := [.int x1, .int (σ.1 19 x9.toNatClampNeg), .int (σ.1 19 x10.toNatClampNeg)]) (rest := []) (rv := none) hC hW 0 (kX8_link c11) (by decide) rfl rfl q831 q833 qs51 q8 q834 ⟨rfl, rfl⟩ ⟨by decide +kernel, by decide +kernel, by decide +kernel⟩ ⟨Nat.le_of_ble_eq_true rfl, Nat.le_of_ble_eq_true rfl⟩ ⟨Nat.zero_le _, Nat.zero_le _⟩ rfl hl.1 rfl (st2 := []) rfl (Nat.le_of_ble_eq_true rfl) dX8_greedyStep_89 (fun H locs hW => ?_)
          refine lv_iload_n hx hb dX8_greedyStep_92 rfl (lv_at hl 2 rfl) ?_
          refine lv_if_ge (tgt := 100) hx hb dX8_greedyStep_93 (by decide) (fun h12 => ?_) (fun h12 => ?_)
          · have hf := it_t h12 hf
            refine lv_aload_n hx hb dX8_greedyStep_100 rfl (lv_at hl 0 rfl) ?_
            refine gfX8_154 hC hW 0 (by decide) rfl rfl dX8_greedyStep_101 ?_
            refine lv_aload_n hx hb dX8_greedyStep_104 rfl (lv_at hl 0 rfl) ?_
            refine gfX8_158 hC hW 0 (by decide) rfl rfl dX8_greedyStep_105 ?_
            refine lv_lload hx hb dX8_greedyStep_108 (lv_at hl 4 rfl) ?_
            refine lv_lload hx hb dX8_greedyStep_110 (lv_at hl 5 rfl) ?_
            obtain ⟨r13, s14, c15, hf⟩ := bd_some hf
            refine Wd.callS (n := 4) (As := [.long (s10.2 0 12), .long (s10.2 0 13), .long x4, .long x6]) (rest := []) (rv := some (.int r13)) hC hW (kX8_compare c15) q872 q873 q8 q874 ⟨rfl, rfl⟩ ⟨by decide +kernel, by decide +kernel, by decide +kernel⟩ ⟨Nat.le_of_ble_eq_true rfl, Nat.le_of_ble_eq_true rfl⟩ ⟨Nat.zero_le _, Nat.zero_le _⟩ rfl hl.1 rfl (st2 := [.int r13]) rfl (Nat.le_of_ble_eq_true rfl) dX8_greedyStep_112 (fun H locs hW => ?_)
            exact wX8_greedyStep_115 hC hK16 ih hf hW (lv_sub hl [0, 1, 2, 3, 4, 5, 6, 7, 8] rfl)
          · have hf := it_f h12 hf
            refine lv_iconst (v := (-1)) hx hb dX8_greedyStep_96 (by decide) ?_
            refine lv_goto (tgt := 115) hx hb dX8_greedyStep_97 (by decide) ?_
            exact wX8_greedyStep_115 hC hK16 ih hf hW (lv_sub hl [0, 1, 2, 3, 4, 5, 6, 7, 8] rfl)
        · have hf := it_t h6 hf
          refine lv_goto (tgt := 154) hx hb dX8_greedyStep_70 (by decide) ?_
          exact wX8_greedyStep_154 hC hK16 ih hf hW (lv_sub hl [0, 1, 2, 3, 4, 5, 6, 7, 8] rfl)
def fX8_greedyStep_16 (N : Nat) : Nat → Int32 → Int32 → Int32 → Int64 → Int64 → Int32 → Int32 → St → Option (Unit × St)
  | 0, _, _, _, _, _, _, _, _ => none
  | n + 1, x1, x2, x3, x4, x6, x8, x9, σ => if ((σ.1 0 0) + (σ.1 0 11)) ≤ x9 then if x8 = 0 then (fX8_greedyStep_181 N x2 x3 x4 x6 (0 : Int32) (σ.1 0 31) σ) else (fX8_greedyStep_181 N x2 x3 x4 x6 (1 : Int32) (σ.1 0 31) σ) else nx (x9 + (1 : Int32)) (fun v3 => (fX8_greedyStep_36 N (fX8_greedyStep_16 N n) N x1 x2 x3 x4 x6 x8 x9 v3 σ))
set_option maxHeartbeats 4000000 in
set_option maxRecDepth 100000 in
theorem wX8_greedyStep_16 (hC : Cx RX8 cX8_greedyStep 12 none D cA p s m args meth c) {N : Nat} {r : Unit} {σ' : St} : ∀ (n : Nat) (x1 : Int32) (x2 : Int32) (x3 : Int32) (x4 : Int64) (x6 : Int64) (x8 : Int32) (x9 : Int32) (σ : St) (H : Heap) (locs : List Loc) (ls : Array Slot), fX8_greedyStep_16 N n x1 x2 x3 x4 x6 x8 x9 σ = some (r, σ') → Wd kdM 31 D cA ad s σ H locs → lv_has ls 12 [(0, .ref (ad 0)), (1, .int x1), (2, .int x2), (3, .int x3), (4, .long x4), (6, .long x6), (8, .int x8), (9, .int x9)] → W p l e rmX8_greedyStep s m args below meth c H locs 0 0 (EndW kdM 31 D cA ad below args s none σ') (F0 m 16 ls []) := by
  have hx := hC.1
  have hb := hC.2.1
  have hown := hC.2.2.2.1
  have hts := hC.2.2.2.2.1
  intro n
  induction n with
  | zero =>
    intro x1 x2 x3 x4 x6 x8 x9 σ H locs ls hf
    rw [fX8_greedyStep_16] at hf
    cases hf
  | succ n ih =>
    intro x1 x2 x3 x4 x6 x8 x9 σ H locs ls hf hW hl
    rw [fX8_greedyStep_16] at hf
    refine lv_iload hx hb dX8_greedyStep_16 (lv_at hl 7 rfl) ?_
    refine lv_aload_n hx hb dX8_greedyStep_18 rfl (lv_at hl 0 rfl) ?_
    refine gfX8_107 hC hW 0 (by decide) rfl rfl dX8_greedyStep_19 ?_
    refine lv_aload_n hx hb dX8_greedyStep_22 rfl (lv_at hl 0 rfl) ?_
    refine gfX8_147 hC hW 0 (by decide) rfl rfl dX8_greedyStep_23 ?_
    refine lv_iadd hx hb dX8_greedyStep_26 ?_
    refine lv_icmp_ge (tgt := 166) hx hb dX8_greedyStep_27 (by decide) (fun h1 => ?_) (fun h1 => ?_)
    · have hf := it_t h1 hf
      refine lv_aload_n hx hb dX8_greedyStep_166 rfl (lv_at hl 0 rfl) ?_
      refine lv_dup hx hb dX8_greedyStep_167 rfl ?_
      refine gfX8_188 hC hW 0 (by decide) rfl rfl dX8_greedyStep_168 ?_
      refine lv_iload hx hb dX8_greedyStep_171 (lv_at hl 6 rfl) ?_
      refine lv_if_eq (tgt := 180) hx hb dX8_greedyStep_173 (by decide) (fun h2 => ?_) (fun h2 => ?_)
      · have hf := it_t h2 hf
        refine lv_iconst (v := 0) hx hb dX8_greedyStep_180 (by decide) ?_
        exact wX8_greedyStep_181 hC hf hW (lv_sub hl [0, 2, 3, 4, 5] rfl)
      · have hf := it_f h2 hf
        refine lv_iconst (v := 1) hx hb dX8_greedyStep_176 (by decide) ?_
        refine lv_goto (tgt := 181) hx hb dX8_greedyStep_177 (by decide) ?_
        exact wX8_greedyStep_181 hC hf hW (lv_sub hl [0, 2, 3, 4, 5] rfl)
    · have hf := it_f h1 hf
      refine lv_iload hx hb dX8_greedyStep_30 (lv_at hl 7 rfl) ?_
      refine lv_iconst (v := 1) hx hb dX8_greedyStep_32 (by decide) ?_
      refine lv_iadd hx hb dX8_greedyStep_33 ?_
      refine lv_topi (fun v3 ev3 => ?_)
      have hf := nx_at ev3 hf
      refine lv_istore (lv' := [(10, .int v3), (0, .ref (ad 0)), (1, .int x1), (2, .int x2), (3, .int x3), (4, .long x4), (6, .long x6), (8, .int x8), (9, .int x9)]) hx hb dX8_greedyStep_34 hl (by decide) rfl (fun ls hl => ?_)
      exact wX8_greedyStep_36 hC ih N _ _ _ _ _ _ _ _ _ _ _ _ hf hW (lv_sub hl [1, 2, 3, 4, 5, 6, 7, 8, 0] rfl)
def fX8_greedyStep (N : Nat) (x1 : Int32) (σ : St) : Option (Unit × St) := (fX8_greedyStep_16 N N x1 (-1 : Int32) (-1 : Int32) (0 : Int64) (1 : Int64) (0 : Int32) (0 : Int32) σ)
set_option maxHeartbeats 4000000 in
set_option maxRecDepth 100000 in
theorem kX8_greedyStep {l : Launch} {D : va_G} {cA : Nat → ClassId} {ad : Nat → Nat} {N : Nat} {x1 : Int32} {σ : St} {r : Unit} {σ' : St} (hf : fX8_greedyStep N x1 σ = some (r, σ')) : MW kdM 31 l D cA ad ⟨RX8, "greedyStep", "(I)V"⟩ cX8_greedyStep 12 none rmX8_greedyStep [.ref (ad 0), .int x1] σ none σ' := by
  refine MW.of (by decide) (Nat.le_of_ble_eq_true rfl) ?_
  intro p e s m args below meth c ls hC hW hl
  have hx := hC.1
  have hb := hC.2.1
  have hown := hC.2.2.2.1
  have hts := hC.2.2.2.2.1
  have hl : lv_has ls 12 [(0, .ref (ad 0)), (1, .int x1)] := hl
  unfold fX8_greedyStep at hf
  refine lv_iconst (v := (-1)) hx hb dX8_greedyStep_0 (by decide) ?_
  refine lv_istore_n (lv' := [(2, .int (-1 : Int32)), (0, .ref (ad 0)), (1, .int x1)]) hx hb dX8_greedyStep_1 rfl hl (by decide) rfl (fun ls hl => ?_)
  refine lv_iconst (v := (-1)) hx hb dX8_greedyStep_2 (by decide) ?_
  refine lv_istore_n (lv' := [(3, .int (-1 : Int32)), (2, .int (-1 : Int32)), (0, .ref (ad 0)), (1, .int x1)]) hx hb dX8_greedyStep_3 rfl hl (by decide) rfl (fun ls hl => ?_)
  refine lv_lconst (v := 0) hx hb dX8_greedyStep_4 (by decide) ?_
  refine lv_lstore (lv' := [(4, .long (0 : Int64)), (3, .int (-1 : Int32)), (2, .int (-1 : Int32)), (0, .ref (ad 0)), (1, .int x1)]) hx hb dX8_greedyStep_5 hl (by decide) rfl (fun ls hl => ?_)
  refine lv_lconst (v := 1) hx hb dX8_greedyStep_7 (by decide) ?_
  refine lv_lstore (lv' := [(6, .long (1 : Int64)), (4, .long (0 : Int64)), (3, .int (-1 : Int32)), (2, .int (-1 : Int32)), (0, .ref (ad 0)), (1, .int x1)]) hx hb dX8_greedyStep_8 hl (by decide) rfl (fun ls hl => ?_)
  refine lv_iconst (v := 0) hx hb dX8_greedyStep_10 (by decide) ?_
  refine lv_istore (lv' := [(8, .int (0 : Int32)), (6, .long (1 : Int64)), (4, .long (0 : Int64)), (3, .int (-1 : Int32)), (2, .int (-1 : Int32)), (0, .ref (ad 0)), (1, .int x1)]) hx hb dX8_greedyStep_11 hl (by decide) rfl (fun ls hl => ?_)
  refine lv_iconst (v := 0) hx hb dX8_greedyStep_13 (by decide) ?_
  refine lv_istore (lv' := [(9, .int (0 : Int32)), (8, .int (0 : Int32)), (6, .long (1 : Int64)), (4, .long (0 : Int64)), (3, .int (-1 : Int32)), (2, .int (-1 : Int32)), (0, .ref (ad 0)), (1, .int x1)]) hx hb dX8_greedyStep_14 hl (by decide) rfl (fun ls hl => ?_)
  exact wX8_greedyStep_16 hC N _ _ _ _ _ _ _ _ _ _ _ hf hW (lv_sub hl [6, 7, 5, 4, 3, 2, 1, 0] rfl)
abbrev rmX8_keeps : Room := { frames := 1, cells := 0, slots := 0, locals := 29 }
def fX8_keeps_395 (N : Nat) : Nat → Int32 → Int32 → St → Option (Unit × St)
  | 0, _, _, _ => none
  | n + 1, x1, x4, σ => if (20 : Int32) ≤ x4 then some ((), σ) else gd (ib (((20 : Int32) * x1) + x4) 80) (nx (sI σ 18 (((20 : Int32) * x1) + x4).toNatClampNeg (0 : Int32)) (fun s3 => nx (x4 + (1 : Int32)) (fun v4 => ((fX8_keeps_395 N n) x1 v4 s3))))
set_option maxHeartbeats 4000000 in
set_option maxRecDepth 100000 in
theorem wX8_keeps_395 (hC : Cx RX8 cX8_keeps 8 none D cA p s m args meth c) {N : Nat} {r : Unit} {σ' : St} : ∀ (n : Nat) (x1 : Int32) (x4 : Int32) (σ : St) (H : Heap) (locs : List Loc) (ls : Array Slot), fX8_keeps_395 N n x1 x4 σ = some (r, σ') → Wd kdM 31 D cA ad s σ H locs → lv_has ls 8 [(0, .ref (ad 0)), (1, .int x1), (4, .int x4)] → W p l e rmX8_keeps s m args below meth c H locs 0 0 (EndW kdM 31 D cA ad below args s none σ') (F0 m 395 ls []) := by
  have hx := hC.1
  have hb := hC.2.1
  have hown := hC.2.2.2.1
  have hts := hC.2.2.2.2.1
  intro n
  induction n with
  | zero =>
    intro x1 x4 σ H locs ls hf
    rw [fX8_keeps_395] at hf
    cases hf
  | succ n ih =>
    intro x1 x4 σ H locs ls hf hW hl
    rw [fX8_keeps_395] at hf
    refine lv_iload hx hb dX8_keeps_395 (lv_at hl 2 rfl) ?_
    refine lv_bipush (v := 20) hx hb dX8_keeps_397 (by decide) ?_
    refine lv_icmp_ge (tgt := 421) hx hb dX8_keeps_399 (by decide) (fun h1 => ?_) (fun h1 => ?_)
    · have hf := it_t h1 hf
      obtain ⟨-, rfl⟩ := sp hf
      exact Wd.vret hC hW dX8_keeps_421
    · have hf := it_f h1 hf
      refine lv_aload_n hx hb dX8_keeps_402 rfl (lv_at hl 0 rfl) ?_
      refine gfX8_68 hC hW 0 (by decide) rfl (q := 18) rfl dX8_keeps_403 ?_
      refine lv_bipush (v := 20) hx hb dX8_keeps_406 (by decide) ?_
      refine lv_iload_n hx hb dX8_keeps_408 rfl (lv_at hl 1 rfl) ?_
      refine lv_imul hx hb dX8_keeps_409 ?_
      refine lv_iload hx hb dX8_keeps_410 (lv_at hl 2 rfl) ?_
      refine lv_iadd hx hb dX8_keeps_412 ?_
      refine lv_iconst (v := 0) hx hb dX8_keeps_413 (by decide) ?_
      obtain ⟨h2, hf⟩ := gd_some hf
      refine Wd.iast hC hW 18 (by decide) rfl h2 dX8_keeps_414 (fun H locs hW => ?_)
      obtain ⟨s3, es3, hf⟩ := nx_ex hf
      rw [← es3] at hW
      obtain ⟨v4, ev4⟩ : ∃ y : Int32, y = x4 + (1 : Int32) := ⟨_, rfl⟩
      have hf := nx_at ev4 hf
      refine lv_iinc (v := v4) (lv' := [(4, .int v4), (0, .ref (ad 0)), (1, .int x1)]) hx hb dX8_keeps_415 hl (k := 2) rfl (by rw [ev4]; rfl) (by decide) rfl (fun ls hl => ?_)
      refine lv_goto (tgt := 395) hx hb dX8_keeps_418 (by decide) ?_
      exact ih _ _ _ _ _ _ hf hW (lv_sub hl [1, 2, 0] rfl)
def fX8_keeps_381 (N : Nat) (x1 : Int32) (y0 : Int32) (y1 : Int32) (σ : St) : Option (Unit × St) := gd (ib y1 4) (nx (sI σ 11 y1.toNatClampNeg y0) (fun s2 => gd (ib x1 4) (nx (sI s2 12 x1.toNatClampNeg (s2.1 0 31)) (fun s4 => (fX8_keeps_395 N N x1 (0 : Int32) s4)))))
set_option maxHeartbeats 4000000 in
set_option maxRecDepth 100000 in
theorem wX8_keeps_381 (hC : Cx RX8 cX8_keeps 8 none D cA p s m args meth c) {N : Nat} {x1 : Int32} {y0 : Int32} {y1 : Int32} {σ : St} {r : Unit} {σ' : St} {H : Heap} {locs : List Loc} {ls : Array Slot} (hf : fX8_keeps_381 N x1 y0 y1 σ = some (r, σ')) (hW : Wd kdM 31 D cA ad s σ H locs) (hl : lv_has ls 8 [(0, .ref (ad 0)), (1, .int x1)]) : W p l e rmX8_keeps s m args below meth c H locs 0 0 (EndW kdM 31 D cA ad below args s none σ') (F0 m 381 ls [.int y0, .int y1, .ref (ad 11)]) := by
  have hx := hC.1
  have hb := hC.2.1
  have hown := hC.2.2.2.1
  have hts := hC.2.2.2.2.1
  unfold fX8_keeps_381 at hf
  obtain ⟨h1, hf⟩ := gd_some hf
  refine Wd.iast hC hW 11 (by decide) rfl h1 dX8_keeps_381 (fun H locs hW => ?_)
  obtain ⟨s2, es2, hf⟩ := nx_ex hf
  rw [← es2] at hW
  refine lv_aload_n hx hb dX8_keeps_382 rfl (lv_at hl 0 rfl) ?_
  refine gfX8_49 hC hW 0 (by decide) rfl (q := 12) rfl dX8_keeps_383 ?_
  refine lv_iload_n hx hb dX8_keeps_386 rfl (lv_at hl 1 rfl) ?_
  refine lv_aload_n hx hb dX8_keeps_387 rfl (lv_at hl 0 rfl) ?_
  refine gfX8_188 hC hW 0 (by decide) rfl rfl dX8_keeps_388 ?_
  obtain ⟨h3, hf⟩ := gd_some hf
  refine Wd.iast hC hW 12 (by decide) rfl h3 dX8_keeps_391 (fun H locs hW => ?_)
  obtain ⟨s4, es4, hf⟩ := nx_ex hf
  rw [← es4] at hW
  refine lv_iconst (v := 0) hx hb dX8_keeps_392 (by decide) ?_
  refine lv_istore (lv' := [(4, .int (0 : Int32)), (0, .ref (ad 0)), (1, .int x1)]) hx hb dX8_keeps_393 hl (by decide) rfl (fun ls hl => ?_)
  exact wX8_keeps_395 hC N _ _ _ _ _ _ hf hW (lv_sub hl [1, 2, 0] rfl)
def fX8_keeps_279 (N : Nat) (K182 : Int32 → Int32 → Int32 → Int32 → St → Option (Unit × St)) (x1 : Int32) (x2 : Int32) (x3 : Int32) (x4 : Int32) (x7 : Int32) (y0 : Int32) (y1 : Int32) (σ : St) : Option (Unit × St) := gd (ib y1 76) (nx (sI σ 14 y1.toNatClampNeg y0) (fun s2 => gd (ib x4 19) (gd (ib (s2.1 26 x4.toNatClampNeg) 19) (gd (ib x7 76) (nx (sI s2 15 x7.toNatClampNeg (s2.1 7 (s2.1 26 x4.toNatClampNeg).toNatClampNeg)) (fun s6 => gd (ib x4 19) (gd (ib (s6.1 26 x4.toNatClampNeg) 19) (gd (ib x7 76) (nx (sJ s6 16 x7.toNatClampNeg (s6.2 23 (s6.1 26 x4.toNatClampNeg).toNatClampNeg)) (fun s10 => gd (ib x4 19) (gd (ib (s10.1 26 x4.toNatClampNeg) 19) (gd (ib x7 76) (nx (sJ s10 17 x7.toNatClampNeg (s10.2 24 (s10.1 26 x4.toNatClampNeg).toNatClampNeg)) (fun s14 => nx (x4 + (1 : Int32)) (fun v15 => (K182 x1 x2 x3 v15 s14))))))))))))))))
set_option maxHeartbeats 4000000 in
set_option maxRecDepth 100000 in
theorem wX8_keeps_279 (hC : Cx RX8 cX8_keeps 8 none D cA p s m args meth c) {N : Nat} {K182 : Int32 → Int32 → Int32 → Int32 → St → Option (Unit × St)} {x1 : Int32} {x2 : Int32} {x3 : Int32} {x4 : Int32} {x7 : Int32} {y0 : Int32} {y1 : Int32} {σ : St} {r : Unit} {σ' : St} (hK182 : ∀ (x1 : Int32) (x2 : Int32) (x3 : Int32) (x4 : Int32) (σ : St) (H : Heap) (locs : List Loc) (ls : Array Slot), K182 x1 x2 x3 x4 σ = some (r, σ') → Wd kdM 31 D cA ad s σ H locs → lv_has ls 8 [(0, .ref (ad 0)), (1, .int x1), (2, .int x2), (3, .int x3), (4, .int x4)] → W p l e rmX8_keeps s m args below meth c H locs 0 0 (EndW kdM 31 D cA ad below args s none σ') (F0 m 182 ls [])) {H : Heap} {locs : List Loc} {ls : Array Slot} (hf : fX8_keeps_279 N K182 x1 x2 x3 x4 x7 y0 y1 σ = some (r, σ')) (hW : Wd kdM 31 D cA ad s σ H locs) (hl : lv_has ls 8 [(0, .ref (ad 0)), (1, .int x1), (2, .int x2), (3, .int x3), (4, .int x4), (7, .int x7)]) : W p l e rmX8_keeps s m args below meth c H locs 0 0 (EndW kdM 31 D cA ad below args s none σ') (F0 m 279 ls [.int y0, .int y1, .ref (ad 14)]) := by
  have hx := hC.1
  have hb := hC.2.1
  have hown := hC.2.2.2.1
  have hts := hC.2.2.2.2.1
  unfold fX8_keeps_279 at hf
  obtain ⟨h1, hf⟩ := gd_some hf
  refine Wd.iast hC hW 14 (by decide) rfl h1 dX8_keeps_279 (fun H locs hW => ?_)
  obtain ⟨s2, es2, hf⟩ := nx_ex hf
  rw [← es2] at hW
  refine lv_aload_n hx hb dX8_keeps_280 rfl (lv_at hl 0 rfl) ?_
  refine gfX8_58 hC hW 0 (by decide) rfl (q := 15) rfl dX8_keeps_281 ?_
  refine lv_iload hx hb dX8_keeps_284 (lv_at hl 5 rfl) ?_
  refine lv_aload_n hx hb dX8_keeps_286 rfl (lv_at hl 0 rfl) ?_
  refine gfX8_33 hC hW 0 (by decide) rfl (q := 7) rfl dX8_keeps_287 ?_
  refine lv_aload_n hx hb dX8_keeps_290 rfl (lv_at hl 0 rfl) ?_
  refine gfX8_92 hC hW 0 (by decide) rfl (q := 26) rfl dX8_keeps_291 ?_
  refine lv_iload hx hb dX8_keeps_294 (lv_at hl 4 rfl) ?_
  obtain ⟨h3, hf⟩ := gd_some hf
  refine Wd.iald hC hW 26 (by decide) rfl h3 dX8_keeps_296 ?_
  obtain ⟨h4, hf⟩ := gd_some hf
  refine Wd.iald hC hW 7 (by decide) rfl h4 dX8_keeps_297 ?_
  obtain ⟨h5, hf⟩ := gd_some hf
  refine Wd.iast hC hW 15 (by decide) rfl h5 dX8_keeps_298 (fun H locs hW => ?_)
  obtain ⟨s6, es6, hf⟩ := nx_ex hf
  rw [← es6] at hW
  refine lv_aload_n hx hb dX8_keeps_299 rfl (lv_at hl 0 rfl) ?_
  refine gfX8_61 hC hW 0 (by decide) rfl (q := 16) rfl dX8_keeps_300 ?_
  refine lv_iload hx hb dX8_keeps_303 (lv_at hl 5 rfl) ?_
  refine lv_aload_n hx hb dX8_keeps_305 rfl (lv_at hl 0 rfl) ?_
  refine gfX8_83 hC hW 0 (by decide) rfl (q := 23) rfl dX8_keeps_306 ?_
  refine lv_aload_n hx hb dX8_keeps_309 rfl (lv_at hl 0 rfl) ?_
  refine gfX8_92 hC hW 0 (by decide) rfl (q := 26) rfl dX8_keeps_310 ?_
  refine lv_iload hx hb dX8_keeps_313 (lv_at hl 4 rfl) ?_
  obtain ⟨h7, hf⟩ := gd_some hf
  refine Wd.iald hC hW 26 (by decide) rfl h7 dX8_keeps_315 ?_
  obtain ⟨h8, hf⟩ := gd_some hf
  refine Wd.lald hC hW 23 (by decide) rfl h8 dX8_keeps_316 ?_
  obtain ⟨h9, hf⟩ := gd_some hf
  refine Wd.last hC hW 16 (by decide) rfl h9 dX8_keeps_317 (fun H locs hW => ?_)
  obtain ⟨s10, es10, hf⟩ := nx_ex hf
  rw [← es10] at hW
  refine lv_aload_n hx hb dX8_keeps_318 rfl (lv_at hl 0 rfl) ?_
  refine gfX8_65 hC hW 0 (by decide) rfl (q := 17) rfl dX8_keeps_319 ?_
  refine lv_iload hx hb dX8_keeps_322 (lv_at hl 5 rfl) ?_
  refine lv_aload_n hx hb dX8_keeps_324 rfl (lv_at hl 0 rfl) ?_
  refine gfX8_86 hC hW 0 (by decide) rfl (q := 24) rfl dX8_keeps_325 ?_
  refine lv_aload_n hx hb dX8_keeps_328 rfl (lv_at hl 0 rfl) ?_
  refine gfX8_92 hC hW 0 (by decide) rfl (q := 26) rfl dX8_keeps_329 ?_
  refine lv_iload hx hb dX8_keeps_332 (lv_at hl 4 rfl) ?_
  obtain ⟨h11, hf⟩ := gd_some hf
  refine Wd.iald hC hW 26 (by decide) rfl h11 dX8_keeps_334 ?_
  obtain ⟨h12, hf⟩ := gd_some hf
  refine Wd.lald hC hW 24 (by decide) rfl h12 dX8_keeps_335 ?_
  obtain ⟨h13, hf⟩ := gd_some hf
  refine Wd.last hC hW 17 (by decide) rfl h13 dX8_keeps_336 (fun H locs hW => ?_)
  obtain ⟨s14, es14, hf⟩ := nx_ex hf
  rw [← es14] at hW
  obtain ⟨v15, ev15⟩ : ∃ y : Int32, y = x4 + (1 : Int32) := ⟨_, rfl⟩
  have hf := nx_at ev15 hf
  refine lv_iinc (v := v15) (lv' := [(4, .int v15), (0, .ref (ad 0)), (1, .int x1), (2, .int x2), (3, .int x3), (7, .int x7)]) hx hb dX8_keeps_337 hl (k := 4) rfl (by rw [ev15]; rfl) (by decide) rfl (fun ls hl => ?_)
  refine lv_goto (tgt := 182) hx hb dX8_keeps_340 (by decide) ?_
  exact hK182 _ _ _ _ _ _ _ _ hf hW (lv_sub hl [1, 2, 3, 4, 0] rfl)
def fX8_keeps_258 (N : Nat) (K182 : Int32 → Int32 → Int32 → Int32 → St → Option (Unit × St)) (x1 : Int32) (x2 : Int32) (x3 : Int32) (x4 : Int32) (x5 : Int32) (x6 : Int32) (x7 : Int32) (y0 : Int32) (y1 : Int32) (σ : St) : Option (Unit × St) := gd (ib y1 76) (nx (sI σ 13 y1.toNatClampNeg y0) (fun s2 => if x6 ≤ x5 then (fX8_keeps_279 N K182 x1 x2 x3 x4 x7 x5 x7 s2) else (fX8_keeps_279 N K182 x1 x2 x3 x4 x7 x6 x7 s2)))
set_option maxHeartbeats 4000000 in
set_option maxRecDepth 100000 in
theorem wX8_keeps_258 (hC : Cx RX8 cX8_keeps 8 none D cA p s m args meth c) {N : Nat} {K182 : Int32 → Int32 → Int32 → Int32 → St → Option (Unit × St)} {x1 : Int32} {x2 : Int32} {x3 : Int32} {x4 : Int32} {x5 : Int32} {x6 : Int32} {x7 : Int32} {y0 : Int32} {y1 : Int32} {σ : St} {r : Unit} {σ' : St} (hK182 : ∀ (x1 : Int32) (x2 : Int32) (x3 : Int32) (x4 : Int32) (σ : St) (H : Heap) (locs : List Loc) (ls : Array Slot), K182 x1 x2 x3 x4 σ = some (r, σ') → Wd kdM 31 D cA ad s σ H locs → lv_has ls 8 [(0, .ref (ad 0)), (1, .int x1), (2, .int x2), (3, .int x3), (4, .int x4)] → W p l e rmX8_keeps s m args below meth c H locs 0 0 (EndW kdM 31 D cA ad below args s none σ') (F0 m 182 ls [])) {H : Heap} {locs : List Loc} {ls : Array Slot} (hf : fX8_keeps_258 N K182 x1 x2 x3 x4 x5 x6 x7 y0 y1 σ = some (r, σ')) (hW : Wd kdM 31 D cA ad s σ H locs) (hl : lv_has ls 8 [(0, .ref (ad 0)), (1, .int x1), (2, .int x2), (3, .int x3), (4, .int x4), (5, .int x5), (6, .int x6), (7, .int x7)]) : W p l e rmX8_keeps s m args below meth c H locs 0 0 (EndW kdM 31 D cA ad below args s none σ') (F0 m 258 ls [.int y0, .int y1, .ref (ad 13)]) := by
  have hx := hC.1
  have hb := hC.2.1
  have hown := hC.2.2.2.1
  have hts := hC.2.2.2.2.1
  unfold fX8_keeps_258 at hf
  obtain ⟨h1, hf⟩ := gd_some hf
  refine Wd.iast hC hW 13 (by decide) rfl h1 dX8_keeps_258 (fun H locs hW => ?_)
  obtain ⟨s2, es2, hf⟩ := nx_ex hf
  rw [← es2] at hW
  refine lv_aload_n hx hb dX8_keeps_259 rfl (lv_at hl 0 rfl) ?_
  refine gfX8_55 hC hW 0 (by decide) rfl (q := 14) rfl dX8_keeps_260 ?_
  refine lv_iload hx hb dX8_keeps_263 (lv_at hl 7 rfl) ?_
  refine lv_iload hx hb dX8_keeps_265 (lv_at hl 5 rfl) ?_
  refine lv_iload hx hb dX8_keeps_267 (lv_at hl 6 rfl) ?_
  refine lv_icmp_ge (tgt := 277) hx hb dX8_keeps_269 (by decide) (fun h3 => ?_) (fun h3 => ?_)
  · have hf := it_t h3 hf
    refine lv_iload hx hb dX8_keeps_277 (lv_at hl 5 rfl) ?_
    exact wX8_keeps_279 hC hK182 hf hW (lv_sub hl [0, 1, 2, 3, 4, 7] rfl)
  · have hf := it_f h3 hf
    refine lv_iload hx hb dX8_keeps_272 (lv_at hl 6 rfl) ?_
    refine lv_goto (tgt := 279) hx hb dX8_keeps_274 (by decide) ?_
    exact wX8_keeps_279 hC hK182 hf hW (lv_sub hl [0, 1, 2, 3, 4, 7] rfl)
def fX8_keeps_182 (N : Nat) : Nat → Int32 → Int32 → Int32 → Int32 → St → Option (Unit × St)
  | 0, _, _, _, _, _ => none
  | n + 1, x1, x2, x3, x4, σ => if (σ.1 0 11) ≤ x4 then gd (ib x1 4) (nx (sI σ 8 x1.toNatClampNeg (vp_nar .boolean (1 : Int32))) (fun s3 => gd (ib x1 4) (nx (sI s3 9 x1.toNatClampNeg (s3.1 0 0)) (fun s5 => gd (ib x1 4) (nx (sI s5 10 x1.toNatClampNeg x2) (fun s7 => if x3 = 0 then (fX8_keeps_381 N x1 (0 : Int32) x1 s7) else (fX8_keeps_381 N x1 (1 : Int32) x1 s7))))))) else gd (ib x4 19) (gd (ib (σ.1 26 x4.toNatClampNeg) 19) (gd (ib (σ.1 21 (σ.1 26 x4.toNatClampNeg).toNatClampNeg) 40) (nx (σ.1 27 (σ.1 21 (σ.1 26 x4.toNatClampNeg).toNatClampNeg).toNatClampNeg) (fun v12 => gd (ib x4 19) (gd (ib (σ.1 26 x4.toNatClampNeg) 19) (gd (ib (σ.1 22 (σ.1 26 x4.toNatClampNeg).toNatClampNeg) 40) (nx (σ.1 27 (σ.1 22 (σ.1 26 x4.toNatClampNeg).toNatClampNeg).toNatClampNeg) (fun v16 => nx (((19 : Int32) * x1) + x4) (fun v17 => if v16 ≤ v12 then (fX8_keeps_258 N (fX8_keeps_182 N n) x1 x2 x3 x4 v12 v16 v17 v16 v17 σ) else (fX8_keeps_258 N (fX8_keeps_182 N n) x1 x2 x3 x4 v12 v16 v17 v12 v17 σ))))))))))
set_option maxHeartbeats 4000000 in
set_option maxRecDepth 100000 in
theorem wX8_keeps_182 (hC : Cx RX8 cX8_keeps 8 none D cA p s m args meth c) {N : Nat} {r : Unit} {σ' : St} : ∀ (n : Nat) (x1 : Int32) (x2 : Int32) (x3 : Int32) (x4 : Int32) (σ : St) (H : Heap) (locs : List Loc) (ls : Array Slot), fX8_keeps_182 N n x1 x2 x3 x4 σ = some (r, σ') → Wd kdM 31 D cA ad s σ H locs → lv_has ls 8 [(0, .ref (ad 0)), (1, .int x1), (2, .int x2), (3, .int x3), (4, .int x4)] → W p l e rmX8_keeps s m args below meth c H locs 0 0 (EndW kdM 31 D cA ad below args s none σ') (F0 m 182 ls []) := by
  have hx := hC.1
  have hb := hC.2.1
  have hown := hC.2.2.2.1
  have hts := hC.2.2.2.2.1
  intro n
  induction n with
  | zero =>
    intro x1 x2 x3 x4 σ H locs ls hf
    rw [fX8_keeps_182] at hf
    cases hf
  | succ n ih =>
    intro x1 x2 x3 x4 σ H locs ls hf hW hl
    rw [fX8_keeps_182] at hf
    refine lv_iload hx hb dX8_keeps_182 (lv_at hl 4 rfl) ?_
    refine lv_aload_n hx hb dX8_keeps_184 rfl (lv_at hl 0 rfl) ?_
    refine gfX8_147 hC hW 0 (by decide) rfl rfl dX8_keeps_185 ?_
    refine lv_icmp_ge (tgt := 343) hx hb dX8_keeps_188 (by decide) (fun h1 => ?_) (fun h1 => ?_)
    · have hf := it_t h1 hf
      refine lv_aload_n hx hb dX8_keeps_343 rfl (lv_at hl 0 rfl) ?_
      refine gfX8_36 hC hW 0 (by decide) rfl (q := 8) rfl dX8_keeps_344 ?_
      refine lv_iload_n hx hb dX8_keeps_347 rfl (lv_at hl 1 rfl) ?_
      refine lv_iconst (v := 1) hx hb dX8_keeps_348 (by decide) ?_
      obtain ⟨h2, hf⟩ := gd_some hf
      refine Wd.zast hC hW 8 (by decide) rfl h2 dX8_keeps_349 (fun H locs hW => ?_)
      obtain ⟨s3, es3, hf⟩ := nx_ex hf
      rw [← es3] at hW
      refine lv_aload_n hx hb dX8_keeps_350 rfl (lv_at hl 0 rfl) ?_
      refine gfX8_40 hC hW 0 (by decide) rfl (q := 9) rfl dX8_keeps_351 ?_
      refine lv_iload_n hx hb dX8_keeps_354 rfl (lv_at hl 1 rfl) ?_
      refine lv_aload_n hx hb dX8_keeps_355 rfl (lv_at hl 0 rfl) ?_
      refine gfX8_107 hC hW 0 (by decide) rfl rfl dX8_keeps_356 ?_
      obtain ⟨h4, hf⟩ := gd_some hf
      refine Wd.iast hC hW 9 (by decide) rfl h4 dX8_keeps_359 (fun H locs hW => ?_)
      obtain ⟨s5, es5, hf⟩ := nx_ex hf
      rw [← es5] at hW
      refine lv_aload_n hx hb dX8_keeps_360 rfl (lv_at hl 0 rfl) ?_
      refine gfX8_43 hC hW 0 (by decide) rfl (q := 10) rfl dX8_keeps_361 ?_
      refine lv_iload_n hx hb dX8_keeps_364 rfl (lv_at hl 1 rfl) ?_
      refine lv_iload_n hx hb dX8_keeps_365 rfl (lv_at hl 2 rfl) ?_
      obtain ⟨h6, hf⟩ := gd_some hf
      refine Wd.iast hC hW 10 (by decide) rfl h6 dX8_keeps_366 (fun H locs hW => ?_)
      obtain ⟨s7, es7, hf⟩ := nx_ex hf
      rw [← es7] at hW
      refine lv_aload_n hx hb dX8_keeps_367 rfl (lv_at hl 0 rfl) ?_
      refine gfX8_46 hC hW 0 (by decide) rfl (q := 11) rfl dX8_keeps_368 ?_
      refine lv_iload_n hx hb dX8_keeps_371 rfl (lv_at hl 1 rfl) ?_
      refine lv_iload_n hx hb dX8_keeps_372 rfl (lv_at hl 3 rfl) ?_
      refine lv_if_eq (tgt := 380) hx hb dX8_keeps_373 (by decide) (fun h8 => ?_) (fun h8 => ?_)
      · have hf := it_t h8 hf
        refine lv_iconst (v := 0) hx hb dX8_keeps_380 (by decide) ?_
        exact wX8_keeps_381 hC hf hW (lv_sub hl [0, 1] rfl)
      · have hf := it_f h8 hf
        refine lv_iconst (v := 1) hx hb dX8_keeps_376 (by decide) ?_
        refine lv_goto (tgt := 381) hx hb dX8_keeps_377 (by decide) ?_
        exact wX8_keeps_381 hC hf hW (lv_sub hl [0, 1] rfl)
    · have hf := it_f h1 hf
      refine lv_aload_n hx hb dX8_keeps_191 rfl (lv_at hl 0 rfl) ?_
      refine gfX8_95 hC hW 0 (by decide) rfl (q := 27) rfl dX8_keeps_192 ?_
      refine lv_aload_n hx hb dX8_keeps_195 rfl (lv_at hl 0 rfl) ?_
      refine gfX8_77 hC hW 0 (by decide) rfl (q := 21) rfl dX8_keeps_196 ?_
      refine lv_aload_n hx hb dX8_keeps_199 rfl (lv_at hl 0 rfl) ?_
      refine gfX8_92 hC hW 0 (by decide) rfl (q := 26) rfl dX8_keeps_200 ?_
      refine lv_iload hx hb dX8_keeps_203 (lv_at hl 4 rfl) ?_
      obtain ⟨h9, hf⟩ := gd_some hf
      refine Wd.iald hC hW 26 (by decide) rfl h9 dX8_keeps_205 ?_
      obtain ⟨h10, hf⟩ := gd_some hf
      refine Wd.iald hC hW 21 (by decide) rfl h10 dX8_keeps_206 ?_
      obtain ⟨h11, hf⟩ := gd_some hf
      refine Wd.iald hC hW 27 (by decide) rfl h11 dX8_keeps_207 ?_
      refine lv_topi (fun v12 ev12 => ?_)
      have hf := nx_at ev12 hf
      refine lv_istore (lv' := [(5, .int v12), (0, .ref (ad 0)), (1, .int x1), (2, .int x2), (3, .int x3), (4, .int x4)]) hx hb dX8_keeps_208 hl (by decide) rfl (fun ls hl => ?_)
      refine lv_aload_n hx hb dX8_keeps_210 rfl (lv_at hl 1 rfl) ?_
      refine gfX8_95 hC hW 0 (by decide) rfl (q := 27) rfl dX8_keeps_211 ?_
      refine lv_aload_n hx hb dX8_keeps_214 rfl (lv_at hl 1 rfl) ?_
      refine gfX8_80 hC hW 0 (by decide) rfl (q := 22) rfl dX8_keeps_215 ?_
      refine lv_aload_n hx hb dX8_keeps_218 rfl (lv_at hl 1 rfl) ?_
      refine gfX8_92 hC hW 0 (by decide) rfl (q := 26) rfl dX8_keeps_219 ?_
      refine lv_iload hx hb dX8_keeps_222 (lv_at hl 5 rfl) ?_
      obtain ⟨h13, hf⟩ := gd_some hf
      refine Wd.iald hC hW 26 (by decide) rfl h13 dX8_keeps_224 ?_
      obtain ⟨h14, hf⟩ := gd_some hf
      refine Wd.iald hC hW 22 (by decide) rfl h14 dX8_keeps_225 ?_
      obtain ⟨h15, hf⟩ := gd_some hf
      refine Wd.iald hC hW 27 (by decide) rfl h15 dX8_keeps_226 ?_
      refine lv_topi (fun v16 ev16 => ?_)
      have hf := nx_at ev16 hf
      refine lv_istore (lv' := [(6, .int v16), (5, .int v12), (0, .ref (ad 0)), (1, .int x1), (2, .int x2), (3, .int x3), (4, .int x4)]) hx hb dX8_keeps_227 hl (by decide) rfl (fun ls hl => ?_)
      refine lv_bipush (v := 19) hx hb dX8_keeps_229 (by decide) ?_
      refine lv_iload_n hx hb dX8_keeps_231 rfl (lv_at hl 3 rfl) ?_
      refine lv_imul hx hb dX8_keeps_232 ?_
      refine lv_iload hx hb dX8_keeps_233 (lv_at hl 6 rfl) ?_
      refine lv_iadd hx hb dX8_keeps_235 ?_
      refine lv_topi (fun v17 ev17 => ?_)
      have hf := nx_at ev17 hf
      refine lv_istore (lv' := [(7, .int v17), (6, .int v16), (5, .int v12), (0, .ref (ad 0)), (1, .int x1), (2, .int x2), (3, .int x3), (4, .int x4)]) hx hb dX8_keeps_236 hl (by decide) rfl (fun ls hl => ?_)
      refine lv_aload_n hx hb dX8_keeps_238 rfl (lv_at hl 3 rfl) ?_
      refine gfX8_52 hC hW 0 (by decide) rfl (q := 13) rfl dX8_keeps_239 ?_
      refine lv_iload hx hb dX8_keeps_242 (lv_at hl 0 rfl) ?_
      refine lv_iload hx hb dX8_keeps_244 (lv_at hl 2 rfl) ?_
      refine lv_iload hx hb dX8_keeps_246 (lv_at hl 1 rfl) ?_
      refine lv_icmp_ge (tgt := 256) hx hb dX8_keeps_248 (by decide) (fun h18 => ?_) (fun h18 => ?_)
      · have hf := it_t h18 hf
        refine lv_iload hx hb dX8_keeps_256 (lv_at hl 1 rfl) ?_
        exact wX8_keeps_258 hC ih hf hW (lv_sub hl [3, 4, 5, 6, 7, 2, 1, 0] rfl)
      · have hf := it_f h18 hf
        refine lv_iload hx hb dX8_keeps_251 (lv_at hl 2 rfl) ?_
        refine lv_goto (tgt := 258) hx hb dX8_keeps_253 (by decide) ?_
        exact wX8_keeps_258 hC ih hf hW (lv_sub hl [3, 4, 5, 6, 7, 2, 1, 0] rfl)
def fX8_keeps_140 (N : Nat) : Nat → Int32 → Int32 → Int32 → Int32 → St → Option (Unit × St)
  | 0, _, _, _, _, _ => none
  | n + 1, x1, x2, x3, x4, σ => if (σ.1 0 11) ≤ x4 then (fX8_keeps_182 N N x1 x2 x3 (0 : Int32) σ) else gd (ib x4 19) (gd (ib ((σ.1 0 0) + (σ.1 26 x4.toNatClampNeg)) 40) (nx (sI σ 27 ((σ.1 0 0) + (σ.1 26 x4.toNatClampNeg)).toNatClampNeg ((σ.1 0 0) + x4)) (fun s4 => nx (x4 + (1 : Int32)) (fun v5 => ((fX8_keeps_140 N n) x1 x2 x3 v5 s4)))))
set_option maxHeartbeats 4000000 in
set_option maxRecDepth 100000 in
theorem wX8_keeps_140 (hC : Cx RX8 cX8_keeps 8 none D cA p s m args meth c) {N : Nat} {r : Unit} {σ' : St} : ∀ (n : Nat) (x1 : Int32) (x2 : Int32) (x3 : Int32) (x4 : Int32) (σ : St) (H : Heap) (locs : List Loc) (ls : Array Slot), fX8_keeps_140 N n x1 x2 x3 x4 σ = some (r, σ') → Wd kdM 31 D cA ad s σ H locs → lv_has ls 8 [(0, .ref (ad 0)), (1, .int x1), (2, .int x2), (3, .int x3), (4, .int x4)] → W p l e rmX8_keeps s m args below meth c H locs 0 0 (EndW kdM 31 D cA ad below args s none σ') (F0 m 140 ls []) := by
  have hx := hC.1
  have hb := hC.2.1
  have hown := hC.2.2.2.1
  have hts := hC.2.2.2.2.1
  intro n
  induction n with
  | zero =>
    intro x1 x2 x3 x4 σ H locs ls hf
    rw [fX8_keeps_140] at hf
    cases hf
  | succ n ih =>
    intro x1 x2 x3 x4 σ H locs ls hf hW hl
    rw [fX8_keeps_140] at hf
    refine lv_iload hx hb dX8_keeps_140 (lv_at hl 4 rfl) ?_
    refine lv_aload_n hx hb dX8_keeps_142 rfl (lv_at hl 0 rfl) ?_
    refine gfX8_147 hC hW 0 (by decide) rfl rfl dX8_keeps_143 ?_
    refine lv_icmp_ge (tgt := 179) hx hb dX8_keeps_146 (by decide) (fun h1 => ?_) (fun h1 => ?_)
    · have hf := it_t h1 hf
      refine lv_iconst (v := 0) hx hb dX8_keeps_179 (by decide) ?_
      refine lv_istore (lv' := [(4, .int (0 : Int32)), (0, .ref (ad 0)), (1, .int x1), (2, .int x2), (3, .int x3)]) hx hb dX8_keeps_180 hl (by decide) rfl (fun ls hl => ?_)
      exact wX8_keeps_182 hC N _ _ _ _ _ _ _ _ hf hW (lv_sub hl [1, 2, 3, 4, 0] rfl)
    · have hf := it_f h1 hf
      refine lv_aload_n hx hb dX8_keeps_149 rfl (lv_at hl 0 rfl) ?_
      refine gfX8_95 hC hW 0 (by decide) rfl (q := 27) rfl dX8_keeps_150 ?_
      refine lv_aload_n hx hb dX8_keeps_153 rfl (lv_at hl 0 rfl) ?_
      refine gfX8_107 hC hW 0 (by decide) rfl rfl dX8_keeps_154 ?_
      refine lv_aload_n hx hb dX8_keeps_157 rfl (lv_at hl 0 rfl) ?_
      refine gfX8_92 hC hW 0 (by decide) rfl (q := 26) rfl dX8_keeps_158 ?_
      refine lv_iload hx hb dX8_keeps_161 (lv_at hl 4 rfl) ?_
      obtain ⟨h2, hf⟩ := gd_some hf
      refine Wd.iald hC hW 26 (by decide) rfl h2 dX8_keeps_163 ?_
      refine lv_iadd hx hb dX8_keeps_164 ?_
      refine lv_aload_n hx hb dX8_keeps_165 rfl (lv_at hl 0 rfl) ?_
      refine gfX8_107 hC hW 0 (by decide) rfl rfl dX8_keeps_166 ?_
      refine lv_iload hx hb dX8_keeps_169 (lv_at hl 4 rfl) ?_
      refine lv_iadd hx hb dX8_keeps_171 ?_
      obtain ⟨h3, hf⟩ := gd_some hf
      refine Wd.iast hC hW 27 (by decide) rfl h3 dX8_keeps_172 (fun H locs hW => ?_)
      obtain ⟨s4, es4, hf⟩ := nx_ex hf
      rw [← es4] at hW
      obtain ⟨v5, ev5⟩ : ∃ y : Int32, y = x4 + (1 : Int32) := ⟨_, rfl⟩
      have hf := nx_at ev5 hf
      refine lv_iinc (v := v5) (lv' := [(4, .int v5), (0, .ref (ad 0)), (1, .int x1), (2, .int x2), (3, .int x3)]) hx hb dX8_keeps_173 hl (k := 4) rfl (by rw [ev5]; rfl) (by decide) rfl (fun ls hl => ?_)
      refine lv_goto (tgt := 140) hx hb dX8_keeps_176 (by decide) ?_
      exact ih _ _ _ _ _ _ _ _ hf hW (lv_sub hl [1, 2, 3, 4, 0] rfl)
def fX8_keeps_113 (N : Nat) : Nat → Int32 → Int32 → Int32 → Int32 → St → Option (Unit × St)
  | 0, _, _, _, _, _ => none
  | n + 1, x1, x2, x3, x4, σ => if (σ.1 0 0) ≤ x4 then (fX8_keeps_140 N N x1 x2 x3 (0 : Int32) σ) else gd (ib x4 40) (nx (sI σ 27 x4.toNatClampNeg x4) (fun s3 => nx (x4 + (1 : Int32)) (fun v4 => ((fX8_keeps_113 N n) x1 x2 x3 v4 s3))))
set_option maxHeartbeats 4000000 in
set_option maxRecDepth 100000 in
theorem wX8_keeps_113 (hC : Cx RX8 cX8_keeps 8 none D cA p s m args meth c) {N : Nat} {r : Unit} {σ' : St} : ∀ (n : Nat) (x1 : Int32) (x2 : Int32) (x3 : Int32) (x4 : Int32) (σ : St) (H : Heap) (locs : List Loc) (ls : Array Slot), fX8_keeps_113 N n x1 x2 x3 x4 σ = some (r, σ') → Wd kdM 31 D cA ad s σ H locs → lv_has ls 8 [(0, .ref (ad 0)), (1, .int x1), (2, .int x2), (3, .int x3), (4, .int x4)] → W p l e rmX8_keeps s m args below meth c H locs 0 0 (EndW kdM 31 D cA ad below args s none σ') (F0 m 113 ls []) := by
  have hx := hC.1
  have hb := hC.2.1
  have hown := hC.2.2.2.1
  have hts := hC.2.2.2.2.1
  intro n
  induction n with
  | zero =>
    intro x1 x2 x3 x4 σ H locs ls hf
    rw [fX8_keeps_113] at hf
    cases hf
  | succ n ih =>
    intro x1 x2 x3 x4 σ H locs ls hf hW hl
    rw [fX8_keeps_113] at hf
    refine lv_iload hx hb dX8_keeps_113 (lv_at hl 4 rfl) ?_
    refine lv_aload_n hx hb dX8_keeps_115 rfl (lv_at hl 0 rfl) ?_
    refine gfX8_107 hC hW 0 (by decide) rfl rfl dX8_keeps_116 ?_
    refine lv_icmp_ge (tgt := 137) hx hb dX8_keeps_119 (by decide) (fun h1 => ?_) (fun h1 => ?_)
    · have hf := it_t h1 hf
      refine lv_iconst (v := 0) hx hb dX8_keeps_137 (by decide) ?_
      refine lv_istore (lv' := [(4, .int (0 : Int32)), (0, .ref (ad 0)), (1, .int x1), (2, .int x2), (3, .int x3)]) hx hb dX8_keeps_138 hl (by decide) rfl (fun ls hl => ?_)
      exact wX8_keeps_140 hC N _ _ _ _ _ _ _ _ hf hW (lv_sub hl [1, 2, 3, 4, 0] rfl)
    · have hf := it_f h1 hf
      refine lv_aload_n hx hb dX8_keeps_122 rfl (lv_at hl 0 rfl) ?_
      refine gfX8_95 hC hW 0 (by decide) rfl (q := 27) rfl dX8_keeps_123 ?_
      refine lv_iload hx hb dX8_keeps_126 (lv_at hl 4 rfl) ?_
      refine lv_iload hx hb dX8_keeps_128 (lv_at hl 4 rfl) ?_
      obtain ⟨h2, hf⟩ := gd_some hf
      refine Wd.iast hC hW 27 (by decide) rfl h2 dX8_keeps_130 (fun H locs hW => ?_)
      obtain ⟨s3, es3, hf⟩ := nx_ex hf
      rw [← es3] at hW
      obtain ⟨v4, ev4⟩ : ∃ y : Int32, y = x4 + (1 : Int32) := ⟨_, rfl⟩
      have hf := nx_at ev4 hf
      refine lv_iinc (v := v4) (lv' := [(4, .int v4), (0, .ref (ad 0)), (1, .int x1), (2, .int x2), (3, .int x3)]) hx hb dX8_keeps_131 hl (k := 4) rfl (by rw [ev4]; rfl) (by decide) rfl (fun ls hl => ?_)
      refine lv_goto (tgt := 113) hx hb dX8_keeps_134 (by decide) ?_
      exact ih _ _ _ _ _ _ _ _ hf hW (lv_sub hl [1, 2, 3, 4, 0] rfl)
def fX8_keeps_95 (N : Nat) (K3 : Int32 → Int32 → Int32 → Int32 → St → Option (Unit × St)) (x1 : Int32) (x2 : Int32) (x3 : Int32) (x4 : Int32) (x5 : Int32) (σ : St) : Option (Unit × St) := gd (ib x5 19) (nx (sI σ 26 x5.toNatClampNeg x4) (fun s2 => nx (x4 + (1 : Int32)) (fun v3 => (K3 x1 x2 x3 v3 s2))))
set_option maxHeartbeats 4000000 in
set_option maxRecDepth 100000 in
theorem wX8_keeps_95 (hC : Cx RX8 cX8_keeps 8 none D cA p s m args meth c) {N : Nat} {K3 : Int32 → Int32 → Int32 → Int32 → St → Option (Unit × St)} {x1 : Int32} {x2 : Int32} {x3 : Int32} {x4 : Int32} {x5 : Int32} {σ : St} {r : Unit} {σ' : St} (hK3 : ∀ (x1 : Int32) (x2 : Int32) (x3 : Int32) (x4 : Int32) (σ : St) (H : Heap) (locs : List Loc) (ls : Array Slot), K3 x1 x2 x3 x4 σ = some (r, σ') → Wd kdM 31 D cA ad s σ H locs → lv_has ls 8 [(0, .ref (ad 0)), (1, .int x1), (2, .int x2), (3, .int x3), (4, .int x4)] → W p l e rmX8_keeps s m args below meth c H locs 0 0 (EndW kdM 31 D cA ad below args s none σ') (F0 m 3 ls [])) {H : Heap} {locs : List Loc} {ls : Array Slot} (hf : fX8_keeps_95 N K3 x1 x2 x3 x4 x5 σ = some (r, σ')) (hW : Wd kdM 31 D cA ad s σ H locs) (hl : lv_has ls 8 [(0, .ref (ad 0)), (1, .int x1), (2, .int x2), (3, .int x3), (4, .int x4), (5, .int x5)]) : W p l e rmX8_keeps s m args below meth c H locs 0 0 (EndW kdM 31 D cA ad below args s none σ') (F0 m 95 ls []) := by
  have hx := hC.1
  have hb := hC.2.1
  have hown := hC.2.2.2.1
  have hts := hC.2.2.2.2.1
  unfold fX8_keeps_95 at hf
  refine lv_aload_n hx hb dX8_keeps_95 rfl (lv_at hl 0 rfl) ?_
  refine gfX8_92 hC hW 0 (by decide) rfl (q := 26) rfl dX8_keeps_96 ?_
  refine lv_iload hx hb dX8_keeps_99 (lv_at hl 5 rfl) ?_
  refine lv_iload hx hb dX8_keeps_101 (lv_at hl 4 rfl) ?_
  obtain ⟨h1, hf⟩ := gd_some hf
  refine Wd.iast hC hW 26 (by decide) rfl h1 dX8_keeps_103 (fun H locs hW => ?_)
  obtain ⟨s2, es2, hf⟩ := nx_ex hf
  rw [← es2] at hW
  obtain ⟨v3, ev3⟩ : ∃ y : Int32, y = x4 + (1 : Int32) := ⟨_, rfl⟩
  have hf := nx_at ev3 hf
  refine lv_iinc (v := v3) (lv' := [(4, .int v3), (0, .ref (ad 0)), (1, .int x1), (2, .int x2), (3, .int x3), (5, .int x5)]) hx hb dX8_keeps_104 hl (k := 4) rfl (by rw [ev3]; rfl) (by decide) rfl (fun ls hl => ?_)
  refine lv_goto (tgt := 3) hx hb dX8_keeps_107 (by decide) ?_
  exact hK3 _ _ _ _ _ _ _ _ hf hW (lv_sub hl [1, 2, 3, 4, 0] rfl)
def fX8_keeps_16 (N : Nat) (K3 : Int32 → Int32 → Int32 → Int32 → St → Option (Unit × St)) : Nat → Int32 → Int32 → Int32 → Int32 → Int32 → St → Option (Unit × St)
  | 0, _, _, _, _, _, _ => none
  | n + 1, x1, x2, x3, x4, x5, σ => if x3 = 0 then (fX8_keeps_95 N K3 x1 x2 x3 x4 x5 σ) else if x5 ≤ 0 then (fX8_keeps_95 N K3 x1 x2 x3 x4 x5 σ) else gd (ib (x5 - (1 : Int32)) 19) (gd (ib (σ.1 26 (x5 - (1 : Int32)).toNatClampNeg) 19) (gd (ib (x5 - (1 : Int32)) 19) (gd (ib (σ.1 26 (x5 - (1 : Int32)).toNatClampNeg) 19) (gd (ib x4 19) (gd (ib x4 19) (bd (fX8_compare N (σ.2 23 (σ.1 26 (x5 - (1 : Int32)).toNatClampNeg).toNatClampNeg) (σ.2 24 (σ.1 26 (x5 - (1 : Int32)).toNatClampNeg).toNatClampNeg) (σ.2 23 x4.toNatClampNeg) (σ.2 24 x4.toNatClampNeg) σ) (fun r9 s10 => if r9 ≤ 0 then (fX8_keeps_95 N K3 x1 x2 x3 x4 x5 s10) else gd (ib (x5 - (1 : Int32)) 19) (gd (ib x5 19) (nx (sI s10 26 x5.toNatClampNeg (s10.1 26 (x5 - (1 : Int32)).toNatClampNeg)) (fun s15 => nx (x5 + (-1 : Int32)) (fun v16 => ((fX8_keeps_16 N K3 n) x1 x2 x3 x4 v16 s15))))))))))))
set_option maxHeartbeats 4000000 in
set_option maxRecDepth 100000 in
theorem wX8_keeps_16 (hC : Cx RX8 cX8_keeps 8 none D cA p s m args meth c) {N : Nat} {K3 : Int32 → Int32 → Int32 → Int32 → St → Option (Unit × St)} {r : Unit} {σ' : St} (hK3 : ∀ (x1 : Int32) (x2 : Int32) (x3 : Int32) (x4 : Int32) (σ : St) (H : Heap) (locs : List Loc) (ls : Array Slot), K3 x1 x2 x3 x4 σ = some (r, σ') → Wd kdM 31 D cA ad s σ H locs → lv_has ls 8 [(0, .ref (ad 0)), (1, .int x1), (2, .int x2), (3, .int x3), (4, .int x4)] → W p l e rmX8_keeps s m args below meth c H locs 0 0 (EndW kdM 31 D cA ad below args s none σ') (F0 m 3 ls [])) : ∀ (n : Nat) (x1 : Int32) (x2 : Int32) (x3 : Int32) (x4 : Int32) (x5 : Int32) (σ : St) (H : Heap) (locs : List Loc) (ls : Array Slot), fX8_keeps_16 N K3 n x1 x2 x3 x4 x5 σ = some (r, σ') → Wd kdM 31 D cA ad s σ H locs → lv_has ls 8 [(0, .ref (ad 0)), (1, .int x1), (2, .int x2), (3, .int x3), (4, .int x4), (5, .int x5)] → W p l e rmX8_keeps s m args below meth c H locs 0 0 (EndW kdM 31 D cA ad below args s none σ') (F0 m 16 ls []) := by
  have hx := hC.1
  have hb := hC.2.1
  have hown := hC.2.2.2.1
  have hts := hC.2.2.2.2.1
  intro n
  induction n with
  | zero =>
    intro x1 x2 x3 x4 x5 σ H locs ls hf
    rw [fX8_keeps_16] at hf
    cases hf
  | succ n ih =>
    intro x1 x2 x3 x4 x5 σ H locs ls hf hW hl
    rw [fX8_keeps_16] at hf
    refine lv_iload_n hx hb dX8_keeps_16 rfl (lv_at hl 3 rfl) ?_
    refine lv_if_eq (tgt := 95) hx hb dX8_keeps_17 (by decide) (fun h1 => ?_) (fun h1 => ?_)
    · have hf := it_t h1 hf
      exact wX8_keeps_95 hC hK3 hf hW (lv_sub hl [0, 1, 2, 3, 4, 5] rfl)
    · have hf := it_f h1 hf
      refine lv_iload hx hb dX8_keeps_20 (lv_at hl 5 rfl) ?_
      refine lv_if_le (tgt := 95) hx hb dX8_keeps_22 (by decide) (fun h2 => ?_) (fun h2 => ?_)
      · have hf := it_t h2 hf
        exact wX8_keeps_95 hC hK3 hf hW (lv_sub hl [0, 1, 2, 3, 4, 5] rfl)
      · have hf := it_f h2 hf
        refine lv_aload_n hx hb dX8_keeps_25 rfl (lv_at hl 0 rfl) ?_
        refine gfX8_83 hC hW 0 (by decide) rfl (q := 23) rfl dX8_keeps_26 ?_
        refine lv_aload_n hx hb dX8_keeps_29 rfl (lv_at hl 0 rfl) ?_
        refine gfX8_92 hC hW 0 (by decide) rfl (q := 26) rfl dX8_keeps_30 ?_
        refine lv_iload hx hb dX8_keeps_33 (lv_at hl 5 rfl) ?_
        refine lv_iconst (v := 1) hx hb dX8_keeps_35 (by decide) ?_
        refine lv_isub hx hb dX8_keeps_36 ?_
        obtain ⟨h3, hf⟩ := gd_some hf
        refine Wd.iald hC hW 26 (by decide) rfl h3 dX8_keeps_37 ?_
        obtain ⟨h4, hf⟩ := gd_some hf
        refine Wd.lald hC hW 23 (by decide) rfl h4 dX8_keeps_38 ?_
        refine lv_aload_n hx hb dX8_keeps_39 rfl (lv_at hl 0 rfl) ?_
        refine gfX8_86 hC hW 0 (by decide) rfl (q := 24) rfl dX8_keeps_40 ?_
        refine lv_aload_n hx hb dX8_keeps_43 rfl (lv_at hl 0 rfl) ?_
        refine gfX8_92 hC hW 0 (by decide) rfl (q := 26) rfl dX8_keeps_44 ?_
        refine lv_iload hx hb dX8_keeps_47 (lv_at hl 5 rfl) ?_
        refine lv_iconst (v := 1) hx hb dX8_keeps_49 (by decide) ?_
        refine lv_isub hx hb dX8_keeps_50 ?_
        obtain ⟨h5, hf⟩ := gd_some hf
        refine Wd.iald hC hW 26 (by decide) rfl h5 dX8_keeps_51 ?_
        obtain ⟨h6, hf⟩ := gd_some hf
        refine Wd.lald hC hW 24 (by decide) rfl h6 dX8_keeps_52 ?_
        refine lv_aload_n hx hb dX8_keeps_53 rfl (lv_at hl 0 rfl) ?_
        refine gfX8_83 hC hW 0 (by decide) rfl (q := 23) rfl dX8_keeps_54 ?_
        refine lv_iload hx hb dX8_keeps_57 (lv_at hl 4 rfl) ?_
        obtain ⟨h7, hf⟩ := gd_some hf
        refine Wd.lald hC hW 23 (by decide) rfl h7 dX8_keeps_59 ?_
        refine lv_aload_n hx hb dX8_keeps_60 rfl (lv_at hl 0 rfl) ?_
        refine gfX8_86 hC hW 0 (by decide) rfl (q := 24) rfl dX8_keeps_61 ?_
        refine lv_iload hx hb dX8_keeps_64 (lv_at hl 4 rfl) ?_
        obtain ⟨h8, hf⟩ := gd_some hf
        refine Wd.lald hC hW 24 (by decide) rfl h8 dX8_keeps_66 ?_
        obtain ⟨r9, s10, c11, hf⟩ := bd_some hf
        refine Wd.callS (n := 4) (As := [.long (σ.2 23 (σ.1 26 (x5 - (1 : Int32)).toNatClampNeg).toNatClampNeg), .long (σ.2 24 (σ.1 26 (x5 - (1 : Int32)).toNatClampNeg).toNatClampNeg), .long (σ.2 23 x4.toNatClampNeg), .long (σ.2 24 x4.toNatClampNeg)]) (rest := []) (rv := some (.int r9)) hC hW (kX8_compare c11) q872 q873 q8 q874 ⟨rfl, rfl⟩ ⟨by decide +kernel, by decide +kernel, by decide +kernel⟩ ⟨Nat.le_of_ble_eq_true rfl, Nat.le_of_ble_eq_true rfl⟩ ⟨Nat.zero_le _, Nat.zero_le _⟩ rfl hl.1 rfl (st2 := [.int r9]) rfl (Nat.le_of_ble_eq_true rfl) dX8_keeps_67 (fun H locs hW => ?_)
        refine lv_if_le (tgt := 95) hx hb dX8_keeps_70 (by decide) (fun h12 => ?_) (fun h12 => ?_)
        · have hf := it_t h12 hf
          exact wX8_keeps_95 hC hK3 hf hW (lv_sub hl [0, 1, 2, 3, 4, 5] rfl)
        · have hf := it_f h12 hf
          refine lv_aload_n hx hb dX8_keeps_73 rfl (lv_at hl 0 rfl) ?_
          refine gfX8_92 hC hW 0 (by decide) rfl (q := 26) rfl dX8_keeps_74 ?_
          refine lv_iload hx hb dX8_keeps_77 (lv_at hl 5 rfl) ?_
          refine lv_aload_n hx hb dX8_keeps_79 rfl (lv_at hl 0 rfl) ?_
          refine gfX8_92 hC hW 0 (by decide) rfl (q := 26) rfl dX8_keeps_80 ?_
          refine lv_iload hx hb dX8_keeps_83 (lv_at hl 5 rfl) ?_
          refine lv_iconst (v := 1) hx hb dX8_keeps_85 (by decide) ?_
          refine lv_isub hx hb dX8_keeps_86 ?_
          obtain ⟨h13, hf⟩ := gd_some hf
          refine Wd.iald hC hW 26 (by decide) rfl h13 dX8_keeps_87 ?_
          obtain ⟨h14, hf⟩ := gd_some hf
          refine Wd.iast hC hW 26 (by decide) rfl h14 dX8_keeps_88 (fun H locs hW => ?_)
          obtain ⟨s15, es15, hf⟩ := nx_ex hf
          rw [← es15] at hW
          obtain ⟨v16, ev16⟩ : ∃ y : Int32, y = x5 + (-1 : Int32) := ⟨_, rfl⟩
          have hf := nx_at ev16 hf
          refine lv_iinc (v := v16) (lv' := [(5, .int v16), (0, .ref (ad 0)), (1, .int x1), (2, .int x2), (3, .int x3), (4, .int x4)]) hx hb dX8_keeps_89 hl (k := 5) rfl (by rw [ev16]; rfl) (by decide) rfl (fun ls hl => ?_)
          refine lv_goto (tgt := 16) hx hb dX8_keeps_92 (by decide) ?_
          exact ih _ _ _ _ _ _ _ _ _ hf hW (lv_sub hl [1, 2, 3, 4, 5, 0] rfl)
def fX8_keeps_3 (N : Nat) : Nat → Int32 → Int32 → Int32 → Int32 → St → Option (Unit × St)
  | 0, _, _, _, _, _ => none
  | n + 1, x1, x2, x3, x4, σ => if (σ.1 0 11) ≤ x4 then (fX8_keeps_113 N N x1 x2 x3 (0 : Int32) σ) else (fX8_keeps_16 N (fX8_keeps_3 N n) N x1 x2 x3 x4 x4 σ)
set_option maxHeartbeats 4000000 in
set_option maxRecDepth 100000 in
theorem wX8_keeps_3 (hC : Cx RX8 cX8_keeps 8 none D cA p s m args meth c) {N : Nat} {r : Unit} {σ' : St} : ∀ (n : Nat) (x1 : Int32) (x2 : Int32) (x3 : Int32) (x4 : Int32) (σ : St) (H : Heap) (locs : List Loc) (ls : Array Slot), fX8_keeps_3 N n x1 x2 x3 x4 σ = some (r, σ') → Wd kdM 31 D cA ad s σ H locs → lv_has ls 8 [(0, .ref (ad 0)), (1, .int x1), (2, .int x2), (3, .int x3), (4, .int x4)] → W p l e rmX8_keeps s m args below meth c H locs 0 0 (EndW kdM 31 D cA ad below args s none σ') (F0 m 3 ls []) := by
  have hx := hC.1
  have hb := hC.2.1
  have hown := hC.2.2.2.1
  have hts := hC.2.2.2.2.1
  intro n
  induction n with
  | zero =>
    intro x1 x2 x3 x4 σ H locs ls hf
    rw [fX8_keeps_3] at hf
    cases hf
  | succ n ih =>
    intro x1 x2 x3 x4 σ H locs ls hf hW hl
    rw [fX8_keeps_3] at hf
    refine lv_iload hx hb dX8_keeps_3 (lv_at hl 4 rfl) ?_
    refine lv_aload_n hx hb dX8_keeps_5 rfl (lv_at hl 0 rfl) ?_
    refine gfX8_147 hC hW 0 (by decide) rfl rfl dX8_keeps_6 ?_
    refine lv_icmp_ge (tgt := 110) hx hb dX8_keeps_9 (by decide) (fun h1 => ?_) (fun h1 => ?_)
    · have hf := it_t h1 hf
      refine lv_iconst (v := 0) hx hb dX8_keeps_110 (by decide) ?_
      refine lv_istore (lv' := [(4, .int (0 : Int32)), (0, .ref (ad 0)), (1, .int x1), (2, .int x2), (3, .int x3)]) hx hb dX8_keeps_111 hl (by decide) rfl (fun ls hl => ?_)
      exact wX8_keeps_113 hC N _ _ _ _ _ _ _ _ hf hW (lv_sub hl [1, 2, 3, 4, 0] rfl)
    · have hf := it_f h1 hf
      refine lv_iload hx hb dX8_keeps_12 (lv_at hl 4 rfl) ?_
      refine lv_istore (lv' := [(5, .int x4), (0, .ref (ad 0)), (1, .int x1), (2, .int x2), (3, .int x3), (4, .int x4)]) hx hb dX8_keeps_14 hl (by decide) rfl (fun ls hl => ?_)
      exact wX8_keeps_16 hC ih N _ _ _ _ _ _ _ _ _ hf hW (lv_sub hl [1, 2, 3, 4, 5, 0] rfl)
def fX8_keeps (N : Nat) (x1 : Int32) (x2 : Int32) (x3 : Int32) (σ : St) : Option (Unit × St) := (fX8_keeps_3 N N x1 x2 x3 (0 : Int32) σ)
set_option maxHeartbeats 4000000 in
set_option maxRecDepth 100000 in
theorem kX8_keeps {l : Launch} {D : va_G} {cA : Nat → ClassId} {ad : Nat → Nat} {N : Nat} {x1 : Int32} {x2 : Int32} {x3 : Int32} {σ : St} {r : Unit} {σ' : St} (hf : fX8_keeps N x1 x2 x3 σ = some (r, σ')) : MW kdM 31 l D cA ad ⟨RX8, "keeps", "(IIZ)V"⟩ cX8_keeps 8 none rmX8_keeps [.ref (ad 0), .int x1, .int x2, .int x3] σ none σ' := by
  refine MW.of (by decide) (Nat.le_of_ble_eq_true rfl) ?_
  intro p e s m args below meth c ls hC hW hl
  have hx := hC.1
  have hb := hC.2.1
  have hown := hC.2.2.2.1
  have hts := hC.2.2.2.2.1
  have hl : lv_has ls 8 [(0, .ref (ad 0)), (1, .int x1), (2, .int x2), (3, .int x3)] := hl
  unfold fX8_keeps at hf
  refine lv_iconst (v := 0) hx hb dX8_keeps_0 (by decide) ?_
  refine lv_istore (lv' := [(4, .int (0 : Int32)), (0, .ref (ad 0)), (1, .int x1), (2, .int x2), (3, .int x3)]) hx hb dX8_keeps_1 hl (by decide) rfl (fun ls hl => ?_)
  exact wX8_keeps_3 hC N _ _ _ _ _ _ _ _ hf hW (lv_sub hl [1, 2, 3, 4, 0] rfl)
end
