section
variable {D : va_G} {cA : Nat → ClassId} {ad : Nat → Nat} {p : Program} {l : Launch} {e : Env} {s : State} {m : MethodId} {args : Array Value} {below : List Frame} {meth : Method} {c : Code}
abbrev rmX1_nearestTo : Room := { frames := 2, cells := 0, slots := 0, locals := 47 }
def fX1_nearestTo_96 (N : Nat) (K8 : Int32 → Int32 → Int32 → Int32 → Int32 → St → Option (Int32 × St)) (x1 : Int32) (x2 : Int32) (x3 : Int32) (x4 : Int32) (x5 : Int32) (σ : St) : Option (Int32 × St) := nx (x5 + (1 : Int32)) (fun v1 => (K8 x1 x2 x3 x4 v1 σ))
set_option maxHeartbeats 4000000 in
set_option maxRecDepth 100000 in
theorem wX1_nearestTo_96 (hC : Cx RX1 cX1_nearestTo 8 (some .int) D cA p s m args meth c) {N : Nat} {K8 : Int32 → Int32 → Int32 → Int32 → Int32 → St → Option (Int32 × St)} {x1 : Int32} {x2 : Int32} {x3 : Int32} {x4 : Int32} {x5 : Int32} {σ : St} {r : Int32} {σ' : St} (hK8 : ∀ (x1 : Int32) (x2 : Int32) (x3 : Int32) (x4 : Int32) (x5 : Int32) (σ : St) (H : Heap) (locs : List Loc) (ls : Array Slot), K8 x1 x2 x3 x4 x5 σ = some (r, σ') → Wd kdX 140 D cA ad s σ H locs → lv_has ls 8 [(0, .ref (ad 11)), (1, .int x1), (2, .int x2), (3, .int x3), (4, .int x4), (5, .int x5)] → W p l e rmX1_nearestTo s m args below meth c H locs 0 0 (EndW kdX 140 D cA ad below args s (some (.int r)) σ') (F0 m 8 ls [])) {H : Heap} {locs : List Loc} {ls : Array Slot} (hf : fX1_nearestTo_96 N K8 x1 x2 x3 x4 x5 σ = some (r, σ')) (hW : Wd kdX 140 D cA ad s σ H locs) (hl : lv_has ls 8 [(0, .ref (ad 11)), (1, .int x1), (2, .int x2), (3, .int x3), (4, .int x4), (5, .int x5)]) : W p l e rmX1_nearestTo s m args below meth c H locs 0 0 (EndW kdX 140 D cA ad below args s (some (.int r)) σ') (F0 m 96 ls []) := by
  have hx := hC.1
  have hb := hC.2.1
  have hown := hC.2.2.2.1
  have hts := hC.2.2.2.2.1
  unfold fX1_nearestTo_96 at hf
  obtain ⟨v1, ev1⟩ : ∃ y : Int32, y = x5 + (1 : Int32) := ⟨_, rfl⟩
  have hf := nx_at ev1 hf
  refine lv_iinc (v := v1) (lv' := [(5, .int v1), (0, .ref (ad 11)), (1, .int x1), (2, .int x2), (3, .int x3), (4, .int x4)]) hx hb dX1_nearestTo_96 hl (k := 5) rfl (by rw [ev1]; rfl) (by decide) rfl (fun ls hl => ?_)
  refine lv_goto (tgt := 8) hx hb dX1_nearestTo_99 (by decide) ?_
  exact hK8 _ _ _ _ _ _ _ _ _ hf hW (lv_sub hl [1, 2, 3, 4, 5, 0] rfl)
def fX1_nearestTo_94 (N : Nat) (K8 : Int32 → Int32 → Int32 → Int32 → Int32 → St → Option (Int32 × St)) (x1 : Int32) (x2 : Int32) (x3 : Int32) (x5 : Int32) (y0 : Int32) (σ : St) : Option (Int32 × St) := (fX1_nearestTo_96 N K8 x1 x2 x3 y0 x5 σ)
set_option maxHeartbeats 4000000 in
set_option maxRecDepth 100000 in
theorem wX1_nearestTo_94 (hC : Cx RX1 cX1_nearestTo 8 (some .int) D cA p s m args meth c) {N : Nat} {K8 : Int32 → Int32 → Int32 → Int32 → Int32 → St → Option (Int32 × St)} {x1 : Int32} {x2 : Int32} {x3 : Int32} {x5 : Int32} {y0 : Int32} {σ : St} {r : Int32} {σ' : St} (hK8 : ∀ (x1 : Int32) (x2 : Int32) (x3 : Int32) (x4 : Int32) (x5 : Int32) (σ : St) (H : Heap) (locs : List Loc) (ls : Array Slot), K8 x1 x2 x3 x4 x5 σ = some (r, σ') → Wd kdX 140 D cA ad s σ H locs → lv_has ls 8 [(0, .ref (ad 11)), (1, .int x1), (2, .int x2), (3, .int x3), (4, .int x4), (5, .int x5)] → W p l e rmX1_nearestTo s m args below meth c H locs 0 0 (EndW kdX 140 D cA ad below args s (some (.int r)) σ') (F0 m 8 ls [])) {H : Heap} {locs : List Loc} {ls : Array Slot} (hf : fX1_nearestTo_94 N K8 x1 x2 x3 x5 y0 σ = some (r, σ')) (hW : Wd kdX 140 D cA ad s σ H locs) (hl : lv_has ls 8 [(0, .ref (ad 11)), (1, .int x1), (2, .int x2), (3, .int x3), (5, .int x5)]) : W p l e rmX1_nearestTo s m args below meth c H locs 0 0 (EndW kdX 140 D cA ad below args s (some (.int r)) σ') (F0 m 94 ls [.int y0]) := by
  have hx := hC.1
  have hb := hC.2.1
  have hown := hC.2.2.2.1
  have hts := hC.2.2.2.2.1
  unfold fX1_nearestTo_94 at hf
  refine lv_istore (lv' := [(4, .int y0), (0, .ref (ad 11)), (1, .int x1), (2, .int x2), (3, .int x3), (5, .int x5)]) hx hb dX1_nearestTo_94 hl (by decide) rfl (fun ls hl => ?_)
  exact wX1_nearestTo_96 hC hK8 hf hW (lv_sub hl [1, 2, 3, 4, 0, 5] rfl)
def fX1_nearestTo_71 (N : Nat) (K8 : Int32 → Int32 → Int32 → Int32 → Int32 → St → Option (Int32 × St)) (x1 : Int32) (x2 : Int32) (x3 : Int32) (x4 : Int32) (x5 : Int32) (x7 : Int32) (σ : St) : Option (Int32 × St) := if 0 ≤ x7 then if x7 = 0 then (fX1_nearestTo_94 N K8 x1 x2 x3 x5 (x4 + (1 : Int32)) σ) else (fX1_nearestTo_94 N K8 x1 x2 x3 x5 x4 σ) else (fX1_nearestTo_94 N K8 x1 x2 x3 x5 (1 : Int32) σ)
set_option maxHeartbeats 4000000 in
set_option maxRecDepth 100000 in
theorem wX1_nearestTo_71 (hC : Cx RX1 cX1_nearestTo 8 (some .int) D cA p s m args meth c) {N : Nat} {K8 : Int32 → Int32 → Int32 → Int32 → Int32 → St → Option (Int32 × St)} {x1 : Int32} {x2 : Int32} {x3 : Int32} {x4 : Int32} {x5 : Int32} {x7 : Int32} {σ : St} {r : Int32} {σ' : St} (hK8 : ∀ (x1 : Int32) (x2 : Int32) (x3 : Int32) (x4 : Int32) (x5 : Int32) (σ : St) (H : Heap) (locs : List Loc) (ls : Array Slot), K8 x1 x2 x3 x4 x5 σ = some (r, σ') → Wd kdX 140 D cA ad s σ H locs → lv_has ls 8 [(0, .ref (ad 11)), (1, .int x1), (2, .int x2), (3, .int x3), (4, .int x4), (5, .int x5)] → W p l e rmX1_nearestTo s m args below meth c H locs 0 0 (EndW kdX 140 D cA ad below args s (some (.int r)) σ') (F0 m 8 ls [])) {H : Heap} {locs : List Loc} {ls : Array Slot} (hf : fX1_nearestTo_71 N K8 x1 x2 x3 x4 x5 x7 σ = some (r, σ')) (hW : Wd kdX 140 D cA ad s σ H locs) (hl : lv_has ls 8 [(0, .ref (ad 11)), (1, .int x1), (2, .int x2), (3, .int x3), (4, .int x4), (5, .int x5), (7, .int x7)]) : W p l e rmX1_nearestTo s m args below meth c H locs 0 0 (EndW kdX 140 D cA ad below args s (some (.int r)) σ') (F0 m 71 ls []) := by
  have hx := hC.1
  have hb := hC.2.1
  have hown := hC.2.2.2.1
  have hts := hC.2.2.2.2.1
  unfold fX1_nearestTo_71 at hf
  refine lv_iload hx hb dX1_nearestTo_71 (lv_at hl 6 rfl) ?_
  refine lv_if_ge (tgt := 80) hx hb dX1_nearestTo_73 (by decide) (fun h1 => ?_) (fun h1 => ?_)
  · have hf := it_t h1 hf
    refine lv_iload hx hb dX1_nearestTo_80 (lv_at hl 6 rfl) ?_
    refine lv_if_ne (tgt := 92) hx hb dX1_nearestTo_82 (by decide) (fun h2 => ?_) (fun h2 => ?_)
    · have hf := it_f h2 hf
      refine lv_iload hx hb dX1_nearestTo_92 (lv_at hl 4 rfl) ?_
      exact wX1_nearestTo_94 hC hK8 hf hW (lv_sub hl [0, 1, 2, 3, 5] rfl)
    · have hf := it_t h2 hf
      refine lv_iload hx hb dX1_nearestTo_85 (lv_at hl 4 rfl) ?_
      refine lv_iconst (v := 1) hx hb dX1_nearestTo_87 (by decide) ?_
      refine lv_iadd hx hb dX1_nearestTo_88 ?_
      refine lv_goto (tgt := 94) hx hb dX1_nearestTo_89 (by decide) ?_
      exact wX1_nearestTo_94 hC hK8 hf hW (lv_sub hl [0, 1, 2, 3, 5] rfl)
  · have hf := it_f h1 hf
    refine lv_iconst (v := 1) hx hb dX1_nearestTo_76 (by decide) ?_
    refine lv_goto (tgt := 94) hx hb dX1_nearestTo_77 (by decide) ?_
    exact wX1_nearestTo_94 hC hK8 hf hW (lv_sub hl [0, 1, 2, 3, 5] rfl)
def fX1_nearestTo_68 (N : Nat) (K8 : Int32 → Int32 → Int32 → Int32 → Int32 → St → Option (Int32 × St)) (x1 : Int32) (x2 : Int32) (x4 : Int32) (x5 : Int32) (x6 : Int32) (x7 : Int32) (σ : St) : Option (Int32 × St) := (fX1_nearestTo_71 N K8 x1 x2 x6 x4 x5 x7 σ)
set_option maxHeartbeats 4000000 in
set_option maxRecDepth 100000 in
theorem wX1_nearestTo_68 (hC : Cx RX1 cX1_nearestTo 8 (some .int) D cA p s m args meth c) {N : Nat} {K8 : Int32 → Int32 → Int32 → Int32 → Int32 → St → Option (Int32 × St)} {x1 : Int32} {x2 : Int32} {x4 : Int32} {x5 : Int32} {x6 : Int32} {x7 : Int32} {σ : St} {r : Int32} {σ' : St} (hK8 : ∀ (x1 : Int32) (x2 : Int32) (x3 : Int32) (x4 : Int32) (x5 : Int32) (σ : St) (H : Heap) (locs : List Loc) (ls : Array Slot), K8 x1 x2 x3 x4 x5 σ = some (r, σ') → Wd kdX 140 D cA ad s σ H locs → lv_has ls 8 [(0, .ref (ad 11)), (1, .int x1), (2, .int x2), (3, .int x3), (4, .int x4), (5, .int x5)] → W p l e rmX1_nearestTo s m args below meth c H locs 0 0 (EndW kdX 140 D cA ad below args s (some (.int r)) σ') (F0 m 8 ls [])) {H : Heap} {locs : List Loc} {ls : Array Slot} (hf : fX1_nearestTo_68 N K8 x1 x2 x4 x5 x6 x7 σ = some (r, σ')) (hW : Wd kdX 140 D cA ad s σ H locs) (hl : lv_has ls 8 [(0, .ref (ad 11)), (1, .int x1), (2, .int x2), (4, .int x4), (5, .int x5), (6, .int x6), (7, .int x7)]) : W p l e rmX1_nearestTo s m args below meth c H locs 0 0 (EndW kdX 140 D cA ad below args s (some (.int r)) σ') (F0 m 68 ls []) := by
  have hx := hC.1
  have hb := hC.2.1
  have hown := hC.2.2.2.1
  have hts := hC.2.2.2.2.1
  unfold fX1_nearestTo_68 at hf
  refine lv_iload hx hb dX1_nearestTo_68 (lv_at hl 5 rfl) ?_
  refine lv_istore_n (lv' := [(3, .int x6), (0, .ref (ad 11)), (1, .int x1), (2, .int x2), (4, .int x4), (5, .int x5), (6, .int x6), (7, .int x7)]) hx hb dX1_nearestTo_70 rfl hl (by decide) rfl (fun ls hl => ?_)
  exact wX1_nearestTo_71 hC hK8 hf hW (lv_sub hl [1, 2, 3, 0, 4, 5, 7] rfl)
def fX1_nearestTo_50 (N : Nat) (K8 : Int32 → Int32 → Int32 → Int32 → Int32 → St → Option (Int32 × St)) (x1 : Int32) (x2 : Int32) (x3 : Int32) (x4 : Int32) (x5 : Int32) (x6 : Int32) (y0 : Int32) (σ : St) : Option (Int32 × St) := if y0 < 0 then (fX1_nearestTo_68 N K8 x1 x2 x4 x5 x6 y0 σ) else if y0 = 0 then if x6 = x2 then (fX1_nearestTo_68 N K8 x1 x2 x4 x5 x6 y0 σ) else (fX1_nearestTo_71 N K8 x1 x2 x3 x4 x5 y0 σ) else (fX1_nearestTo_71 N K8 x1 x2 x3 x4 x5 y0 σ)
set_option maxHeartbeats 4000000 in
set_option maxRecDepth 100000 in
theorem wX1_nearestTo_50 (hC : Cx RX1 cX1_nearestTo 8 (some .int) D cA p s m args meth c) {N : Nat} {K8 : Int32 → Int32 → Int32 → Int32 → Int32 → St → Option (Int32 × St)} {x1 : Int32} {x2 : Int32} {x3 : Int32} {x4 : Int32} {x5 : Int32} {x6 : Int32} {y0 : Int32} {σ : St} {r : Int32} {σ' : St} (hK8 : ∀ (x1 : Int32) (x2 : Int32) (x3 : Int32) (x4 : Int32) (x5 : Int32) (σ : St) (H : Heap) (locs : List Loc) (ls : Array Slot), K8 x1 x2 x3 x4 x5 σ = some (r, σ') → Wd kdX 140 D cA ad s σ H locs → lv_has ls 8 [(0, .ref (ad 11)), (1, .int x1), (2, .int x2), (3, .int x3), (4, .int x4), (5, .int x5)] → W p l e rmX1_nearestTo s m args below meth c H locs 0 0 (EndW kdX 140 D cA ad below args s (some (.int r)) σ') (F0 m 8 ls [])) {H : Heap} {locs : List Loc} {ls : Array Slot} (hf : fX1_nearestTo_50 N K8 x1 x2 x3 x4 x5 x6 y0 σ = some (r, σ')) (hW : Wd kdX 140 D cA ad s σ H locs) (hl : lv_has ls 8 [(0, .ref (ad 11)), (1, .int x1), (2, .int x2), (3, .int x3), (4, .int x4), (5, .int x5), (6, .int x6)]) : W p l e rmX1_nearestTo s m args below meth c H locs 0 0 (EndW kdX 140 D cA ad below args s (some (.int r)) σ') (F0 m 50 ls [.int y0]) := by
  have hx := hC.1
  have hb := hC.2.1
  have hown := hC.2.2.2.1
  have hts := hC.2.2.2.2.1
  unfold fX1_nearestTo_50 at hf
  refine lv_istore (lv' := [(7, .int y0), (0, .ref (ad 11)), (1, .int x1), (2, .int x2), (3, .int x3), (4, .int x4), (5, .int x5), (6, .int x6)]) hx hb dX1_nearestTo_50 hl (by decide) rfl (fun ls hl => ?_)
  refine lv_iload hx hb dX1_nearestTo_52 (lv_at hl 0 rfl) ?_
  refine lv_if_lt (tgt := 68) hx hb dX1_nearestTo_54 (by decide) (fun h1 => ?_) (fun h1 => ?_)
  · have hf := it_t h1 hf
    exact wX1_nearestTo_68 hC hK8 hf hW (lv_sub hl [1, 2, 3, 5, 6, 7, 0] rfl)
  · have hf := it_f h1 hf
    refine lv_iload hx hb dX1_nearestTo_57 (lv_at hl 0 rfl) ?_
    refine lv_if_ne (tgt := 71) hx hb dX1_nearestTo_59 (by decide) (fun h2 => ?_) (fun h2 => ?_)
    · have hf := it_f h2 hf
      exact wX1_nearestTo_71 hC hK8 hf hW (lv_sub hl [1, 2, 3, 4, 5, 6, 0] rfl)
    · have hf := it_t h2 hf
      refine lv_iload hx hb dX1_nearestTo_62 (lv_at hl 7 rfl) ?_
      refine lv_iload_n hx hb dX1_nearestTo_64 rfl (lv_at hl 3 rfl) ?_
      refine lv_icmp_ne (tgt := 71) hx hb dX1_nearestTo_65 (by decide) (fun h3 => ?_) (fun h3 => ?_)
      · have hf := it_f h3 hf
        exact wX1_nearestTo_71 hC hK8 hf hW (lv_sub hl [1, 2, 3, 4, 5, 6, 0] rfl)
      · have hf := it_t h3 hf
        exact wX1_nearestTo_68 hC hK8 hf hW (lv_sub hl [1, 2, 3, 5, 6, 7, 0] rfl)
def fX1_nearestTo_8 (N : Nat) : Nat → Int32 → Int32 → Int32 → Int32 → Int32 → St → Option (Int32 × St)
  | 0, _, _, _, _, _, _ => none
  | n + 1, x1, x2, x3, x4, x5, σ => if (σ.1 11 6) ≤ x5 then if x4 ≤ (1 : Int32) then some (x3, σ) else nx (sI σ 11 2 ((σ.1 11 2) + (1 : Int32))) (fun s3 => some (x3, s3)) else gd (ib x5 20) (nx (σ.1 13 x5.toNatClampNeg) (fun v5 => if v5 = x1 then (fX1_nearestTo_96 N (fX1_nearestTo_8 N n) x1 x2 x3 x4 x5 σ) else if x3 = (-1 : Int32) then (fX1_nearestTo_50 N (fX1_nearestTo_8 N n) x1 x2 x3 x4 x5 v5 (-1 : Int32) σ) else bd (fX1_compareLinkages N x1 v5 x1 x3 σ) (fun r8 s9 => (fX1_nearestTo_50 N (fX1_nearestTo_8 N n) x1 x2 x3 x4 x5 v5 r8 s9))))
set_option maxHeartbeats 4000000 in
set_option maxRecDepth 100000 in
theorem wX1_nearestTo_8 (hC : Cx RX1 cX1_nearestTo 8 (some .int) D cA p s m args meth c) {N : Nat} {r : Int32} {σ' : St} : ∀ (n : Nat) (x1 : Int32) (x2 : Int32) (x3 : Int32) (x4 : Int32) (x5 : Int32) (σ : St) (H : Heap) (locs : List Loc) (ls : Array Slot), fX1_nearestTo_8 N n x1 x2 x3 x4 x5 σ = some (r, σ') → Wd kdX 140 D cA ad s σ H locs → lv_has ls 8 [(0, .ref (ad 11)), (1, .int x1), (2, .int x2), (3, .int x3), (4, .int x4), (5, .int x5)] → W p l e rmX1_nearestTo s m args below meth c H locs 0 0 (EndW kdX 140 D cA ad below args s (some (.int r)) σ') (F0 m 8 ls []) := by
  have hx := hC.1
  have hb := hC.2.1
  have hown := hC.2.2.2.1
  have hts := hC.2.2.2.2.1
  intro n
  induction n with
  | zero =>
    intro x1 x2 x3 x4 x5 σ H locs ls hf
    rw [fX1_nearestTo_8] at hf
    cases hf
  | succ n ih =>
    intro x1 x2 x3 x4 x5 σ H locs ls hf hW hl
    rw [fX1_nearestTo_8] at hf
    refine lv_iload hx hb dX1_nearestTo_8 (lv_at hl 5 rfl) ?_
    refine lv_aload_n hx hb dX1_nearestTo_10 rfl (lv_at hl 0 rfl) ?_
    refine gfX1_65 hC hW 11 (by decide) rfl rfl dX1_nearestTo_11 ?_
    refine lv_icmp_ge (tgt := 102) hx hb dX1_nearestTo_14 (by decide) (fun h1 => ?_) (fun h1 => ?_)
    · have hf := it_t h1 hf
      refine lv_iload hx hb dX1_nearestTo_102 (lv_at hl 4 rfl) ?_
      refine lv_iconst (v := 1) hx hb dX1_nearestTo_104 (by decide) ?_
      refine lv_icmp_le (tgt := 118) hx hb dX1_nearestTo_105 (by decide) (fun h2 => ?_) (fun h2 => ?_)
      · have hf := it_t h2 hf
        refine lv_iload_n hx hb dX1_nearestTo_118 rfl (lv_at hl 3 rfl) ?_
        obtain ⟨rfl, rfl⟩ := sp hf
        exact Wd.iret hC hW dX1_nearestTo_119
      · have hf := it_f h2 hf
        refine lv_aload_n hx hb dX1_nearestTo_108 rfl (lv_at hl 0 rfl) ?_
        refine lv_dup hx hb dX1_nearestTo_109 rfl ?_
        refine gfX1_61 hC hW 11 (by decide) rfl rfl dX1_nearestTo_110 ?_
        refine lv_iconst (v := 1) hx hb dX1_nearestTo_113 (by decide) ?_
        refine lv_iadd hx hb dX1_nearestTo_114 ?_
        refine pgfX1_61 hC hW 11 (by decide) rfl rfl dX1_nearestTo_115 (fun H locs hW => ?_)
        obtain ⟨s3, es3, hf⟩ := nx_ex hf
        rw [← es3] at hW
        refine lv_iload_n hx hb dX1_nearestTo_118 rfl (lv_at hl 3 rfl) ?_
        obtain ⟨rfl, rfl⟩ := sp hf
        exact Wd.iret hC hW dX1_nearestTo_119
    · have hf := it_f h1 hf
      refine lv_aload_n hx hb dX1_nearestTo_17 rfl (lv_at hl 0 rfl) ?_
      refine gfX1_22 hC hW 11 (by decide) rfl (q := 13) rfl dX1_nearestTo_18 ?_
      refine lv_iload hx hb dX1_nearestTo_21 (lv_at hl 5 rfl) ?_
      obtain ⟨h4, hf⟩ := gd_some hf
      refine Wd.iald hC hW 13 (by decide) rfl h4 dX1_nearestTo_23 ?_
      refine lv_topi (fun v5 ev5 => ?_)
      have hf := nx_at ev5 hf
      refine lv_istore (lv' := [(6, .int v5), (0, .ref (ad 11)), (1, .int x1), (2, .int x2), (3, .int x3), (4, .int x4), (5, .int x5)]) hx hb dX1_nearestTo_24 hl (by decide) rfl (fun ls hl => ?_)
      refine lv_iload hx hb dX1_nearestTo_26 (lv_at hl 0 rfl) ?_
      refine lv_iload_n hx hb dX1_nearestTo_28 rfl (lv_at hl 2 rfl) ?_
      refine lv_icmp_eq (tgt := 96) hx hb dX1_nearestTo_29 (by decide) (fun h6 => ?_) (fun h6 => ?_)
      · have hf := it_t h6 hf
        exact wX1_nearestTo_96 hC ih hf hW (lv_sub hl [1, 2, 3, 4, 5, 6] rfl)
      · have hf := it_f h6 hf
        refine lv_iload_n hx hb dX1_nearestTo_32 rfl (lv_at hl 4 rfl) ?_
        refine lv_iconst (v := (-1)) hx hb dX1_nearestTo_33 (by decide) ?_
        refine lv_icmp_ne (tgt := 41) hx hb dX1_nearestTo_34 (by decide) (fun h7 => ?_) (fun h7 => ?_)
        · have hf := it_f h7 hf
          refine lv_aload_n hx hb dX1_nearestTo_41 rfl (lv_at hl 1 rfl) ?_
          refine lv_iload_n hx hb dX1_nearestTo_42 rfl (lv_at hl 2 rfl) ?_
          refine lv_iload hx hb dX1_nearestTo_43 (lv_at hl 0 rfl) ?_
          refine lv_iload_n hx hb dX1_nearestTo_45 rfl (lv_at hl 2 rfl) ?_
          refine lv_iload_n hx hb dX1_nearestTo_46 rfl (lv_at hl 4 rfl) ?_
          obtain ⟨r8, s9, c10, hf⟩ := bd_some hf
          refine Wd.callV (n := 4) (As := [.int x1, .int v5, .int x1, .int x3]) (rest := []) (rv := some (.int r8)) hC hW 11 (kX1_compareLinkages c10) (by decide) rfl rfl q447 q449 qs21 q5 q450 ⟨rfl, rfl⟩ ⟨by decide +kernel, by decide +kernel, by decide +kernel⟩ ⟨Nat.le_of_ble_eq_true rfl, Nat.le_of_ble_eq_true rfl⟩ ⟨Nat.zero_le _, Nat.zero_le _⟩ rfl hl.1 rfl (st2 := [.int r8]) rfl (Nat.le_of_ble_eq_true rfl) dX1_nearestTo_47 (fun H locs hW => ?_)
          exact wX1_nearestTo_50 hC ih hf hW (lv_sub hl [1, 2, 3, 4, 5, 6, 0] rfl)
        · have hf := it_t h7 hf
          refine lv_iconst (v := (-1)) hx hb dX1_nearestTo_37 (by decide) ?_
          refine lv_goto (tgt := 50) hx hb dX1_nearestTo_38 (by decide) ?_
          exact wX1_nearestTo_50 hC ih hf hW (lv_sub hl [1, 2, 3, 4, 5, 6, 0] rfl)
def fX1_nearestTo (N : Nat) (x1 : Int32) (x2 : Int32) (σ : St) : Option (Int32 × St) := (fX1_nearestTo_8 N N x1 x2 (-1 : Int32) (0 : Int32) (0 : Int32) σ)
set_option maxHeartbeats 4000000 in
set_option maxRecDepth 100000 in
theorem kX1_nearestTo {l : Launch} {D : va_G} {cA : Nat → ClassId} {ad : Nat → Nat} {N : Nat} {x1 : Int32} {x2 : Int32} {σ : St} {r : Int32} {σ' : St} (hf : fX1_nearestTo N x1 x2 σ = some (r, σ')) : MW kdX 140 l D cA ad ⟨RX1, "nearestTo", "(II)I"⟩ cX1_nearestTo 8 (some .int) rmX1_nearestTo [.ref (ad 11), .int x1, .int x2] σ (some (.int r)) σ' := by
  refine MW.of (by decide) (Nat.le_of_ble_eq_true rfl) ?_
  intro p e s m args below meth c ls hC hW hl
  have hx := hC.1
  have hb := hC.2.1
  have hown := hC.2.2.2.1
  have hts := hC.2.2.2.2.1
  have hl : lv_has ls 8 [(0, .ref (ad 11)), (1, .int x1), (2, .int x2)] := hl
  unfold fX1_nearestTo at hf
  refine lv_iconst (v := (-1)) hx hb dX1_nearestTo_0 (by decide) ?_
  refine lv_istore_n (lv' := [(3, .int (-1 : Int32)), (0, .ref (ad 11)), (1, .int x1), (2, .int x2)]) hx hb dX1_nearestTo_1 rfl hl (by decide) rfl (fun ls hl => ?_)
  refine lv_iconst (v := 0) hx hb dX1_nearestTo_2 (by decide) ?_
  refine lv_istore (lv' := [(4, .int (0 : Int32)), (3, .int (-1 : Int32)), (0, .ref (ad 11)), (1, .int x1), (2, .int x2)]) hx hb dX1_nearestTo_3 hl (by decide) rfl (fun ls hl => ?_)
  refine lv_iconst (v := 0) hx hb dX1_nearestTo_5 (by decide) ?_
  refine lv_istore (lv' := [(5, .int (0 : Int32)), (4, .int (0 : Int32)), (3, .int (-1 : Int32)), (0, .ref (ad 11)), (1, .int x1), (2, .int x2)]) hx hb dX1_nearestTo_6 hl (by decide) rfl (fun ls hl => ?_)
  exact wX1_nearestTo_8 hC N _ _ _ _ _ _ _ _ _ hf hW (lv_sub hl [3, 4, 5, 2, 1, 0] rfl)
abbrev rmJ9_min_7cf53 : Room := { frames := 0, cells := 0, slots := 0, locals := 0 }
def fJ9_min_7cf53 (N : Nat) (x0 : Int32) (x1 : Int32) (σ : St) : Option (Int32 × St) := if x1 < x0 then some (x1, σ) else some (x0, σ)
set_option maxHeartbeats 4000000 in
set_option maxRecDepth 100000 in
theorem kJ9_min_7cf53 {l : Launch} {D : va_G} {cA : Nat → ClassId} {ad : Nat → Nat} {N : Nat} {x0 : Int32} {x1 : Int32} {σ : St} {r : Int32} {σ' : St} (hf : fJ9_min_7cf53 N x0 x1 σ = some (r, σ')) : MW kdX 140 l D cA ad ⟨RJ9, "min", "(II)I"⟩ cJ9_min_7cf53 2 (some .int) rmJ9_min_7cf53 [.int x0, .int x1] σ (some (.int r)) σ' := by
  refine MW.ofF (by decide +kernel) (Nat.le_of_ble_eq_true rfl) ?_
  intro p e s m args below meth c ls hC hW hl
  have hx := hC.1
  have hb := hC.2.1
  have hown := hC.2.2.2.1
  have hts := hC.2.2.2.2.1
  have hl : lv_has ls 2 [(0, .int x0), (1, .int x1)] := hl
  unfold fJ9_min_7cf53 at hf
  refine lv_iload_n hx hb dJ9_min_7cf53_0 rfl (lv_at hl 0 rfl) ?_
  refine lv_iload_n hx hb dJ9_min_7cf53_1 rfl (lv_at hl 1 rfl) ?_
  refine lv_icmp_gt (tgt := 9) hx hb dJ9_min_7cf53_2 (by decide) (fun h1 => ?_) (fun h1 => ?_)
  · have hf := it_t h1 hf
    refine lv_iload_n hx hb dJ9_min_7cf53_9 rfl (lv_at hl 1 rfl) ?_
    obtain ⟨rfl, rfl⟩ := sp hf
    exact Wd.iret hC hW dJ9_min_7cf53_10
  · have hf := it_f h1 hf
    refine lv_iload_n hx hb dJ9_min_7cf53_5 rfl (lv_at hl 0 rfl) ?_
    refine lv_goto (tgt := 10) hx hb dJ9_min_7cf53_6 (by decide) ?_
    obtain ⟨rfl, rfl⟩ := sp hf
    exact Wd.iret hC hW dJ9_min_7cf53_10
abbrev rmX4_setClusters : Room := { frames := 1, cells := 0, slots := 0, locals := 21 }
def fX4_setClusters (N : Nat) (a : Nat) (x1 : Int32) (x2 : Int32) (x3 : Int32) (x4 : Int32) (σ : St) : Option (Unit × St) := if x1 < 0 then some ((), σ) else if (19 : Int32) ≤ x1 then some ((), σ) else bd (fJ9_min_7cf53 N x2 x3 σ) (fun r3 s4 => gd (ib x1 19) (nx (sI s4 (a + 1) x1.toNatClampNeg r3) (fun s7 => bd (fJ9_max_7cf53 N x2 x3 s7) (fun r8 s9 => gd (ib x1 19) (nx (sI s9 (a + 2) x1.toNatClampNeg r8) (fun s12 => gd (ib x1 19) (nx (sI s12 (a + 3) x1.toNatClampNeg x4) (fun s14 => some ((), s14)))))))))
set_option maxHeartbeats 4000000 in
set_option maxRecDepth 100000 in
theorem kX4_setClusters {l : Launch} {D : va_G} {cA : Nat → ClassId} {ad : Nat → Nat} {N : Nat} {a : Nat} (ha : isSt a) {x1 : Int32} {x2 : Int32} {x3 : Int32} {x4 : Int32} {σ : St} {r : Unit} {σ' : St} (hf : fX4_setClusters N a x1 x2 x3 x4 σ = some (r, σ')) : MW kdX 140 l D cA ad ⟨RX4, "setClusters", "(IIII)V"⟩ cX4_setClusters 5 none rmX4_setClusters [.ref (ad a), .int x1, .int x2, .int x3, .int x4] σ none σ' := by
  refine MW.of (by decide) (Nat.le_of_ble_eq_true rfl) ?_
  intro p e s m args below meth c ls hC hW hl
  have hx := hC.1
  have hb := hC.2.1
  have hown := hC.2.2.2.1
  have hts := hC.2.2.2.2.1
  have hl : lv_has ls 5 [(0, .ref (ad a)), (1, .int x1), (2, .int x2), (3, .int x3), (4, .int x4)] := hl
  unfold fX4_setClusters at hf
  refine lv_iload_n hx hb dX4_setClusters_0 rfl (lv_at hl 1 rfl) ?_
  refine lv_if_lt (tgt := 40) hx hb dX4_setClusters_1 (by decide) (fun h1 => ?_) (fun h1 => ?_)
  · have hf := it_t h1 hf
    obtain ⟨-, rfl⟩ := sp hf
    exact Wd.vret hC hW dX4_setClusters_40
  · have hf := it_f h1 hf
    refine lv_iload_n hx hb dX4_setClusters_4 rfl (lv_at hl 1 rfl) ?_
    refine lv_bipush (v := 19) hx hb dX4_setClusters_5 (by decide) ?_
    refine lv_icmp_ge (tgt := 40) hx hb dX4_setClusters_7 (by decide) (fun h2 => ?_) (fun h2 => ?_)
    · have hf := it_t h2 hf
      obtain ⟨-, rfl⟩ := sp hf
      exact Wd.vret hC hW dX4_setClusters_40
    · have hf := it_f h2 hf
      refine lv_aload_n hx hb dX4_setClusters_10 rfl (lv_at hl 0 rfl) ?_
      refine gfX4_9 hC hW a (St.b0 ha) (St.o ha) (q := (a + 1)) rfl dX4_setClusters_11 ?_
      refine lv_iload_n hx hb dX4_setClusters_14 rfl (lv_at hl 1 rfl) ?_
      refine lv_iload_n hx hb dX4_setClusters_15 rfl (lv_at hl 2 rfl) ?_
      refine lv_iload_n hx hb dX4_setClusters_16 rfl (lv_at hl 3 rfl) ?_
      obtain ⟨r3, s4, c5, hf⟩ := bd_some hf
      refine Wd.callS (n := 2) (As := [.int x2, .int x3]) (rest := [.int x1, .ref (ad (a + 1))]) (rv := some (.int r3)) hC hW (kJ9_min_7cf53 c5) q462 q463 q9 q464 ⟨rfl, rfl⟩ ⟨by decide +kernel, by decide +kernel, by decide +kernel⟩ ⟨Nat.le_of_ble_eq_true rfl, Nat.le_of_ble_eq_true rfl⟩ ⟨Nat.zero_le _, Nat.zero_le _⟩ rfl hl.1 rfl (st2 := [.int r3, .int x1, .ref (ad (a + 1))]) rfl (Nat.le_of_ble_eq_true rfl) dX4_setClusters_17 (fun H locs hW => ?_)
      obtain ⟨h6, hf⟩ := gd_some hf
      refine Wd.iast hC hW (a + 1) (St.b ha 1 (by decide)) (St.a1 ha) h6 dX4_setClusters_20 (fun H locs hW => ?_)
      obtain ⟨s7, es7, hf⟩ := nx_ex hf
      rw [← es7] at hW
      refine lv_aload_n hx hb dX4_setClusters_21 rfl (lv_at hl 0 rfl) ?_
      refine gfX4_15 hC hW a (St.b0 ha) (St.o ha) (q := (a + 2)) rfl dX4_setClusters_22 ?_
      refine lv_iload_n hx hb dX4_setClusters_25 rfl (lv_at hl 1 rfl) ?_
      refine lv_iload_n hx hb dX4_setClusters_26 rfl (lv_at hl 2 rfl) ?_
      refine lv_iload_n hx hb dX4_setClusters_27 rfl (lv_at hl 3 rfl) ?_
      obtain ⟨r8, s9, c10, hf⟩ := bd_some hf
      refine Wd.callS (n := 2) (As := [.int x2, .int x3]) (rest := [.int x1, .ref (ad (a + 2))]) (rv := some (.int r8)) hC hW (kJ9_max_7cf53 c10) q465 q287 q9 q288 ⟨rfl, rfl⟩ ⟨by decide +kernel, by decide +kernel, by decide +kernel⟩ ⟨Nat.le_of_ble_eq_true rfl, Nat.le_of_ble_eq_true rfl⟩ ⟨Nat.zero_le _, Nat.zero_le _⟩ rfl hl.1 rfl (st2 := [.int r8, .int x1, .ref (ad (a + 2))]) rfl (Nat.le_of_ble_eq_true rfl) dX4_setClusters_28 (fun H locs hW => ?_)
      obtain ⟨h11, hf⟩ := gd_some hf
      refine Wd.iast hC hW (a + 2) (St.b ha 2 (by decide)) (St.a2 ha) h11 dX4_setClusters_31 (fun H locs hW => ?_)
      obtain ⟨s12, es12, hf⟩ := nx_ex hf
      rw [← es12] at hW
      refine lv_aload_n hx hb dX4_setClusters_32 rfl (lv_at hl 0 rfl) ?_
      refine gfX4_18 hC hW a (St.b0 ha) (St.o ha) (q := (a + 3)) rfl dX4_setClusters_33 ?_
      refine lv_iload_n hx hb dX4_setClusters_36 rfl (lv_at hl 1 rfl) ?_
      refine lv_iload hx hb dX4_setClusters_37 (lv_at hl 4 rfl) ?_
      obtain ⟨h13, hf⟩ := gd_some hf
      refine Wd.iast hC hW (a + 3) (St.b ha 3 (by decide)) (St.a3 ha) h13 dX4_setClusters_39 (fun H locs hW => ?_)
      obtain ⟨s14, es14, hf⟩ := nx_ex hf
      rw [← es14] at hW
      obtain ⟨-, rfl⟩ := sp hf
      exact Wd.vret hC hW dX4_setClusters_40
abbrev rmX4_setHeight : Room := { frames := 2, cells := 0, slots := 0, locals := 53 }
def fX4_setHeight (N : Nat) (a : Nat) (x1 : Int32) (x2 : Int64) (x4 : Int64) (σ : St) : Option (Unit × St) := if x1 < 0 then some ((), σ) else if (19 : Int32) ≤ x1 then some ((), σ) else bd (fX7_commonDivisor N x2 x4 σ) (fun r3 s4 => bd (fX7_lowered N x2 r3 s4) (fun r6 s7 => gd (ib x1 19) (nx (sJ s7 (a + 4) x1.toNatClampNeg r6) (fun s10 => bd (fX7_lowered N x4 r3 s10) (fun r11 s12 => gd (ib x1 19) (nx (sJ s12 (a + 5) x1.toNatClampNeg r11) (fun s15 => some ((), s15))))))))
set_option maxHeartbeats 4000000 in
set_option maxRecDepth 100000 in
theorem kX4_setHeight {l : Launch} {D : va_G} {cA : Nat → ClassId} {ad : Nat → Nat} {N : Nat} {a : Nat} (ha : isSt a) {x1 : Int32} {x2 : Int64} {x4 : Int64} {σ : St} {r : Unit} {σ' : St} (hf : fX4_setHeight N a x1 x2 x4 σ = some (r, σ')) : MW kdX 140 l D cA ad ⟨RX4, "setHeight", "(IJJ)V"⟩ cX4_setHeight 8 none rmX4_setHeight [.ref (ad a), .int x1, .long x2, .long x4] σ none σ' := by
  refine MW.of (by decide) (Nat.le_of_ble_eq_true rfl) ?_
  intro p e s m args below meth c ls hC hW hl
  have hx := hC.1
  have hb := hC.2.1
  have hown := hC.2.2.2.1
  have hts := hC.2.2.2.2.1
  have hl : lv_has ls 8 [(0, .ref (ad a)), (1, .int x1), (2, .long x2), (4, .long x4)] := hl
  unfold fX4_setHeight at hf
  refine lv_iload_n hx hb dX4_setHeight_0 rfl (lv_at hl 1 rfl) ?_
  refine lv_if_lt (tgt := 43) hx hb dX4_setHeight_1 (by decide) (fun h1 => ?_) (fun h1 => ?_)
  · have hf := it_t h1 hf
    obtain ⟨-, rfl⟩ := sp hf
    exact Wd.vret hC hW dX4_setHeight_43
  · have hf := it_f h1 hf
    refine lv_iload_n hx hb dX4_setHeight_4 rfl (lv_at hl 1 rfl) ?_
    refine lv_bipush (v := 19) hx hb dX4_setHeight_5 (by decide) ?_
    refine lv_icmp_ge (tgt := 43) hx hb dX4_setHeight_7 (by decide) (fun h2 => ?_) (fun h2 => ?_)
    · have hf := it_t h2 hf
      obtain ⟨-, rfl⟩ := sp hf
      exact Wd.vret hC hW dX4_setHeight_43
    · have hf := it_f h2 hf
      refine lv_lload_n hx hb dX4_setHeight_10 rfl (lv_at hl 2 rfl) ?_
      refine lv_lload hx hb dX4_setHeight_11 (lv_at hl 3 rfl) ?_
      obtain ⟨r3, s4, c5, hf⟩ := bd_some hf
      refine Wd.callSN (n := 2) (As := [.long x2, .long x4]) (rest := []) (rv := some (.long r3)) hC hW (kX7_commonDivisor c5) q470 q404 q1 q405 ⟨rfl, rfl⟩ ⟨by decide +kernel, by decide +kernel, by decide +kernel⟩ ⟨Nat.le_of_ble_eq_true rfl, Nat.le_of_ble_eq_true rfl⟩ ⟨Nat.zero_le _, Nat.zero_le _⟩ rfl hl.1 rfl (st2 := [.long r3]) rfl (Nat.le_of_ble_eq_true rfl) dX4_setHeight_13 (fun H locs hW => ?_)
      refine lv_lstore (lv' := [(6, .long r3), (0, .ref (ad a)), (1, .int x1), (2, .long x2), (4, .long x4)]) hx hb dX4_setHeight_16 hl (by decide) rfl (fun ls hl => ?_)
      refine lv_aload_n hx hb dX4_setHeight_18 rfl (lv_at hl 1 rfl) ?_
      refine gfX4_21 hC hW a (St.b0 ha) (St.o ha) (q := (a + 4)) rfl dX4_setHeight_19 ?_
      refine lv_iload_n hx hb dX4_setHeight_22 rfl (lv_at hl 2 rfl) ?_
      refine lv_lload_n hx hb dX4_setHeight_23 rfl (lv_at hl 3 rfl) ?_
      refine lv_lload hx hb dX4_setHeight_24 (lv_at hl 0 rfl) ?_
      obtain ⟨r6, s7, c8, hf⟩ := bd_some hf
      refine Wd.callSN (n := 2) (As := [.long x2, .long r3]) (rest := [.int x1, .ref (ad (a + 4))]) (rv := some (.long r6)) hC hW (kX7_lowered c8) q471 q411 q1 q412 ⟨rfl, rfl⟩ ⟨by decide +kernel, by decide +kernel, by decide +kernel⟩ ⟨Nat.le_of_ble_eq_true rfl, Nat.le_of_ble_eq_true rfl⟩ ⟨Nat.zero_le _, Nat.zero_le _⟩ rfl hl.1 rfl (st2 := [.long r6, .int x1, .ref (ad (a + 4))]) rfl (Nat.le_of_ble_eq_true rfl) dX4_setHeight_26 (fun H locs hW => ?_)
      obtain ⟨h9, hf⟩ := gd_some hf
      refine Wd.last hC hW (a + 4) (St.b ha 4 (by decide)) (St.a4 ha) h9 dX4_setHeight_29 (fun H locs hW => ?_)
      obtain ⟨s10, es10, hf⟩ := nx_ex hf
      rw [← es10] at hW
      refine lv_aload_n hx hb dX4_setHeight_30 rfl (lv_at hl 1 rfl) ?_
      refine gfX4_25 hC hW a (St.b0 ha) (St.o ha) (q := (a + 5)) rfl dX4_setHeight_31 ?_
      refine lv_iload_n hx hb dX4_setHeight_34 rfl (lv_at hl 2 rfl) ?_
      refine lv_lload hx hb dX4_setHeight_35 (lv_at hl 4 rfl) ?_
      refine lv_lload hx hb dX4_setHeight_37 (lv_at hl 0 rfl) ?_
      obtain ⟨r11, s12, c13, hf⟩ := bd_some hf
      refine Wd.callSN (n := 2) (As := [.long x4, .long r3]) (rest := [.int x1, .ref (ad (a + 5))]) (rv := some (.long r11)) hC hW (kX7_lowered c13) q471 q411 q1 q412 ⟨rfl, rfl⟩ ⟨by decide +kernel, by decide +kernel, by decide +kernel⟩ ⟨Nat.le_of_ble_eq_true rfl, Nat.le_of_ble_eq_true rfl⟩ ⟨Nat.zero_le _, Nat.zero_le _⟩ rfl hl.1 rfl (st2 := [.long r11, .int x1, .ref (ad (a + 5))]) rfl (Nat.le_of_ble_eq_true rfl) dX4_setHeight_39 (fun H locs hW => ?_)
      obtain ⟨h14, hf⟩ := gd_some hf
      refine Wd.last hC hW (a + 5) (St.b ha 5 (by decide)) (St.a5 ha) h14 dX4_setHeight_42 (fun H locs hW => ?_)
      obtain ⟨s15, es15, hf⟩ := nx_ex hf
      rw [← es15] at hW
      obtain ⟨-, rfl⟩ := sp hf
      exact Wd.vret hC hW dX4_setHeight_43
abbrev rmX1_leave : Room := { frames := 0, cells := 0, slots := 0, locals := 0 }
def fX1_leave_37 (N : Nat) (K4 : Int32 → Int32 → Int32 → St → Option (Unit × St)) (x1 : Int32) (x2 : Int32) (x3 : Int32) (σ : St) : Option (Unit × St) := nx (x3 + (1 : Int32)) (fun v1 => (K4 x1 x2 v1 σ))
set_option maxHeartbeats 4000000 in
set_option maxRecDepth 100000 in
theorem wX1_leave_37 (hC : Cx RX1 cX1_leave 4 none D cA p s m args meth c) {N : Nat} {K4 : Int32 → Int32 → Int32 → St → Option (Unit × St)} {x1 : Int32} {x2 : Int32} {x3 : Int32} {σ : St} {r : Unit} {σ' : St} (hK4 : ∀ (x1 : Int32) (x2 : Int32) (x3 : Int32) (σ : St) (H : Heap) (locs : List Loc) (ls : Array Slot), K4 x1 x2 x3 σ = some (r, σ') → Wd kdX 140 D cA ad s σ H locs → lv_has ls 4 [(0, .ref (ad 11)), (1, .int x1), (2, .int x2), (3, .int x3)] → W p l e rmX1_leave s m args below meth c H locs 0 0 (EndW kdX 140 D cA ad below args s none σ') (F0 m 4 ls [])) {H : Heap} {locs : List Loc} {ls : Array Slot} (hf : fX1_leave_37 N K4 x1 x2 x3 σ = some (r, σ')) (hW : Wd kdX 140 D cA ad s σ H locs) (hl : lv_has ls 4 [(0, .ref (ad 11)), (1, .int x1), (2, .int x2), (3, .int x3)]) : W p l e rmX1_leave s m args below meth c H locs 0 0 (EndW kdX 140 D cA ad below args s none σ') (F0 m 37 ls []) := by
  have hx := hC.1
  have hb := hC.2.1
  have hown := hC.2.2.2.1
  have hts := hC.2.2.2.2.1
  unfold fX1_leave_37 at hf
  obtain ⟨v1, ev1⟩ : ∃ y : Int32, y = x3 + (1 : Int32) := ⟨_, rfl⟩
  have hf := nx_at ev1 hf
  refine lv_iinc (v := v1) (lv' := [(3, .int v1), (0, .ref (ad 11)), (1, .int x1), (2, .int x2)]) hx hb dX1_leave_37 hl (k := 3) rfl (by rw [ev1]; rfl) (by decide) rfl (fun ls hl => ?_)
  refine lv_goto (tgt := 4) hx hb dX1_leave_40 (by decide) ?_
  exact hK4 _ _ _ _ _ _ _ hf hW (lv_sub hl [1, 2, 3, 0] rfl)
def fX1_leave_4 (N : Nat) : Nat → Int32 → Int32 → Int32 → St → Option (Unit × St)
  | 0, _, _, _, _ => none
  | n + 1, x1, x2, x3, σ => if (σ.1 11 6) ≤ x3 then nx (sI σ 11 6 x2) (fun s2 => some ((), s2)) else gd (ib x3 20) (if (σ.1 13 x3.toNatClampNeg) = x1 then (fX1_leave_37 N (fX1_leave_4 N n) x1 x2 x3 σ) else gd (ib x3 20) (gd (ib x2 20) (nx (sI σ 13 x2.toNatClampNeg (σ.1 13 x3.toNatClampNeg)) (fun s7 => nx (x2 + (1 : Int32)) (fun v8 => (fX1_leave_37 N (fX1_leave_4 N n) x1 v8 x3 s7))))))
set_option maxHeartbeats 4000000 in
set_option maxRecDepth 100000 in
theorem wX1_leave_4 (hC : Cx RX1 cX1_leave 4 none D cA p s m args meth c) {N : Nat} {r : Unit} {σ' : St} : ∀ (n : Nat) (x1 : Int32) (x2 : Int32) (x3 : Int32) (σ : St) (H : Heap) (locs : List Loc) (ls : Array Slot), fX1_leave_4 N n x1 x2 x3 σ = some (r, σ') → Wd kdX 140 D cA ad s σ H locs → lv_has ls 4 [(0, .ref (ad 11)), (1, .int x1), (2, .int x2), (3, .int x3)] → W p l e rmX1_leave s m args below meth c H locs 0 0 (EndW kdX 140 D cA ad below args s none σ') (F0 m 4 ls []) := by
  have hx := hC.1
  have hb := hC.2.1
  have hown := hC.2.2.2.1
  have hts := hC.2.2.2.2.1
  intro n
  induction n with
  | zero =>
    intro x1 x2 x3 σ H locs ls hf
    rw [fX1_leave_4] at hf
    cases hf
  | succ n ih =>
    intro x1 x2 x3 σ H locs ls hf hW hl
    rw [fX1_leave_4] at hf
    refine lv_iload_n hx hb dX1_leave_4 rfl (lv_at hl 3 rfl) ?_
    refine lv_aload_n hx hb dX1_leave_5 rfl (lv_at hl 0 rfl) ?_
    refine gfX1_65 hC hW 11 (by decide) rfl rfl dX1_leave_6 ?_
    refine lv_icmp_ge (tgt := 43) hx hb dX1_leave_9 (by decide) (fun h1 => ?_) (fun h1 => ?_)
    · have hf := it_t h1 hf
      refine lv_aload_n hx hb dX1_leave_43 rfl (lv_at hl 0 rfl) ?_
      refine lv_iload_n hx hb dX1_leave_44 rfl (lv_at hl 2 rfl) ?_
      refine pgfX1_65 hC hW 11 (by decide) rfl rfl dX1_leave_45 (fun H locs hW => ?_)
      obtain ⟨s2, es2, hf⟩ := nx_ex hf
      rw [← es2] at hW
      obtain ⟨-, rfl⟩ := sp hf
      exact Wd.vret hC hW dX1_leave_48
    · have hf := it_f h1 hf
      refine lv_aload_n hx hb dX1_leave_12 rfl (lv_at hl 0 rfl) ?_
      refine gfX1_22 hC hW 11 (by decide) rfl (q := 13) rfl dX1_leave_13 ?_
      refine lv_iload_n hx hb dX1_leave_16 rfl (lv_at hl 3 rfl) ?_
      obtain ⟨h3, hf⟩ := gd_some hf
      refine Wd.iald hC hW 13 (by decide) rfl h3 dX1_leave_17 ?_
      refine lv_iload_n hx hb dX1_leave_18 rfl (lv_at hl 1 rfl) ?_
      refine lv_icmp_eq (tgt := 37) hx hb dX1_leave_19 (by decide) (fun h4 => ?_) (fun h4 => ?_)
      · have hf := it_t h4 hf
        exact wX1_leave_37 hC ih hf hW (lv_sub hl [0, 1, 2, 3] rfl)
      · have hf := it_f h4 hf
        refine lv_aload_n hx hb dX1_leave_22 rfl (lv_at hl 0 rfl) ?_
        refine gfX1_22 hC hW 11 (by decide) rfl (q := 13) rfl dX1_leave_23 ?_
        refine lv_iload_n hx hb dX1_leave_26 rfl (lv_at hl 2 rfl) ?_
        refine lv_aload_n hx hb dX1_leave_27 rfl (lv_at hl 0 rfl) ?_
        refine gfX1_22 hC hW 11 (by decide) rfl (q := 13) rfl dX1_leave_28 ?_
        refine lv_iload_n hx hb dX1_leave_31 rfl (lv_at hl 3 rfl) ?_
        obtain ⟨h5, hf⟩ := gd_some hf
        refine Wd.iald hC hW 13 (by decide) rfl h5 dX1_leave_32 ?_
        obtain ⟨h6, hf⟩ := gd_some hf
        refine Wd.iast hC hW 13 (by decide) rfl h6 dX1_leave_33 (fun H locs hW => ?_)
        obtain ⟨s7, es7, hf⟩ := nx_ex hf
        rw [← es7] at hW
        obtain ⟨v8, ev8⟩ : ∃ y : Int32, y = x2 + (1 : Int32) := ⟨_, rfl⟩
        have hf := nx_at ev8 hf
        refine lv_iinc (v := v8) (lv' := [(2, .int v8), (0, .ref (ad 11)), (1, .int x1), (3, .int x3)]) hx hb dX1_leave_34 hl (k := 2) rfl (by rw [ev8]; rfl) (by decide) rfl (fun ls hl => ?_)
        exact wX1_leave_37 hC ih hf hW (lv_sub hl [1, 2, 0, 3] rfl)
def fX1_leave (N : Nat) (x1 : Int32) (σ : St) : Option (Unit × St) := (fX1_leave_4 N N x1 (0 : Int32) (0 : Int32) σ)
set_option maxHeartbeats 4000000 in
set_option maxRecDepth 100000 in
theorem kX1_leave {l : Launch} {D : va_G} {cA : Nat → ClassId} {ad : Nat → Nat} {N : Nat} {x1 : Int32} {σ : St} {r : Unit} {σ' : St} (hf : fX1_leave N x1 σ = some (r, σ')) : MW kdX 140 l D cA ad ⟨RX1, "leave", "(I)V"⟩ cX1_leave 4 none rmX1_leave [.ref (ad 11), .int x1] σ none σ' := by
  refine MW.of (by decide) (Nat.le_of_ble_eq_true rfl) ?_
  intro p e s m args below meth c ls hC hW hl
  have hx := hC.1
  have hb := hC.2.1
  have hown := hC.2.2.2.1
  have hts := hC.2.2.2.2.1
  have hl : lv_has ls 4 [(0, .ref (ad 11)), (1, .int x1)] := hl
  unfold fX1_leave at hf
  refine lv_iconst (v := 0) hx hb dX1_leave_0 (by decide) ?_
  refine lv_istore_n (lv' := [(2, .int (0 : Int32)), (0, .ref (ad 11)), (1, .int x1)]) hx hb dX1_leave_1 rfl hl (by decide) rfl (fun ls hl => ?_)
  refine lv_iconst (v := 0) hx hb dX1_leave_2 (by decide) ?_
  refine lv_istore_n (lv' := [(3, .int (0 : Int32)), (2, .int (0 : Int32)), (0, .ref (ad 11)), (1, .int x1)]) hx hb dX1_leave_3 rfl hl (by decide) rfl (fun ls hl => ?_)
  exact wX1_leave_4 hC N _ _ _ _ _ _ _ hf hW (lv_sub hl [2, 3, 1, 0] rfl)
abbrev rmX1_join : Room := { frames := 3, cells := 0, slots := 0, locals := 80 }
def fX1_join_139 (N : Nat) : Nat → Int32 → Int32 → Int32 → St → Option (Unit × St)
  | 0, _, _, _, _ => none
  | n + 1, x1, x2, x4, σ => if (σ.1 11 6) ≤ x4 then gd (ib (σ.1 11 6) 20) (nx (sI σ 13 (σ.1 11 6).toNatClampNeg x1) (fun s3 => nx (sI s3 11 6 ((s3.1 11 6) + (1 : Int32))) (fun s4 => some ((), s4)))) else gd (ib x4 20) (nx (σ.1 13 x4.toNatClampNeg) (fun v6 => gd (ib x1 20) (gd (ib v6 20) (gd (ib x2 20) (gd (ib v6 20) (bd (fX2_carriedOn N (σ.1 11 1) (σ.2 (80 + 1 * x1.toNatClampNeg) v6.toNatClampNeg) (σ.2 (80 + 1 * x2.toNatClampNeg) v6.toNatClampNeg) σ) (fun r11 s12 => bd (fX1_setCore N x1 v6 r11 s12) (fun r14 s15 => nx (x4 + (1 : Int32)) (fun v17 => ((fX1_join_139 N n) x1 x2 v17 s15))))))))))
set_option maxHeartbeats 4000000 in
set_option maxRecDepth 100000 in
theorem wX1_join_139 (hC : Cx RX1 cX1_join 6 none D cA p s m args meth c) {N : Nat} {r : Unit} {σ' : St} : ∀ (n : Nat) (x1 : Int32) (x2 : Int32) (x4 : Int32) (σ : St) (H : Heap) (locs : List Loc) (ls : Array Slot), fX1_join_139 N n x1 x2 x4 σ = some (r, σ') → Wd kdX 140 D cA ad s σ H locs → lv_has ls 6 [(0, .ref (ad 11)), (1, .int x1), (2, .int x2), (4, .int x4)] → W p l e rmX1_join s m args below meth c H locs 0 0 (EndW kdX 140 D cA ad below args s none σ') (F0 m 139 ls []) := by
  have hx := hC.1
  have hb := hC.2.1
  have hown := hC.2.2.2.1
  have hts := hC.2.2.2.2.1
  intro n
  induction n with
  | zero =>
    intro x1 x2 x4 σ H locs ls hf
    rw [fX1_join_139] at hf
    cases hf
  | succ n ih =>
    intro x1 x2 x4 σ H locs ls hf hW hl
    rw [fX1_join_139] at hf
    refine lv_iload hx hb dX1_join_139 (lv_at hl 3 rfl) ?_
    refine lv_aload_n hx hb dX1_join_141 rfl (lv_at hl 0 rfl) ?_
    refine gfX1_65 hC hW 11 (by decide) rfl rfl dX1_join_142 ?_
    refine lv_icmp_ge (tgt := 195) hx hb dX1_join_145 (by decide) (fun h1 => ?_) (fun h1 => ?_)
    · have hf := it_t h1 hf
      refine lv_aload_n hx hb dX1_join_195 rfl (lv_at hl 0 rfl) ?_
      refine gfX1_22 hC hW 11 (by decide) rfl (q := 13) rfl dX1_join_196 ?_
      refine lv_aload_n hx hb dX1_join_199 rfl (lv_at hl 0 rfl) ?_
      refine gfX1_65 hC hW 11 (by decide) rfl rfl dX1_join_200 ?_
      refine lv_iload_n hx hb dX1_join_203 rfl (lv_at hl 1 rfl) ?_
      obtain ⟨h2, hf⟩ := gd_some hf
      refine Wd.iast hC hW 13 (by decide) rfl h2 dX1_join_204 (fun H locs hW => ?_)
      obtain ⟨s3, es3, hf⟩ := nx_ex hf
      rw [← es3] at hW
      refine lv_aload_n hx hb dX1_join_205 rfl (lv_at hl 0 rfl) ?_
      refine lv_dup hx hb dX1_join_206 rfl ?_
      refine gfX1_65 hC hW 11 (by decide) rfl rfl dX1_join_207 ?_
      refine lv_iconst (v := 1) hx hb dX1_join_210 (by decide) ?_
      refine lv_iadd hx hb dX1_join_211 ?_
      refine pgfX1_65 hC hW 11 (by decide) rfl rfl dX1_join_212 (fun H locs hW => ?_)
      obtain ⟨s4, es4, hf⟩ := nx_ex hf
      rw [← es4] at hW
      obtain ⟨-, rfl⟩ := sp hf
      exact Wd.vret hC hW dX1_join_215
    · have hf := it_f h1 hf
      refine lv_aload_n hx hb dX1_join_148 rfl (lv_at hl 0 rfl) ?_
      refine gfX1_22 hC hW 11 (by decide) rfl (q := 13) rfl dX1_join_149 ?_
      refine lv_iload hx hb dX1_join_152 (lv_at hl 3 rfl) ?_
      obtain ⟨h5, hf⟩ := gd_some hf
      refine Wd.iald hC hW 13 (by decide) rfl h5 dX1_join_154 ?_
      refine lv_topi (fun v6 ev6 => ?_)
      have hf := nx_at ev6 hf
      refine lv_istore (lv' := [(5, .int v6), (0, .ref (ad 11)), (1, .int x1), (2, .int x2), (4, .int x4)]) hx hb dX1_join_155 hl (by decide) rfl (fun ls hl => ?_)
      refine lv_aload_n hx hb dX1_join_157 rfl (lv_at hl 1 rfl) ?_
      refine lv_iload_n hx hb dX1_join_158 rfl (lv_at hl 2 rfl) ?_
      refine lv_iload hx hb dX1_join_159 (lv_at hl 0 rfl) ?_
      refine lv_aload_n hx hb dX1_join_161 rfl (lv_at hl 1 rfl) ?_
      refine gfX1_58 hC hW 11 (by decide) rfl rfl dX1_join_162 ?_
      refine lv_aload_n hx hb dX1_join_165 rfl (lv_at hl 1 rfl) ?_
      refine gfX1_37 hC hW 11 (by decide) rfl (q := 17) rfl dX1_join_166 ?_
      refine lv_iload_n hx hb dX1_join_169 rfl (lv_at hl 2 rfl) ?_
      obtain ⟨h7, hf⟩ := gd_some hf
      refine Wd.aald hC hW 17 ⟨by decide, by decide⟩ (by decide) rfl h7 dX1_join_170 ?_
      refine lv_iload hx hb dX1_join_171 (lv_at hl 0 rfl) ?_
      obtain ⟨h8, hf⟩ := gd_some hf
      refine Wd.lald hC hW (80 + 1 * x1.toNatClampNeg) (Rw.b80 h7) (Rw.k80 h7) h8 dX1_join_173 ?_
      refine lv_aload_n hx hb dX1_join_174 rfl (lv_at hl 1 rfl) ?_
      refine gfX1_37 hC hW 11 (by decide) rfl (q := 17) rfl dX1_join_175 ?_
      refine lv_iload_n hx hb dX1_join_178 rfl (lv_at hl 3 rfl) ?_
      obtain ⟨h9, hf⟩ := gd_some hf
      refine Wd.aald hC hW 17 ⟨by decide, by decide⟩ (by decide) rfl h9 dX1_join_179 ?_
      refine lv_iload hx hb dX1_join_180 (lv_at hl 0 rfl) ?_
      obtain ⟨h10, hf⟩ := gd_some hf
      refine Wd.lald hC hW (80 + 1 * x2.toNatClampNeg) (Rw.b80 h9) (Rw.k80 h9) h10 dX1_join_182 ?_
      obtain ⟨r11, s12, c13, hf⟩ := bd_some hf
      refine Wd.callSN (n := 3) (As := [.int (σ.1 11 1), .long (σ.2 (80 + 1 * x1.toNatClampNeg) v6.toNatClampNeg), .long (σ.2 (80 + 1 * x2.toNatClampNeg) v6.toNatClampNeg)]) (rest := [.int v6, .int x1, .ref (ad 11)]) (rv := some (.long r11)) hC hW (kX2_carriedOn c13) q476 q383 q12 q384 ⟨rfl, rfl⟩ ⟨by decide +kernel, by decide +kernel, by decide +kernel⟩ ⟨Nat.le_of_ble_eq_true rfl, Nat.le_of_ble_eq_true rfl⟩ ⟨Nat.zero_le _, Nat.zero_le _⟩ rfl hl.1 rfl (st2 := [.long r11, .int v6, .int x1, .ref (ad 11)]) rfl (Nat.le_of_ble_eq_true rfl) dX1_join_183 (fun H locs hW => ?_)
      obtain ⟨r14, s15, c16, hf⟩ := bd_some hf
      refine Wd.callV (n := 3) (As := [.int x1, .int v6, .long r11]) (rest := []) (rv := none) hC hW 11 (kX1_setCore c16) (by decide) rfl rfl q428 q430 qs17 q5 q431 ⟨rfl, rfl⟩ ⟨by decide +kernel, by decide +kernel, by decide +kernel⟩ ⟨Nat.le_of_ble_eq_true rfl, Nat.le_of_ble_eq_true rfl⟩ ⟨Nat.zero_le _, Nat.zero_le _⟩ rfl hl.1 rfl (st2 := []) rfl (Nat.le_of_ble_eq_true rfl) dX1_join_186 (fun H locs hW => ?_)
      obtain ⟨v17, ev17⟩ : ∃ y : Int32, y = x4 + (1 : Int32) := ⟨_, rfl⟩
      have hf := nx_at ev17 hf
      refine lv_iinc (v := v17) (lv' := [(4, .int v17), (5, .int v6), (0, .ref (ad 11)), (1, .int x1), (2, .int x2)]) hx hb dX1_join_189 hl (k := 4) rfl (by rw [ev17]; rfl) (by decide) rfl (fun ls hl => ?_)
      refine lv_goto (tgt := 139) hx hb dX1_join_192 (by decide) ?_
      exact ih _ _ _ _ _ _ _ hf hW (lv_sub hl [2, 3, 4, 0] rfl)
def fX1_join (N : Nat) (x1 : Int32) (x2 : Int32) (σ : St) : Option (Unit × St) := nx (σ.1 22 0) (fun v1 => gd (ib x1 20) (gd (ib x2 20) (gd (ib x1 20) (gd (ib x2 20) (bd (fX4_setClusters N 22 v1 (σ.1 14 x1.toNatClampNeg) (σ.1 14 x2.toNatClampNeg) ((σ.1 15 x1.toNatClampNeg) ||| (σ.1 15 x2.toNatClampNeg)) σ) (fun r6 s7 => gd (ib x1 20) (gd (ib x2 20) (gd (ib x1 20) (gd (ib x2 20) (bd (fX4_setHeight N 22 v1 (s7.2 (100 + 1 * x1.toNatClampNeg) x2.toNatClampNeg) (s7.2 (120 + 1 * x1.toNatClampNeg) x2.toNatClampNeg) s7) (fun r13 s14 => nx (sI s14 22 0 (v1 + (1 : Int32))) (fun s16 => gd (ib x1 20) (gd (ib x2 20) (gd (ib x1 20) (gd (ib x2 20) (gd (ib x1 20) (nx (sJ s16 16 x1.toNatClampNeg ((s16.2 16 x1.toNatClampNeg) + ((s16.2 16 x2.toNatClampNeg) + (s16.2 (80 + 1 * x1.toNatClampNeg) x2.toNatClampNeg)))) (fun s22 => gd (ib x1 20) (gd (ib x2 20) (gd (ib x1 20) (nx (sI s22 15 x1.toNatClampNeg ((s22.1 15 x1.toNatClampNeg) ||| (s22.1 15 x2.toNatClampNeg))) (fun s26 => gd (ib x1 20) (nx (sI s26 14 x1.toNatClampNeg ((s26.1 11 0) + v1)) (fun s28 => bd (fX1_leave N x1 s28) (fun r29 s30 => bd (fX1_leave N x2 s30) (fun r32 s33 => (fX1_join_139 N N x1 x2 (0 : Int32) s33)))))))))))))))))))))))))))
set_option maxHeartbeats 4000000 in
set_option maxRecDepth 100000 in
theorem kX1_join {l : Launch} {D : va_G} {cA : Nat → ClassId} {ad : Nat → Nat} {N : Nat} {x1 : Int32} {x2 : Int32} {σ : St} {r : Unit} {σ' : St} (hf : fX1_join N x1 x2 σ = some (r, σ')) : MW kdX 140 l D cA ad ⟨RX1, "join", "(II)V"⟩ cX1_join 6 none rmX1_join [.ref (ad 11), .int x1, .int x2] σ none σ' := by
  refine MW.of (by decide) (Nat.le_of_ble_eq_true rfl) ?_
  intro p e s m args below meth c ls hC hW hl
  have hx := hC.1
  have hb := hC.2.1
  have hown := hC.2.2.2.1
  have hts := hC.2.2.2.2.1
  have hl : lv_has ls 6 [(0, .ref (ad 11)), (1, .int x1), (2, .int x2)] := hl
  unfold fX1_join at hf
  refine lv_aload_n hx hb dX1_join_0 rfl (lv_at hl 0 rfl) ?_
  refine gfX1_12 hC hW 11 (by decide) rfl (q := 22) rfl dX1_join_1 ?_
  refine gfX1_64 hC hW 22 (St.b0 St.m) (St.o St.m) rfl dX1_join_4 ?_
  refine lv_topi (fun v1 ev1 => ?_)
  have hf := nx_at ev1 hf
  refine lv_istore_n (lv' := [(3, .int v1), (0, .ref (ad 11)), (1, .int x1), (2, .int x2)]) hx hb dX1_join_7 rfl hl (by decide) rfl (fun ls hl => ?_)
  refine lv_aload_n hx hb dX1_join_8 rfl (lv_at hl 1 rfl) ?_
  refine gfX1_12 hC hW 11 (by decide) rfl (q := 22) rfl dX1_join_9 ?_
  refine lv_iload_n hx hb dX1_join_12 rfl (lv_at hl 0 rfl) ?_
  refine lv_aload_n hx hb dX1_join_13 rfl (lv_at hl 1 rfl) ?_
  refine gfX1_25 hC hW 11 (by decide) rfl (q := 14) rfl dX1_join_14 ?_
  refine lv_iload_n hx hb dX1_join_17 rfl (lv_at hl 2 rfl) ?_
  obtain ⟨h2, hf⟩ := gd_some hf
  refine Wd.iald hC hW 14 (by decide) rfl h2 dX1_join_18 ?_
  refine lv_aload_n hx hb dX1_join_19 rfl (lv_at hl 1 rfl) ?_
  refine gfX1_25 hC hW 11 (by decide) rfl (q := 14) rfl dX1_join_20 ?_
  refine lv_iload_n hx hb dX1_join_23 rfl (lv_at hl 3 rfl) ?_
  obtain ⟨h3, hf⟩ := gd_some hf
  refine Wd.iald hC hW 14 (by decide) rfl h3 dX1_join_24 ?_
  refine lv_aload_n hx hb dX1_join_25 rfl (lv_at hl 1 rfl) ?_
  refine gfX1_28 hC hW 11 (by decide) rfl (q := 15) rfl dX1_join_26 ?_
  refine lv_iload_n hx hb dX1_join_29 rfl (lv_at hl 2 rfl) ?_
  obtain ⟨h4, hf⟩ := gd_some hf
  refine Wd.iald hC hW 15 (by decide) rfl h4 dX1_join_30 ?_
  refine lv_aload_n hx hb dX1_join_31 rfl (lv_at hl 1 rfl) ?_
  refine gfX1_28 hC hW 11 (by decide) rfl (q := 15) rfl dX1_join_32 ?_
  refine lv_iload_n hx hb dX1_join_35 rfl (lv_at hl 3 rfl) ?_
  obtain ⟨h5, hf⟩ := gd_some hf
  refine Wd.iald hC hW 15 (by decide) rfl h5 dX1_join_36 ?_
  refine lv_ior hx hb dX1_join_37 ?_
  obtain ⟨r6, s7, c8, hf⟩ := bd_some hf
  refine Wd.callVN (n := 4) (As := [.int v1, .int (σ.1 14 x1.toNatClampNeg), .int (σ.1 14 x2.toNatClampNeg), .int ((σ.1 15 x1.toNatClampNeg) ||| (σ.1 15 x2.toNatClampNeg))]) (rest := []) (rv := none) hC hW 22 (kX4_setClusters St.m c8) (St.b0 St.m) (St.o St.m) rfl q458 q460 qs23 q6 q461 ⟨rfl, rfl⟩ ⟨by decide +kernel, by decide +kernel, by decide +kernel⟩ ⟨Nat.le_of_ble_eq_true rfl, Nat.le_of_ble_eq_true rfl⟩ ⟨Nat.zero_le _, Nat.zero_le _⟩ rfl hl.1 rfl (st2 := []) rfl (Nat.le_of_ble_eq_true rfl) dX1_join_38 (fun H locs hW => ?_)
  refine lv_aload_n hx hb dX1_join_41 rfl (lv_at hl 1 rfl) ?_
  refine gfX1_12 hC hW 11 (by decide) rfl (q := 22) rfl dX1_join_42 ?_
  refine lv_iload_n hx hb dX1_join_45 rfl (lv_at hl 0 rfl) ?_
  refine lv_aload_n hx hb dX1_join_46 rfl (lv_at hl 1 rfl) ?_
  refine gfX1_40 hC hW 11 (by decide) rfl (q := 18) rfl dX1_join_47 ?_
  refine lv_iload_n hx hb dX1_join_50 rfl (lv_at hl 2 rfl) ?_
  obtain ⟨h9, hf⟩ := gd_some hf
  refine Wd.aald hC hW 18 ⟨by decide, by decide⟩ (by decide) rfl h9 dX1_join_51 ?_
  refine lv_iload_n hx hb dX1_join_52 rfl (lv_at hl 3 rfl) ?_
  obtain ⟨h10, hf⟩ := gd_some hf
  refine Wd.lald hC hW (100 + 1 * x1.toNatClampNeg) (Rw.b100 h9) (Rw.k100 h9) h10 dX1_join_53 ?_
  refine lv_aload_n hx hb dX1_join_54 rfl (lv_at hl 1 rfl) ?_
  refine gfX1_43 hC hW 11 (by decide) rfl (q := 19) rfl dX1_join_55 ?_
  refine lv_iload_n hx hb dX1_join_58 rfl (lv_at hl 2 rfl) ?_
  obtain ⟨h11, hf⟩ := gd_some hf
  refine Wd.aald hC hW 19 ⟨by decide, by decide⟩ (by decide) rfl h11 dX1_join_59 ?_
  refine lv_iload_n hx hb dX1_join_60 rfl (lv_at hl 3 rfl) ?_
  obtain ⟨h12, hf⟩ := gd_some hf
  refine Wd.lald hC hW (120 + 1 * x1.toNatClampNeg) (Rw.b120 h11) (Rw.k120 h11) h12 dX1_join_61 ?_
  obtain ⟨r13, s14, c15, hf⟩ := bd_some hf
  refine Wd.callVN (n := 3) (As := [.int v1, .long (s7.2 (100 + 1 * x1.toNatClampNeg) x2.toNatClampNeg), .long (s7.2 (120 + 1 * x1.toNatClampNeg) x2.toNatClampNeg)]) (rest := []) (rv := none) hC hW 22 (kX4_setHeight St.m c15) (St.b0 St.m) (St.o St.m) rfl q466 q468 qs24 q6 q469 ⟨rfl, rfl⟩ ⟨by decide +kernel, by decide +kernel, by decide +kernel⟩ ⟨Nat.le_of_ble_eq_true rfl, Nat.le_of_ble_eq_true rfl⟩ ⟨Nat.zero_le _, Nat.zero_le _⟩ rfl hl.1 rfl (st2 := []) rfl (Nat.le_of_ble_eq_true rfl) dX1_join_62 (fun H locs hW => ?_)
  refine lv_aload_n hx hb dX1_join_65 rfl (lv_at hl 1 rfl) ?_
  refine gfX1_12 hC hW 11 (by decide) rfl (q := 22) rfl dX1_join_66 ?_
  refine lv_iload_n hx hb dX1_join_69 rfl (lv_at hl 0 rfl) ?_
  refine lv_iconst (v := 1) hx hb dX1_join_70 (by decide) ?_
  refine lv_iadd hx hb dX1_join_71 ?_
  refine pgfX1_64 hC hW 22 (St.b0 St.m) (St.o St.m) rfl dX1_join_72 (fun H locs hW => ?_)
  obtain ⟨s16, es16, hf⟩ := nx_ex hf
  rw [← es16] at hW
  refine lv_aload_n hx hb dX1_join_75 rfl (lv_at hl 1 rfl) ?_
  refine gfX1_31 hC hW 11 (by decide) rfl (q := 16) rfl dX1_join_76 ?_
  refine lv_iload_n hx hb dX1_join_79 rfl (lv_at hl 2 rfl) ?_
  refine lv_dup2_11 hx hb dX1_join_80 rfl rfl ?_
  obtain ⟨h17, hf⟩ := gd_some hf
  refine Wd.lald hC hW 16 (by decide) rfl h17 dX1_join_81 ?_
  refine lv_aload_n hx hb dX1_join_82 rfl (lv_at hl 1 rfl) ?_
  refine gfX1_31 hC hW 11 (by decide) rfl (q := 16) rfl dX1_join_83 ?_
  refine lv_iload_n hx hb dX1_join_86 rfl (lv_at hl 3 rfl) ?_
  obtain ⟨h18, hf⟩ := gd_some hf
  refine Wd.lald hC hW 16 (by decide) rfl h18 dX1_join_87 ?_
  refine lv_aload_n hx hb dX1_join_88 rfl (lv_at hl 1 rfl) ?_
  refine gfX1_37 hC hW 11 (by decide) rfl (q := 17) rfl dX1_join_89 ?_
  refine lv_iload_n hx hb dX1_join_92 rfl (lv_at hl 2 rfl) ?_
  obtain ⟨h19, hf⟩ := gd_some hf
  refine Wd.aald hC hW 17 ⟨by decide, by decide⟩ (by decide) rfl h19 dX1_join_93 ?_
  refine lv_iload_n hx hb dX1_join_94 rfl (lv_at hl 3 rfl) ?_
  obtain ⟨h20, hf⟩ := gd_some hf
  refine Wd.lald hC hW (80 + 1 * x1.toNatClampNeg) (Rw.b80 h19) (Rw.k80 h19) h20 dX1_join_95 ?_
  refine lv_ladd hx hb dX1_join_96 ?_
  refine lv_ladd hx hb dX1_join_97 ?_
  obtain ⟨h21, hf⟩ := gd_some hf
  refine Wd.last hC hW 16 (by decide) rfl h21 dX1_join_98 (fun H locs hW => ?_)
  obtain ⟨s22, es22, hf⟩ := nx_ex hf
  rw [← es22] at hW
  refine lv_aload_n hx hb dX1_join_99 rfl (lv_at hl 1 rfl) ?_
  refine gfX1_28 hC hW 11 (by decide) rfl (q := 15) rfl dX1_join_100 ?_
  refine lv_iload_n hx hb dX1_join_103 rfl (lv_at hl 2 rfl) ?_
  refine lv_dup2_11 hx hb dX1_join_104 rfl rfl ?_
  obtain ⟨h23, hf⟩ := gd_some hf
  refine Wd.iald hC hW 15 (by decide) rfl h23 dX1_join_105 ?_
  refine lv_aload_n hx hb dX1_join_106 rfl (lv_at hl 1 rfl) ?_
  refine gfX1_28 hC hW 11 (by decide) rfl (q := 15) rfl dX1_join_107 ?_
  refine lv_iload_n hx hb dX1_join_110 rfl (lv_at hl 3 rfl) ?_
  obtain ⟨h24, hf⟩ := gd_some hf
  refine Wd.iald hC hW 15 (by decide) rfl h24 dX1_join_111 ?_
  refine lv_ior hx hb dX1_join_112 ?_
  obtain ⟨h25, hf⟩ := gd_some hf
  refine Wd.iast hC hW 15 (by decide) rfl h25 dX1_join_113 (fun H locs hW => ?_)
  obtain ⟨s26, es26, hf⟩ := nx_ex hf
  rw [← es26] at hW
  refine lv_aload_n hx hb dX1_join_114 rfl (lv_at hl 1 rfl) ?_
  refine gfX1_25 hC hW 11 (by decide) rfl (q := 14) rfl dX1_join_115 ?_
  refine lv_iload_n hx hb dX1_join_118 rfl (lv_at hl 2 rfl) ?_
  refine lv_aload_n hx hb dX1_join_119 rfl (lv_at hl 1 rfl) ?_
  refine gfX1_55 hC hW 11 (by decide) rfl rfl dX1_join_120 ?_
  refine lv_iload_n hx hb dX1_join_123 rfl (lv_at hl 0 rfl) ?_
  refine lv_iadd hx hb dX1_join_124 ?_
  obtain ⟨h27, hf⟩ := gd_some hf
  refine Wd.iast hC hW 14 (by decide) rfl h27 dX1_join_125 (fun H locs hW => ?_)
  obtain ⟨s28, es28, hf⟩ := nx_ex hf
  rw [← es28] at hW
  refine lv_aload_n hx hb dX1_join_126 rfl (lv_at hl 1 rfl) ?_
  refine lv_iload_n hx hb dX1_join_127 rfl (lv_at hl 2 rfl) ?_
  obtain ⟨r29, s30, c31, hf⟩ := bd_some hf
  refine Wd.callV (n := 1) (As := [.int x1]) (rest := []) (rv := none) hC hW 11 (kX1_leave c31) (by decide) rfl rfl q472 q474 qs25 q5 q475 ⟨rfl, rfl⟩ ⟨by decide +kernel, by decide +kernel, by decide +kernel⟩ ⟨Nat.le_of_ble_eq_true rfl, Nat.le_of_ble_eq_true rfl⟩ ⟨Nat.zero_le _, Nat.zero_le _⟩ rfl hl.1 rfl (st2 := []) rfl (Nat.le_of_ble_eq_true rfl) dX1_join_128 (fun H locs hW => ?_)
  refine lv_aload_n hx hb dX1_join_131 rfl (lv_at hl 1 rfl) ?_
  refine lv_iload_n hx hb dX1_join_132 rfl (lv_at hl 3 rfl) ?_
  obtain ⟨r32, s33, c34, hf⟩ := bd_some hf
  refine Wd.callV (n := 1) (As := [.int x2]) (rest := []) (rv := none) hC hW 11 (kX1_leave c34) (by decide) rfl rfl q472 q474 qs25 q5 q475 ⟨rfl, rfl⟩ ⟨by decide +kernel, by decide +kernel, by decide +kernel⟩ ⟨Nat.le_of_ble_eq_true rfl, Nat.le_of_ble_eq_true rfl⟩ ⟨Nat.zero_le _, Nat.zero_le _⟩ rfl hl.1 rfl (st2 := []) rfl (Nat.le_of_ble_eq_true rfl) dX1_join_133 (fun H locs hW => ?_)
  refine lv_iconst (v := 0) hx hb dX1_join_136 (by decide) ?_
  refine lv_istore (lv' := [(4, .int (0 : Int32)), (3, .int v1), (0, .ref (ad 11)), (1, .int x1), (2, .int x2)]) hx hb dX1_join_137 hl (by decide) rfl (fun ls hl => ?_)
  exact wX1_join_139 hC N _ _ _ _ _ _ _ hf hW (lv_sub hl [2, 3, 4, 0] rfl)
abbrev rmX1_followChain : Room := { frames := 4, cells := 0, slots := 0, locals := 105 }
def fX1_followChain_59 (N : Nat) (x1 : Int32) (y0 : Int32) (σ : St) : Option (Unit × St) := bd (fX1_nearestTo N x1 y0 σ) (fun r1 s2 => if r1 = (-1 : Int32) then some ((), s2) else if r1 = y0 then nx (sI s2 11 14 ((s2.1 11 14) - (2 : Int32))) (fun s10 => bd (fX1_join N y0 x1 s10) (fun r11 s12 => some ((), s12))) else if (20 : Int32) ≤ (s2.1 11 14) then some ((), s2) else gd (ib (s2.1 11 14) 20) (nx (sI s2 20 (s2.1 11 14).toNatClampNeg r1) (fun s8 => nx (sI s8 11 14 ((s8.1 11 14) + (1 : Int32))) (fun s9 => some ((), s9)))))
set_option maxHeartbeats 4000000 in
set_option maxRecDepth 100000 in
theorem wX1_followChain_59 (hC : Cx RX1 cX1_followChain 4 none D cA p s m args meth c) {N : Nat} {x1 : Int32} {y0 : Int32} {σ : St} {r : Unit} {σ' : St} {H : Heap} {locs : List Loc} {ls : Array Slot} (hf : fX1_followChain_59 N x1 y0 σ = some (r, σ')) (hW : Wd kdX 140 D cA ad s σ H locs) (hl : lv_has ls 4 [(0, .ref (ad 11)), (1, .int x1)]) : W p l e rmX1_followChain s m args below meth c H locs 0 0 (EndW kdX 140 D cA ad below args s none σ') (F0 m 59 ls [.int y0]) := by
  have hx := hC.1
  have hb := hC.2.1
  have hown := hC.2.2.2.1
  have hts := hC.2.2.2.2.1
  unfold fX1_followChain_59 at hf
  refine lv_istore_n (lv' := [(2, .int y0), (0, .ref (ad 11)), (1, .int x1)]) hx hb dX1_followChain_59 rfl hl (by decide) rfl (fun ls hl => ?_)
  refine lv_aload_n hx hb dX1_followChain_60 rfl (lv_at hl 1 rfl) ?_
  refine lv_iload_n hx hb dX1_followChain_61 rfl (lv_at hl 2 rfl) ?_
  refine lv_iload_n hx hb dX1_followChain_62 rfl (lv_at hl 0 rfl) ?_
  obtain ⟨r1, s2, c3, hf⟩ := bd_some hf
  refine Wd.callV (n := 2) (As := [.int x1, .int y0]) (rest := []) (rv := some (.int r1)) hC hW 11 (kX1_nearestTo c3) (by decide) rfl rfl q443 q445 qs20 q5 q446 ⟨rfl, rfl⟩ ⟨by decide +kernel, by decide +kernel, by decide +kernel⟩ ⟨Nat.le_of_ble_eq_true rfl, Nat.le_of_ble_eq_true rfl⟩ ⟨Nat.zero_le _, Nat.zero_le _⟩ rfl hl.1 rfl (st2 := [.int r1]) rfl (Nat.le_of_ble_eq_true rfl) dX1_followChain_63 (fun H locs hW => ?_)
  refine lv_istore_n (lv' := [(3, .int r1), (2, .int y0), (0, .ref (ad 11)), (1, .int x1)]) hx hb dX1_followChain_66 rfl hl (by decide) rfl (fun ls hl => ?_)
  refine lv_iload_n hx hb dX1_followChain_67 rfl (lv_at hl 0 rfl) ?_
  refine lv_iconst (v := (-1)) hx hb dX1_followChain_68 (by decide) ?_
  refine lv_icmp_ne (tgt := 73) hx hb dX1_followChain_69 (by decide) (fun h4 => ?_) (fun h4 => ?_)
  · have hf := it_f h4 hf
    refine lv_iload_n hx hb dX1_followChain_73 rfl (lv_at hl 0 rfl) ?_
    refine lv_iload_n hx hb dX1_followChain_74 rfl (lv_at hl 1 rfl) ?_
    refine lv_icmp_ne (tgt := 97) hx hb dX1_followChain_75 (by decide) (fun h5 => ?_) (fun h5 => ?_)
    · have hf := it_f h5 hf
      refine lv_aload_n hx hb dX1_followChain_97 rfl (lv_at hl 2 rfl) ?_
      refine gfX1_66 hC hW 11 (by decide) rfl rfl dX1_followChain_98 ?_
      refine lv_bipush (v := 20) hx hb dX1_followChain_101 (by decide) ?_
      refine lv_icmp_ge (tgt := 126) hx hb dX1_followChain_103 (by decide) (fun h6 => ?_) (fun h6 => ?_)
      · have hf := it_t h6 hf
        obtain ⟨-, rfl⟩ := sp hf
        exact Wd.vret hC hW dX1_followChain_126
      · have hf := it_f h6 hf
        refine lv_aload_n hx hb dX1_followChain_106 rfl (lv_at hl 2 rfl) ?_
        refine gfX1_46 hC hW 11 (by decide) rfl (q := 20) rfl dX1_followChain_107 ?_
        refine lv_aload_n hx hb dX1_followChain_110 rfl (lv_at hl 2 rfl) ?_
        refine gfX1_66 hC hW 11 (by decide) rfl rfl dX1_followChain_111 ?_
        refine lv_iload_n hx hb dX1_followChain_114 rfl (lv_at hl 0 rfl) ?_
        obtain ⟨h7, hf⟩ := gd_some hf
        refine Wd.iast hC hW 20 (by decide) rfl h7 dX1_followChain_115 (fun H locs hW => ?_)
        obtain ⟨s8, es8, hf⟩ := nx_ex hf
        rw [← es8] at hW
        refine lv_aload_n hx hb dX1_followChain_116 rfl (lv_at hl 2 rfl) ?_
        refine lv_dup hx hb dX1_followChain_117 rfl ?_
        refine gfX1_66 hC hW 11 (by decide) rfl rfl dX1_followChain_118 ?_
        refine lv_iconst (v := 1) hx hb dX1_followChain_121 (by decide) ?_
        refine lv_iadd hx hb dX1_followChain_122 ?_
        refine pgfX1_66 hC hW 11 (by decide) rfl rfl dX1_followChain_123 (fun H locs hW => ?_)
        obtain ⟨s9, es9, hf⟩ := nx_ex hf
        rw [← es9] at hW
        obtain ⟨-, rfl⟩ := sp hf
        exact Wd.vret hC hW dX1_followChain_126
    · have hf := it_t h5 hf
      refine lv_aload_n hx hb dX1_followChain_78 rfl (lv_at hl 2 rfl) ?_
      refine lv_dup hx hb dX1_followChain_79 rfl ?_
      refine gfX1_66 hC hW 11 (by decide) rfl rfl dX1_followChain_80 ?_
      refine lv_iconst (v := 2) hx hb dX1_followChain_83 (by decide) ?_
      refine lv_isub hx hb dX1_followChain_84 ?_
      refine pgfX1_66 hC hW 11 (by decide) rfl rfl dX1_followChain_85 (fun H locs hW => ?_)
      obtain ⟨s10, es10, hf⟩ := nx_ex hf
      rw [← es10] at hW
      refine lv_aload_n hx hb dX1_followChain_88 rfl (lv_at hl 2 rfl) ?_
      refine lv_iload_n hx hb dX1_followChain_89 rfl (lv_at hl 1 rfl) ?_
      refine lv_iload_n hx hb dX1_followChain_90 rfl (lv_at hl 3 rfl) ?_
      obtain ⟨r11, s12, c13, hf⟩ := bd_some hf
      refine Wd.callV (n := 2) (As := [.int y0, .int x1]) (rest := []) (rv := none) hC hW 11 (kX1_join c13) (by decide) rfl rfl q454 q456 qs22 q5 q457 ⟨rfl, rfl⟩ ⟨by decide +kernel, by decide +kernel, by decide +kernel⟩ ⟨Nat.le_of_ble_eq_true rfl, Nat.le_of_ble_eq_true rfl⟩ ⟨Nat.zero_le _, Nat.zero_le _⟩ rfl hl.1 rfl (st2 := []) rfl (Nat.le_of_ble_eq_true rfl) dX1_followChain_91 (fun H locs hW => ?_)
      refine lv_goto (tgt := 126) hx hb dX1_followChain_94 (by decide) ?_
      obtain ⟨-, rfl⟩ := sp hf
      exact Wd.vret hC hW dX1_followChain_126
  · have hf := it_t h4 hf
    obtain ⟨-, rfl⟩ := sp hf
    exact Wd.vret hC hW dX1_followChain_72
def fX1_followChain_24 (N : Nat) (σ : St) : Option (Unit × St) := gd (ib ((σ.1 11 14) - (1 : Int32)) 20) (nx (σ.1 20 ((σ.1 11 14) - (1 : Int32)).toNatClampNeg) (fun v2 => if (σ.1 11 14) ≤ (1 : Int32) then (fX1_followChain_59 N v2 (-1 : Int32) σ) else gd (ib ((σ.1 11 14) - (2 : Int32)) 20) ((fX1_followChain_59 N v2 (σ.1 20 ((σ.1 11 14) - (2 : Int32)).toNatClampNeg) σ))))
set_option maxHeartbeats 4000000 in
set_option maxRecDepth 100000 in
theorem wX1_followChain_24 (hC : Cx RX1 cX1_followChain 4 none D cA p s m args meth c) {N : Nat} {σ : St} {r : Unit} {σ' : St} {H : Heap} {locs : List Loc} {ls : Array Slot} (hf : fX1_followChain_24 N σ = some (r, σ')) (hW : Wd kdX 140 D cA ad s σ H locs) (hl : lv_has ls 4 [(0, .ref (ad 11))]) : W p l e rmX1_followChain s m args below meth c H locs 0 0 (EndW kdX 140 D cA ad below args s none σ') (F0 m 24 ls []) := by
  have hx := hC.1
  have hb := hC.2.1
  have hown := hC.2.2.2.1
  have hts := hC.2.2.2.2.1
  unfold fX1_followChain_24 at hf
  refine lv_aload_n hx hb dX1_followChain_24 rfl (lv_at hl 0 rfl) ?_
  refine gfX1_46 hC hW 11 (by decide) rfl (q := 20) rfl dX1_followChain_25 ?_
  refine lv_aload_n hx hb dX1_followChain_28 rfl (lv_at hl 0 rfl) ?_
  refine gfX1_66 hC hW 11 (by decide) rfl rfl dX1_followChain_29 ?_
  refine lv_iconst (v := 1) hx hb dX1_followChain_32 (by decide) ?_
  refine lv_isub hx hb dX1_followChain_33 ?_
  obtain ⟨h1, hf⟩ := gd_some hf
  refine Wd.iald hC hW 20 (by decide) rfl h1 dX1_followChain_34 ?_
  refine lv_topi (fun v2 ev2 => ?_)
  have hf := nx_at ev2 hf
  refine lv_istore_n (lv' := [(1, .int v2), (0, .ref (ad 11))]) hx hb dX1_followChain_35 rfl hl (by decide) rfl (fun ls hl => ?_)
  refine lv_aload_n hx hb dX1_followChain_36 rfl (lv_at hl 1 rfl) ?_
  refine gfX1_66 hC hW 11 (by decide) rfl rfl dX1_followChain_37 ?_
  refine lv_iconst (v := 1) hx hb dX1_followChain_40 (by decide) ?_
  refine lv_icmp_le (tgt := 58) hx hb dX1_followChain_41 (by decide) (fun h3 => ?_) (fun h3 => ?_)
  · have hf := it_t h3 hf
    refine lv_iconst (v := (-1)) hx hb dX1_followChain_58 (by decide) ?_
    exact wX1_followChain_59 hC hf hW (lv_sub hl [1, 0] rfl)
  · have hf := it_f h3 hf
    refine lv_aload_n hx hb dX1_followChain_44 rfl (lv_at hl 1 rfl) ?_
    refine gfX1_46 hC hW 11 (by decide) rfl (q := 20) rfl dX1_followChain_45 ?_
    refine lv_aload_n hx hb dX1_followChain_48 rfl (lv_at hl 1 rfl) ?_
    refine gfX1_66 hC hW 11 (by decide) rfl rfl dX1_followChain_49 ?_
    refine lv_iconst (v := 2) hx hb dX1_followChain_52 (by decide) ?_
    refine lv_isub hx hb dX1_followChain_53 ?_
    obtain ⟨h4, hf⟩ := gd_some hf
    refine Wd.iald hC hW 20 (by decide) rfl h4 dX1_followChain_54 ?_
    refine lv_goto (tgt := 59) hx hb dX1_followChain_55 (by decide) ?_
    exact wX1_followChain_59 hC hf hW (lv_sub hl [1, 0] rfl)
def fX1_followChain (N : Nat) (σ : St) : Option (Unit × St) := if (σ.1 11 14) = 0 then gd (ib (0 : Int32) 20) (gd (ib (0 : Int32) 20) (nx (sI σ 20 (0 : Int32).toNatClampNeg (σ.1 13 (0 : Int32).toNatClampNeg)) (fun s4 => nx (sI s4 11 14 (1 : Int32)) (fun s5 => (fX1_followChain_24 N s5))))) else (fX1_followChain_24 N σ)
set_option maxHeartbeats 4000000 in
set_option maxRecDepth 100000 in
theorem kX1_followChain {l : Launch} {D : va_G} {cA : Nat → ClassId} {ad : Nat → Nat} {N : Nat} {σ : St} {r : Unit} {σ' : St} (hf : fX1_followChain N σ = some (r, σ')) : MW kdX 140 l D cA ad ⟨RX1, "followChain", "()V"⟩ cX1_followChain 4 none rmX1_followChain [.ref (ad 11)] σ none σ' := by
  refine MW.of (by decide) (Nat.le_of_ble_eq_true rfl) ?_
  intro p e s m args below meth c ls hC hW hl
  have hx := hC.1
  have hb := hC.2.1
  have hown := hC.2.2.2.1
  have hts := hC.2.2.2.2.1
  have hl : lv_has ls 4 [(0, .ref (ad 11))] := hl
  unfold fX1_followChain at hf
  refine lv_aload_n hx hb dX1_followChain_0 rfl (lv_at hl 0 rfl) ?_
  refine gfX1_66 hC hW 11 (by decide) rfl rfl dX1_followChain_1 ?_
  refine lv_if_ne (tgt := 24) hx hb dX1_followChain_4 (by decide) (fun h1 => ?_) (fun h1 => ?_)
  · have hf := it_f h1 hf
    exact wX1_followChain_24 hC hf hW (lv_sub hl [0] rfl)
  · have hf := it_t h1 hf
    refine lv_aload_n hx hb dX1_followChain_7 rfl (lv_at hl 0 rfl) ?_
    refine gfX1_46 hC hW 11 (by decide) rfl (q := 20) rfl dX1_followChain_8 ?_
    refine lv_iconst (v := 0) hx hb dX1_followChain_11 (by decide) ?_
    refine lv_aload_n hx hb dX1_followChain_12 rfl (lv_at hl 0 rfl) ?_
    refine gfX1_22 hC hW 11 (by decide) rfl (q := 13) rfl dX1_followChain_13 ?_
    refine lv_iconst (v := 0) hx hb dX1_followChain_16 (by decide) ?_
    obtain ⟨h2, hf⟩ := gd_some hf
    refine Wd.iald hC hW 13 (by decide) rfl h2 dX1_followChain_17 ?_
    obtain ⟨h3, hf⟩ := gd_some hf
    refine Wd.iast hC hW 20 (by decide) rfl h3 dX1_followChain_18 (fun H locs hW => ?_)
    obtain ⟨s4, es4, hf⟩ := nx_ex hf
    rw [← es4] at hW
    refine lv_aload_n hx hb dX1_followChain_19 rfl (lv_at hl 0 rfl) ?_
    refine lv_iconst (v := 1) hx hb dX1_followChain_20 (by decide) ?_
    refine pgfX1_66 hC hW 11 (by decide) rfl rfl dX1_followChain_21 (fun H locs hW => ?_)
    obtain ⟨s5, es5, hf⟩ := nx_ex hf
    rw [← es5] at hW
    exact wX1_followChain_24 hC hf hW (lv_sub hl [0] rfl)
abbrev rmX1_joinAlongChains : Room := { frames := 5, cells := 0, slots := 0, locals := 128 }
def fX1_joinAlongChains_2 (N : Nat) : Nat → Int32 → St → Option (Unit × St)
  | 0, _, _ => none
  | n + 1, x1, σ => if (1000 : Int32) ≤ x1 then some ((), σ) else if (σ.1 11 6) ≤ (1 : Int32) then some ((), σ) else bd (fX1_followChain N σ) (fun r3 s4 => nx (x1 + (1 : Int32)) (fun v6 => ((fX1_joinAlongChains_2 N n) v6 s4)))
set_option maxHeartbeats 4000000 in
set_option maxRecDepth 100000 in
theorem wX1_joinAlongChains_2 (hC : Cx RX1 cX1_joinAlongChains 2 none D cA p s m args meth c) {N : Nat} {r : Unit} {σ' : St} : ∀ (n : Nat) (x1 : Int32) (σ : St) (H : Heap) (locs : List Loc) (ls : Array Slot), fX1_joinAlongChains_2 N n x1 σ = some (r, σ') → Wd kdX 140 D cA ad s σ H locs → lv_has ls 2 [(0, .ref (ad 11)), (1, .int x1)] → W p l e rmX1_joinAlongChains s m args below meth c H locs 0 0 (EndW kdX 140 D cA ad below args s none σ') (F0 m 2 ls []) := by
  have hx := hC.1
  have hb := hC.2.1
  have hown := hC.2.2.2.1
  have hts := hC.2.2.2.2.1
  intro n
  induction n with
  | zero =>
    intro x1 σ H locs ls hf
    rw [fX1_joinAlongChains_2] at hf
    cases hf
  | succ n ih =>
    intro x1 σ H locs ls hf hW hl
    rw [fX1_joinAlongChains_2] at hf
    refine lv_iload_n hx hb dX1_joinAlongChains_2 rfl (lv_at hl 1 rfl) ?_
    refine lv_sipush (v := 1000) hx hb dX1_joinAlongChains_3 (by decide) ?_
    refine lv_icmp_ge (tgt := 27) hx hb dX1_joinAlongChains_6 (by decide) (fun h1 => ?_) (fun h1 => ?_)
    · have hf := it_t h1 hf
      obtain ⟨-, rfl⟩ := sp hf
      exact Wd.vret hC hW dX1_joinAlongChains_27
    · have hf := it_f h1 hf
      refine lv_aload_n hx hb dX1_joinAlongChains_9 rfl (lv_at hl 0 rfl) ?_
      refine gfX1_65 hC hW 11 (by decide) rfl rfl dX1_joinAlongChains_10 ?_
      refine lv_iconst (v := 1) hx hb dX1_joinAlongChains_13 (by decide) ?_
      refine lv_icmp_le (tgt := 27) hx hb dX1_joinAlongChains_14 (by decide) (fun h2 => ?_) (fun h2 => ?_)
      · have hf := it_t h2 hf
        obtain ⟨-, rfl⟩ := sp hf
        exact Wd.vret hC hW dX1_joinAlongChains_27
      · have hf := it_f h2 hf
        refine lv_aload_n hx hb dX1_joinAlongChains_17 rfl (lv_at hl 0 rfl) ?_
        obtain ⟨r3, s4, c5, hf⟩ := bd_some hf
        refine Wd.callV (n := 0) (As := []) (rest := []) (rv := none) hC hW 11 (kX1_followChain c5) (by decide) rfl rfl q439 q441 qs19 q5 q442 ⟨rfl, rfl⟩ ⟨by decide +kernel, by decide +kernel, by decide +kernel⟩ ⟨Nat.le_of_ble_eq_true rfl, Nat.le_of_ble_eq_true rfl⟩ ⟨Nat.zero_le _, Nat.zero_le _⟩ rfl hl.1 rfl (st2 := []) rfl (Nat.le_of_ble_eq_true rfl) dX1_joinAlongChains_18 (fun H locs hW => ?_)
        obtain ⟨v6, ev6⟩ : ∃ y : Int32, y = x1 + (1 : Int32) := ⟨_, rfl⟩
        have hf := nx_at ev6 hf
        refine lv_iinc (v := v6) (lv' := [(1, .int v6), (0, .ref (ad 11))]) hx hb dX1_joinAlongChains_21 hl (k := 1) rfl (by rw [ev6]; rfl) (by decide) rfl (fun ls hl => ?_)
        refine lv_goto (tgt := 2) hx hb dX1_joinAlongChains_24 (by decide) ?_
        exact ih _ _ _ _ _ hf hW (lv_sub hl [1, 0] rfl)
def fX1_joinAlongChains (N : Nat) (σ : St) : Option (Unit × St) := (fX1_joinAlongChains_2 N N (0 : Int32) σ)
set_option maxHeartbeats 4000000 in
set_option maxRecDepth 100000 in
theorem kX1_joinAlongChains {l : Launch} {D : va_G} {cA : Nat → ClassId} {ad : Nat → Nat} {N : Nat} {σ : St} {r : Unit} {σ' : St} (hf : fX1_joinAlongChains N σ = some (r, σ')) : MW kdX 140 l D cA ad ⟨RX1, "joinAlongChains", "()V"⟩ cX1_joinAlongChains 2 none rmX1_joinAlongChains [.ref (ad 11)] σ none σ' := by
  refine MW.of (by decide) (Nat.le_of_ble_eq_true rfl) ?_
  intro p e s m args below meth c ls hC hW hl
  have hx := hC.1
  have hb := hC.2.1
  have hown := hC.2.2.2.1
  have hts := hC.2.2.2.2.1
  have hl : lv_has ls 2 [(0, .ref (ad 11))] := hl
  unfold fX1_joinAlongChains at hf
  refine lv_iconst (v := 0) hx hb dX1_joinAlongChains_0 (by decide) ?_
  refine lv_istore_n (lv' := [(1, .int (0 : Int32)), (0, .ref (ad 11))]) hx hb dX1_joinAlongChains_1 rfl hl (by decide) rfl (fun ls hl => ?_)
  exact wX1_joinAlongChains_2 hC N _ _ _ _ _ hf hW (lv_sub hl [1, 0] rfl)
abbrev rmX1_joinLeastPair : Room := { frames := 4, cells := 0, slots := 0, locals := 105 }
def fX1_joinLeastPair_126 (N : Nat) (x1 : Int32) (x2 : Int32) (σ : St) : Option (Unit × St) := bd (fX1_join N x1 x2 σ) (fun r1 s2 => some ((), s2))
set_option maxHeartbeats 4000000 in
set_option maxRecDepth 100000 in
theorem wX1_joinLeastPair_126 (hC : Cx RX1 cX1_joinLeastPair 7 none D cA p s m args meth c) {N : Nat} {x1 : Int32} {x2 : Int32} {σ : St} {r : Unit} {σ' : St} {H : Heap} {locs : List Loc} {ls : Array Slot} (hf : fX1_joinLeastPair_126 N x1 x2 σ = some (r, σ')) (hW : Wd kdX 140 D cA ad s σ H locs) (hl : lv_has ls 7 [(0, .ref (ad 11)), (1, .int x1), (2, .int x2)]) : W p l e rmX1_joinLeastPair s m args below meth c H locs 0 0 (EndW kdX 140 D cA ad below args s none σ') (F0 m 126 ls []) := by
  have hx := hC.1
  have hb := hC.2.1
  have hown := hC.2.2.2.1
  have hts := hC.2.2.2.2.1
  unfold fX1_joinLeastPair_126 at hf
  refine lv_aload_n hx hb dX1_joinLeastPair_126 rfl (lv_at hl 0 rfl) ?_
  refine lv_iload_n hx hb dX1_joinLeastPair_127 rfl (lv_at hl 1 rfl) ?_
  refine lv_iload_n hx hb dX1_joinLeastPair_128 rfl (lv_at hl 2 rfl) ?_
  obtain ⟨r1, s2, c3, hf⟩ := bd_some hf
  refine Wd.callV (n := 2) (As := [.int x1, .int x2]) (rest := []) (rv := none) hC hW 11 (kX1_join c3) (by decide) rfl rfl q454 q456 qs22 q5 q457 ⟨rfl, rfl⟩ ⟨by decide +kernel, by decide +kernel, by decide +kernel⟩ ⟨Nat.le_of_ble_eq_true rfl, Nat.le_of_ble_eq_true rfl⟩ ⟨Nat.zero_le _, Nat.zero_le _⟩ rfl hl.1 rfl (st2 := []) rfl (Nat.le_of_ble_eq_true rfl) dX1_joinLeastPair_129 (fun H locs hW => ?_)
  obtain ⟨-, rfl⟩ := sp hf
  exact Wd.vret hC hW dX1_joinLeastPair_132
def fX1_joinLeastPair_99 (N : Nat) (K19 : Int32 → Int32 → Int32 → Int32 → St → Option (Unit × St)) (K34 : Int32 → Int32 → Int32 → Int32 → Int32 → St → Option (Unit × St)) (x1 : Int32) (x2 : Int32) (x3 : Int32) (x4 : Int32) (x5 : Int32) (σ : St) : Option (Unit × St) := nx (x5 + (1 : Int32)) (fun v1 => (K34 x1 x2 x3 x4 v1 σ))
set_option maxHeartbeats 4000000 in
set_option maxRecDepth 100000 in
theorem wX1_joinLeastPair_99 (hC : Cx RX1 cX1_joinLeastPair 7 none D cA p s m args meth c) {N : Nat} {K19 : Int32 → Int32 → Int32 → Int32 → St → Option (Unit × St)} {K34 : Int32 → Int32 → Int32 → Int32 → Int32 → St → Option (Unit × St)} {x1 : Int32} {x2 : Int32} {x3 : Int32} {x4 : Int32} {x5 : Int32} {σ : St} {r : Unit} {σ' : St} (hK19 : ∀ (x1 : Int32) (x2 : Int32) (x3 : Int32) (x4 : Int32) (σ : St) (H : Heap) (locs : List Loc) (ls : Array Slot), K19 x1 x2 x3 x4 σ = some (r, σ') → Wd kdX 140 D cA ad s σ H locs → lv_has ls 7 [(0, .ref (ad 11)), (1, .int x1), (2, .int x2), (3, .int x3), (4, .int x4)] → W p l e rmX1_joinLeastPair s m args below meth c H locs 0 0 (EndW kdX 140 D cA ad below args s none σ') (F0 m 19 ls [])) (hK34 : ∀ (x1 : Int32) (x2 : Int32) (x3 : Int32) (x4 : Int32) (x5 : Int32) (σ : St) (H : Heap) (locs : List Loc) (ls : Array Slot), K34 x1 x2 x3 x4 x5 σ = some (r, σ') → Wd kdX 140 D cA ad s σ H locs → lv_has ls 7 [(0, .ref (ad 11)), (1, .int x1), (2, .int x2), (3, .int x3), (4, .int x4), (5, .int x5)] → W p l e rmX1_joinLeastPair s m args below meth c H locs 0 0 (EndW kdX 140 D cA ad below args s none σ') (F0 m 34 ls [])) {H : Heap} {locs : List Loc} {ls : Array Slot} (hf : fX1_joinLeastPair_99 N K19 K34 x1 x2 x3 x4 x5 σ = some (r, σ')) (hW : Wd kdX 140 D cA ad s σ H locs) (hl : lv_has ls 7 [(0, .ref (ad 11)), (1, .int x1), (2, .int x2), (3, .int x3), (4, .int x4), (5, .int x5)]) : W p l e rmX1_joinLeastPair s m args below meth c H locs 0 0 (EndW kdX 140 D cA ad below args s none σ') (F0 m 99 ls []) := by
  have hx := hC.1
  have hb := hC.2.1
  have hown := hC.2.2.2.1
  have hts := hC.2.2.2.2.1
  unfold fX1_joinLeastPair_99 at hf
  obtain ⟨v1, ev1⟩ : ∃ y : Int32, y = x5 + (1 : Int32) := ⟨_, rfl⟩
  have hf := nx_at ev1 hf
  refine lv_iinc (v := v1) (lv' := [(5, .int v1), (0, .ref (ad 11)), (1, .int x1), (2, .int x2), (3, .int x3), (4, .int x4)]) hx hb dX1_joinLeastPair_99 hl (k := 5) rfl (by rw [ev1]; rfl) (by decide) rfl (fun ls hl => ?_)
  refine lv_goto (tgt := 34) hx hb dX1_joinLeastPair_102 (by decide) ?_
  exact hK34 _ _ _ _ _ _ _ _ _ hf hW (lv_sub hl [1, 2, 3, 4, 5, 0] rfl)
def fX1_joinLeastPair_34 (N : Nat) (K19 : Int32 → Int32 → Int32 → Int32 → St → Option (Unit × St)) : Nat → Int32 → Int32 → Int32 → Int32 → Int32 → St → Option (Unit × St)
  | 0, _, _, _, _, _, _ => none
  | n + 1, x1, x2, x3, x4, x5, σ => if (σ.1 11 6) ≤ x5 then nx (x4 + (1 : Int32)) (fun v2 => (K19 x1 x2 x3 v2 σ)) else gd (ib x4 20) (gd (ib x5 20) (bd (fX1_compareLinkages N (σ.1 13 x4.toNatClampNeg) (σ.1 13 x5.toNatClampNeg) x1 x2 σ) (fun r5 s6 => if 0 ≤ r5 then if r5 = 0 then nx (x3 + (1 : Int32)) (fun v10 => (fX1_joinLeastPair_99 N K19 (fX1_joinLeastPair_34 N K19 n) x1 x2 v10 x4 x5 s6)) else (fX1_joinLeastPair_99 N K19 (fX1_joinLeastPair_34 N K19 n) x1 x2 x3 x4 x5 s6) else gd (ib x4 20) (nx (s6.1 13 x4.toNatClampNeg) (fun v12 => gd (ib x5 20) (nx (s6.1 13 x5.toNatClampNeg) (fun v14 => (fX1_joinLeastPair_99 N K19 (fX1_joinLeastPair_34 N K19 n) v12 v14 (1 : Int32) x4 x5 s6))))))))
set_option maxHeartbeats 4000000 in
set_option maxRecDepth 100000 in
theorem wX1_joinLeastPair_34 (hC : Cx RX1 cX1_joinLeastPair 7 none D cA p s m args meth c) {N : Nat} {K19 : Int32 → Int32 → Int32 → Int32 → St → Option (Unit × St)} {r : Unit} {σ' : St} (hK19 : ∀ (x1 : Int32) (x2 : Int32) (x3 : Int32) (x4 : Int32) (σ : St) (H : Heap) (locs : List Loc) (ls : Array Slot), K19 x1 x2 x3 x4 σ = some (r, σ') → Wd kdX 140 D cA ad s σ H locs → lv_has ls 7 [(0, .ref (ad 11)), (1, .int x1), (2, .int x2), (3, .int x3), (4, .int x4)] → W p l e rmX1_joinLeastPair s m args below meth c H locs 0 0 (EndW kdX 140 D cA ad below args s none σ') (F0 m 19 ls [])) : ∀ (n : Nat) (x1 : Int32) (x2 : Int32) (x3 : Int32) (x4 : Int32) (x5 : Int32) (σ : St) (H : Heap) (locs : List Loc) (ls : Array Slot), fX1_joinLeastPair_34 N K19 n x1 x2 x3 x4 x5 σ = some (r, σ') → Wd kdX 140 D cA ad s σ H locs → lv_has ls 7 [(0, .ref (ad 11)), (1, .int x1), (2, .int x2), (3, .int x3), (4, .int x4), (5, .int x5)] → W p l e rmX1_joinLeastPair s m args below meth c H locs 0 0 (EndW kdX 140 D cA ad below args s none σ') (F0 m 34 ls []) := by
  have hx := hC.1
  have hb := hC.2.1
  have hown := hC.2.2.2.1
  have hts := hC.2.2.2.2.1
  intro n
  induction n with
  | zero =>
    intro x1 x2 x3 x4 x5 σ H locs ls hf
    rw [fX1_joinLeastPair_34] at hf
    cases hf
  | succ n ih =>
    intro x1 x2 x3 x4 x5 σ H locs ls hf hW hl
    rw [fX1_joinLeastPair_34] at hf
    refine lv_iload hx hb dX1_joinLeastPair_34 (lv_at hl 5 rfl) ?_
    refine lv_aload_n hx hb dX1_joinLeastPair_36 rfl (lv_at hl 0 rfl) ?_
    refine gfX1_65 hC hW 11 (by decide) rfl rfl dX1_joinLeastPair_37 ?_
    refine lv_icmp_ge (tgt := 105) hx hb dX1_joinLeastPair_40 (by decide) (fun h1 => ?_) (fun h1 => ?_)
    · have hf := it_t h1 hf
      obtain ⟨v2, ev2⟩ : ∃ y : Int32, y = x4 + (1 : Int32) := ⟨_, rfl⟩
      have hf := nx_at ev2 hf
      refine lv_iinc (v := v2) (lv' := [(4, .int v2), (0, .ref (ad 11)), (1, .int x1), (2, .int x2), (3, .int x3), (5, .int x5)]) hx hb dX1_joinLeastPair_105 hl (k := 4) rfl (by rw [ev2]; rfl) (by decide) rfl (fun ls hl => ?_)
      refine lv_goto (tgt := 19) hx hb dX1_joinLeastPair_108 (by decide) ?_
      exact hK19 _ _ _ _ _ _ _ _ hf hW (lv_sub hl [1, 2, 3, 4, 0] rfl)
    · have hf := it_f h1 hf
      refine lv_aload_n hx hb dX1_joinLeastPair_43 rfl (lv_at hl 0 rfl) ?_
      refine lv_aload_n hx hb dX1_joinLeastPair_44 rfl (lv_at hl 0 rfl) ?_
      refine gfX1_22 hC hW 11 (by decide) rfl (q := 13) rfl dX1_joinLeastPair_45 ?_
      refine lv_iload hx hb dX1_joinLeastPair_48 (lv_at hl 4 rfl) ?_
      obtain ⟨h3, hf⟩ := gd_some hf
      refine Wd.iald hC hW 13 (by decide) rfl h3 dX1_joinLeastPair_50 ?_
      refine lv_aload_n hx hb dX1_joinLeastPair_51 rfl (lv_at hl 0 rfl) ?_
      refine gfX1_22 hC hW 11 (by decide) rfl (q := 13) rfl dX1_joinLeastPair_52 ?_
      refine lv_iload hx hb dX1_joinLeastPair_55 (lv_at hl 5 rfl) ?_
      obtain ⟨h4, hf⟩ := gd_some hf
      refine Wd.iald hC hW 13 (by decide) rfl h4 dX1_joinLeastPair_57 ?_
      refine lv_iload_n hx hb dX1_joinLeastPair_58 rfl (lv_at hl 1 rfl) ?_
      refine lv_iload_n hx hb dX1_joinLeastPair_59 rfl (lv_at hl 2 rfl) ?_
      obtain ⟨r5, s6, c7, hf⟩ := bd_some hf
      refine Wd.callV (n := 4) (As := [.int (σ.1 13 x4.toNatClampNeg), .int (σ.1 13 x5.toNatClampNeg), .int x1, .int x2]) (rest := []) (rv := some (.int r5)) hC hW 11 (kX1_compareLinkages c7) (by decide) rfl rfl q447 q449 qs21 q5 q450 ⟨rfl, rfl⟩ ⟨by decide +kernel, by decide +kernel, by decide +kernel⟩ ⟨Nat.le_of_ble_eq_true rfl, Nat.le_of_ble_eq_true rfl⟩ ⟨Nat.zero_le _, Nat.zero_le _⟩ rfl hl.1 rfl (st2 := [.int r5]) rfl (Nat.le_of_ble_eq_true rfl) dX1_joinLeastPair_60 (fun H locs hW => ?_)
      refine lv_istore (lv' := [(6, .int r5), (0, .ref (ad 11)), (1, .int x1), (2, .int x2), (3, .int x3), (4, .int x4), (5, .int x5)]) hx hb dX1_joinLeastPair_63 hl (by decide) rfl (fun ls hl => ?_)
      refine lv_iload hx hb dX1_joinLeastPair_65 (lv_at hl 0 rfl) ?_
      refine lv_if_ge (tgt := 91) hx hb dX1_joinLeastPair_67 (by decide) (fun h8 => ?_) (fun h8 => ?_)
      · have hf := it_t h8 hf
        refine lv_iload hx hb dX1_joinLeastPair_91 (lv_at hl 0 rfl) ?_
        refine lv_if_ne (tgt := 99) hx hb dX1_joinLeastPair_93 (by decide) (fun h9 => ?_) (fun h9 => ?_)
        · have hf := it_f h9 hf
          exact wX1_joinLeastPair_99 hC hK19 ih hf hW (lv_sub hl [1, 2, 3, 4, 5, 6] rfl)
        · have hf := it_t h9 hf
          obtain ⟨v10, ev10⟩ : ∃ y : Int32, y = x3 + (1 : Int32) := ⟨_, rfl⟩
          have hf := nx_at ev10 hf
          refine lv_iinc (v := v10) (lv' := [(3, .int v10), (6, .int r5), (0, .ref (ad 11)), (1, .int x1), (2, .int x2), (4, .int x4), (5, .int x5)]) hx hb dX1_joinLeastPair_96 hl (k := 4) rfl (by rw [ev10]; rfl) (by decide) rfl (fun ls hl => ?_)
          exact wX1_joinLeastPair_99 hC hK19 ih hf hW (lv_sub hl [2, 3, 4, 0, 5, 6] rfl)
      · have hf := it_f h8 hf
        refine lv_aload_n hx hb dX1_joinLeastPair_70 rfl (lv_at hl 1 rfl) ?_
        refine gfX1_22 hC hW 11 (by decide) rfl (q := 13) rfl dX1_joinLeastPair_71 ?_
        refine lv_iload hx hb dX1_joinLeastPair_74 (lv_at hl 5 rfl) ?_
        obtain ⟨h11, hf⟩ := gd_some hf
        refine Wd.iald hC hW 13 (by decide) rfl h11 dX1_joinLeastPair_76 ?_
        refine lv_topi (fun v12 ev12 => ?_)
        have hf := nx_at ev12 hf
        refine lv_istore_n (lv' := [(1, .int v12), (6, .int r5), (0, .ref (ad 11)), (2, .int x2), (3, .int x3), (4, .int x4), (5, .int x5)]) hx hb dX1_joinLeastPair_77 rfl hl (by decide) rfl (fun ls hl => ?_)
        refine lv_aload_n hx hb dX1_joinLeastPair_78 rfl (lv_at hl 2 rfl) ?_
        refine gfX1_22 hC hW 11 (by decide) rfl (q := 13) rfl dX1_joinLeastPair_79 ?_
        refine lv_iload hx hb dX1_joinLeastPair_82 (lv_at hl 6 rfl) ?_
        obtain ⟨h13, hf⟩ := gd_some hf
        refine Wd.iald hC hW 13 (by decide) rfl h13 dX1_joinLeastPair_84 ?_
        refine lv_topi (fun v14 ev14 => ?_)
        have hf := nx_at ev14 hf
        refine lv_istore_n (lv' := [(2, .int v14), (1, .int v12), (6, .int r5), (0, .ref (ad 11)), (3, .int x3), (4, .int x4), (5, .int x5)]) hx hb dX1_joinLeastPair_85 rfl hl (by decide) rfl (fun ls hl => ?_)
        refine lv_iconst (v := 1) hx hb dX1_joinLeastPair_86 (by decide) ?_
        refine lv_istore_n (lv' := [(3, .int (1 : Int32)), (2, .int v14), (1, .int v12), (6, .int r5), (0, .ref (ad 11)), (4, .int x4), (5, .int x5)]) hx hb dX1_joinLeastPair_87 rfl hl (by decide) rfl (fun ls hl => ?_)
        refine lv_goto (tgt := 99) hx hb dX1_joinLeastPair_88 (by decide) ?_
        exact wX1_joinLeastPair_99 hC hK19 ih hf hW (lv_sub hl [4, 2, 1, 0, 5, 6] rfl)
def fX1_joinLeastPair_19 (N : Nat) : Nat → Int32 → Int32 → Int32 → Int32 → St → Option (Unit × St)
  | 0, _, _, _, _, _ => none
  | n + 1, x1, x2, x3, x4, σ => if (σ.1 11 6) ≤ x4 then if x3 ≤ (1 : Int32) then (fX1_joinLeastPair_126 N x1 x2 σ) else nx (sI σ 11 2 ((σ.1 11 2) + (1 : Int32))) (fun s3 => (fX1_joinLeastPair_126 N x1 x2 s3)) else nx (x4 + (1 : Int32)) (fun v4 => (fX1_joinLeastPair_34 N (fX1_joinLeastPair_19 N n) N x1 x2 x3 x4 v4 σ))
set_option maxHeartbeats 4000000 in
set_option maxRecDepth 100000 in
theorem wX1_joinLeastPair_19 (hC : Cx RX1 cX1_joinLeastPair 7 none D cA p s m args meth c) {N : Nat} {r : Unit} {σ' : St} : ∀ (n : Nat) (x1 : Int32) (x2 : Int32) (x3 : Int32) (x4 : Int32) (σ : St) (H : Heap) (locs : List Loc) (ls : Array Slot), fX1_joinLeastPair_19 N n x1 x2 x3 x4 σ = some (r, σ') → Wd kdX 140 D cA ad s σ H locs → lv_has ls 7 [(0, .ref (ad 11)), (1, .int x1), (2, .int x2), (3, .int x3), (4, .int x4)] → W p l e rmX1_joinLeastPair s m args below meth c H locs 0 0 (EndW kdX 140 D cA ad below args s none σ') (F0 m 19 ls []) := by
  have hx := hC.1
  have hb := hC.2.1
  have hown := hC.2.2.2.1
  have hts := hC.2.2.2.2.1
  intro n
  induction n with
  | zero =>
    intro x1 x2 x3 x4 σ H locs ls hf
    rw [fX1_joinLeastPair_19] at hf
    cases hf
  | succ n ih =>
    intro x1 x2 x3 x4 σ H locs ls hf hW hl
    rw [fX1_joinLeastPair_19] at hf
    refine lv_iload hx hb dX1_joinLeastPair_19 (lv_at hl 4 rfl) ?_
    refine lv_aload_n hx hb dX1_joinLeastPair_21 rfl (lv_at hl 0 rfl) ?_
    refine gfX1_65 hC hW 11 (by decide) rfl rfl dX1_joinLeastPair_22 ?_
    refine lv_icmp_ge (tgt := 111) hx hb dX1_joinLeastPair_25 (by decide) (fun h1 => ?_) (fun h1 => ?_)
    · have hf := it_t h1 hf
      refine lv_iload_n hx hb dX1_joinLeastPair_111 rfl (lv_at hl 3 rfl) ?_
      refine lv_iconst (v := 1) hx hb dX1_joinLeastPair_112 (by decide) ?_
      refine lv_icmp_le (tgt := 126) hx hb dX1_joinLeastPair_113 (by decide) (fun h2 => ?_) (fun h2 => ?_)
      · have hf := it_t h2 hf
        exact wX1_joinLeastPair_126 hC hf hW (lv_sub hl [0, 1, 2] rfl)
      · have hf := it_f h2 hf
        refine lv_aload_n hx hb dX1_joinLeastPair_116 rfl (lv_at hl 0 rfl) ?_
        refine lv_dup hx hb dX1_joinLeastPair_117 rfl ?_
        refine gfX1_61 hC hW 11 (by decide) rfl rfl dX1_joinLeastPair_118 ?_
        refine lv_iconst (v := 1) hx hb dX1_joinLeastPair_121 (by decide) ?_
        refine lv_iadd hx hb dX1_joinLeastPair_122 ?_
        refine pgfX1_61 hC hW 11 (by decide) rfl rfl dX1_joinLeastPair_123 (fun H locs hW => ?_)
        obtain ⟨s3, es3, hf⟩ := nx_ex hf
        rw [← es3] at hW
        exact wX1_joinLeastPair_126 hC hf hW (lv_sub hl [0, 1, 2] rfl)
    · have hf := it_f h1 hf
      refine lv_iload hx hb dX1_joinLeastPair_28 (lv_at hl 4 rfl) ?_
      refine lv_iconst (v := 1) hx hb dX1_joinLeastPair_30 (by decide) ?_
      refine lv_iadd hx hb dX1_joinLeastPair_31 ?_
      refine lv_topi (fun v4 ev4 => ?_)
      have hf := nx_at ev4 hf
      refine lv_istore (lv' := [(5, .int v4), (0, .ref (ad 11)), (1, .int x1), (2, .int x2), (3, .int x3), (4, .int x4)]) hx hb dX1_joinLeastPair_32 hl (by decide) rfl (fun ls hl => ?_)
      exact wX1_joinLeastPair_34 hC ih N _ _ _ _ _ _ _ _ _ hf hW (lv_sub hl [1, 2, 3, 4, 5, 0] rfl)
def fX1_joinLeastPair (N : Nat) (σ : St) : Option (Unit × St) := gd (ib (0 : Int32) 20) (nx (σ.1 13 (0 : Int32).toNatClampNeg) (fun v2 => gd (ib (1 : Int32) 20) (nx (σ.1 13 (1 : Int32).toNatClampNeg) (fun v4 => (fX1_joinLeastPair_19 N N v2 v4 (0 : Int32) (0 : Int32) σ)))))
set_option maxHeartbeats 4000000 in
set_option maxRecDepth 100000 in
theorem kX1_joinLeastPair {l : Launch} {D : va_G} {cA : Nat → ClassId} {ad : Nat → Nat} {N : Nat} {σ : St} {r : Unit} {σ' : St} (hf : fX1_joinLeastPair N σ = some (r, σ')) : MW kdX 140 l D cA ad ⟨RX1, "joinLeastPair", "()V"⟩ cX1_joinLeastPair 7 none rmX1_joinLeastPair [.ref (ad 11)] σ none σ' := by
  refine MW.of (by decide) (Nat.le_of_ble_eq_true rfl) ?_
  intro p e s m args below meth c ls hC hW hl
  have hx := hC.1
  have hb := hC.2.1
  have hown := hC.2.2.2.1
  have hts := hC.2.2.2.2.1
  have hl : lv_has ls 7 [(0, .ref (ad 11))] := hl
  unfold fX1_joinLeastPair at hf
  refine lv_aload_n hx hb dX1_joinLeastPair_0 rfl (lv_at hl 0 rfl) ?_
  refine gfX1_22 hC hW 11 (by decide) rfl (q := 13) rfl dX1_joinLeastPair_1 ?_
  refine lv_iconst (v := 0) hx hb dX1_joinLeastPair_4 (by decide) ?_
  obtain ⟨h1, hf⟩ := gd_some hf
  refine Wd.iald hC hW 13 (by decide) rfl h1 dX1_joinLeastPair_5 ?_
  refine lv_topi (fun v2 ev2 => ?_)
  have hf := nx_at ev2 hf
  refine lv_istore_n (lv' := [(1, .int v2), (0, .ref (ad 11))]) hx hb dX1_joinLeastPair_6 rfl hl (by decide) rfl (fun ls hl => ?_)
  refine lv_aload_n hx hb dX1_joinLeastPair_7 rfl (lv_at hl 1 rfl) ?_
  refine gfX1_22 hC hW 11 (by decide) rfl (q := 13) rfl dX1_joinLeastPair_8 ?_
  refine lv_iconst (v := 1) hx hb dX1_joinLeastPair_11 (by decide) ?_
  obtain ⟨h3, hf⟩ := gd_some hf
  refine Wd.iald hC hW 13 (by decide) rfl h3 dX1_joinLeastPair_12 ?_
  refine lv_topi (fun v4 ev4 => ?_)
  have hf := nx_at ev4 hf
  refine lv_istore_n (lv' := [(2, .int v4), (1, .int v2), (0, .ref (ad 11))]) hx hb dX1_joinLeastPair_13 rfl hl (by decide) rfl (fun ls hl => ?_)
  refine lv_iconst (v := 0) hx hb dX1_joinLeastPair_14 (by decide) ?_
  refine lv_istore_n (lv' := [(3, .int (0 : Int32)), (2, .int v4), (1, .int v2), (0, .ref (ad 11))]) hx hb dX1_joinLeastPair_15 rfl hl (by decide) rfl (fun ls hl => ?_)
  refine lv_iconst (v := 0) hx hb dX1_joinLeastPair_16 (by decide) ?_
  refine lv_istore (lv' := [(4, .int (0 : Int32)), (3, .int (0 : Int32)), (2, .int v4), (1, .int v2), (0, .ref (ad 11))]) hx hb dX1_joinLeastPair_17 hl (by decide) rfl (fun ls hl => ?_)
  exact wX1_joinLeastPair_19 hC N _ _ _ _ _ _ _ _ hf hW (lv_sub hl [4, 3, 2, 1, 0] rfl)
abbrev rmX1_joinGreedily : Room := { frames := 5, cells := 0, slots := 0, locals := 131 }
def fX1_joinGreedily_2 (N : Nat) : Nat → Int32 → St → Option (Unit × St)
  | 0, _, _ => none
  | n + 1, x1, σ => if (19 : Int32) ≤ x1 then some ((), σ) else if (σ.1 11 6) ≤ (1 : Int32) then some ((), σ) else bd (fX1_joinLeastPair N σ) (fun r3 s4 => nx (x1 + (1 : Int32)) (fun v6 => ((fX1_joinGreedily_2 N n) v6 s4)))
set_option maxHeartbeats 4000000 in
set_option maxRecDepth 100000 in
theorem wX1_joinGreedily_2 (hC : Cx RX1 cX1_joinGreedily 2 none D cA p s m args meth c) {N : Nat} {r : Unit} {σ' : St} : ∀ (n : Nat) (x1 : Int32) (σ : St) (H : Heap) (locs : List Loc) (ls : Array Slot), fX1_joinGreedily_2 N n x1 σ = some (r, σ') → Wd kdX 140 D cA ad s σ H locs → lv_has ls 2 [(0, .ref (ad 11)), (1, .int x1)] → W p l e rmX1_joinGreedily s m args below meth c H locs 0 0 (EndW kdX 140 D cA ad below args s none σ') (F0 m 2 ls []) := by
  have hx := hC.1
  have hb := hC.2.1
  have hown := hC.2.2.2.1
  have hts := hC.2.2.2.2.1
  intro n
  induction n with
  | zero =>
    intro x1 σ H locs ls hf
    rw [fX1_joinGreedily_2] at hf
    cases hf
  | succ n ih =>
    intro x1 σ H locs ls hf hW hl
    rw [fX1_joinGreedily_2] at hf
    refine lv_iload_n hx hb dX1_joinGreedily_2 rfl (lv_at hl 1 rfl) ?_
    refine lv_bipush (v := 19) hx hb dX1_joinGreedily_3 (by decide) ?_
    refine lv_icmp_ge (tgt := 26) hx hb dX1_joinGreedily_5 (by decide) (fun h1 => ?_) (fun h1 => ?_)
    · have hf := it_t h1 hf
      obtain ⟨-, rfl⟩ := sp hf
      exact Wd.vret hC hW dX1_joinGreedily_26
    · have hf := it_f h1 hf
      refine lv_aload_n hx hb dX1_joinGreedily_8 rfl (lv_at hl 0 rfl) ?_
      refine gfX1_65 hC hW 11 (by decide) rfl rfl dX1_joinGreedily_9 ?_
      refine lv_iconst (v := 1) hx hb dX1_joinGreedily_12 (by decide) ?_
      refine lv_icmp_le (tgt := 26) hx hb dX1_joinGreedily_13 (by decide) (fun h2 => ?_) (fun h2 => ?_)
      · have hf := it_t h2 hf
        obtain ⟨-, rfl⟩ := sp hf
        exact Wd.vret hC hW dX1_joinGreedily_26
      · have hf := it_f h2 hf
        refine lv_aload_n hx hb dX1_joinGreedily_16 rfl (lv_at hl 0 rfl) ?_
        obtain ⟨r3, s4, c5, hf⟩ := bd_some hf
        refine Wd.callV (n := 0) (As := []) (rest := []) (rv := none) hC hW 11 (kX1_joinLeastPair c5) (by decide) rfl rfl q481 q483 qs27 q5 q484 ⟨rfl, rfl⟩ ⟨by decide +kernel, by decide +kernel, by decide +kernel⟩ ⟨Nat.le_of_ble_eq_true rfl, Nat.le_of_ble_eq_true rfl⟩ ⟨Nat.zero_le _, Nat.zero_le _⟩ rfl hl.1 rfl (st2 := []) rfl (Nat.le_of_ble_eq_true rfl) dX1_joinGreedily_17 (fun H locs hW => ?_)
        obtain ⟨v6, ev6⟩ : ∃ y : Int32, y = x1 + (1 : Int32) := ⟨_, rfl⟩
        have hf := nx_at ev6 hf
        refine lv_iinc (v := v6) (lv' := [(1, .int v6), (0, .ref (ad 11))]) hx hb dX1_joinGreedily_20 hl (k := 1) rfl (by rw [ev6]; rfl) (by decide) rfl (fun ls hl => ?_)
        refine lv_goto (tgt := 2) hx hb dX1_joinGreedily_23 (by decide) ?_
        exact ih _ _ _ _ _ hf hW (lv_sub hl [1, 0] rfl)
def fX1_joinGreedily (N : Nat) (σ : St) : Option (Unit × St) := (fX1_joinGreedily_2 N N (0 : Int32) σ)
set_option maxHeartbeats 4000000 in
set_option maxRecDepth 100000 in
theorem kX1_joinGreedily {l : Launch} {D : va_G} {cA : Nat → ClassId} {ad : Nat → Nat} {N : Nat} {σ : St} {r : Unit} {σ' : St} (hf : fX1_joinGreedily N σ = some (r, σ')) : MW kdX 140 l D cA ad ⟨RX1, "joinGreedily", "()V"⟩ cX1_joinGreedily 2 none rmX1_joinGreedily [.ref (ad 11)] σ none σ' := by
  refine MW.of (by decide) (Nat.le_of_ble_eq_true rfl) ?_
  intro p e s m args below meth c ls hC hW hl
  have hx := hC.1
  have hb := hC.2.1
  have hown := hC.2.2.2.1
  have hts := hC.2.2.2.2.1
  have hl : lv_has ls 2 [(0, .ref (ad 11))] := hl
  unfold fX1_joinGreedily at hf
  refine lv_iconst (v := 0) hx hb dX1_joinGreedily_0 (by decide) ?_
  refine lv_istore_n (lv' := [(1, .int (0 : Int32)), (0, .ref (ad 11))]) hx hb dX1_joinGreedily_1 rfl hl (by decide) rfl (fun ls hl => ?_)
  exact wX1_joinGreedily_2 hC N _ _ _ _ _ hf hW (lv_sub hl [1, 0] rfl)
abbrev rmX4_rankOf : Room := { frames := 1, cells := 0, slots := 0, locals := 23 }
def fX4_rankOf_61 (N : Nat) (a : Nat) (K4 : Int32 → Int32 → Int32 → St → Option (Int32 × St)) (x1 : Int32) (x2 : Int32) (x3 : Int32) (σ : St) : Option (Int32 × St) := nx (x3 + (1 : Int32)) (fun v1 => (K4 x1 x2 v1 σ))
set_option maxHeartbeats 4000000 in
set_option maxRecDepth 100000 in
theorem wX4_rankOf_61 (hC : Cx RX4 cX4_rankOf 5 (some .int) D cA p s m args meth c) {N : Nat} {a : Nat} (ha : isSt a) {K4 : Int32 → Int32 → Int32 → St → Option (Int32 × St)} {x1 : Int32} {x2 : Int32} {x3 : Int32} {σ : St} {r : Int32} {σ' : St} (hK4 : ∀ (x1 : Int32) (x2 : Int32) (x3 : Int32) (σ : St) (H : Heap) (locs : List Loc) (ls : Array Slot), K4 x1 x2 x3 σ = some (r, σ') → Wd kdX 140 D cA ad s σ H locs → lv_has ls 5 [(0, .ref (ad a)), (1, .int x1), (2, .int x2), (3, .int x3)] → W p l e rmX4_rankOf s m args below meth c H locs 0 0 (EndW kdX 140 D cA ad below args s (some (.int r)) σ') (F0 m 4 ls [])) {H : Heap} {locs : List Loc} {ls : Array Slot} (hf : fX4_rankOf_61 N a K4 x1 x2 x3 σ = some (r, σ')) (hW : Wd kdX 140 D cA ad s σ H locs) (hl : lv_has ls 5 [(0, .ref (ad a)), (1, .int x1), (2, .int x2), (3, .int x3)]) : W p l e rmX4_rankOf s m args below meth c H locs 0 0 (EndW kdX 140 D cA ad below args s (some (.int r)) σ') (F0 m 61 ls []) := by
  have hx := hC.1
  have hb := hC.2.1
  have hown := hC.2.2.2.1
  have hts := hC.2.2.2.2.1
  unfold fX4_rankOf_61 at hf
  obtain ⟨v1, ev1⟩ : ∃ y : Int32, y = x3 + (1 : Int32) := ⟨_, rfl⟩
  have hf := nx_at ev1 hf
  refine lv_iinc (v := v1) (lv' := [(3, .int v1), (0, .ref (ad a)), (1, .int x1), (2, .int x2)]) hx hb dX4_rankOf_61 hl (k := 3) rfl (by rw [ev1]; rfl) (by decide) rfl (fun ls hl => ?_)
  refine lv_goto (tgt := 4) hx hb dX4_rankOf_64 (by decide) ?_
  exact hK4 _ _ _ _ _ _ _ hf hW (lv_sub hl [1, 2, 3, 0] rfl)
def fX4_rankOf_58 (N : Nat) (a : Nat) (K4 : Int32 → Int32 → Int32 → St → Option (Int32 × St)) (x1 : Int32) (x2 : Int32) (x3 : Int32) (σ : St) : Option (Int32 × St) := nx (x2 + (1 : Int32)) (fun v1 => (fX4_rankOf_61 N a K4 x1 v1 x3 σ))
set_option maxHeartbeats 4000000 in
set_option maxRecDepth 100000 in
theorem wX4_rankOf_58 (hC : Cx RX4 cX4_rankOf 5 (some .int) D cA p s m args meth c) {N : Nat} {a : Nat} (ha : isSt a) {K4 : Int32 → Int32 → Int32 → St → Option (Int32 × St)} {x1 : Int32} {x2 : Int32} {x3 : Int32} {σ : St} {r : Int32} {σ' : St} (hK4 : ∀ (x1 : Int32) (x2 : Int32) (x3 : Int32) (σ : St) (H : Heap) (locs : List Loc) (ls : Array Slot), K4 x1 x2 x3 σ = some (r, σ') → Wd kdX 140 D cA ad s σ H locs → lv_has ls 5 [(0, .ref (ad a)), (1, .int x1), (2, .int x2), (3, .int x3)] → W p l e rmX4_rankOf s m args below meth c H locs 0 0 (EndW kdX 140 D cA ad below args s (some (.int r)) σ') (F0 m 4 ls [])) {H : Heap} {locs : List Loc} {ls : Array Slot} (hf : fX4_rankOf_58 N a K4 x1 x2 x3 σ = some (r, σ')) (hW : Wd kdX 140 D cA ad s σ H locs) (hl : lv_has ls 5 [(0, .ref (ad a)), (1, .int x1), (2, .int x2), (3, .int x3)]) : W p l e rmX4_rankOf s m args below meth c H locs 0 0 (EndW kdX 140 D cA ad below args s (some (.int r)) σ') (F0 m 58 ls []) := by
  have hx := hC.1
  have hb := hC.2.1
  have hown := hC.2.2.2.1
  have hts := hC.2.2.2.2.1
  unfold fX4_rankOf_58 at hf
  obtain ⟨v1, ev1⟩ : ∃ y : Int32, y = x2 + (1 : Int32) := ⟨_, rfl⟩
  have hf := nx_at ev1 hf
  refine lv_iinc (v := v1) (lv' := [(2, .int v1), (0, .ref (ad a)), (1, .int x1), (3, .int x3)]) hx hb dX4_rankOf_58 hl (k := 2) rfl (by rw [ev1]; rfl) (by decide) rfl (fun ls hl => ?_)
  exact wX4_rankOf_61 hC ha hK4 hf hW (lv_sub hl [1, 2, 0, 3] rfl)
def fX4_rankOf_4 (N : Nat) (a : Nat) : Nat → Int32 → Int32 → Int32 → St → Option (Int32 × St)
  | 0, _, _, _, _ => none
  | n + 1, x1, x2, x3, σ => if (σ.1 a 0) ≤ x3 then some (x2, σ) else gd (ib x3 19) (gd (ib x1 19) (gd (ib x1 19) (gd (ib x3 19) (bd (fJ13_compare_74951 N ((σ.2 (a + 4) x3.toNatClampNeg) * (σ.2 (a + 5) x1.toNatClampNeg)) ((σ.2 (a + 4) x1.toNatClampNeg) * (σ.2 (a + 5) x3.toNatClampNeg)) σ) (fun r6 s7 => if r6 < 0 then (fX4_rankOf_58 N a (fX4_rankOf_4 N a n) x1 x2 x3 s7) else if r6 = 0 then if x1 ≤ x3 then (fX4_rankOf_61 N a (fX4_rankOf_4 N a n) x1 x2 x3 s7) else (fX4_rankOf_58 N a (fX4_rankOf_4 N a n) x1 x2 x3 s7) else (fX4_rankOf_61 N a (fX4_rankOf_4 N a n) x1 x2 x3 s7))))))
set_option maxHeartbeats 4000000 in
set_option maxRecDepth 100000 in
theorem wX4_rankOf_4 (hC : Cx RX4 cX4_rankOf 5 (some .int) D cA p s m args meth c) {N : Nat} {a : Nat} (ha : isSt a) {r : Int32} {σ' : St} : ∀ (n : Nat) (x1 : Int32) (x2 : Int32) (x3 : Int32) (σ : St) (H : Heap) (locs : List Loc) (ls : Array Slot), fX4_rankOf_4 N a n x1 x2 x3 σ = some (r, σ') → Wd kdX 140 D cA ad s σ H locs → lv_has ls 5 [(0, .ref (ad a)), (1, .int x1), (2, .int x2), (3, .int x3)] → W p l e rmX4_rankOf s m args below meth c H locs 0 0 (EndW kdX 140 D cA ad below args s (some (.int r)) σ') (F0 m 4 ls []) := by
  have hx := hC.1
  have hb := hC.2.1
  have hown := hC.2.2.2.1
  have hts := hC.2.2.2.2.1
  intro n
  induction n with
  | zero =>
    intro x1 x2 x3 σ H locs ls hf
    rw [fX4_rankOf_4] at hf
    cases hf
  | succ n ih =>
    intro x1 x2 x3 σ H locs ls hf hW hl
    rw [fX4_rankOf_4] at hf
    refine lv_iload_n hx hb dX4_rankOf_4 rfl (lv_at hl 3 rfl) ?_
    refine lv_aload_n hx hb dX4_rankOf_5 rfl (lv_at hl 0 rfl) ?_
    refine gfX4_28 hC hW a (St.b0 ha) (St.o ha) rfl dX4_rankOf_6 ?_
    refine lv_icmp_ge (tgt := 67) hx hb dX4_rankOf_9 (by decide) (fun h1 => ?_) (fun h1 => ?_)
    · have hf := it_t h1 hf
      refine lv_iload_n hx hb dX4_rankOf_67 rfl (lv_at hl 2 rfl) ?_
      obtain ⟨rfl, rfl⟩ := sp hf
      exact Wd.iret hC hW dX4_rankOf_68
    · have hf := it_f h1 hf
      refine lv_aload_n hx hb dX4_rankOf_12 rfl (lv_at hl 0 rfl) ?_
      refine gfX4_21 hC hW a (St.b0 ha) (St.o ha) (q := (a + 4)) rfl dX4_rankOf_13 ?_
      refine lv_iload_n hx hb dX4_rankOf_16 rfl (lv_at hl 3 rfl) ?_
      obtain ⟨h2, hf⟩ := gd_some hf
      refine Wd.lald hC hW (a + 4) (St.b ha 4 (by decide)) (St.a4 ha) h2 dX4_rankOf_17 ?_
      refine lv_aload_n hx hb dX4_rankOf_18 rfl (lv_at hl 0 rfl) ?_
      refine gfX4_25 hC hW a (St.b0 ha) (St.o ha) (q := (a + 5)) rfl dX4_rankOf_19 ?_
      refine lv_iload_n hx hb dX4_rankOf_22 rfl (lv_at hl 1 rfl) ?_
      obtain ⟨h3, hf⟩ := gd_some hf
      refine Wd.lald hC hW (a + 5) (St.b ha 5 (by decide)) (St.a5 ha) h3 dX4_rankOf_23 ?_
      refine lv_lmul hx hb dX4_rankOf_24 ?_
      refine lv_aload_n hx hb dX4_rankOf_25 rfl (lv_at hl 0 rfl) ?_
      refine gfX4_21 hC hW a (St.b0 ha) (St.o ha) (q := (a + 4)) rfl dX4_rankOf_26 ?_
      refine lv_iload_n hx hb dX4_rankOf_29 rfl (lv_at hl 1 rfl) ?_
      obtain ⟨h4, hf⟩ := gd_some hf
      refine Wd.lald hC hW (a + 4) (St.b ha 4 (by decide)) (St.a4 ha) h4 dX4_rankOf_30 ?_
      refine lv_aload_n hx hb dX4_rankOf_31 rfl (lv_at hl 0 rfl) ?_
      refine gfX4_25 hC hW a (St.b0 ha) (St.o ha) (q := (a + 5)) rfl dX4_rankOf_32 ?_
      refine lv_iload_n hx hb dX4_rankOf_35 rfl (lv_at hl 3 rfl) ?_
      obtain ⟨h5, hf⟩ := gd_some hf
      refine Wd.lald hC hW (a + 5) (St.b ha 5 (by decide)) (St.a5 ha) h5 dX4_rankOf_36 ?_
      refine lv_lmul hx hb dX4_rankOf_37 ?_
      obtain ⟨r6, s7, c8, hf⟩ := bd_some hf
      refine Wd.callS (n := 2) (As := [.long ((σ.2 (a + 4) x3.toNatClampNeg) * (σ.2 (a + 5) x1.toNatClampNeg)), .long ((σ.2 (a + 4) x1.toNatClampNeg) * (σ.2 (a + 5) x3.toNatClampNeg))]) (rest := []) (rv := some (.int r6)) hC hW (kJ13_compare_74951 c8) q493 q452 q13 q453 ⟨rfl, rfl⟩ ⟨by decide +kernel, by decide +kernel, by decide +kernel⟩ ⟨Nat.le_of_ble_eq_true rfl, Nat.le_of_ble_eq_true rfl⟩ ⟨Nat.zero_le _, Nat.zero_le _⟩ rfl hl.1 rfl (st2 := [.int r6]) rfl (Nat.le_of_ble_eq_true rfl) dX4_rankOf_38 (fun H locs hW => ?_)
      refine lv_istore (lv' := [(4, .int r6), (0, .ref (ad a)), (1, .int x1), (2, .int x2), (3, .int x3)]) hx hb dX4_rankOf_41 hl (by decide) rfl (fun ls hl => ?_)
      refine lv_iload hx hb dX4_rankOf_43 (lv_at hl 0 rfl) ?_
      refine lv_if_lt (tgt := 58) hx hb dX4_rankOf_45 (by decide) (fun h9 => ?_) (fun h9 => ?_)
      · have hf := it_t h9 hf
        exact wX4_rankOf_58 hC ha ih hf hW (lv_sub hl [1, 2, 3, 4] rfl)
      · have hf := it_f h9 hf
        refine lv_iload hx hb dX4_rankOf_48 (lv_at hl 0 rfl) ?_
        refine lv_if_ne (tgt := 61) hx hb dX4_rankOf_50 (by decide) (fun h10 => ?_) (fun h10 => ?_)
        · have hf := it_f h10 hf
          exact wX4_rankOf_61 hC ha ih hf hW (lv_sub hl [1, 2, 3, 4] rfl)
        · have hf := it_t h10 hf
          refine lv_iload_n hx hb dX4_rankOf_53 rfl (lv_at hl 4 rfl) ?_
          refine lv_iload_n hx hb dX4_rankOf_54 rfl (lv_at hl 2 rfl) ?_
          refine lv_icmp_ge (tgt := 61) hx hb dX4_rankOf_55 (by decide) (fun h11 => ?_) (fun h11 => ?_)
          · have hf := it_t h11 hf
            exact wX4_rankOf_61 hC ha ih hf hW (lv_sub hl [1, 2, 3, 4] rfl)
          · have hf := it_f h11 hf
            exact wX4_rankOf_58 hC ha ih hf hW (lv_sub hl [1, 2, 3, 4] rfl)
def fX4_rankOf (N : Nat) (a : Nat) (x1 : Int32) (σ : St) : Option (Int32 × St) := (fX4_rankOf_4 N a N x1 (0 : Int32) (0 : Int32) σ)
set_option maxHeartbeats 4000000 in
set_option maxRecDepth 100000 in
theorem kX4_rankOf {l : Launch} {D : va_G} {cA : Nat → ClassId} {ad : Nat → Nat} {N : Nat} {a : Nat} (ha : isSt a) {x1 : Int32} {σ : St} {r : Int32} {σ' : St} (hf : fX4_rankOf N a x1 σ = some (r, σ')) : MW kdX 140 l D cA ad ⟨RX4, "rankOf", "(I)I"⟩ cX4_rankOf 5 (some .int) rmX4_rankOf [.ref (ad a), .int x1] σ (some (.int r)) σ' := by
  refine MW.of (by decide) (Nat.le_of_ble_eq_true rfl) ?_
  intro p e s m args below meth c ls hC hW hl
  have hx := hC.1
  have hb := hC.2.1
  have hown := hC.2.2.2.1
  have hts := hC.2.2.2.2.1
  have hl : lv_has ls 5 [(0, .ref (ad a)), (1, .int x1)] := hl
  unfold fX4_rankOf at hf
  refine lv_iconst (v := 0) hx hb dX4_rankOf_0 (by decide) ?_
  refine lv_istore_n (lv' := [(2, .int (0 : Int32)), (0, .ref (ad a)), (1, .int x1)]) hx hb dX4_rankOf_1 rfl hl (by decide) rfl (fun ls hl => ?_)
  refine lv_iconst (v := 0) hx hb dX4_rankOf_2 (by decide) ?_
  refine lv_istore_n (lv' := [(3, .int (0 : Int32)), (2, .int (0 : Int32)), (0, .ref (ad a)), (1, .int x1)]) hx hb dX4_rankOf_3 rfl hl (by decide) rfl (fun ls hl => ?_)
  exact wX4_rankOf_4 hC ha N _ _ _ _ _ _ _ hf hW (lv_sub hl [2, 3, 1, 0] rfl)
abbrev rmX4_has : Room := { frames := 0, cells := 0, slots := 0, locals := 0 }
def fX4_has (N : Nat) (a : Nat) (x1 : Int32) (σ : St) : Option (Int32 × St) := if x1 < 0 then some ((0 : Int32), σ) else if (σ.1 a 0) ≤ x1 then some ((0 : Int32), σ) else some ((1 : Int32), σ)
set_option maxHeartbeats 4000000 in
set_option maxRecDepth 100000 in
theorem kX4_has {l : Launch} {D : va_G} {cA : Nat → ClassId} {ad : Nat → Nat} {N : Nat} {a : Nat} (ha : isSt a) {x1 : Int32} {σ : St} {r : Int32} {σ' : St} (hf : fX4_has N a x1 σ = some (r, σ')) : MW kdX 140 l D cA ad ⟨RX4, "has", "(I)Z"⟩ cX4_has 2 (some .boolean) rmX4_has [.ref (ad a), .int x1] σ (some (.int r)) σ' := by
  refine MW.of (by decide) (Nat.le_of_ble_eq_true rfl) ?_
  intro p e s m args below meth c ls hC hW hl
  have hx := hC.1
  have hb := hC.2.1
  have hown := hC.2.2.2.1
  have hts := hC.2.2.2.2.1
  have hl : lv_has ls 2 [(0, .ref (ad a)), (1, .int x1)] := hl
  unfold fX4_has at hf
  refine lv_iload_n hx hb dX4_has_0 rfl (lv_at hl 1 rfl) ?_
  refine lv_if_lt (tgt := 16) hx hb dX4_has_1 (by decide) (fun h1 => ?_) (fun h1 => ?_)
  · have hf := it_t h1 hf
    refine lv_iconst (v := 0) hx hb dX4_has_16 (by decide) ?_
    obtain ⟨rfl, rfl⟩ := sp hf
    exact Wd.zret hC hW (Or.inl rfl) dX4_has_17
  · have hf := it_f h1 hf
    refine lv_iload_n hx hb dX4_has_4 rfl (lv_at hl 1 rfl) ?_
    refine lv_aload_n hx hb dX4_has_5 rfl (lv_at hl 0 rfl) ?_
    refine gfX4_28 hC hW a (St.b0 ha) (St.o ha) rfl dX4_has_6 ?_
    refine lv_icmp_ge (tgt := 16) hx hb dX4_has_9 (by decide) (fun h2 => ?_) (fun h2 => ?_)
    · have hf := it_t h2 hf
      refine lv_iconst (v := 0) hx hb dX4_has_16 (by decide) ?_
      obtain ⟨rfl, rfl⟩ := sp hf
      exact Wd.zret hC hW (Or.inl rfl) dX4_has_17
    · have hf := it_f h2 hf
      refine lv_iconst (v := 1) hx hb dX4_has_12 (by decide) ?_
      refine lv_goto (tgt := 17) hx hb dX4_has_13 (by decide) ?_
      obtain ⟨rfl, rfl⟩ := sp hf
      exact Wd.zret hC hW (Or.inr rfl) dX4_has_17
abbrev rmX1_renumbered : Room := { frames := 1, cells := 0, slots := 0, locals := 21 }
def fX1_renumbered (N : Nat) (x1 : Int32) (σ : St) : Option (Int32 × St) := bd (fX4_has N 22 (x1 - (σ.1 11 0)) σ) (fun r1 s2 => if r1 = 0 then some (x1, s2) else gd (ib (x1 - (s2.1 11 0)) 19) (some (((s2.1 11 0) + (s2.1 12 (x1 - (s2.1 11 0)).toNatClampNeg)), s2)))
set_option maxHeartbeats 4000000 in
set_option maxRecDepth 100000 in
theorem kX1_renumbered {l : Launch} {D : va_G} {cA : Nat → ClassId} {ad : Nat → Nat} {N : Nat} {x1 : Int32} {σ : St} {r : Int32} {σ' : St} (hf : fX1_renumbered N x1 σ = some (r, σ')) : MW kdX 140 l D cA ad ⟨RX1, "renumbered", "(I)I"⟩ cX1_renumbered 2 (some .int) rmX1_renumbered [.ref (ad 11), .int x1] σ (some (.int r)) σ' := by
  refine MW.of (by decide) (Nat.le_of_ble_eq_true rfl) ?_
  intro p e s m args below meth c ls hC hW hl
  have hx := hC.1
  have hb := hC.2.1
  have hown := hC.2.2.2.1
  have hts := hC.2.2.2.2.1
  have hl : lv_has ls 2 [(0, .ref (ad 11)), (1, .int x1)] := hl
  unfold fX1_renumbered at hf
  refine lv_aload_n hx hb dX1_renumbered_0 rfl (lv_at hl 0 rfl) ?_
  refine gfX1_12 hC hW 11 (by decide) rfl (q := 22) rfl dX1_renumbered_1 ?_
  refine lv_iload_n hx hb dX1_renumbered_4 rfl (lv_at hl 1 rfl) ?_
  refine lv_aload_n hx hb dX1_renumbered_5 rfl (lv_at hl 0 rfl) ?_
  refine gfX1_55 hC hW 11 (by decide) rfl rfl dX1_renumbered_6 ?_
  refine lv_isub hx hb dX1_renumbered_9 ?_
  obtain ⟨r1, s2, c3, hf⟩ := bd_some hf
  refine Wd.callVN (n := 1) (As := [.int (x1 - (σ.1 11 0))]) (rest := []) (rv := some (.int r1)) hC hW 22 (kX4_has St.m c3) (St.b0 St.m) (St.o St.m) rfl q498 q500 qs31 q6 q501 ⟨rfl, rfl⟩ ⟨by decide +kernel, by decide +kernel, by decide +kernel⟩ ⟨Nat.le_of_ble_eq_true rfl, Nat.le_of_ble_eq_true rfl⟩ ⟨Nat.zero_le _, Nat.zero_le _⟩ rfl hl.1 rfl (st2 := [.int r1]) rfl (Nat.le_of_ble_eq_true rfl) dX1_renumbered_10 (fun H locs hW => ?_)
  refine lv_if_eq (tgt := 35) hx hb dX1_renumbered_13 (by decide) (fun h4 => ?_) (fun h4 => ?_)
  · have hf := it_t h4 hf
    refine lv_iload_n hx hb dX1_renumbered_35 rfl (lv_at hl 1 rfl) ?_
    obtain ⟨rfl, rfl⟩ := sp hf
    exact Wd.iret hC hW dX1_renumbered_36
  · have hf := it_f h4 hf
    refine lv_aload_n hx hb dX1_renumbered_16 rfl (lv_at hl 0 rfl) ?_
    refine gfX1_55 hC hW 11 (by decide) rfl rfl dX1_renumbered_17 ?_
    refine lv_aload_n hx hb dX1_renumbered_20 rfl (lv_at hl 0 rfl) ?_
    refine gfX1_18 hC hW 11 (by decide) rfl (q := 12) rfl dX1_renumbered_21 ?_
    refine lv_iload_n hx hb dX1_renumbered_24 rfl (lv_at hl 1 rfl) ?_
    refine lv_aload_n hx hb dX1_renumbered_25 rfl (lv_at hl 0 rfl) ?_
    refine gfX1_55 hC hW 11 (by decide) rfl rfl dX1_renumbered_26 ?_
    refine lv_isub hx hb dX1_renumbered_29 ?_
    obtain ⟨h5, hf⟩ := gd_some hf
    refine Wd.iald hC hW 12 (by decide) rfl h5 dX1_renumbered_30 ?_
    refine lv_iadd hx hb dX1_renumbered_31 ?_
    refine lv_goto (tgt := 36) hx hb dX1_renumbered_32 (by decide) ?_
    obtain ⟨rfl, rfl⟩ := sp hf
    exact Wd.iret hC hW dX1_renumbered_36
abbrev rmX1_deliver : Room := { frames := 3, cells := 0, slots := 0, locals := 80 }
def fX1_deliver_189 (N : Nat) (q : Nat) : Nat → Int32 → St → Option (Unit × St)
  | 0, _, _ => none
  | n + 1, x3, σ => if (20 : Int32) ≤ x3 then some ((), σ) else gd (ib x3 20) (nx (sI σ (52 + 2 * q + 1) x3.toNatClampNeg (0 : Int32)) (fun s3 => nx (x3 + (1 : Int32)) (fun v4 => ((fX1_deliver_189 N q n) v4 s3))))
set_option maxHeartbeats 4000000 in
set_option maxRecDepth 100000 in
theorem wX1_deliver_189 (hC : Cx RX1 cX1_deliver 4 none D cA p s m args meth c) {N : Nat} {q : Nat} (hq : q < 4) {r : Unit} {σ' : St} : ∀ (n : Nat) (x3 : Int32) (σ : St) (H : Heap) (locs : List Loc) (ls : Array Slot), fX1_deliver_189 N q n x3 σ = some (r, σ') → Wd kdX 140 D cA ad s σ H locs → lv_has ls 4 [(1, .ref (ad (52 + 2 * q))), (3, .int x3)] → W p l e rmX1_deliver s m args below meth c H locs 0 0 (EndW kdX 140 D cA ad below args s none σ') (F0 m 189 ls []) := by
  have hx := hC.1
  have hb := hC.2.1
  have hown := hC.2.2.2.1
  have hts := hC.2.2.2.2.1
  intro n
  induction n with
  | zero =>
    intro x3 σ H locs ls hf
    rw [fX1_deliver_189] at hf
    cases hf
  | succ n ih =>
    intro x3 σ H locs ls hf hW hl
    rw [fX1_deliver_189] at hf
    refine lv_iload_n hx hb dX1_deliver_189 rfl (lv_at hl 1 rfl) ?_
    refine lv_bipush (v := 20) hx hb dX1_deliver_190 (by decide) ?_
    refine lv_icmp_ge (tgt := 208) hx hb dX1_deliver_192 (by decide) (fun h1 => ?_) (fun h1 => ?_)
    · have hf := it_t h1 hf
      obtain ⟨-, rfl⟩ := sp hf
      exact Wd.vret hC hW dX1_deliver_208
    · have hf := it_f h1 hf
      refine lv_aload_n hx hb dX1_deliver_195 rfl (lv_at hl 0 rfl) ?_
      refine gfX1_168 hC hW (52 + 2 * q) (Tr.b hq) (Tr.o hq) (q := (52 + 2 * q + 1)) rfl dX1_deliver_196 ?_
      refine lv_iload_n hx hb dX1_deliver_199 rfl (lv_at hl 1 rfl) ?_
      refine lv_iconst (v := 0) hx hb dX1_deliver_200 (by decide) ?_
      obtain ⟨h2, hf⟩ := gd_some hf
      refine Wd.iast hC hW (52 + 2 * q + 1) (Tr.bl hq) (Tr.l hq) h2 dX1_deliver_201 (fun H locs hW => ?_)
      obtain ⟨s3, es3, hf⟩ := nx_ex hf
      rw [← es3] at hW
      obtain ⟨v4, ev4⟩ : ∃ y : Int32, y = x3 + (1 : Int32) := ⟨_, rfl⟩
      have hf := nx_at ev4 hf
      refine lv_iinc (v := v4) (lv' := [(3, .int v4), (1, .ref (ad (52 + 2 * q)))]) hx hb dX1_deliver_202 hl (k := 1) rfl (by rw [ev4]; rfl) (by decide) rfl (fun ls hl => ?_)
      refine lv_goto (tgt := 189) hx hb dX1_deliver_205 (by decide) ?_
      exact ih _ _ _ _ _ hf hW (lv_sub hl [1, 0] rfl)
def fX1_deliver_91 (N : Nat) (q : Nat) : Nat → Int32 → St → Option (Unit × St)
  | 0, _, _ => none
  | n + 1, x3, σ => if (σ.1 22 0) ≤ x3 then (fX1_deliver_189 N q N (0 : Int32) σ) else gd (ib x3 19) (gd (ib x3 19) (bd (fX1_renumbered N (σ.1 (22 + 1) x3.toNatClampNeg) σ) (fun r4 s5 => gd (ib x3 19) (bd (fX1_renumbered N (s5.1 (22 + 2) x3.toNatClampNeg) s5) (fun r8 s9 => gd (ib x3 19) (bd (fX4_setClusters N (28 + 6 * q) (σ.1 12 x3.toNatClampNeg) r4 r8 (s9.1 (22 + 3) x3.toNatClampNeg) s9) (fun r12 s13 => gd (ib x3 19) (gd (ib x3 19) (gd (ib x3 19) (bd (fX4_setHeight N (28 + 6 * q) (s13.1 12 x3.toNatClampNeg) (s13.2 (22 + 4) x3.toNatClampNeg) (s13.2 (22 + 5) x3.toNatClampNeg) s13) (fun r18 s19 => nx (x3 + (1 : Int32)) (fun v21 => ((fX1_deliver_91 N q n) v21 s19)))))))))))))
set_option maxHeartbeats 4000000 in
set_option maxRecDepth 100000 in
theorem wX1_deliver_91 (hC : Cx RX1 cX1_deliver 4 none D cA p s m args meth c) {N : Nat} {q : Nat} (hq : q < 4) {r : Unit} {σ' : St} : ∀ (n : Nat) (x3 : Int32) (σ : St) (H : Heap) (locs : List Loc) (ls : Array Slot), fX1_deliver_91 N q n x3 σ = some (r, σ') → Wd kdX 140 D cA ad s σ H locs → lv_has ls 4 [(0, .ref (ad 11)), (1, .ref (ad (52 + 2 * q))), (3, .int x3)] → W p l e rmX1_deliver s m args below meth c H locs 0 0 (EndW kdX 140 D cA ad below args s none σ') (F0 m 91 ls []) := by
  have hx := hC.1
  have hb := hC.2.1
  have hown := hC.2.2.2.1
  have hts := hC.2.2.2.2.1
  intro n
  induction n with
  | zero =>
    intro x3 σ H locs ls hf
    rw [fX1_deliver_91] at hf
    cases hf
  | succ n ih =>
    intro x3 σ H locs ls hf hW hl
    rw [fX1_deliver_91] at hf
    refine lv_iload_n hx hb dX1_deliver_91 rfl (lv_at hl 2 rfl) ?_
    refine lv_aload_n hx hb dX1_deliver_92 rfl (lv_at hl 0 rfl) ?_
    refine gfX1_12 hC hW 11 (by decide) rfl (q := 22) rfl dX1_deliver_93 ?_
    refine gfX1_64 hC hW 22 (St.b0 St.m) (St.o St.m) rfl dX1_deliver_96 ?_
    refine lv_icmp_ge (tgt := 187) hx hb dX1_deliver_99 (by decide) (fun h1 => ?_) (fun h1 => ?_)
    · have hf := it_t h1 hf
      refine lv_iconst (v := 0) hx hb dX1_deliver_187 (by decide) ?_
      refine lv_istore_n (lv' := [(3, .int (0 : Int32)), (0, .ref (ad 11)), (1, .ref (ad (52 + 2 * q)))]) hx hb dX1_deliver_188 rfl hl (by decide) rfl (fun ls hl => ?_)
      exact wX1_deliver_189 hC hq N _ _ _ _ _ hf hW (lv_sub hl [2, 0] rfl)
    · have hf := it_f h1 hf
      refine lv_aload_n hx hb dX1_deliver_102 rfl (lv_at hl 1 rfl) ?_
      refine gfX1_148 hC hW (52 + 2 * q) (Tr.b hq) (Tr.o hq) (q := (28 + 6 * q)) rfl dX1_deliver_103 ?_
      refine lv_aload_n hx hb dX1_deliver_106 rfl (lv_at hl 0 rfl) ?_
      refine gfX1_18 hC hW 11 (by decide) rfl (q := 12) rfl dX1_deliver_107 ?_
      refine lv_iload_n hx hb dX1_deliver_110 rfl (lv_at hl 2 rfl) ?_
      obtain ⟨h2, hf⟩ := gd_some hf
      refine Wd.iald hC hW 12 (by decide) rfl h2 dX1_deliver_111 ?_
      refine lv_aload_n hx hb dX1_deliver_112 rfl (lv_at hl 0 rfl) ?_
      refine lv_aload_n hx hb dX1_deliver_113 rfl (lv_at hl 0 rfl) ?_
      refine gfX1_12 hC hW 11 (by decide) rfl (q := 22) rfl dX1_deliver_114 ?_
      refine gfX1_154 hC hW 22 (St.b0 St.m) (St.o St.m) (q := (22 + 1)) rfl dX1_deliver_117 ?_
      refine lv_iload_n hx hb dX1_deliver_120 rfl (lv_at hl 2 rfl) ?_
      obtain ⟨h3, hf⟩ := gd_some hf
      refine Wd.iald hC hW (22 + 1) (St.b St.m 1 (by decide)) (St.a1 St.m) h3 dX1_deliver_121 ?_
      obtain ⟨r4, s5, c6, hf⟩ := bd_some hf
      refine Wd.callV (n := 1) (As := [.int (σ.1 (22 + 1) x3.toNatClampNeg)]) (rest := [.int (σ.1 12 x3.toNatClampNeg), .ref (ad (28 + 6 * q))]) (rv := some (.int r4)) hC hW 11 (kX1_renumbered c6) (by decide) rfl rfl q494 q496 qs30 q5 q497 ⟨rfl, rfl⟩ ⟨by decide +kernel, by decide +kernel, by decide +kernel⟩ ⟨Nat.le_of_ble_eq_true rfl, Nat.le_of_ble_eq_true rfl⟩ ⟨Nat.zero_le _, Nat.zero_le _⟩ rfl hl.1 rfl (st2 := [.int r4, .int (σ.1 12 x3.toNatClampNeg), .ref (ad (28 + 6 * q))]) rfl (Nat.le_of_ble_eq_true rfl) dX1_deliver_122 (fun H locs hW => ?_)
      refine lv_aload_n hx hb dX1_deliver_125 rfl (lv_at hl 0 rfl) ?_
      refine lv_aload_n hx hb dX1_deliver_126 rfl (lv_at hl 0 rfl) ?_
      refine gfX1_12 hC hW 11 (by decide) rfl (q := 22) rfl dX1_deliver_127 ?_
      refine gfX1_160 hC hW 22 (St.b0 St.m) (St.o St.m) (q := (22 + 2)) rfl dX1_deliver_130 ?_
      refine lv_iload_n hx hb dX1_deliver_133 rfl (lv_at hl 2 rfl) ?_
      obtain ⟨h7, hf⟩ := gd_some hf
      refine Wd.iald hC hW (22 + 2) (St.b St.m 2 (by decide)) (St.a2 St.m) h7 dX1_deliver_134 ?_
      obtain ⟨r8, s9, c10, hf⟩ := bd_some hf
      refine Wd.callV (n := 1) (As := [.int (s5.1 (22 + 2) x3.toNatClampNeg)]) (rest := [.int r4, .int (σ.1 12 x3.toNatClampNeg), .ref (ad (28 + 6 * q))]) (rv := some (.int r8)) hC hW 11 (kX1_renumbered c10) (by decide) rfl rfl q494 q496 qs30 q5 q497 ⟨rfl, rfl⟩ ⟨by decide +kernel, by decide +kernel, by decide +kernel⟩ ⟨Nat.le_of_ble_eq_true rfl, Nat.le_of_ble_eq_true rfl⟩ ⟨Nat.zero_le _, Nat.zero_le _⟩ rfl hl.1 rfl (st2 := [.int r8, .int r4, .int (σ.1 12 x3.toNatClampNeg), .ref (ad (28 + 6 * q))]) rfl (Nat.le_of_ble_eq_true rfl) dX1_deliver_135 (fun H locs hW => ?_)
      refine lv_aload_n hx hb dX1_deliver_138 rfl (lv_at hl 0 rfl) ?_
      refine gfX1_12 hC hW 11 (by decide) rfl (q := 22) rfl dX1_deliver_139 ?_
      refine gfX1_163 hC hW 22 (St.b0 St.m) (St.o St.m) (q := (22 + 3)) rfl dX1_deliver_142 ?_
      refine lv_iload_n hx hb dX1_deliver_145 rfl (lv_at hl 2 rfl) ?_
      obtain ⟨h11, hf⟩ := gd_some hf
      refine Wd.iald hC hW (22 + 3) (St.b St.m 3 (by decide)) (St.a3 St.m) h11 dX1_deliver_146 ?_
      obtain ⟨r12, s13, c14, hf⟩ := bd_some hf
      refine Wd.callVN (n := 4) (As := [.int (σ.1 12 x3.toNatClampNeg), .int r4, .int r8, .int (s9.1 (22 + 3) x3.toNatClampNeg)]) (rest := []) (rv := none) hC hW (28 + 6 * q) (kX4_setClusters (Tr.s hq) c14) (St.b0 (Tr.s hq)) (St.o (Tr.s hq)) rfl q458 q460 qs23 q6 q461 ⟨rfl, rfl⟩ ⟨by decide +kernel, by decide +kernel, by decide +kernel⟩ ⟨Nat.le_of_ble_eq_true rfl, Nat.le_of_ble_eq_true rfl⟩ ⟨Nat.zero_le _, Nat.zero_le _⟩ rfl hl.1 rfl (st2 := []) rfl (Nat.le_of_ble_eq_true rfl) dX1_deliver_147 (fun H locs hW => ?_)
      refine lv_aload_n hx hb dX1_deliver_150 rfl (lv_at hl 1 rfl) ?_
      refine gfX1_148 hC hW (52 + 2 * q) (Tr.b hq) (Tr.o hq) (q := (28 + 6 * q)) rfl dX1_deliver_151 ?_
      refine lv_aload_n hx hb dX1_deliver_154 rfl (lv_at hl 0 rfl) ?_
      refine gfX1_18 hC hW 11 (by decide) rfl (q := 12) rfl dX1_deliver_155 ?_
      refine lv_iload_n hx hb dX1_deliver_158 rfl (lv_at hl 2 rfl) ?_
      obtain ⟨h15, hf⟩ := gd_some hf
      refine Wd.iald hC hW 12 (by decide) rfl h15 dX1_deliver_159 ?_
      refine lv_aload_n hx hb dX1_deliver_160 rfl (lv_at hl 0 rfl) ?_
      refine gfX1_12 hC hW 11 (by decide) rfl (q := 22) rfl dX1_deliver_161 ?_
      refine gfX1_164 hC hW 22 (St.b0 St.m) (St.o St.m) (q := (22 + 4)) rfl dX1_deliver_164 ?_
      refine lv_iload_n hx hb dX1_deliver_167 rfl (lv_at hl 2 rfl) ?_
      obtain ⟨h16, hf⟩ := gd_some hf
      refine Wd.lald hC hW (22 + 4) (St.b St.m 4 (by decide)) (St.a4 St.m) h16 dX1_deliver_168 ?_
      refine lv_aload_n hx hb dX1_deliver_169 rfl (lv_at hl 0 rfl) ?_
      refine gfX1_12 hC hW 11 (by decide) rfl (q := 22) rfl dX1_deliver_170 ?_
      refine gfX1_166 hC hW 22 (St.b0 St.m) (St.o St.m) (q := (22 + 5)) rfl dX1_deliver_173 ?_
      refine lv_iload_n hx hb dX1_deliver_176 rfl (lv_at hl 2 rfl) ?_
      obtain ⟨h17, hf⟩ := gd_some hf
      refine Wd.lald hC hW (22 + 5) (St.b St.m 5 (by decide)) (St.a5 St.m) h17 dX1_deliver_177 ?_
      obtain ⟨r18, s19, c20, hf⟩ := bd_some hf
      refine Wd.callVN (n := 3) (As := [.int (s13.1 12 x3.toNatClampNeg), .long (s13.2 (22 + 4) x3.toNatClampNeg), .long (s13.2 (22 + 5) x3.toNatClampNeg)]) (rest := []) (rv := none) hC hW (28 + 6 * q) (kX4_setHeight (Tr.s hq) c20) (St.b0 (Tr.s hq)) (St.o (Tr.s hq)) rfl q466 q468 qs24 q6 q469 ⟨rfl, rfl⟩ ⟨by decide +kernel, by decide +kernel, by decide +kernel⟩ ⟨Nat.le_of_ble_eq_true rfl, Nat.le_of_ble_eq_true rfl⟩ ⟨Nat.zero_le _, Nat.zero_le _⟩ rfl hl.1 rfl (st2 := []) rfl (Nat.le_of_ble_eq_true rfl) dX1_deliver_178 (fun H locs hW => ?_)
      obtain ⟨v21, ev21⟩ : ∃ y : Int32, y = x3 + (1 : Int32) := ⟨_, rfl⟩
      have hf := nx_at ev21 hf
      refine lv_iinc (v := v21) (lv' := [(3, .int v21), (0, .ref (ad 11)), (1, .ref (ad (52 + 2 * q)))]) hx hb dX1_deliver_181 hl (k := 2) rfl (by rw [ev21]; rfl) (by decide) rfl (fun ls hl => ?_)
      refine lv_goto (tgt := 91) hx hb dX1_deliver_184 (by decide) ?_
      exact ih _ _ _ _ _ hf hW (lv_sub hl [1, 2, 0] rfl)
def fX1_deliver_82 (N : Nat) (q : Nat) (K50 : Int32 → Int32 → St → Option (Unit × St)) (x2 : Int32) (x3 : Int32) (y0 : Int32) (y1 : Int32) (σ : St) : Option (Unit × St) := gd (ib y1 19) (nx (sI σ 12 y1.toNatClampNeg y0) (fun s2 => nx (x3 + (1 : Int32)) (fun v3 => (K50 x2 v3 s2))))
set_option maxHeartbeats 4000000 in
set_option maxRecDepth 100000 in
theorem wX1_deliver_82 (hC : Cx RX1 cX1_deliver 4 none D cA p s m args meth c) {N : Nat} {q : Nat} (hq : q < 4) {K50 : Int32 → Int32 → St → Option (Unit × St)} {x2 : Int32} {x3 : Int32} {y0 : Int32} {y1 : Int32} {σ : St} {r : Unit} {σ' : St} (hK50 : ∀ (x2 : Int32) (x3 : Int32) (σ : St) (H : Heap) (locs : List Loc) (ls : Array Slot), K50 x2 x3 σ = some (r, σ') → Wd kdX 140 D cA ad s σ H locs → lv_has ls 4 [(0, .ref (ad 11)), (1, .ref (ad (52 + 2 * q))), (2, .int x2), (3, .int x3)] → W p l e rmX1_deliver s m args below meth c H locs 0 0 (EndW kdX 140 D cA ad below args s none σ') (F0 m 50 ls [])) {H : Heap} {locs : List Loc} {ls : Array Slot} (hf : fX1_deliver_82 N q K50 x2 x3 y0 y1 σ = some (r, σ')) (hW : Wd kdX 140 D cA ad s σ H locs) (hl : lv_has ls 4 [(0, .ref (ad 11)), (1, .ref (ad (52 + 2 * q))), (2, .int x2), (3, .int x3)]) : W p l e rmX1_deliver s m args below meth c H locs 0 0 (EndW kdX 140 D cA ad below args s none σ') (F0 m 82 ls [.int y0, .int y1, .ref (ad 12)]) := by
  have hx := hC.1
  have hb := hC.2.1
  have hown := hC.2.2.2.1
  have hts := hC.2.2.2.2.1
  unfold fX1_deliver_82 at hf
  obtain ⟨h1, hf⟩ := gd_some hf
  refine Wd.iast hC hW 12 (by decide) rfl h1 dX1_deliver_82 (fun H locs hW => ?_)
  obtain ⟨s2, es2, hf⟩ := nx_ex hf
  rw [← es2] at hW
  obtain ⟨v3, ev3⟩ : ∃ y : Int32, y = x3 + (1 : Int32) := ⟨_, rfl⟩
  have hf := nx_at ev3 hf
  refine lv_iinc (v := v3) (lv' := [(3, .int v3), (0, .ref (ad 11)), (1, .ref (ad (52 + 2 * q))), (2, .int x2)]) hx hb dX1_deliver_83 hl (k := 3) rfl (by rw [ev3]; rfl) (by decide) rfl (fun ls hl => ?_)
  refine lv_goto (tgt := 50) hx hb dX1_deliver_86 (by decide) ?_
  exact hK50 _ _ _ _ _ _ hf hW (lv_sub hl [1, 2, 3, 0] rfl)
def fX1_deliver_50 (N : Nat) (q : Nat) : Nat → Int32 → Int32 → St → Option (Unit × St)
  | 0, _, _, _ => none
  | n + 1, x2, x3, σ => if (σ.1 22 0) ≤ x3 then (fX1_deliver_91 N q N (0 : Int32) σ) else if x2 = 0 then (fX1_deliver_82 N q (fX1_deliver_50 N q n) x2 x3 x3 x3 σ) else bd (fX4_rankOf N 22 x3 σ) (fun r3 s4 => (fX1_deliver_82 N q (fX1_deliver_50 N q n) x2 x3 r3 x3 s4))
set_option maxHeartbeats 4000000 in
set_option maxRecDepth 100000 in
theorem wX1_deliver_50 (hC : Cx RX1 cX1_deliver 4 none D cA p s m args meth c) {N : Nat} {q : Nat} (hq : q < 4) {r : Unit} {σ' : St} : ∀ (n : Nat) (x2 : Int32) (x3 : Int32) (σ : St) (H : Heap) (locs : List Loc) (ls : Array Slot), fX1_deliver_50 N q n x2 x3 σ = some (r, σ') → Wd kdX 140 D cA ad s σ H locs → lv_has ls 4 [(0, .ref (ad 11)), (1, .ref (ad (52 + 2 * q))), (2, .int x2), (3, .int x3)] → W p l e rmX1_deliver s m args below meth c H locs 0 0 (EndW kdX 140 D cA ad below args s none σ') (F0 m 50 ls []) := by
  have hx := hC.1
  have hb := hC.2.1
  have hown := hC.2.2.2.1
  have hts := hC.2.2.2.2.1
  intro n
  induction n with
  | zero =>
    intro x2 x3 σ H locs ls hf
    rw [fX1_deliver_50] at hf
    cases hf
  | succ n ih =>
    intro x2 x3 σ H locs ls hf hW hl
    rw [fX1_deliver_50] at hf
    refine lv_iload_n hx hb dX1_deliver_50 rfl (lv_at hl 3 rfl) ?_
    refine lv_aload_n hx hb dX1_deliver_51 rfl (lv_at hl 0 rfl) ?_
    refine gfX1_12 hC hW 11 (by decide) rfl (q := 22) rfl dX1_deliver_52 ?_
    refine gfX1_64 hC hW 22 (St.b0 St.m) (St.o St.m) rfl dX1_deliver_55 ?_
    refine lv_icmp_ge (tgt := 89) hx hb dX1_deliver_58 (by decide) (fun h1 => ?_) (fun h1 => ?_)
    · have hf := it_t h1 hf
      refine lv_iconst (v := 0) hx hb dX1_deliver_89 (by decide) ?_
      refine lv_istore_n (lv' := [(3, .int (0 : Int32)), (0, .ref (ad 11)), (1, .ref (ad (52 + 2 * q))), (2, .int x2)]) hx hb dX1_deliver_90 rfl hl (by decide) rfl (fun ls hl => ?_)
      exact wX1_deliver_91 hC hq N _ _ _ _ _ hf hW (lv_sub hl [1, 2, 0] rfl)
    · have hf := it_f h1 hf
      refine lv_aload_n hx hb dX1_deliver_61 rfl (lv_at hl 0 rfl) ?_
      refine gfX1_18 hC hW 11 (by decide) rfl (q := 12) rfl dX1_deliver_62 ?_
      refine lv_iload_n hx hb dX1_deliver_65 rfl (lv_at hl 3 rfl) ?_
      refine lv_iload_n hx hb dX1_deliver_66 rfl (lv_at hl 2 rfl) ?_
      refine lv_if_eq (tgt := 81) hx hb dX1_deliver_67 (by decide) (fun h2 => ?_) (fun h2 => ?_)
      · have hf := it_t h2 hf
        refine lv_iload_n hx hb dX1_deliver_81 rfl (lv_at hl 3 rfl) ?_
        exact wX1_deliver_82 hC hq ih hf hW (lv_sub hl [0, 1, 2, 3] rfl)
      · have hf := it_f h2 hf
        refine lv_aload_n hx hb dX1_deliver_70 rfl (lv_at hl 0 rfl) ?_
        refine gfX1_12 hC hW 11 (by decide) rfl (q := 22) rfl dX1_deliver_71 ?_
        refine lv_iload_n hx hb dX1_deliver_74 rfl (lv_at hl 3 rfl) ?_
        obtain ⟨r3, s4, c5, hf⟩ := bd_some hf
        refine Wd.callVN (n := 1) (As := [.int x3]) (rest := [.int x3, .ref (ad 12)]) (rv := some (.int r3)) hC hW 22 (kX4_rankOf St.m c5) (St.b0 St.m) (St.o St.m) rfl q489 q491 qs29 q6 q492 ⟨rfl, rfl⟩ ⟨by decide +kernel, by decide +kernel, by decide +kernel⟩ ⟨Nat.le_of_ble_eq_true rfl, Nat.le_of_ble_eq_true rfl⟩ ⟨Nat.zero_le _, Nat.zero_le _⟩ rfl hl.1 rfl (st2 := [.int r3, .int x3, .ref (ad 12)]) rfl (Nat.le_of_ble_eq_true rfl) dX1_deliver_75 (fun H locs hW => ?_)
        refine lv_goto (tgt := 82) hx hb dX1_deliver_78 (by decide) ?_
        exact wX1_deliver_82 hC hq ih hf hW (lv_sub hl [0, 1, 2, 3] rfl)
def fX1_deliver (N : Nat) (q : Nat) (x2 : Int32) (σ : St) : Option (Unit × St) := nx (sI σ (52 + 2 * q) 0 (1 : Int32)) (fun s1 => gd (zb x2) (nx (sI s1 (52 + 2 * q) 1 x2) (fun s3 => nx (sI s3 (52 + 2 * q) 2 (s3.1 11 0)) (fun s4 => nx (sI s4 (52 + 2 * q) 3 (s4.1 11 1)) (fun s5 => nx (sI s5 (52 + 2 * q) 4 (s5.1 11 2)) (fun s6 => nx (sI s6 (28 + 6 * q) 0 (s6.1 22 0)) (fun s7 => (fX1_deliver_50 N q N x2 (0 : Int32) s7))))))))
set_option maxHeartbeats 4000000 in
set_option maxRecDepth 100000 in
theorem kX1_deliver {l : Launch} {D : va_G} {cA : Nat → ClassId} {ad : Nat → Nat} {N : Nat} {q : Nat} (hq : q < 4) {x2 : Int32} {σ : St} {r : Unit} {σ' : St} (hf : fX1_deliver N q x2 σ = some (r, σ')) : MW kdX 140 l D cA ad ⟨RX1, "deliver", "(LDendroDesk$Tree;Z)V"⟩ cX1_deliver 4 none rmX1_deliver [.ref (ad 11), .ref (ad (52 + 2 * q)), .int x2] σ none σ' := by
  refine MW.of (by decide) (Nat.le_of_ble_eq_true rfl) ?_
  intro p e s m args below meth c ls hC hW hl
  have hx := hC.1
  have hb := hC.2.1
  have hown := hC.2.2.2.1
  have hts := hC.2.2.2.2.1
  have hl : lv_has ls 4 [(0, .ref (ad 11)), (1, .ref (ad (52 + 2 * q))), (2, .int x2)] := hl
  unfold fX1_deliver at hf
  refine lv_aload_n hx hb dX1_deliver_0 rfl (lv_at hl 1 rfl) ?_
  refine lv_iconst (v := 1) hx hb dX1_deliver_1 (by decide) ?_
  refine pgfX1_137 hC hW (52 + 2 * q) (Tr.b hq) (Tr.o hq) rfl (Or.inr rfl) dX1_deliver_2 (fun H locs hW => ?_)
  obtain ⟨s1, es1, hf⟩ := nx_ex hf
  rw [← es1] at hW
  refine lv_aload_n hx hb dX1_deliver_5 rfl (lv_at hl 1 rfl) ?_
  refine lv_iload_n hx hb dX1_deliver_6 rfl (lv_at hl 2 rfl) ?_
  obtain ⟨h2, hf⟩ := gd_some hf
  refine pgfX1_142 hC hW (52 + 2 * q) (Tr.b hq) (Tr.o hq) rfl (zb_of h2) dX1_deliver_7 (fun H locs hW => ?_)
  obtain ⟨s3, es3, hf⟩ := nx_ex hf
  rw [← es3] at hW
  refine lv_aload_n hx hb dX1_deliver_10 rfl (lv_at hl 1 rfl) ?_
  refine lv_aload_n hx hb dX1_deliver_11 rfl (lv_at hl 0 rfl) ?_
  refine gfX1_55 hC hW 11 (by decide) rfl rfl dX1_deliver_12 ?_
  refine pgfX1_145 hC hW (52 + 2 * q) (Tr.b hq) (Tr.o hq) rfl dX1_deliver_15 (fun H locs hW => ?_)
  obtain ⟨s4, es4, hf⟩ := nx_ex hf
  rw [← es4] at hW
  refine lv_aload_n hx hb dX1_deliver_18 rfl (lv_at hl 1 rfl) ?_
  refine lv_aload_n hx hb dX1_deliver_19 rfl (lv_at hl 0 rfl) ?_
  refine gfX1_58 hC hW 11 (by decide) rfl rfl dX1_deliver_20 ?_
  refine pgfX1_146 hC hW (52 + 2 * q) (Tr.b hq) (Tr.o hq) rfl dX1_deliver_23 (fun H locs hW => ?_)
  obtain ⟨s5, es5, hf⟩ := nx_ex hf
  rw [← es5] at hW
  refine lv_aload_n hx hb dX1_deliver_26 rfl (lv_at hl 1 rfl) ?_
  refine lv_aload_n hx hb dX1_deliver_27 rfl (lv_at hl 0 rfl) ?_
  refine gfX1_61 hC hW 11 (by decide) rfl rfl dX1_deliver_28 ?_
  refine pgfX1_147 hC hW (52 + 2 * q) (Tr.b hq) (Tr.o hq) rfl dX1_deliver_31 (fun H locs hW => ?_)
  obtain ⟨s6, es6, hf⟩ := nx_ex hf
  rw [← es6] at hW
  refine lv_aload_n hx hb dX1_deliver_34 rfl (lv_at hl 1 rfl) ?_
  refine gfX1_148 hC hW (52 + 2 * q) (Tr.b hq) (Tr.o hq) (q := (28 + 6 * q)) rfl dX1_deliver_35 ?_
  refine lv_aload_n hx hb dX1_deliver_38 rfl (lv_at hl 0 rfl) ?_
  refine gfX1_12 hC hW 11 (by decide) rfl (q := 22) rfl dX1_deliver_39 ?_
  refine gfX1_64 hC hW 22 (St.b0 St.m) (St.o St.m) rfl dX1_deliver_42 ?_
  refine pgfX1_64 hC hW (28 + 6 * q) (St.b0 (Tr.s hq)) (St.o (Tr.s hq)) rfl dX1_deliver_45 (fun H locs hW => ?_)
  obtain ⟨s7, es7, hf⟩ := nx_ex hf
  rw [← es7] at hW
  refine lv_iconst (v := 0) hx hb dX1_deliver_48 (by decide) ?_
  refine lv_istore_n (lv' := [(3, .int (0 : Int32)), (0, .ref (ad 11)), (1, .ref (ad (52 + 2 * q))), (2, .int x2)]) hx hb dX1_deliver_49 rfl hl (by decide) rfl (fun ls hl => ?_)
  exact wX1_deliver_50 hC hq N _ _ _ _ _ _ hf hW (lv_sub hl [1, 2, 3, 0] rfl)
end
