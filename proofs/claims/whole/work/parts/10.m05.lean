section
variable {D : va_G} {cA : Nat → ClassId} {ad : Nat → Nat} {p : Program} {l : Launch} {e : Env} {s : State} {m : MethodId} {args : Array Value} {below : List Frame} {meth : Method} {c : Code}
abbrev rmX8_feed : Room := { frames := 0, cells := 0, slots := 0, locals := 0 }
def fX8_feed_71 (N : Nat) (K18 : Int32 → Int32 → Int32 → Int32 → Int32 → Int32 → St → Option (Int32 × St)) (x1 : Int32) (x2 : Int32) (x3 : Int32) (x4 : Int32) (x5 : Int32) (x6 : Int32) (y0 : Int32) (σ : St) : Option (Int32 × St) := gd (ib (σ.1 0 6) 2400) (nx (sI σ 4 (σ.1 0 6).toNatClampNeg ((y0 >>> (((24 : Int32) - ((8 : Int32) * (x6 - x6 / (4 : Int32) * (4 : Int32)))) &&& 31)).toInt8.toInt32).toInt8.toInt32) (fun s3 => nx (sI s3 0 6 ((s3.1 0 6) + (1 : Int32))) (fun s4 => nx (x6 + (1 : Int32)) (fun v5 => (K18 x1 x2 x3 x4 x5 v5 s4)))))
set_option maxHeartbeats 4000000 in
set_option maxRecDepth 100000 in
theorem wX8_feed_71 (hC : Cx RX8 cX8_feed 8 (some .int) D cA p s m args meth c) {N : Nat} {K18 : Int32 → Int32 → Int32 → Int32 → Int32 → Int32 → St → Option (Int32 × St)} {x1 : Int32} {x2 : Int32} {x3 : Int32} {x4 : Int32} {x5 : Int32} {x6 : Int32} {y0 : Int32} {σ : St} {r : Int32} {σ' : St} (hK18 : ∀ (x1 : Int32) (x2 : Int32) (x3 : Int32) (x4 : Int32) (x5 : Int32) (x6 : Int32) (σ : St) (H : Heap) (locs : List Loc) (ls : Array Slot), K18 x1 x2 x3 x4 x5 x6 σ = some (r, σ') → Wd kdM 31 D cA ad s σ H locs → lv_has ls 8 [(0, .ref (ad 0)), (1, .int x1), (2, .int x2), (3, .int x3), (4, .int x4), (5, .int x5), (6, .int x6)] → W p l e rmX8_feed s m args below meth c H locs 0 0 (EndW kdM 31 D cA ad below args s (some (.int r)) σ') (F0 m 18 ls [])) {H : Heap} {locs : List Loc} {ls : Array Slot} (hf : fX8_feed_71 N K18 x1 x2 x3 x4 x5 x6 y0 σ = some (r, σ')) (hW : Wd kdM 31 D cA ad s σ H locs) (hl : lv_has ls 8 [(0, .ref (ad 0)), (1, .int x1), (2, .int x2), (3, .int x3), (4, .int x4), (5, .int x5), (6, .int x6)]) : W p l e rmX8_feed s m args below meth c H locs 0 0 (EndW kdM 31 D cA ad below args s (some (.int r)) σ') (F0 m 71 ls [.int y0]) := by
  have hx := hC.1
  have hb := hC.2.1
  have hown := hC.2.2.2.1
  have hts := hC.2.2.2.2.1
  unfold fX8_feed_71 at hf
  refine lv_istore (lv' := [(7, .int y0), (0, .ref (ad 0)), (1, .int x1), (2, .int x2), (3, .int x3), (4, .int x4), (5, .int x5), (6, .int x6)]) hx hb dX8_feed_71 hl (by decide) rfl (fun ls hl => ?_)
  refine lv_aload_n hx hb dX8_feed_73 rfl (lv_at hl 1 rfl) ?_
  refine gfX8_19 hC hW 0 (by decide) rfl (q := 4) rfl dX8_feed_74 ?_
  refine lv_aload_n hx hb dX8_feed_77 rfl (lv_at hl 1 rfl) ?_
  refine gfX8_123 hC hW 0 (by decide) rfl rfl dX8_feed_78 ?_
  refine lv_iload hx hb dX8_feed_81 (lv_at hl 0 rfl) ?_
  refine lv_bipush (v := 24) hx hb dX8_feed_83 (by decide) ?_
  refine lv_bipush (v := 8) hx hb dX8_feed_85 (by decide) ?_
  refine lv_iload hx hb dX8_feed_87 (lv_at hl 7 rfl) ?_
  refine lv_iconst (v := 4) hx hb dX8_feed_89 (by decide) ?_
  refine lv_irem hx hb dX8_feed_90 (by decide) ?_
  refine lv_imul hx hb dX8_feed_91 ?_
  refine lv_isub hx hb dX8_feed_92 ?_
  refine lv_ishr hx hb dX8_feed_93 ?_
  refine lv_i2b (v := (y0 >>> (((24 : Int32) - ((8 : Int32) * (x6 - x6 / (4 : Int32) * (4 : Int32)))) &&& 31)).toInt8.toInt32) hx hb dX8_feed_94 rfl ?_
  obtain ⟨h2, hf⟩ := gd_some hf
  refine Wd.bast hC hW 4 (by decide) rfl h2 dX8_feed_95 (fun H locs hW => ?_)
  obtain ⟨s3, es3, hf⟩ := nx_ex hf
  rw [← es3] at hW
  refine lv_aload_n hx hb dX8_feed_96 rfl (lv_at hl 1 rfl) ?_
  refine lv_dup hx hb dX8_feed_97 rfl ?_
  refine gfX8_123 hC hW 0 (by decide) rfl rfl dX8_feed_98 ?_
  refine lv_iconst (v := 1) hx hb dX8_feed_101 (by decide) ?_
  refine lv_iadd hx hb dX8_feed_102 ?_
  refine pgfX8_123 hC hW 0 (by decide) rfl rfl dX8_feed_103 (fun H locs hW => ?_)
  obtain ⟨s4, es4, hf⟩ := nx_ex hf
  rw [← es4] at hW
  obtain ⟨v5, ev5⟩ : ∃ y : Int32, y = x6 + (1 : Int32) := ⟨_, rfl⟩
  have hf := nx_at ev5 hf
  refine lv_iinc (v := v5) (lv' := [(6, .int v5), (7, .int y0), (0, .ref (ad 0)), (1, .int x1), (2, .int x2), (3, .int x3), (4, .int x4), (5, .int x5)]) hx hb dX8_feed_106 hl (k := 7) rfl (by rw [ev5]; rfl) (by decide) rfl (fun ls hl => ?_)
  refine lv_goto (tgt := 18) hx hb dX8_feed_109 (by decide) ?_
  exact hK18 _ _ _ _ _ _ _ _ _ _ hf hW (lv_sub hl [2, 3, 4, 5, 6, 7, 0] rfl)
def fX8_feed_18 (N : Nat) : Nat → Int32 → Int32 → Int32 → Int32 → Int32 → Int32 → St → Option (Int32 × St)
  | 0, _, _, _, _, _, _, _ => none
  | n + 1, x1, x2, x3, x4, x5, x6, σ => if (20 : Int32) ≤ x6 then some ((σ.1 0 6), σ) else if (4 : Int32) ≤ x6 then if (8 : Int32) ≤ x6 then if (12 : Int32) ≤ x6 then if (16 : Int32) ≤ x6 then (fX8_feed_71 N (fX8_feed_18 N n) x1 x2 x3 x4 x5 x6 x5 σ) else (fX8_feed_71 N (fX8_feed_18 N n) x1 x2 x3 x4 x5 x6 x4 σ) else (fX8_feed_71 N (fX8_feed_18 N n) x1 x2 x3 x4 x5 x6 x3 σ) else (fX8_feed_71 N (fX8_feed_18 N n) x1 x2 x3 x4 x5 x6 x2 σ) else (fX8_feed_71 N (fX8_feed_18 N n) x1 x2 x3 x4 x5 x6 x1 σ)
set_option maxHeartbeats 4000000 in
set_option maxRecDepth 100000 in
theorem wX8_feed_18 (hC : Cx RX8 cX8_feed 8 (some .int) D cA p s m args meth c) {N : Nat} {r : Int32} {σ' : St} : ∀ (n : Nat) (x1 : Int32) (x2 : Int32) (x3 : Int32) (x4 : Int32) (x5 : Int32) (x6 : Int32) (σ : St) (H : Heap) (locs : List Loc) (ls : Array Slot), fX8_feed_18 N n x1 x2 x3 x4 x5 x6 σ = some (r, σ') → Wd kdM 31 D cA ad s σ H locs → lv_has ls 8 [(0, .ref (ad 0)), (1, .int x1), (2, .int x2), (3, .int x3), (4, .int x4), (5, .int x5), (6, .int x6)] → W p l e rmX8_feed s m args below meth c H locs 0 0 (EndW kdM 31 D cA ad below args s (some (.int r)) σ') (F0 m 18 ls []) := by
  have hx := hC.1
  have hb := hC.2.1
  have hown := hC.2.2.2.1
  have hts := hC.2.2.2.2.1
  intro n
  induction n with
  | zero =>
    intro x1 x2 x3 x4 x5 x6 σ H locs ls hf
    rw [fX8_feed_18] at hf
    cases hf
  | succ n ih =>
    intro x1 x2 x3 x4 x5 x6 σ H locs ls hf hW hl
    rw [fX8_feed_18] at hf
    refine lv_iload hx hb dX8_feed_18 (lv_at hl 6 rfl) ?_
    refine lv_bipush (v := 20) hx hb dX8_feed_20 (by decide) ?_
    refine lv_icmp_ge (tgt := 112) hx hb dX8_feed_22 (by decide) (fun h1 => ?_) (fun h1 => ?_)
    · have hf := it_t h1 hf
      refine lv_aload_n hx hb dX8_feed_112 rfl (lv_at hl 0 rfl) ?_
      refine gfX8_123 hC hW 0 (by decide) rfl rfl dX8_feed_113 ?_
      obtain ⟨rfl, rfl⟩ := sp hf
      exact Wd.iret hC hW dX8_feed_116
    · have hf := it_f h1 hf
      refine lv_iload hx hb dX8_feed_25 (lv_at hl 6 rfl) ?_
      refine lv_iconst (v := 4) hx hb dX8_feed_27 (by decide) ?_
      refine lv_icmp_ge (tgt := 35) hx hb dX8_feed_28 (by decide) (fun h2 => ?_) (fun h2 => ?_)
      · have hf := it_t h2 hf
        refine lv_iload hx hb dX8_feed_35 (lv_at hl 6 rfl) ?_
        refine lv_bipush (v := 8) hx hb dX8_feed_37 (by decide) ?_
        refine lv_icmp_ge (tgt := 46) hx hb dX8_feed_39 (by decide) (fun h3 => ?_) (fun h3 => ?_)
        · have hf := it_t h3 hf
          refine lv_iload hx hb dX8_feed_46 (lv_at hl 6 rfl) ?_
          refine lv_bipush (v := 12) hx hb dX8_feed_48 (by decide) ?_
          refine lv_icmp_ge (tgt := 57) hx hb dX8_feed_50 (by decide) (fun h4 => ?_) (fun h4 => ?_)
          · have hf := it_t h4 hf
            refine lv_iload hx hb dX8_feed_57 (lv_at hl 6 rfl) ?_
            refine lv_bipush (v := 16) hx hb dX8_feed_59 (by decide) ?_
            refine lv_icmp_ge (tgt := 69) hx hb dX8_feed_61 (by decide) (fun h5 => ?_) (fun h5 => ?_)
            · have hf := it_t h5 hf
              refine lv_iload hx hb dX8_feed_69 (lv_at hl 5 rfl) ?_
              exact wX8_feed_71 hC ih hf hW (lv_sub hl [0, 1, 2, 3, 4, 5, 6] rfl)
            · have hf := it_f h5 hf
              refine lv_iload hx hb dX8_feed_64 (lv_at hl 4 rfl) ?_
              refine lv_goto (tgt := 71) hx hb dX8_feed_66 (by decide) ?_
              exact wX8_feed_71 hC ih hf hW (lv_sub hl [0, 1, 2, 3, 4, 5, 6] rfl)
          · have hf := it_f h4 hf
            refine lv_iload_n hx hb dX8_feed_53 rfl (lv_at hl 3 rfl) ?_
            refine lv_goto (tgt := 71) hx hb dX8_feed_54 (by decide) ?_
            exact wX8_feed_71 hC ih hf hW (lv_sub hl [0, 1, 2, 3, 4, 5, 6] rfl)
        · have hf := it_f h3 hf
          refine lv_iload_n hx hb dX8_feed_42 rfl (lv_at hl 2 rfl) ?_
          refine lv_goto (tgt := 71) hx hb dX8_feed_43 (by decide) ?_
          exact wX8_feed_71 hC ih hf hW (lv_sub hl [0, 1, 2, 3, 4, 5, 6] rfl)
      · have hf := it_f h2 hf
        refine lv_iload_n hx hb dX8_feed_31 rfl (lv_at hl 1 rfl) ?_
        refine lv_goto (tgt := 71) hx hb dX8_feed_32 (by decide) ?_
        exact wX8_feed_71 hC ih hf hW (lv_sub hl [0, 1, 2, 3, 4, 5, 6] rfl)
def fX8_feed (N : Nat) (x1 : Int32) (x2 : Int32) (x3 : Int32) (x4 : Int32) (x5 : Int32) (σ : St) : Option (Int32 × St) := if ((σ.1 0 6) + (20 : Int32)) ≤ (2400 : Int32) then (fX8_feed_18 N N x1 x2 x3 x4 x5 (0 : Int32) σ) else some ((-1 : Int32), σ)
set_option maxHeartbeats 4000000 in
set_option maxRecDepth 100000 in
theorem kX8_feed {l : Launch} {D : va_G} {cA : Nat → ClassId} {ad : Nat → Nat} {N : Nat} {x1 : Int32} {x2 : Int32} {x3 : Int32} {x4 : Int32} {x5 : Int32} {σ : St} {r : Int32} {σ' : St} (hf : fX8_feed N x1 x2 x3 x4 x5 σ = some (r, σ')) : MW kdM 31 l D cA ad ⟨RX8, "feed", "(IIIII)I"⟩ cX8_feed 8 (some .int) rmX8_feed [.ref (ad 0), .int x1, .int x2, .int x3, .int x4, .int x5] σ (some (.int r)) σ' := by
  refine MW.of (by decide) (Nat.le_of_ble_eq_true rfl) ?_
  intro p e s m args below meth c ls hC hW hl
  have hx := hC.1
  have hb := hC.2.1
  have hown := hC.2.2.2.1
  have hts := hC.2.2.2.2.1
  have hl : lv_has ls 8 [(0, .ref (ad 0)), (1, .int x1), (2, .int x2), (3, .int x3), (4, .int x4), (5, .int x5)] := hl
  unfold fX8_feed at hf
  refine lv_aload_n hx hb dX8_feed_0 rfl (lv_at hl 0 rfl) ?_
  refine gfX8_123 hC hW 0 (by decide) rfl rfl dX8_feed_1 ?_
  refine lv_bipush (v := 20) hx hb dX8_feed_4 (by decide) ?_
  refine lv_iadd hx hb dX8_feed_6 ?_
  refine lv_sipush (v := 2400) hx hb dX8_feed_7 (by decide) ?_
  refine lv_icmp_le (tgt := 15) hx hb dX8_feed_10 (by decide) (fun h1 => ?_) (fun h1 => ?_)
  · have hf := it_t h1 hf
    refine lv_iconst (v := 0) hx hb dX8_feed_15 (by decide) ?_
    refine lv_istore (lv' := [(6, .int (0 : Int32)), (0, .ref (ad 0)), (1, .int x1), (2, .int x2), (3, .int x3), (4, .int x4), (5, .int x5)]) hx hb dX8_feed_16 hl (by decide) rfl (fun ls hl => ?_)
    exact wX8_feed_18 hC N _ _ _ _ _ _ _ _ _ _ hf hW (lv_sub hl [1, 2, 3, 4, 5, 6, 0] rfl)
  · have hf := it_f h1 hf
    refine lv_iconst (v := (-1)) hx hb dX8_feed_13 (by decide) ?_
    obtain ⟨rfl, rfl⟩ := sp hf
    exact Wd.iret hC hW dX8_feed_14
abbrev rmX8_end : Room := { frames := 0, cells := 0, slots := 0, locals := 0 }
def fX8_end (N : Nat) (x1 : Int32) (σ : St) : Option (Int32 × St) := if x1 < 0 then some ((-1 : Int32), σ) else if x1 ≤ (σ.1 0 6) then nx (sI σ 0 6 x1) (fun s3 => some (x1, s3)) else some ((-1 : Int32), σ)
set_option maxHeartbeats 4000000 in
set_option maxRecDepth 100000 in
theorem kX8_end {l : Launch} {D : va_G} {cA : Nat → ClassId} {ad : Nat → Nat} {N : Nat} {x1 : Int32} {σ : St} {r : Int32} {σ' : St} (hf : fX8_end N x1 σ = some (r, σ')) : MW kdM 31 l D cA ad ⟨RX8, "end", "(I)I"⟩ cX8_end 2 (some .int) rmX8_end [.ref (ad 0), .int x1] σ (some (.int r)) σ' := by
  refine MW.of (by decide) (Nat.le_of_ble_eq_true rfl) ?_
  intro p e s m args below meth c ls hC hW hl
  have hx := hC.1
  have hb := hC.2.1
  have hown := hC.2.2.2.1
  have hts := hC.2.2.2.2.1
  have hl : lv_has ls 2 [(0, .ref (ad 0)), (1, .int x1)] := hl
  unfold fX8_end at hf
  refine lv_iload_n hx hb dX8_end_0 rfl (lv_at hl 1 rfl) ?_
  refine lv_if_lt (tgt := 12) hx hb dX8_end_1 (by decide) (fun h1 => ?_) (fun h1 => ?_)
  · have hf := it_t h1 hf
    refine lv_iconst (v := (-1)) hx hb dX8_end_12 (by decide) ?_
    obtain ⟨rfl, rfl⟩ := sp hf
    exact Wd.iret hC hW dX8_end_13
  · have hf := it_f h1 hf
    refine lv_iload_n hx hb dX8_end_4 rfl (lv_at hl 1 rfl) ?_
    refine lv_aload_n hx hb dX8_end_5 rfl (lv_at hl 0 rfl) ?_
    refine gfX8_123 hC hW 0 (by decide) rfl rfl dX8_end_6 ?_
    refine lv_icmp_le (tgt := 14) hx hb dX8_end_9 (by decide) (fun h2 => ?_) (fun h2 => ?_)
    · have hf := it_t h2 hf
      refine lv_aload_n hx hb dX8_end_14 rfl (lv_at hl 0 rfl) ?_
      refine lv_iload_n hx hb dX8_end_15 rfl (lv_at hl 1 rfl) ?_
      refine pgfX8_123 hC hW 0 (by decide) rfl rfl dX8_end_16 (fun H locs hW => ?_)
      obtain ⟨s3, es3, hf⟩ := nx_ex hf
      rw [← es3] at hW
      refine lv_iload_n hx hb dX8_end_19 rfl (lv_at hl 1 rfl) ?_
      obtain ⟨rfl, rfl⟩ := sp hf
      exact Wd.iret hC hW dX8_end_20
    · have hf := it_f h2 hf
      refine lv_iconst (v := (-1)) hx hb dX8_end_12 (by decide) ?_
      obtain ⟨rfl, rfl⟩ := sp hf
      exact Wd.iret hC hW dX8_end_13
abbrev rmX8_take : Room := { frames := 0, cells := 0, slots := 0, locals := 0 }
def fX8_take_2 (N : Nat) : Nat → Int32 → St → Option (Int32 × St)
  | 0, _, _ => none
  | n + 1, x1, σ => if (σ.1 0 7) ≤ x1 then nx (sI σ 0 6 (σ.1 0 7)) (fun s2 => some ((s2.1 0 6), s2)) else gd (ib x1 2400) (gd (ib x1 2400) (nx (sI σ 4 x1.toNatClampNeg (σ.1 5 x1.toNatClampNeg).toInt8.toInt32) (fun s5 => nx (x1 + (1 : Int32)) (fun v6 => ((fX8_take_2 N n) v6 s5)))))
set_option maxHeartbeats 4000000 in
set_option maxRecDepth 100000 in
theorem wX8_take_2 (hC : Cx RX8 cX8_take 2 (some .int) D cA p s m args meth c) {N : Nat} {r : Int32} {σ' : St} : ∀ (n : Nat) (x1 : Int32) (σ : St) (H : Heap) (locs : List Loc) (ls : Array Slot), fX8_take_2 N n x1 σ = some (r, σ') → Wd kdM 31 D cA ad s σ H locs → lv_has ls 2 [(0, .ref (ad 0)), (1, .int x1)] → W p l e rmX8_take s m args below meth c H locs 0 0 (EndW kdM 31 D cA ad below args s (some (.int r)) σ') (F0 m 2 ls []) := by
  have hx := hC.1
  have hb := hC.2.1
  have hown := hC.2.2.2.1
  have hts := hC.2.2.2.2.1
  intro n
  induction n with
  | zero =>
    intro x1 σ H locs ls hf
    rw [fX8_take_2] at hf
    cases hf
  | succ n ih =>
    intro x1 σ H locs ls hf hW hl
    rw [fX8_take_2] at hf
    refine lv_iload_n hx hb dX8_take_2 rfl (lv_at hl 1 rfl) ?_
    refine lv_aload_n hx hb dX8_take_3 rfl (lv_at hl 0 rfl) ?_
    refine gfX8_126 hC hW 0 (by decide) rfl rfl dX8_take_4 ?_
    refine lv_icmp_ge (tgt := 28) hx hb dX8_take_7 (by decide) (fun h1 => ?_) (fun h1 => ?_)
    · have hf := it_t h1 hf
      refine lv_aload_n hx hb dX8_take_28 rfl (lv_at hl 0 rfl) ?_
      refine lv_aload_n hx hb dX8_take_29 rfl (lv_at hl 0 rfl) ?_
      refine gfX8_126 hC hW 0 (by decide) rfl rfl dX8_take_30 ?_
      refine pgfX8_123 hC hW 0 (by decide) rfl rfl dX8_take_33 (fun H locs hW => ?_)
      obtain ⟨s2, es2, hf⟩ := nx_ex hf
      rw [← es2] at hW
      refine lv_aload_n hx hb dX8_take_36 rfl (lv_at hl 0 rfl) ?_
      refine gfX8_123 hC hW 0 (by decide) rfl rfl dX8_take_37 ?_
      obtain ⟨rfl, rfl⟩ := sp hf
      exact Wd.iret hC hW dX8_take_40
    · have hf := it_f h1 hf
      refine lv_aload_n hx hb dX8_take_10 rfl (lv_at hl 0 rfl) ?_
      refine gfX8_19 hC hW 0 (by decide) rfl (q := 4) rfl dX8_take_11 ?_
      refine lv_iload_n hx hb dX8_take_14 rfl (lv_at hl 1 rfl) ?_
      refine lv_aload_n hx hb dX8_take_15 rfl (lv_at hl 0 rfl) ?_
      refine gfX8_23 hC hW 0 (by decide) rfl (q := 5) rfl dX8_take_16 ?_
      refine lv_iload_n hx hb dX8_take_19 rfl (lv_at hl 1 rfl) ?_
      obtain ⟨h3, hf⟩ := gd_some hf
      refine Wd.bald hC hW 5 (by decide) rfl h3 dX8_take_20 ?_
      obtain ⟨h4, hf⟩ := gd_some hf
      refine Wd.bast hC hW 4 (by decide) rfl h4 dX8_take_21 (fun H locs hW => ?_)
      obtain ⟨s5, es5, hf⟩ := nx_ex hf
      rw [← es5] at hW
      obtain ⟨v6, ev6⟩ : ∃ y : Int32, y = x1 + (1 : Int32) := ⟨_, rfl⟩
      have hf := nx_at ev6 hf
      refine lv_iinc (v := v6) (lv' := [(1, .int v6), (0, .ref (ad 0))]) hx hb dX8_take_22 hl (k := 1) rfl (by rw [ev6]; rfl) (by decide) rfl (fun ls hl => ?_)
      refine lv_goto (tgt := 2) hx hb dX8_take_25 (by decide) ?_
      exact ih _ _ _ _ _ hf hW (lv_sub hl [1, 0] rfl)
def fX8_take (N : Nat) (σ : St) : Option (Int32 × St) := (fX8_take_2 N N (0 : Int32) σ)
set_option maxHeartbeats 4000000 in
set_option maxRecDepth 100000 in
theorem kX8_take {l : Launch} {D : va_G} {cA : Nat → ClassId} {ad : Nat → Nat} {N : Nat} {σ : St} {r : Int32} {σ' : St} (hf : fX8_take N σ = some (r, σ')) : MW kdM 31 l D cA ad ⟨RX8, "take", "()I"⟩ cX8_take 2 (some .int) rmX8_take [.ref (ad 0)] σ (some (.int r)) σ' := by
  refine MW.of (by decide) (Nat.le_of_ble_eq_true rfl) ?_
  intro p e s m args below meth c ls hC hW hl
  have hx := hC.1
  have hb := hC.2.1
  have hown := hC.2.2.2.1
  have hts := hC.2.2.2.2.1
  have hl : lv_has ls 2 [(0, .ref (ad 0))] := hl
  unfold fX8_take at hf
  refine lv_iconst (v := 0) hx hb dX8_take_0 (by decide) ?_
  refine lv_istore_n (lv' := [(1, .int (0 : Int32)), (0, .ref (ad 0))]) hx hb dX8_take_1 rfl hl (by decide) rfl (fun ls hl => ?_)
  exact wX8_take_2 hC N _ _ _ _ _ hf hW (lv_sub hl [1, 0] rfl)
abbrev rmX8_read : Room := { frames := 1, cells := 0, slots := 0, locals := 23 }
def fX8_read_282 (N : Nat) (K270 : Int32 → Int32 → St → Option (Int32 × St)) : Nat → Int32 → Int32 → Int32 → St → Option (Int32 × St)
  | 0, _, _, _, _ => none
  | n + 1, x5, x6, x7, σ => if x6 ≤ x7 then nx (x6 + (1 : Int32)) (fun v2 => (K270 x5 v2 σ)) else gd (ib x5 191) (bd (fX8_sets N x6 x7 (σ.1 6 x5.toNatClampNeg) σ) (fun r4 s5 => nx (x5 + (1 : Int32)) (fun v7 => nx (x7 + (1 : Int32)) (fun v8 => ((fX8_read_282 N K270 n) v7 x6 v8 s5)))))
set_option maxHeartbeats 4000000 in
set_option maxRecDepth 100000 in
theorem wX8_read_282 (hC : Cx RX8 cX8_read 9 (some .int) D cA p s m args meth c) {N : Nat} {K270 : Int32 → Int32 → St → Option (Int32 × St)} {r : Int32} {σ' : St} (hK270 : ∀ (x5 : Int32) (x6 : Int32) (σ : St) (H : Heap) (locs : List Loc) (ls : Array Slot), K270 x5 x6 σ = some (r, σ') → Wd kdM 31 D cA ad s σ H locs → lv_has ls 9 [(0, .ref (ad 0)), (5, .int x5), (6, .int x6)] → W p l e rmX8_read s m args below meth c H locs 0 0 (EndW kdM 31 D cA ad below args s (some (.int r)) σ') (F0 m 270 ls [])) : ∀ (n : Nat) (x5 : Int32) (x6 : Int32) (x7 : Int32) (σ : St) (H : Heap) (locs : List Loc) (ls : Array Slot), fX8_read_282 N K270 n x5 x6 x7 σ = some (r, σ') → Wd kdM 31 D cA ad s σ H locs → lv_has ls 9 [(0, .ref (ad 0)), (5, .int x5), (6, .int x6), (7, .int x7)] → W p l e rmX8_read s m args below meth c H locs 0 0 (EndW kdM 31 D cA ad below args s (some (.int r)) σ') (F0 m 282 ls []) := by
  have hx := hC.1
  have hb := hC.2.1
  have hown := hC.2.2.2.1
  have hts := hC.2.2.2.2.1
  intro n
  induction n with
  | zero =>
    intro x5 x6 x7 σ H locs ls hf
    rw [fX8_read_282] at hf
    cases hf
  | succ n ih =>
    intro x5 x6 x7 σ H locs ls hf hW hl
    rw [fX8_read_282] at hf
    refine lv_iload hx hb dX8_read_282 (lv_at hl 3 rfl) ?_
    refine lv_iload hx hb dX8_read_284 (lv_at hl 2 rfl) ?_
    refine lv_icmp_ge (tgt := 313) hx hb dX8_read_286 (by decide) (fun h1 => ?_) (fun h1 => ?_)
    · have hf := it_t h1 hf
      obtain ⟨v2, ev2⟩ : ∃ y : Int32, y = x6 + (1 : Int32) := ⟨_, rfl⟩
      have hf := nx_at ev2 hf
      refine lv_iinc (v := v2) (lv' := [(6, .int v2), (0, .ref (ad 0)), (5, .int x5), (7, .int x7)]) hx hb dX8_read_313 hl (k := 2) rfl (by rw [ev2]; rfl) (by decide) rfl (fun ls hl => ?_)
      refine lv_goto (tgt := 270) hx hb dX8_read_316 (by decide) ?_
      exact hK270 _ _ _ _ _ _ hf hW (lv_sub hl [1, 2, 0] rfl)
    · have hf := it_f h1 hf
      refine lv_aload_n hx hb dX8_read_289 rfl (lv_at hl 0 rfl) ?_
      refine lv_iload hx hb dX8_read_290 (lv_at hl 2 rfl) ?_
      refine lv_iload hx hb dX8_read_292 (lv_at hl 3 rfl) ?_
      refine lv_aload_n hx hb dX8_read_294 rfl (lv_at hl 0 rfl) ?_
      refine gfX8_30 hC hW 0 (by decide) rfl (q := 6) rfl dX8_read_295 ?_
      refine lv_iload hx hb dX8_read_298 (lv_at hl 1 rfl) ?_
      obtain ⟨h3, hf⟩ := gd_some hf
      refine Wd.iald hC hW 6 (by decide) rfl h3 dX8_read_300 ?_
      obtain ⟨r4, s5, c6, hf⟩ := bd_some hf
      refine Wd.callV (n := 3) (As := [.int x6, .int x7, .int (σ.1 6 x5.toNatClampNeg)]) (rest := []) (rv := none) hC hW 0 (kX8_sets c6) (by decide) rfl rfl q766 q768 qs48 q8 q769 ⟨rfl, rfl⟩ ⟨by decide +kernel, by decide +kernel, by decide +kernel⟩ ⟨Nat.le_of_ble_eq_true rfl, Nat.le_of_ble_eq_true rfl⟩ ⟨Nat.zero_le _, Nat.zero_le _⟩ rfl hl.1 rfl (st2 := []) rfl (Nat.le_of_ble_eq_true rfl) dX8_read_301 (fun H locs hW => ?_)
      obtain ⟨v7, ev7⟩ : ∃ y : Int32, y = x5 + (1 : Int32) := ⟨_, rfl⟩
      have hf := nx_at ev7 hf
      refine lv_iinc (v := v7) (lv' := [(5, .int v7), (0, .ref (ad 0)), (6, .int x6), (7, .int x7)]) hx hb dX8_read_304 hl (k := 1) rfl (by rw [ev7]; rfl) (by decide) rfl (fun ls hl => ?_)
      obtain ⟨v8, ev8⟩ : ∃ y : Int32, y = x7 + (1 : Int32) := ⟨_, rfl⟩
      have hf := nx_at ev8 hf
      refine lv_iinc (v := v8) (lv' := [(7, .int v8), (5, .int v7), (0, .ref (ad 0)), (6, .int x6)]) hx hb dX8_read_307 hl (k := 3) rfl (by rw [ev8]; rfl) (by decide) rfl (fun ls hl => ?_)
      refine lv_goto (tgt := 282) hx hb dX8_read_310 (by decide) ?_
      exact ih _ _ _ _ _ _ _ hf hW (lv_sub hl [2, 1, 3, 0] rfl)
def fX8_read_270 (N : Nat) : Nat → Int32 → Int32 → St → Option (Int32 × St)
  | 0, _, _, _ => none
  | n + 1, x5, x6, σ => if (σ.1 0 0) ≤ x6 then some ((σ.1 0 0), σ) else (fX8_read_282 N (fX8_read_270 N n) N x5 x6 (0 : Int32) σ)
set_option maxHeartbeats 4000000 in
set_option maxRecDepth 100000 in
theorem wX8_read_270 (hC : Cx RX8 cX8_read 9 (some .int) D cA p s m args meth c) {N : Nat} {r : Int32} {σ' : St} : ∀ (n : Nat) (x5 : Int32) (x6 : Int32) (σ : St) (H : Heap) (locs : List Loc) (ls : Array Slot), fX8_read_270 N n x5 x6 σ = some (r, σ') → Wd kdM 31 D cA ad s σ H locs → lv_has ls 9 [(0, .ref (ad 0)), (5, .int x5), (6, .int x6)] → W p l e rmX8_read s m args below meth c H locs 0 0 (EndW kdM 31 D cA ad below args s (some (.int r)) σ') (F0 m 270 ls []) := by
  have hx := hC.1
  have hb := hC.2.1
  have hown := hC.2.2.2.1
  have hts := hC.2.2.2.2.1
  intro n
  induction n with
  | zero =>
    intro x5 x6 σ H locs ls hf
    rw [fX8_read_270] at hf
    cases hf
  | succ n ih =>
    intro x5 x6 σ H locs ls hf hW hl
    rw [fX8_read_270] at hf
    refine lv_iload hx hb dX8_read_270 (lv_at hl 2 rfl) ?_
    refine lv_aload_n hx hb dX8_read_272 rfl (lv_at hl 0 rfl) ?_
    refine gfX8_107 hC hW 0 (by decide) rfl rfl dX8_read_273 ?_
    refine lv_icmp_ge (tgt := 319) hx hb dX8_read_276 (by decide) (fun h1 => ?_) (fun h1 => ?_)
    · have hf := it_t h1 hf
      refine lv_aload_n hx hb dX8_read_319 rfl (lv_at hl 0 rfl) ?_
      refine gfX8_107 hC hW 0 (by decide) rfl rfl dX8_read_320 ?_
      obtain ⟨rfl, rfl⟩ := sp hf
      exact Wd.iret hC hW dX8_read_323
    · have hf := it_f h1 hf
      refine lv_iconst (v := 0) hx hb dX8_read_279 (by decide) ?_
      refine lv_istore (lv' := [(7, .int (0 : Int32)), (0, .ref (ad 0)), (5, .int x5), (6, .int x6)]) hx hb dX8_read_280 hl (by decide) rfl (fun ls hl => ?_)
      exact wX8_read_282 hC ih N _ _ _ _ _ _ _ hf hW (lv_sub hl [1, 2, 3, 0] rfl)
def fX8_read_241 (N : Nat) (σ : St) : Option (Int32 × St) := if (σ.1 0 8) < 0 then gd (ib (0 : Int32) 191) (bd (fX8_points N (σ.1 6 (0 : Int32).toNatClampNeg) σ) (fun r3 s4 => nx (sI s4 0 0 r3) (fun s6 => (fX8_read_270 N N (1 : Int32) (0 : Int32) s6)))) else some ((-1 : Int32), σ)
set_option maxHeartbeats 4000000 in
set_option maxRecDepth 100000 in
theorem wX8_read_241 (hC : Cx RX8 cX8_read 9 (some .int) D cA p s m args meth c) {N : Nat} {σ : St} {r : Int32} {σ' : St} {H : Heap} {locs : List Loc} {ls : Array Slot} (hf : fX8_read_241 N σ = some (r, σ')) (hW : Wd kdM 31 D cA ad s σ H locs) (hl : lv_has ls 9 [(0, .ref (ad 0))]) : W p l e rmX8_read s m args below meth c H locs 0 0 (EndW kdM 31 D cA ad below args s (some (.int r)) σ') (F0 m 241 ls []) := by
  have hx := hC.1
  have hb := hC.2.1
  have hown := hC.2.2.2.1
  have hts := hC.2.2.2.2.1
  unfold fX8_read_241 at hf
  refine lv_aload_n hx hb dX8_read_241 rfl (lv_at hl 0 rfl) ?_
  refine gfX8_26 hC hW 0 (by decide) rfl rfl dX8_read_242 ?_
  refine lv_if_lt (tgt := 250) hx hb dX8_read_245 (by decide) (fun h1 => ?_) (fun h1 => ?_)
  · have hf := it_t h1 hf
    refine lv_aload_n hx hb dX8_read_250 rfl (lv_at hl 0 rfl) ?_
    refine lv_aload_n hx hb dX8_read_251 rfl (lv_at hl 0 rfl) ?_
    refine lv_aload_n hx hb dX8_read_252 rfl (lv_at hl 0 rfl) ?_
    refine gfX8_30 hC hW 0 (by decide) rfl (q := 6) rfl dX8_read_253 ?_
    refine lv_iconst (v := 0) hx hb dX8_read_256 (by decide) ?_
    obtain ⟨h2, hf⟩ := gd_some hf
    refine Wd.iald hC hW 6 (by decide) rfl h2 dX8_read_257 ?_
    obtain ⟨r3, s4, c5, hf⟩ := bd_some hf
    refine Wd.callV (n := 1) (As := [.int (σ.1 6 (0 : Int32).toNatClampNeg)]) (rest := [.ref (ad 0)]) (rv := some (.int r3)) hC hW 0 (kX8_points c5) (by decide) rfl rfl q802 q755 q756 q8 q757 ⟨rfl, rfl⟩ ⟨by decide +kernel, by decide +kernel, by decide +kernel⟩ ⟨Nat.le_of_ble_eq_true rfl, Nat.le_of_ble_eq_true rfl⟩ ⟨Nat.zero_le _, Nat.zero_le _⟩ rfl hl.1 rfl (st2 := [.int r3, .ref (ad 0)]) rfl (Nat.le_of_ble_eq_true rfl) dX8_read_258 (fun H locs hW => ?_)
    refine pgfX8_107 hC hW 0 (by decide) rfl rfl dX8_read_261 (fun H locs hW => ?_)
    obtain ⟨s6, es6, hf⟩ := nx_ex hf
    rw [← es6] at hW
    refine lv_iconst (v := 1) hx hb dX8_read_264 (by decide) ?_
    refine lv_istore (lv' := [(5, .int (1 : Int32)), (0, .ref (ad 0))]) hx hb dX8_read_265 hl (by decide) rfl (fun ls hl => ?_)
    refine lv_iconst (v := 0) hx hb dX8_read_267 (by decide) ?_
    refine lv_istore (lv' := [(6, .int (0 : Int32)), (5, .int (1 : Int32)), (0, .ref (ad 0))]) hx hb dX8_read_268 hl (by decide) rfl (fun ls hl => ?_)
    exact wX8_read_270 hC N _ _ _ _ _ _ hf hW (lv_sub hl [2, 1, 0] rfl)
  · have hf := it_f h1 hf
    refine lv_iconst (v := (-1)) hx hb dX8_read_248 (by decide) ?_
    obtain ⟨rfl, rfl⟩ := sp hf
    exact Wd.iret hC hW dX8_read_249
def fX8_read_224 (N : Nat) (x1 : Int32) (x2 : Int32) (x3 : Int32) (σ : St) : Option (Int32 × St) := if 0 ≤ (σ.1 0 8) then (fX8_read_241 N σ) else if x3 ≤ x2 then (fX8_read_241 N σ) else nx (sI σ 0 8 x1) (fun s3 => (fX8_read_241 N s3))
set_option maxHeartbeats 4000000 in
set_option maxRecDepth 100000 in
theorem wX8_read_224 (hC : Cx RX8 cX8_read 9 (some .int) D cA p s m args meth c) {N : Nat} {x1 : Int32} {x2 : Int32} {x3 : Int32} {σ : St} {r : Int32} {σ' : St} {H : Heap} {locs : List Loc} {ls : Array Slot} (hf : fX8_read_224 N x1 x2 x3 σ = some (r, σ')) (hW : Wd kdM 31 D cA ad s σ H locs) (hl : lv_has ls 9 [(0, .ref (ad 0)), (1, .int x1), (2, .int x2), (3, .int x3)]) : W p l e rmX8_read s m args below meth c H locs 0 0 (EndW kdM 31 D cA ad below args s (some (.int r)) σ') (F0 m 224 ls []) := by
  have hx := hC.1
  have hb := hC.2.1
  have hown := hC.2.2.2.1
  have hts := hC.2.2.2.2.1
  unfold fX8_read_224 at hf
  refine lv_aload_n hx hb dX8_read_224 rfl (lv_at hl 0 rfl) ?_
  refine gfX8_26 hC hW 0 (by decide) rfl rfl dX8_read_225 ?_
  refine lv_if_ge (tgt := 241) hx hb dX8_read_228 (by decide) (fun h1 => ?_) (fun h1 => ?_)
  · have hf := it_t h1 hf
    exact wX8_read_241 hC hf hW (lv_sub hl [0] rfl)
  · have hf := it_f h1 hf
    refine lv_iload_n hx hb dX8_read_231 rfl (lv_at hl 2 rfl) ?_
    refine lv_iload_n hx hb dX8_read_232 rfl (lv_at hl 3 rfl) ?_
    refine lv_icmp_ge (tgt := 241) hx hb dX8_read_233 (by decide) (fun h2 => ?_) (fun h2 => ?_)
    · have hf := it_t h2 hf
      exact wX8_read_241 hC hf hW (lv_sub hl [0] rfl)
    · have hf := it_f h2 hf
      refine lv_aload_n hx hb dX8_read_236 rfl (lv_at hl 0 rfl) ?_
      refine lv_iload_n hx hb dX8_read_237 rfl (lv_at hl 1 rfl) ?_
      refine pgfX8_26 hC hW 0 (by decide) rfl rfl dX8_read_238 (fun H locs hW => ?_)
      obtain ⟨s3, es3, hf⟩ := nx_ex hf
      rw [← es3] at hW
      exact wX8_read_241 hC hf hW (lv_sub hl [0] rfl)
def fX8_read_58 (N : Nat) (K22 : Int32 → Int32 → Int32 → Int32 → St → Option (Int32 × St)) (x1 : Int32) (x2 : Int32) (x3 : Int32) (x4 : Int32) (σ : St) : Option (Int32 × St) := nx (x4 + (1 : Int32)) (fun v1 => (K22 x1 x2 x3 v1 σ))
set_option maxHeartbeats 4000000 in
set_option maxRecDepth 100000 in
theorem wX8_read_58 (hC : Cx RX8 cX8_read 9 (some .int) D cA p s m args meth c) {N : Nat} {K22 : Int32 → Int32 → Int32 → Int32 → St → Option (Int32 × St)} {x1 : Int32} {x2 : Int32} {x3 : Int32} {x4 : Int32} {σ : St} {r : Int32} {σ' : St} (hK22 : ∀ (x1 : Int32) (x2 : Int32) (x3 : Int32) (x4 : Int32) (σ : St) (H : Heap) (locs : List Loc) (ls : Array Slot), K22 x1 x2 x3 x4 σ = some (r, σ') → Wd kdM 31 D cA ad s σ H locs → lv_has ls 9 [(0, .ref (ad 0)), (1, .int x1), (2, .int x2), (3, .int x3), (4, .int x4)] → W p l e rmX8_read s m args below meth c H locs 0 0 (EndW kdM 31 D cA ad below args s (some (.int r)) σ') (F0 m 22 ls [])) {H : Heap} {locs : List Loc} {ls : Array Slot} (hf : fX8_read_58 N K22 x1 x2 x3 x4 σ = some (r, σ')) (hW : Wd kdM 31 D cA ad s σ H locs) (hl : lv_has ls 9 [(0, .ref (ad 0)), (1, .int x1), (2, .int x2), (3, .int x3), (4, .int x4)]) : W p l e rmX8_read s m args below meth c H locs 0 0 (EndW kdM 31 D cA ad below args s (some (.int r)) σ') (F0 m 58 ls []) := by
  have hx := hC.1
  have hb := hC.2.1
  have hown := hC.2.2.2.1
  have hts := hC.2.2.2.2.1
  unfold fX8_read_58 at hf
  obtain ⟨v1, ev1⟩ : ∃ y : Int32, y = x4 + (1 : Int32) := ⟨_, rfl⟩
  have hf := nx_at ev1 hf
  refine lv_iinc (v := v1) (lv' := [(4, .int v1), (0, .ref (ad 0)), (1, .int x1), (2, .int x2), (3, .int x3)]) hx hb dX8_read_58 hl (k := 4) rfl (by rw [ev1]; rfl) (by decide) rfl (fun ls hl => ?_)
  refine lv_goto (tgt := 22) hx hb dX8_read_61 (by decide) ?_
  exact hK22 _ _ _ _ _ _ _ _ hf hW (lv_sub hl [1, 2, 3, 4, 0] rfl)
def fX8_read_218 (N : Nat) (K22 : Int32 → Int32 → Int32 → Int32 → St → Option (Int32 × St)) (x1 : Int32) (x2 : Int32) (x3 : Int32) (x4 : Int32) (σ : St) : Option (Int32 × St) := nx (x2 + (1 : Int32)) (fun v1 => (K22 x1 v1 x3 x4 σ))
set_option maxHeartbeats 4000000 in
set_option maxRecDepth 100000 in
theorem wX8_read_218 (hC : Cx RX8 cX8_read 9 (some .int) D cA p s m args meth c) {N : Nat} {K22 : Int32 → Int32 → Int32 → Int32 → St → Option (Int32 × St)} {x1 : Int32} {x2 : Int32} {x3 : Int32} {x4 : Int32} {σ : St} {r : Int32} {σ' : St} (hK22 : ∀ (x1 : Int32) (x2 : Int32) (x3 : Int32) (x4 : Int32) (σ : St) (H : Heap) (locs : List Loc) (ls : Array Slot), K22 x1 x2 x3 x4 σ = some (r, σ') → Wd kdM 31 D cA ad s σ H locs → lv_has ls 9 [(0, .ref (ad 0)), (1, .int x1), (2, .int x2), (3, .int x3), (4, .int x4)] → W p l e rmX8_read s m args below meth c H locs 0 0 (EndW kdM 31 D cA ad below args s (some (.int r)) σ') (F0 m 22 ls [])) {H : Heap} {locs : List Loc} {ls : Array Slot} (hf : fX8_read_218 N K22 x1 x2 x3 x4 σ = some (r, σ')) (hW : Wd kdM 31 D cA ad s σ H locs) (hl : lv_has ls 9 [(0, .ref (ad 0)), (1, .int x1), (2, .int x2), (3, .int x3), (4, .int x4)]) : W p l e rmX8_read s m args below meth c H locs 0 0 (EndW kdM 31 D cA ad below args s (some (.int r)) σ') (F0 m 218 ls []) := by
  have hx := hC.1
  have hb := hC.2.1
  have hown := hC.2.2.2.1
  have hts := hC.2.2.2.2.1
  unfold fX8_read_218 at hf
  obtain ⟨v1, ev1⟩ : ∃ y : Int32, y = x2 + (1 : Int32) := ⟨_, rfl⟩
  have hf := nx_at ev1 hf
  refine lv_iinc (v := v1) (lv' := [(2, .int v1), (0, .ref (ad 0)), (1, .int x1), (3, .int x3), (4, .int x4)]) hx hb dX8_read_218 hl (k := 2) rfl (by rw [ev1]; rfl) (by decide) rfl (fun ls hl => ?_)
  refine lv_goto (tgt := 22) hx hb dX8_read_221 (by decide) ?_
  exact hK22 _ _ _ _ _ _ _ _ hf hW (lv_sub hl [1, 2, 0, 3, 4] rfl)
def fX8_read_178 (N : Nat) (K22 : Int32 → Int32 → Int32 → Int32 → St → Option (Int32 × St)) (x1 : Int32) (x2 : Int32) (x3 : Int32) (x4 : Int32) (x6 : Int32) (x7 : Int32) (y0 : Int32) (σ : St) : Option (Int32 × St) := if y0 = 0 then nx (sI σ 0 8 x6) (fun s7 => (K22 x1 x2 x3 x4 s7)) else gd (ib x2 191) (nx (sI σ 6 x2.toNatClampNeg x7) (fun s3 => if x2 = 0 then nx ((1 : Int32) + ((x7 * (x7 - (1 : Int32))) / (2 : Int32))) (fun v6 => (fX8_read_218 N K22 x1 x2 v6 x4 s3)) else (fX8_read_218 N K22 x1 x2 x3 x4 s3)))
set_option maxHeartbeats 4000000 in
set_option maxRecDepth 100000 in
theorem wX8_read_178 (hC : Cx RX8 cX8_read 9 (some .int) D cA p s m args meth c) {N : Nat} {K22 : Int32 → Int32 → Int32 → Int32 → St → Option (Int32 × St)} {x1 : Int32} {x2 : Int32} {x3 : Int32} {x4 : Int32} {x6 : Int32} {x7 : Int32} {y0 : Int32} {σ : St} {r : Int32} {σ' : St} (hK22 : ∀ (x1 : Int32) (x2 : Int32) (x3 : Int32) (x4 : Int32) (σ : St) (H : Heap) (locs : List Loc) (ls : Array Slot), K22 x1 x2 x3 x4 σ = some (r, σ') → Wd kdM 31 D cA ad s σ H locs → lv_has ls 9 [(0, .ref (ad 0)), (1, .int x1), (2, .int x2), (3, .int x3), (4, .int x4)] → W p l e rmX8_read s m args below meth c H locs 0 0 (EndW kdM 31 D cA ad below args s (some (.int r)) σ') (F0 m 22 ls [])) {H : Heap} {locs : List Loc} {ls : Array Slot} (hf : fX8_read_178 N K22 x1 x2 x3 x4 x6 x7 y0 σ = some (r, σ')) (hW : Wd kdM 31 D cA ad s σ H locs) (hl : lv_has ls 9 [(0, .ref (ad 0)), (1, .int x1), (2, .int x2), (3, .int x3), (4, .int x4), (6, .int x6), (7, .int x7)]) : W p l e rmX8_read s m args below meth c H locs 0 0 (EndW kdM 31 D cA ad below args s (some (.int r)) σ') (F0 m 178 ls [.int y0]) := by
  have hx := hC.1
  have hb := hC.2.1
  have hown := hC.2.2.2.1
  have hts := hC.2.2.2.2.1
  unfold fX8_read_178 at hf
  refine lv_istore (lv' := [(8, .int y0), (0, .ref (ad 0)), (1, .int x1), (2, .int x2), (3, .int x3), (4, .int x4), (6, .int x6), (7, .int x7)]) hx hb dX8_read_178 hl (by decide) rfl (fun ls hl => ?_)
  refine lv_iload hx hb dX8_read_180 (lv_at hl 0 rfl) ?_
  refine lv_if_ne (tgt := 194) hx hb dX8_read_182 (by decide) (fun h1 => ?_) (fun h1 => ?_)
  · have hf := it_f h1 hf
    refine lv_aload_n hx hb dX8_read_194 rfl (lv_at hl 1 rfl) ?_
    refine gfX8_30 hC hW 0 (by decide) rfl (q := 6) rfl dX8_read_195 ?_
    refine lv_iload_n hx hb dX8_read_198 rfl (lv_at hl 3 rfl) ?_
    refine lv_iload hx hb dX8_read_199 (lv_at hl 7 rfl) ?_
    obtain ⟨h2, hf⟩ := gd_some hf
    refine Wd.iast hC hW 6 (by decide) rfl h2 dX8_read_201 (fun H locs hW => ?_)
    obtain ⟨s3, es3, hf⟩ := nx_ex hf
    rw [← es3] at hW
    refine lv_iload_n hx hb dX8_read_202 rfl (lv_at hl 3 rfl) ?_
    refine lv_if_ne (tgt := 218) hx hb dX8_read_203 (by decide) (fun h4 => ?_) (fun h4 => ?_)
    · have hf := it_f h4 hf
      exact wX8_read_218 hC hK22 hf hW (lv_sub hl [1, 2, 3, 4, 5] rfl)
    · have hf := it_t h4 hf
      refine lv_iconst (v := 1) hx hb dX8_read_206 (by decide) ?_
      refine lv_iload hx hb dX8_read_207 (lv_at hl 7 rfl) ?_
      refine lv_iload hx hb dX8_read_209 (lv_at hl 7 rfl) ?_
      refine lv_iconst (v := 1) hx hb dX8_read_211 (by decide) ?_
      refine lv_isub hx hb dX8_read_212 ?_
      refine lv_imul hx hb dX8_read_213 ?_
      refine lv_iconst (v := 2) hx hb dX8_read_214 (by decide) ?_
      refine lv_idiv hx hb dX8_read_215 (by decide) ?_
      refine lv_iadd hx hb dX8_read_216 ?_
      refine lv_topi (fun v6 ev6 => ?_)
      have hf := nx_at ev6 hf
      refine lv_istore_n (lv' := [(3, .int v6), (8, .int y0), (0, .ref (ad 0)), (1, .int x1), (2, .int x2), (4, .int x4), (6, .int x6), (7, .int x7)]) hx hb dX8_read_217 rfl hl (by decide) rfl (fun ls hl => ?_)
      exact wX8_read_218 hC hK22 hf hW (lv_sub hl [2, 3, 4, 0, 5] rfl)
  · have hf := it_t h1 hf
    refine lv_aload_n hx hb dX8_read_185 rfl (lv_at hl 1 rfl) ?_
    refine lv_iload hx hb dX8_read_186 (lv_at hl 6 rfl) ?_
    refine pgfX8_26 hC hW 0 (by decide) rfl rfl dX8_read_188 (fun H locs hW => ?_)
    obtain ⟨s7, es7, hf⟩ := nx_ex hf
    rw [← es7] at hW
    refine lv_goto (tgt := 22) hx hb dX8_read_191 (by decide) ?_
    exact hK22 _ _ _ _ _ _ _ _ hf hW (lv_sub hl [1, 2, 3, 4, 5] rfl)
def fX8_read_177 (N : Nat) (K22 : Int32 → Int32 → Int32 → Int32 → St → Option (Int32 × St)) (x1 : Int32) (x2 : Int32) (x3 : Int32) (x4 : Int32) (x6 : Int32) (x7 : Int32) (σ : St) : Option (Int32 × St) := (fX8_read_178 N K22 x1 x2 x3 x4 x6 x7 (0 : Int32) σ)
set_option maxHeartbeats 4000000 in
set_option maxRecDepth 100000 in
theorem wX8_read_177 (hC : Cx RX8 cX8_read 9 (some .int) D cA p s m args meth c) {N : Nat} {K22 : Int32 → Int32 → Int32 → Int32 → St → Option (Int32 × St)} {x1 : Int32} {x2 : Int32} {x3 : Int32} {x4 : Int32} {x6 : Int32} {x7 : Int32} {σ : St} {r : Int32} {σ' : St} (hK22 : ∀ (x1 : Int32) (x2 : Int32) (x3 : Int32) (x4 : Int32) (σ : St) (H : Heap) (locs : List Loc) (ls : Array Slot), K22 x1 x2 x3 x4 σ = some (r, σ') → Wd kdM 31 D cA ad s σ H locs → lv_has ls 9 [(0, .ref (ad 0)), (1, .int x1), (2, .int x2), (3, .int x3), (4, .int x4)] → W p l e rmX8_read s m args below meth c H locs 0 0 (EndW kdM 31 D cA ad below args s (some (.int r)) σ') (F0 m 22 ls [])) {H : Heap} {locs : List Loc} {ls : Array Slot} (hf : fX8_read_177 N K22 x1 x2 x3 x4 x6 x7 σ = some (r, σ')) (hW : Wd kdM 31 D cA ad s σ H locs) (hl : lv_has ls 9 [(0, .ref (ad 0)), (1, .int x1), (2, .int x2), (3, .int x3), (4, .int x4), (6, .int x6), (7, .int x7)]) : W p l e rmX8_read s m args below meth c H locs 0 0 (EndW kdM 31 D cA ad below args s (some (.int r)) σ') (F0 m 177 ls []) := by
  have hx := hC.1
  have hb := hC.2.1
  have hown := hC.2.2.2.1
  have hts := hC.2.2.2.2.1
  unfold fX8_read_177 at hf
  refine lv_iconst (v := 0) hx hb dX8_read_177 (by decide) ?_
  exact wX8_read_178 hC hK22 hf hW (lv_sub hl [0, 1, 2, 3, 4, 5, 6] rfl)
def fX8_read_170 (N : Nat) (K22 : Int32 → Int32 → Int32 → Int32 → St → Option (Int32 × St)) (x1 : Int32) (x2 : Int32) (x3 : Int32) (x4 : Int32) (x6 : Int32) (x7 : Int32) (y0 : Int32) (y1 : Int32) (σ : St) : Option (Int32 × St) := if y0 < y1 then (fX8_read_177 N K22 x1 x2 x3 x4 x6 x7 σ) else (fX8_read_178 N K22 x1 x2 x3 x4 x6 x7 (1 : Int32) σ)
set_option maxHeartbeats 4000000 in
set_option maxRecDepth 100000 in
theorem wX8_read_170 (hC : Cx RX8 cX8_read 9 (some .int) D cA p s m args meth c) {N : Nat} {K22 : Int32 → Int32 → Int32 → Int32 → St → Option (Int32 × St)} {x1 : Int32} {x2 : Int32} {x3 : Int32} {x4 : Int32} {x6 : Int32} {x7 : Int32} {y0 : Int32} {y1 : Int32} {σ : St} {r : Int32} {σ' : St} (hK22 : ∀ (x1 : Int32) (x2 : Int32) (x3 : Int32) (x4 : Int32) (σ : St) (H : Heap) (locs : List Loc) (ls : Array Slot), K22 x1 x2 x3 x4 σ = some (r, σ') → Wd kdM 31 D cA ad s σ H locs → lv_has ls 9 [(0, .ref (ad 0)), (1, .int x1), (2, .int x2), (3, .int x3), (4, .int x4)] → W p l e rmX8_read s m args below meth c H locs 0 0 (EndW kdM 31 D cA ad below args s (some (.int r)) σ') (F0 m 22 ls [])) {H : Heap} {locs : List Loc} {ls : Array Slot} (hf : fX8_read_170 N K22 x1 x2 x3 x4 x6 x7 y0 y1 σ = some (r, σ')) (hW : Wd kdM 31 D cA ad s σ H locs) (hl : lv_has ls 9 [(0, .ref (ad 0)), (1, .int x1), (2, .int x2), (3, .int x3), (4, .int x4), (6, .int x6), (7, .int x7)]) : W p l e rmX8_read s m args below meth c H locs 0 0 (EndW kdM 31 D cA ad below args s (some (.int r)) σ') (F0 m 170 ls [.int y0, .int y1]) := by
  have hx := hC.1
  have hb := hC.2.1
  have hown := hC.2.2.2.1
  have hts := hC.2.2.2.2.1
  unfold fX8_read_170 at hf
  refine lv_icmp_gt (tgt := 177) hx hb dX8_read_170 (by decide) (fun h1 => ?_) (fun h1 => ?_)
  · have hf := it_t h1 hf
    exact wX8_read_177 hC hK22 hf hW (lv_sub hl [0, 1, 2, 3, 4, 5, 6] rfl)
  · have hf := it_f h1 hf
    refine lv_iconst (v := 1) hx hb dX8_read_173 (by decide) ?_
    refine lv_goto (tgt := 178) hx hb dX8_read_174 (by decide) ?_
    exact wX8_read_178 hC hK22 hf hW (lv_sub hl [0, 1, 2, 3, 4, 5, 6] rfl)
def fX8_read_135 (N : Nat) (K22 : Int32 → Int32 → Int32 → Int32 → St → Option (Int32 × St)) (x1 : Int32) (x2 : Int32) (x3 : Int32) (x4 : Int32) (x6 : Int32) (x7 : Int32) (σ : St) : Option (Int32 × St) := if x4 ≤ x6 then (fX8_read_177 N K22 x1 x2 x3 x4 x6 x7 σ) else if (8 : Int32) ≤ (x4 - x6) then (fX8_read_177 N K22 x1 x2 x3 x4 x6 x7 σ) else if x3 ≤ x2 then (fX8_read_177 N K22 x1 x2 x3 x4 x6 x7 σ) else if x2 = 0 then (fX8_read_170 N K22 x1 x2 x3 x4 x6 x7 (20 : Int32) x7 σ) else (fX8_read_170 N K22 x1 x2 x3 x4 x6 x7 (2000000 : Int32) x7 σ)
set_option maxHeartbeats 4000000 in
set_option maxRecDepth 100000 in
theorem wX8_read_135 (hC : Cx RX8 cX8_read 9 (some .int) D cA p s m args meth c) {N : Nat} {K22 : Int32 → Int32 → Int32 → Int32 → St → Option (Int32 × St)} {x1 : Int32} {x2 : Int32} {x3 : Int32} {x4 : Int32} {x6 : Int32} {x7 : Int32} {σ : St} {r : Int32} {σ' : St} (hK22 : ∀ (x1 : Int32) (x2 : Int32) (x3 : Int32) (x4 : Int32) (σ : St) (H : Heap) (locs : List Loc) (ls : Array Slot), K22 x1 x2 x3 x4 σ = some (r, σ') → Wd kdM 31 D cA ad s σ H locs → lv_has ls 9 [(0, .ref (ad 0)), (1, .int x1), (2, .int x2), (3, .int x3), (4, .int x4)] → W p l e rmX8_read s m args below meth c H locs 0 0 (EndW kdM 31 D cA ad below args s (some (.int r)) σ') (F0 m 22 ls [])) {H : Heap} {locs : List Loc} {ls : Array Slot} (hf : fX8_read_135 N K22 x1 x2 x3 x4 x6 x7 σ = some (r, σ')) (hW : Wd kdM 31 D cA ad s σ H locs) (hl : lv_has ls 9 [(0, .ref (ad 0)), (1, .int x1), (2, .int x2), (3, .int x3), (4, .int x4), (6, .int x6), (7, .int x7)]) : W p l e rmX8_read s m args below meth c H locs 0 0 (EndW kdM 31 D cA ad below args s (some (.int r)) σ') (F0 m 135 ls []) := by
  have hx := hC.1
  have hb := hC.2.1
  have hown := hC.2.2.2.1
  have hts := hC.2.2.2.2.1
  unfold fX8_read_135 at hf
  refine lv_iload hx hb dX8_read_135 (lv_at hl 4 rfl) ?_
  refine lv_iload hx hb dX8_read_137 (lv_at hl 5 rfl) ?_
  refine lv_icmp_le (tgt := 177) hx hb dX8_read_139 (by decide) (fun h1 => ?_) (fun h1 => ?_)
  · have hf := it_t h1 hf
    exact wX8_read_177 hC hK22 hf hW (lv_sub hl [0, 1, 2, 3, 4, 5, 6] rfl)
  · have hf := it_f h1 hf
    refine lv_iload hx hb dX8_read_142 (lv_at hl 4 rfl) ?_
    refine lv_iload hx hb dX8_read_144 (lv_at hl 5 rfl) ?_
    refine lv_isub hx hb dX8_read_146 ?_
    refine lv_bipush (v := 8) hx hb dX8_read_147 (by decide) ?_
    refine lv_icmp_ge (tgt := 177) hx hb dX8_read_149 (by decide) (fun h2 => ?_) (fun h2 => ?_)
    · have hf := it_t h2 hf
      exact wX8_read_177 hC hK22 hf hW (lv_sub hl [0, 1, 2, 3, 4, 5, 6] rfl)
    · have hf := it_f h2 hf
      refine lv_iload_n hx hb dX8_read_152 rfl (lv_at hl 2 rfl) ?_
      refine lv_iload_n hx hb dX8_read_153 rfl (lv_at hl 3 rfl) ?_
      refine lv_icmp_ge (tgt := 177) hx hb dX8_read_154 (by decide) (fun h3 => ?_) (fun h3 => ?_)
      · have hf := it_t h3 hf
        exact wX8_read_177 hC hK22 hf hW (lv_sub hl [0, 1, 2, 3, 4, 5, 6] rfl)
      · have hf := it_f h3 hf
        refine lv_iload hx hb dX8_read_157 (lv_at hl 6 rfl) ?_
        refine lv_iload_n hx hb dX8_read_159 rfl (lv_at hl 2 rfl) ?_
        refine lv_if_ne (tgt := 168) hx hb dX8_read_160 (by decide) (fun h4 => ?_) (fun h4 => ?_)
        · have hf := it_f h4 hf
          refine lv_ldc hx hb hown (hts _ q801) dX8_read_168 ?_
          exact wX8_read_170 hC hK22 hf hW (lv_sub hl [0, 1, 2, 3, 4, 5, 6] rfl)
        · have hf := it_t h4 hf
          refine lv_bipush (v := 20) hx hb dX8_read_163 (by decide) ?_
          refine lv_goto (tgt := 170) hx hb dX8_read_165 (by decide) ?_
          exact wX8_read_170 hC hK22 hf hW (lv_sub hl [0, 1, 2, 3, 4, 5, 6] rfl)
def fX8_read_129 (N : Nat) (K22 : Int32 → Int32 → Int32 → Int32 → St → Option (Int32 × St)) (K71 : Int32 → Int32 → Int32 → Int32 → Int32 → Int32 → St → Option (Int32 × St)) (x1 : Int32) (x2 : Int32) (x3 : Int32) (x4 : Int32) (x6 : Int32) (x7 : Int32) (σ : St) : Option (Int32 × St) := nx (x4 + (1 : Int32)) (fun v1 => (K71 x1 x2 x3 v1 x6 x7 σ))
set_option maxHeartbeats 4000000 in
set_option maxRecDepth 100000 in
theorem wX8_read_129 (hC : Cx RX8 cX8_read 9 (some .int) D cA p s m args meth c) {N : Nat} {K22 : Int32 → Int32 → Int32 → Int32 → St → Option (Int32 × St)} {K71 : Int32 → Int32 → Int32 → Int32 → Int32 → Int32 → St → Option (Int32 × St)} {x1 : Int32} {x2 : Int32} {x3 : Int32} {x4 : Int32} {x6 : Int32} {x7 : Int32} {σ : St} {r : Int32} {σ' : St} (hK22 : ∀ (x1 : Int32) (x2 : Int32) (x3 : Int32) (x4 : Int32) (σ : St) (H : Heap) (locs : List Loc) (ls : Array Slot), K22 x1 x2 x3 x4 σ = some (r, σ') → Wd kdM 31 D cA ad s σ H locs → lv_has ls 9 [(0, .ref (ad 0)), (1, .int x1), (2, .int x2), (3, .int x3), (4, .int x4)] → W p l e rmX8_read s m args below meth c H locs 0 0 (EndW kdM 31 D cA ad below args s (some (.int r)) σ') (F0 m 22 ls [])) (hK71 : ∀ (x1 : Int32) (x2 : Int32) (x3 : Int32) (x4 : Int32) (x6 : Int32) (x7 : Int32) (σ : St) (H : Heap) (locs : List Loc) (ls : Array Slot), K71 x1 x2 x3 x4 x6 x7 σ = some (r, σ') → Wd kdM 31 D cA ad s σ H locs → lv_has ls 9 [(0, .ref (ad 0)), (1, .int x1), (2, .int x2), (3, .int x3), (4, .int x4), (6, .int x6), (7, .int x7)] → W p l e rmX8_read s m args below meth c H locs 0 0 (EndW kdM 31 D cA ad below args s (some (.int r)) σ') (F0 m 71 ls [])) {H : Heap} {locs : List Loc} {ls : Array Slot} (hf : fX8_read_129 N K22 K71 x1 x2 x3 x4 x6 x7 σ = some (r, σ')) (hW : Wd kdM 31 D cA ad s σ H locs) (hl : lv_has ls 9 [(0, .ref (ad 0)), (1, .int x1), (2, .int x2), (3, .int x3), (4, .int x4), (6, .int x6), (7, .int x7)]) : W p l e rmX8_read s m args below meth c H locs 0 0 (EndW kdM 31 D cA ad below args s (some (.int r)) σ') (F0 m 129 ls []) := by
  have hx := hC.1
  have hb := hC.2.1
  have hown := hC.2.2.2.1
  have hts := hC.2.2.2.2.1
  unfold fX8_read_129 at hf
  obtain ⟨v1, ev1⟩ : ∃ y : Int32, y = x4 + (1 : Int32) := ⟨_, rfl⟩
  have hf := nx_at ev1 hf
  refine lv_iinc (v := v1) (lv' := [(4, .int v1), (0, .ref (ad 0)), (1, .int x1), (2, .int x2), (3, .int x3), (6, .int x6), (7, .int x7)]) hx hb dX8_read_129 hl (k := 4) rfl (by rw [ev1]; rfl) (by decide) rfl (fun ls hl => ?_)
  refine lv_goto (tgt := 71) hx hb dX8_read_132 (by decide) ?_
  exact hK71 _ _ _ _ _ _ _ _ _ _ hf hW (lv_sub hl [1, 2, 3, 4, 0, 5, 6] rfl)
def fX8_read_71 (N : Nat) (K22 : Int32 → Int32 → Int32 → Int32 → St → Option (Int32 × St)) : Nat → Int32 → Int32 → Int32 → Int32 → Int32 → Int32 → St → Option (Int32 × St)
  | 0, _, _, _, _, _, _, _ => none
  | n + 1, x1, x2, x3, x4, x6, x7, σ => if x1 ≤ x4 then (fX8_read_135 N K22 x1 x2 x3 x4 x6 x7 σ) else gd (ib x4 2400) (if (σ.1 4 x4.toNatClampNeg) < (48 : Int32) then (fX8_read_135 N K22 x1 x2 x3 x4 x6 x7 σ) else gd (ib x4 2400) (if (57 : Int32) < (σ.1 4 x4.toNatClampNeg) then (fX8_read_135 N K22 x1 x2 x3 x4 x6 x7 σ) else if (7 : Int32) ≤ (x4 - x6) then (fX8_read_129 N K22 (fX8_read_71 N K22 n) x1 x2 x3 x4 x6 x7 σ) else gd (ib x4 2400) (nx ((((10 : Int32) * x7) + (σ.1 4 x4.toNatClampNeg)) - (48 : Int32)) (fun v8 => (fX8_read_129 N K22 (fX8_read_71 N K22 n) x1 x2 x3 x4 x6 v8 σ)))))
set_option maxHeartbeats 4000000 in
set_option maxRecDepth 100000 in
theorem wX8_read_71 (hC : Cx RX8 cX8_read 9 (some .int) D cA p s m args meth c) {N : Nat} {K22 : Int32 → Int32 → Int32 → Int32 → St → Option (Int32 × St)} {r : Int32} {σ' : St} (hK22 : ∀ (x1 : Int32) (x2 : Int32) (x3 : Int32) (x4 : Int32) (σ : St) (H : Heap) (locs : List Loc) (ls : Array Slot), K22 x1 x2 x3 x4 σ = some (r, σ') → Wd kdM 31 D cA ad s σ H locs → lv_has ls 9 [(0, .ref (ad 0)), (1, .int x1), (2, .int x2), (3, .int x3), (4, .int x4)] → W p l e rmX8_read s m args below meth c H locs 0 0 (EndW kdM 31 D cA ad below args s (some (.int r)) σ') (F0 m 22 ls [])) : ∀ (n : Nat) (x1 : Int32) (x2 : Int32) (x3 : Int32) (x4 : Int32) (x6 : Int32) (x7 : Int32) (σ : St) (H : Heap) (locs : List Loc) (ls : Array Slot), fX8_read_71 N K22 n x1 x2 x3 x4 x6 x7 σ = some (r, σ') → Wd kdM 31 D cA ad s σ H locs → lv_has ls 9 [(0, .ref (ad 0)), (1, .int x1), (2, .int x2), (3, .int x3), (4, .int x4), (6, .int x6), (7, .int x7)] → W p l e rmX8_read s m args below meth c H locs 0 0 (EndW kdM 31 D cA ad below args s (some (.int r)) σ') (F0 m 71 ls []) := by
  have hx := hC.1
  have hb := hC.2.1
  have hown := hC.2.2.2.1
  have hts := hC.2.2.2.2.1
  intro n
  induction n with
  | zero =>
    intro x1 x2 x3 x4 x6 x7 σ H locs ls hf
    rw [fX8_read_71] at hf
    cases hf
  | succ n ih =>
    intro x1 x2 x3 x4 x6 x7 σ H locs ls hf hW hl
    rw [fX8_read_71] at hf
    refine lv_iload hx hb dX8_read_71 (lv_at hl 4 rfl) ?_
    refine lv_iload_n hx hb dX8_read_73 rfl (lv_at hl 1 rfl) ?_
    refine lv_icmp_ge (tgt := 135) hx hb dX8_read_74 (by decide) (fun h1 => ?_) (fun h1 => ?_)
    · have hf := it_t h1 hf
      exact wX8_read_135 hC hK22 hf hW (lv_sub hl [0, 1, 2, 3, 4, 5, 6] rfl)
    · have hf := it_f h1 hf
      refine lv_aload_n hx hb dX8_read_77 rfl (lv_at hl 0 rfl) ?_
      refine gfX8_19 hC hW 0 (by decide) rfl (q := 4) rfl dX8_read_78 ?_
      refine lv_iload hx hb dX8_read_81 (lv_at hl 4 rfl) ?_
      obtain ⟨h2, hf⟩ := gd_some hf
      refine Wd.bald hC hW 4 (by decide) rfl h2 dX8_read_83 ?_
      refine lv_bipush (v := 48) hx hb dX8_read_84 (by decide) ?_
      refine lv_icmp_lt (tgt := 135) hx hb dX8_read_86 (by decide) (fun h3 => ?_) (fun h3 => ?_)
      · have hf := it_t h3 hf
        exact wX8_read_135 hC hK22 hf hW (lv_sub hl [0, 1, 2, 3, 4, 5, 6] rfl)
      · have hf := it_f h3 hf
        refine lv_aload_n hx hb dX8_read_89 rfl (lv_at hl 0 rfl) ?_
        refine gfX8_19 hC hW 0 (by decide) rfl (q := 4) rfl dX8_read_90 ?_
        refine lv_iload hx hb dX8_read_93 (lv_at hl 4 rfl) ?_
        obtain ⟨h4, hf⟩ := gd_some hf
        refine Wd.bald hC hW 4 (by decide) rfl h4 dX8_read_95 ?_
        refine lv_bipush (v := 57) hx hb dX8_read_96 (by decide) ?_
        refine lv_icmp_gt (tgt := 135) hx hb dX8_read_98 (by decide) (fun h5 => ?_) (fun h5 => ?_)
        · have hf := it_t h5 hf
          exact wX8_read_135 hC hK22 hf hW (lv_sub hl [0, 1, 2, 3, 4, 5, 6] rfl)
        · have hf := it_f h5 hf
          refine lv_iload hx hb dX8_read_101 (lv_at hl 4 rfl) ?_
          refine lv_iload hx hb dX8_read_103 (lv_at hl 5 rfl) ?_
          refine lv_isub hx hb dX8_read_105 ?_
          refine lv_bipush (v := 7) hx hb dX8_read_106 (by decide) ?_
          refine lv_icmp_ge (tgt := 129) hx hb dX8_read_108 (by decide) (fun h6 => ?_) (fun h6 => ?_)
          · have hf := it_t h6 hf
            exact wX8_read_129 hC hK22 ih hf hW (lv_sub hl [0, 1, 2, 3, 4, 5, 6] rfl)
          · have hf := it_f h6 hf
            refine lv_bipush (v := 10) hx hb dX8_read_111 (by decide) ?_
            refine lv_iload hx hb dX8_read_113 (lv_at hl 6 rfl) ?_
            refine lv_imul hx hb dX8_read_115 ?_
            refine lv_aload_n hx hb dX8_read_116 rfl (lv_at hl 0 rfl) ?_
            refine gfX8_19 hC hW 0 (by decide) rfl (q := 4) rfl dX8_read_117 ?_
            refine lv_iload hx hb dX8_read_120 (lv_at hl 4 rfl) ?_
            obtain ⟨h7, hf⟩ := gd_some hf
            refine Wd.bald hC hW 4 (by decide) rfl h7 dX8_read_122 ?_
            refine lv_iadd hx hb dX8_read_123 ?_
            refine lv_bipush (v := 48) hx hb dX8_read_124 (by decide) ?_
            refine lv_isub hx hb dX8_read_126 ?_
            refine lv_topi (fun v8 ev8 => ?_)
            have hf := nx_at ev8 hf
            refine lv_istore (lv' := [(7, .int v8), (0, .ref (ad 0)), (1, .int x1), (2, .int x2), (3, .int x3), (4, .int x4), (6, .int x6)]) hx hb dX8_read_127 hl (by decide) rfl (fun ls hl => ?_)
            exact wX8_read_129 hC hK22 ih hf hW (lv_sub hl [1, 2, 3, 4, 5, 6, 0] rfl)
def fX8_read_22 (N : Nat) : Nat → Int32 → Int32 → Int32 → Int32 → St → Option (Int32 × St)
  | 0, _, _, _, _, _ => none
  | n + 1, x1, x2, x3, x4, σ => if x1 ≤ x4 then (fX8_read_224 N x1 x2 x3 σ) else if 0 ≤ (σ.1 0 8) then (fX8_read_224 N x1 x2 x3 σ) else gd (ib x4 2400) (nx (σ.1 4 x4.toNatClampNeg) (fun v4 => if v4 = (32 : Int32) then (fX8_read_58 N (fX8_read_22 N n) x1 x2 x3 x4 σ) else if v4 = (10 : Int32) then (fX8_read_58 N (fX8_read_22 N n) x1 x2 x3 x4 σ) else (fX8_read_71 N (fX8_read_22 N n) N x1 x2 x3 x4 x4 (0 : Int32) σ)))
set_option maxHeartbeats 4000000 in
set_option maxRecDepth 100000 in
theorem wX8_read_22 (hC : Cx RX8 cX8_read 9 (some .int) D cA p s m args meth c) {N : Nat} {r : Int32} {σ' : St} : ∀ (n : Nat) (x1 : Int32) (x2 : Int32) (x3 : Int32) (x4 : Int32) (σ : St) (H : Heap) (locs : List Loc) (ls : Array Slot), fX8_read_22 N n x1 x2 x3 x4 σ = some (r, σ') → Wd kdM 31 D cA ad s σ H locs → lv_has ls 9 [(0, .ref (ad 0)), (1, .int x1), (2, .int x2), (3, .int x3), (4, .int x4)] → W p l e rmX8_read s m args below meth c H locs 0 0 (EndW kdM 31 D cA ad below args s (some (.int r)) σ') (F0 m 22 ls []) := by
  have hx := hC.1
  have hb := hC.2.1
  have hown := hC.2.2.2.1
  have hts := hC.2.2.2.2.1
  intro n
  induction n with
  | zero =>
    intro x1 x2 x3 x4 σ H locs ls hf
    rw [fX8_read_22] at hf
    cases hf
  | succ n ih =>
    intro x1 x2 x3 x4 σ H locs ls hf hW hl
    rw [fX8_read_22] at hf
    refine lv_iload hx hb dX8_read_22 (lv_at hl 4 rfl) ?_
    refine lv_iload_n hx hb dX8_read_24 rfl (lv_at hl 1 rfl) ?_
    refine lv_icmp_ge (tgt := 224) hx hb dX8_read_25 (by decide) (fun h1 => ?_) (fun h1 => ?_)
    · have hf := it_t h1 hf
      exact wX8_read_224 hC hf hW (lv_sub hl [0, 1, 2, 3] rfl)
    · have hf := it_f h1 hf
      refine lv_aload_n hx hb dX8_read_28 rfl (lv_at hl 0 rfl) ?_
      refine gfX8_26 hC hW 0 (by decide) rfl rfl dX8_read_29 ?_
      refine lv_if_ge (tgt := 224) hx hb dX8_read_32 (by decide) (fun h2 => ?_) (fun h2 => ?_)
      · have hf := it_t h2 hf
        exact wX8_read_224 hC hf hW (lv_sub hl [0, 1, 2, 3] rfl)
      · have hf := it_f h2 hf
        refine lv_aload_n hx hb dX8_read_35 rfl (lv_at hl 0 rfl) ?_
        refine gfX8_19 hC hW 0 (by decide) rfl (q := 4) rfl dX8_read_36 ?_
        refine lv_iload hx hb dX8_read_39 (lv_at hl 4 rfl) ?_
        obtain ⟨h3, hf⟩ := gd_some hf
        refine Wd.bald hC hW 4 (by decide) rfl h3 dX8_read_41 ?_
        refine lv_topi (fun v4 ev4 => ?_)
        have hf := nx_at ev4 hf
        refine lv_istore (lv' := [(5, .int v4), (0, .ref (ad 0)), (1, .int x1), (2, .int x2), (3, .int x3), (4, .int x4)]) hx hb dX8_read_42 hl (by decide) rfl (fun ls hl => ?_)
        refine lv_iload hx hb dX8_read_44 (lv_at hl 0 rfl) ?_
        refine lv_bipush (v := 32) hx hb dX8_read_46 (by decide) ?_
        refine lv_icmp_eq (tgt := 58) hx hb dX8_read_48 (by decide) (fun h5 => ?_) (fun h5 => ?_)
        · have hf := it_t h5 hf
          exact wX8_read_58 hC ih hf hW (lv_sub hl [1, 2, 3, 4, 5] rfl)
        · have hf := it_f h5 hf
          refine lv_iload hx hb dX8_read_51 (lv_at hl 0 rfl) ?_
          refine lv_bipush (v := 10) hx hb dX8_read_53 (by decide) ?_
          refine lv_icmp_ne (tgt := 64) hx hb dX8_read_55 (by decide) (fun h6 => ?_) (fun h6 => ?_)
          · have hf := it_f h6 hf
            refine lv_iload hx hb dX8_read_64 (lv_at hl 5 rfl) ?_
            refine lv_istore (lv' := [(6, .int x4), (5, .int v4), (0, .ref (ad 0)), (1, .int x1), (2, .int x2), (3, .int x3), (4, .int x4)]) hx hb dX8_read_66 hl (by decide) rfl (fun ls hl => ?_)
            refine lv_iconst (v := 0) hx hb dX8_read_68 (by decide) ?_
            refine lv_istore (lv' := [(7, .int (0 : Int32)), (6, .int x4), (5, .int v4), (0, .ref (ad 0)), (1, .int x1), (2, .int x2), (3, .int x3), (4, .int x4)]) hx hb dX8_read_69 hl (by decide) rfl (fun ls hl => ?_)
            exact wX8_read_71 hC ih N _ _ _ _ _ _ _ _ _ _ hf hW (lv_sub hl [3, 4, 5, 6, 7, 1, 0] rfl)
          · have hf := it_t h6 hf
            exact wX8_read_58 hC ih hf hW (lv_sub hl [1, 2, 3, 4, 5] rfl)
def fX8_read (N : Nat) (σ : St) : Option (Int32 × St) := nx (σ.1 0 6) (fun v1 => nx (sI σ 0 6 (0 : Int32)) (fun s2 => nx (sI s2 0 8 (-1 : Int32)) (fun s3 => (fX8_read_22 N N v1 (0 : Int32) (1 : Int32) (0 : Int32) s3))))
set_option maxHeartbeats 4000000 in
set_option maxRecDepth 100000 in
theorem kX8_read {l : Launch} {D : va_G} {cA : Nat → ClassId} {ad : Nat → Nat} {N : Nat} {σ : St} {r : Int32} {σ' : St} (hf : fX8_read N σ = some (r, σ')) : MW kdM 31 l D cA ad ⟨RX8, "read", "()I"⟩ cX8_read 9 (some .int) rmX8_read [.ref (ad 0)] σ (some (.int r)) σ' := by
  refine MW.of (by decide) (Nat.le_of_ble_eq_true rfl) ?_
  intro p e s m args below meth c ls hC hW hl
  have hx := hC.1
  have hb := hC.2.1
  have hown := hC.2.2.2.1
  have hts := hC.2.2.2.2.1
  have hl : lv_has ls 9 [(0, .ref (ad 0))] := hl
  unfold fX8_read at hf
  refine lv_aload_n hx hb dX8_read_0 rfl (lv_at hl 0 rfl) ?_
  refine gfX8_123 hC hW 0 (by decide) rfl rfl dX8_read_1 ?_
  refine lv_topi (fun v1 ev1 => ?_)
  have hf := nx_at ev1 hf
  refine lv_istore_n (lv' := [(1, .int v1), (0, .ref (ad 0))]) hx hb dX8_read_4 rfl hl (by decide) rfl (fun ls hl => ?_)
  refine lv_aload_n hx hb dX8_read_5 rfl (lv_at hl 1 rfl) ?_
  refine lv_iconst (v := 0) hx hb dX8_read_6 (by decide) ?_
  refine pgfX8_123 hC hW 0 (by decide) rfl rfl dX8_read_7 (fun H locs hW => ?_)
  obtain ⟨s2, es2, hf⟩ := nx_ex hf
  rw [← es2] at hW
  refine lv_aload_n hx hb dX8_read_10 rfl (lv_at hl 1 rfl) ?_
  refine lv_iconst (v := (-1)) hx hb dX8_read_11 (by decide) ?_
  refine pgfX8_26 hC hW 0 (by decide) rfl rfl dX8_read_12 (fun H locs hW => ?_)
  obtain ⟨s3, es3, hf⟩ := nx_ex hf
  rw [← es3] at hW
  refine lv_iconst (v := 0) hx hb dX8_read_15 (by decide) ?_
  refine lv_istore_n (lv' := [(2, .int (0 : Int32)), (1, .int v1), (0, .ref (ad 0))]) hx hb dX8_read_16 rfl hl (by decide) rfl (fun ls hl => ?_)
  refine lv_iconst (v := 1) hx hb dX8_read_17 (by decide) ?_
  refine lv_istore_n (lv' := [(3, .int (1 : Int32)), (2, .int (0 : Int32)), (1, .int v1), (0, .ref (ad 0))]) hx hb dX8_read_18 rfl hl (by decide) rfl (fun ls hl => ?_)
  refine lv_iconst (v := 0) hx hb dX8_read_19 (by decide) ?_
  refine lv_istore (lv' := [(4, .int (0 : Int32)), (3, .int (1 : Int32)), (2, .int (0 : Int32)), (1, .int v1), (0, .ref (ad 0))]) hx hb dX8_read_20 hl (by decide) rfl (fun ls hl => ?_)
  exact wX8_read_22 hC N _ _ _ _ _ _ _ _ hf hW (lv_sub hl [4, 3, 2, 1, 0] rfl)
abbrev rmX8_fault : Room := { frames := 0, cells := 0, slots := 0, locals := 0 }
def fX8_fault (N : Nat) (σ : St) : Option (Int32 × St) := some ((σ.1 0 8), σ)
set_option maxHeartbeats 4000000 in
set_option maxRecDepth 100000 in
theorem kX8_fault {l : Launch} {D : va_G} {cA : Nat → ClassId} {ad : Nat → Nat} {N : Nat} {σ : St} {r : Int32} {σ' : St} (hf : fX8_fault N σ = some (r, σ')) : MW kdM 31 l D cA ad ⟨RX8, "fault", "()I"⟩ cX8_fault 1 (some .int) rmX8_fault [.ref (ad 0)] σ (some (.int r)) σ' := by
  refine MW.of (by decide) (Nat.le_of_ble_eq_true rfl) ?_
  intro p e s m args below meth c ls hC hW hl
  have hx := hC.1
  have hb := hC.2.1
  have hown := hC.2.2.2.1
  have hts := hC.2.2.2.2.1
  have hl : lv_has ls 1 [(0, .ref (ad 0))] := hl
  unfold fX8_fault at hf
  refine lv_aload_n hx hb dX8_fault_0 rfl (lv_at hl 0 rfl) ?_
  refine gfX8_26 hC hW 0 (by decide) rfl rfl dX8_fault_1 ?_
  obtain ⟨rfl, rfl⟩ := sp hf
  exact Wd.iret hC hW dX8_fault_4
abbrev rmX8_ink : Room := { frames := 0, cells := 0, slots := 0, locals := 0 }
def fX8_ink (N : Nat) (x1 : Int32) (σ : St) : Option (Unit × St) := gd (ib (σ.1 0 7) 2400) (nx (sI σ 5 (σ.1 0 7).toNatClampNeg x1.toInt8.toInt32.toInt8.toInt32) (fun s2 => nx (sI s2 0 7 ((s2.1 0 7) + (1 : Int32))) (fun s3 => some ((), s3))))
set_option maxHeartbeats 4000000 in
set_option maxRecDepth 100000 in
theorem kX8_ink {l : Launch} {D : va_G} {cA : Nat → ClassId} {ad : Nat → Nat} {N : Nat} {x1 : Int32} {σ : St} {r : Unit} {σ' : St} (hf : fX8_ink N x1 σ = some (r, σ')) : MW kdM 31 l D cA ad ⟨RX8, "ink", "(I)V"⟩ cX8_ink 2 none rmX8_ink [.ref (ad 0), .int x1] σ none σ' := by
  refine MW.of (by decide) (Nat.le_of_ble_eq_true rfl) ?_
  intro p e s m args below meth c ls hC hW hl
  have hx := hC.1
  have hb := hC.2.1
  have hown := hC.2.2.2.1
  have hts := hC.2.2.2.2.1
  have hl : lv_has ls 2 [(0, .ref (ad 0)), (1, .int x1)] := hl
  unfold fX8_ink at hf
  refine lv_aload_n hx hb dX8_ink_0 rfl (lv_at hl 0 rfl) ?_
  refine gfX8_23 hC hW 0 (by decide) rfl (q := 5) rfl dX8_ink_1 ?_
  refine lv_aload_n hx hb dX8_ink_4 rfl (lv_at hl 0 rfl) ?_
  refine gfX8_126 hC hW 0 (by decide) rfl rfl dX8_ink_5 ?_
  refine lv_iload_n hx hb dX8_ink_8 rfl (lv_at hl 1 rfl) ?_
  refine lv_i2b (v := x1.toInt8.toInt32) hx hb dX8_ink_9 rfl ?_
  obtain ⟨h1, hf⟩ := gd_some hf
  refine Wd.bast hC hW 5 (by decide) rfl h1 dX8_ink_10 (fun H locs hW => ?_)
  obtain ⟨s2, es2, hf⟩ := nx_ex hf
  rw [← es2] at hW
  refine lv_aload_n hx hb dX8_ink_11 rfl (lv_at hl 0 rfl) ?_
  refine lv_dup hx hb dX8_ink_12 rfl ?_
  refine gfX8_126 hC hW 0 (by decide) rfl rfl dX8_ink_13 ?_
  refine lv_iconst (v := 1) hx hb dX8_ink_16 (by decide) ?_
  refine lv_iadd hx hb dX8_ink_17 ?_
  refine pgfX8_126 hC hW 0 (by decide) rfl rfl dX8_ink_18 (fun H locs hW => ?_)
  obtain ⟨s3, es3, hf⟩ := nx_ex hf
  rw [← es3] at hW
  obtain ⟨-, rfl⟩ := sp hf
  exact Wd.vret hC hW dX8_ink_21
abbrev rmX8_inkNumber : Room := { frames := 1, cells := 0, slots := 0, locals := 21 }
def fX8_inkNumber_42 (N : Nat) : Nat → Int64 → Int64 → St → Option (Unit × St)
  | 0, _, _, _ => none
  | n + 1, x3, x5, σ => if (lg_cmp x5 (0 : Int64)) ≤ 0 then some ((), σ) else ndz (x5 = 0) inferInstance (bd (fX8_ink N (((48 : Int64) + ((x3 / x5) - (x3 / x5) / (10 : Int64) * (10 : Int64))).toInt32) σ) (fun r4 s5 => nx (x5 / (10 : Int64)) (fun v8 => ((fX8_inkNumber_42 N n) x3 v8 s5))))
set_option maxHeartbeats 4000000 in
set_option maxRecDepth 100000 in
theorem wX8_inkNumber_42 (hC : Cx RX8 cX8_inkNumber 7 none D cA p s m args meth c) {N : Nat} {r : Unit} {σ' : St} : ∀ (n : Nat) (x3 : Int64) (x5 : Int64) (σ : St) (H : Heap) (locs : List Loc) (ls : Array Slot), fX8_inkNumber_42 N n x3 x5 σ = some (r, σ') → Wd kdM 31 D cA ad s σ H locs → lv_has ls 7 [(0, .ref (ad 0)), (3, .long x3), (5, .long x5)] → W p l e rmX8_inkNumber s m args below meth c H locs 0 0 (EndW kdM 31 D cA ad below args s none σ') (F0 m 42 ls []) := by
  have hx := hC.1
  have hb := hC.2.1
  have hown := hC.2.2.2.1
  have hts := hC.2.2.2.2.1
  intro n
  induction n with
  | zero =>
    intro x3 x5 σ H locs ls hf
    rw [fX8_inkNumber_42] at hf
    cases hf
  | succ n ih =>
    intro x3 x5 σ H locs ls hf hW hl
    rw [fX8_inkNumber_42] at hf
    refine lv_lload hx hb dX8_inkNumber_42 (lv_at hl 2 rfl) ?_
    refine lv_lconst (v := 0) hx hb dX8_inkNumber_44 (by decide) ?_
    refine W.lcmp hx hb dX8_inkNumber_45 ?_
    refine lv_if_le (tgt := 77) hx hb dX8_inkNumber_46 (by decide) (fun h1 => ?_) (fun h1 => ?_)
    · have hf := it_t h1 hf
      obtain ⟨-, rfl⟩ := sp hf
      exact Wd.vret hC hW dX8_inkNumber_77
    · have hf := it_f h1 hf
      refine lv_aload_n hx hb dX8_inkNumber_49 rfl (lv_at hl 0 rfl) ?_
      refine lv_ldc2 hx hb hown (hts _ q821) dX8_inkNumber_50 ?_
      refine lv_lload_n hx hb dX8_inkNumber_53 rfl (lv_at hl 1 rfl) ?_
      refine lv_lload hx hb dX8_inkNumber_54 (lv_at hl 2 rfl) ?_
      obtain ⟨h2, hf⟩ := ndz_some hf
      refine lv_ldiv hx hb dX8_inkNumber_56 h2 ?_
      refine lv_ldc2 hx hb hown (hts _ q820) dX8_inkNumber_57 ?_
      refine lv_lrem hx hb dX8_inkNumber_60 (by decide) ?_
      refine lv_ladd hx hb dX8_inkNumber_61 ?_
      refine lv_l2i (v := ((48 : Int64) + ((x3 / x5) - (x3 / x5) / (10 : Int64) * (10 : Int64))).toInt32) hx hb dX8_inkNumber_62 rfl ?_
      obtain ⟨r4, s5, c6, hf⟩ := bd_some hf
      refine Wd.callV (n := 1) (As := [.int (((48 : Int64) + ((x3 / x5) - (x3 / x5) / (10 : Int64) * (10 : Int64))).toInt32)]) (rest := []) (rv := none) hC hW 0 (kX8_ink c6) (by decide) rfl rfl q815 q817 qs50 q8 q818 ⟨rfl, rfl⟩ ⟨by decide +kernel, by decide +kernel, by decide +kernel⟩ ⟨Nat.le_of_ble_eq_true rfl, Nat.le_of_ble_eq_true rfl⟩ ⟨Nat.zero_le _, Nat.zero_le _⟩ rfl hl.1 rfl (st2 := []) rfl (Nat.le_of_ble_eq_true rfl) dX8_inkNumber_63 (fun H locs hW => ?_)
      refine lv_lload hx hb dX8_inkNumber_66 (lv_at hl 2 rfl) ?_
      refine lv_ldc2 hx hb hown (hts _ q820) dX8_inkNumber_68 ?_
      refine lv_ldiv hx hb dX8_inkNumber_71 (by decide) ?_
      refine lv_topl (fun v8 ev8 => ?_)
      have hf := nx_at ev8 hf
      refine lv_lstore (lv' := [(5, .long v8), (0, .ref (ad 0)), (3, .long x3)]) hx hb dX8_inkNumber_72 hl (by decide) rfl (fun ls hl => ?_)
      refine lv_goto (tgt := 42) hx hb dX8_inkNumber_74 (by decide) ?_
      exact ih _ _ _ _ _ _ hf hW (lv_sub hl [1, 2, 0] rfl)
def fX8_inkNumber_20 (N : Nat) : Nat → Int64 → Int64 → St → Option (Unit × St)
  | 0, _, _, _ => none
  | n + 1, x3, x5, σ => ndz (x5 = 0) inferInstance (if (lg_cmp (x3 / x5) (9 : Int64)) ≤ 0 then (fX8_inkNumber_42 N N x3 x5 σ) else nx (x5 * (10 : Int64)) (fun v3 => ((fX8_inkNumber_20 N n) x3 v3 σ)))
set_option maxHeartbeats 4000000 in
set_option maxRecDepth 100000 in
theorem wX8_inkNumber_20 (hC : Cx RX8 cX8_inkNumber 7 none D cA p s m args meth c) {N : Nat} {r : Unit} {σ' : St} : ∀ (n : Nat) (x3 : Int64) (x5 : Int64) (σ : St) (H : Heap) (locs : List Loc) (ls : Array Slot), fX8_inkNumber_20 N n x3 x5 σ = some (r, σ') → Wd kdM 31 D cA ad s σ H locs → lv_has ls 7 [(0, .ref (ad 0)), (3, .long x3), (5, .long x5)] → W p l e rmX8_inkNumber s m args below meth c H locs 0 0 (EndW kdM 31 D cA ad below args s none σ') (F0 m 20 ls []) := by
  have hx := hC.1
  have hb := hC.2.1
  have hown := hC.2.2.2.1
  have hts := hC.2.2.2.2.1
  intro n
  induction n with
  | zero =>
    intro x3 x5 σ H locs ls hf
    rw [fX8_inkNumber_20] at hf
    cases hf
  | succ n ih =>
    intro x3 x5 σ H locs ls hf hW hl
    rw [fX8_inkNumber_20] at hf
    refine lv_lload_n hx hb dX8_inkNumber_20 rfl (lv_at hl 1 rfl) ?_
    refine lv_lload hx hb dX8_inkNumber_21 (lv_at hl 2 rfl) ?_
    obtain ⟨h1, hf⟩ := ndz_some hf
    refine lv_ldiv hx hb dX8_inkNumber_23 h1 ?_
    refine lv_ldc2 hx hb hown (hts _ q819) dX8_inkNumber_24 ?_
    refine W.lcmp hx hb dX8_inkNumber_27 ?_
    refine lv_if_le (tgt := 42) hx hb dX8_inkNumber_28 (by decide) (fun h2 => ?_) (fun h2 => ?_)
    · have hf := it_t h2 hf
      exact wX8_inkNumber_42 hC N _ _ _ _ _ _ hf hW (lv_sub hl [0, 1, 2] rfl)
    · have hf := it_f h2 hf
      refine lv_lload hx hb dX8_inkNumber_31 (lv_at hl 2 rfl) ?_
      refine lv_ldc2 hx hb hown (hts _ q820) dX8_inkNumber_33 ?_
      refine lv_lmul hx hb dX8_inkNumber_36 ?_
      refine lv_topl (fun v3 ev3 => ?_)
      have hf := nx_at ev3 hf
      refine lv_lstore (lv' := [(5, .long v3), (0, .ref (ad 0)), (3, .long x3)]) hx hb dX8_inkNumber_37 hl (by decide) rfl (fun ls hl => ?_)
      refine lv_goto (tgt := 20) hx hb dX8_inkNumber_39 (by decide) ?_
      exact ih _ _ _ _ _ _ hf hW (lv_sub hl [1, 2, 0] rfl)
def fX8_inkNumber_17 (N : Nat) (x3 : Int64) (σ : St) : Option (Unit × St) := (fX8_inkNumber_20 N N x3 (1 : Int64) σ)
set_option maxHeartbeats 4000000 in
set_option maxRecDepth 100000 in
theorem wX8_inkNumber_17 (hC : Cx RX8 cX8_inkNumber 7 none D cA p s m args meth c) {N : Nat} {x3 : Int64} {σ : St} {r : Unit} {σ' : St} {H : Heap} {locs : List Loc} {ls : Array Slot} (hf : fX8_inkNumber_17 N x3 σ = some (r, σ')) (hW : Wd kdM 31 D cA ad s σ H locs) (hl : lv_has ls 7 [(0, .ref (ad 0)), (3, .long x3)]) : W p l e rmX8_inkNumber s m args below meth c H locs 0 0 (EndW kdM 31 D cA ad below args s none σ') (F0 m 17 ls []) := by
  have hx := hC.1
  have hb := hC.2.1
  have hown := hC.2.2.2.1
  have hts := hC.2.2.2.2.1
  unfold fX8_inkNumber_17 at hf
  refine lv_lconst (v := 1) hx hb dX8_inkNumber_17 (by decide) ?_
  refine lv_lstore (lv' := [(5, .long (1 : Int64)), (0, .ref (ad 0)), (3, .long x3)]) hx hb dX8_inkNumber_18 hl (by decide) rfl (fun ls hl => ?_)
  exact wX8_inkNumber_20 hC N _ _ _ _ _ _ hf hW (lv_sub hl [1, 2, 0] rfl)
def fX8_inkNumber (N : Nat) (x1 : Int64) (σ : St) : Option (Unit × St) := if 0 ≤ (lg_cmp x1 (0 : Int64)) then (fX8_inkNumber_17 N x1 σ) else bd (fX8_ink N (45 : Int32) σ) (fun r2 s3 => nx (-x1) (fun v5 => (fX8_inkNumber_17 N v5 s3)))
set_option maxHeartbeats 4000000 in
set_option maxRecDepth 100000 in
theorem kX8_inkNumber {l : Launch} {D : va_G} {cA : Nat → ClassId} {ad : Nat → Nat} {N : Nat} {x1 : Int64} {σ : St} {r : Unit} {σ' : St} (hf : fX8_inkNumber N x1 σ = some (r, σ')) : MW kdM 31 l D cA ad ⟨RX8, "inkNumber", "(J)V"⟩ cX8_inkNumber 7 none rmX8_inkNumber [.ref (ad 0), .long x1] σ none σ' := by
  refine MW.of (by decide) (Nat.le_of_ble_eq_true rfl) ?_
  intro p e s m args below meth c ls hC hW hl
  have hx := hC.1
  have hb := hC.2.1
  have hown := hC.2.2.2.1
  have hts := hC.2.2.2.2.1
  have hl : lv_has ls 7 [(0, .ref (ad 0)), (1, .long x1)] := hl
  unfold fX8_inkNumber at hf
  refine lv_lload_n hx hb dX8_inkNumber_0 rfl (lv_at hl 1 rfl) ?_
  refine lv_lstore_n (lv' := [(3, .long x1), (0, .ref (ad 0)), (1, .long x1)]) hx hb dX8_inkNumber_1 rfl hl (by decide) rfl (fun ls hl => ?_)
  refine lv_lload_n hx hb dX8_inkNumber_2 rfl (lv_at hl 0 rfl) ?_
  refine lv_lconst (v := 0) hx hb dX8_inkNumber_3 (by decide) ?_
  refine W.lcmp hx hb dX8_inkNumber_4 ?_
  refine lv_if_ge (tgt := 17) hx hb dX8_inkNumber_5 (by decide) (fun h1 => ?_) (fun h1 => ?_)
  · have hf := it_t h1 hf
    exact wX8_inkNumber_17 hC hf hW (lv_sub hl [1, 0] rfl)
  · have hf := it_f h1 hf
    refine lv_aload_n hx hb dX8_inkNumber_8 rfl (lv_at hl 1 rfl) ?_
    refine lv_bipush (v := 45) hx hb dX8_inkNumber_9 (by decide) ?_
    obtain ⟨r2, s3, c4, hf⟩ := bd_some hf
    refine Wd.callV (n := 1) (As := [.int (45 : Int32)]) (rest := []) (rv := none) hC hW 0 (kX8_ink c4) (by decide) rfl rfl q815 q817 qs50 q8 q818 ⟨rfl, rfl⟩ ⟨by decide +kernel, by decide +kernel, by decide +kernel⟩ ⟨Nat.le_of_ble_eq_true rfl, Nat.le_of_ble_eq_true rfl⟩ ⟨Nat.zero_le _, Nat.zero_le _⟩ rfl hl.1 rfl (st2 := []) rfl (Nat.le_of_ble_eq_true rfl) dX8_inkNumber_11 (fun H locs hW => ?_)
    refine lv_lload_n hx hb dX8_inkNumber_14 rfl (lv_at hl 0 rfl) ?_
    refine lv_lneg hx hb dX8_inkNumber_15 ?_
    refine lv_topl (fun v5 ev5 => ?_)
    have hf := nx_at ev5 hf
    refine lv_lstore_n (lv' := [(3, .long v5), (0, .ref (ad 0)), (1, .long x1)]) hx hb dX8_inkNumber_16 rfl hl (by decide) rfl (fun ls hl => ?_)
    exact wX8_inkNumber_17 hC hf hW (lv_sub hl [1, 0] rfl)
abbrev rmX8_write : Room := { frames := 2, cells := 0, slots := 0, locals := 47 }
def fX8_write_26 (N : Nat) (K16 : Int32 → St → Option (Int32 × St)) : Nat → Int32 → Int32 → St → Option (Int32 × St)
  | 0, _, _, _ => none
  | n + 1, x1, x2, σ => if x1 ≤ x2 then nx (x1 + (1 : Int32)) (fun v2 => (K16 v2 σ)) else bd (fX8_ink N (32 : Int32) σ) (fun r3 s4 => gd (ib (((20 : Int32) * x1) + x2) 400) (bd (fX8_inkNumber N ((s4.1 1 (((20 : Int32) * x1) + x2).toNatClampNeg).toInt64) s4) (fun r7 s8 => nx (x2 + (1 : Int32)) (fun v10 => ((fX8_write_26 N K16 n) x1 v10 s8)))))
set_option maxHeartbeats 4000000 in
set_option maxRecDepth 100000 in
theorem wX8_write_26 (hC : Cx RX8 cX8_write 3 (some .int) D cA p s m args meth c) {N : Nat} {K16 : Int32 → St → Option (Int32 × St)} {r : Int32} {σ' : St} (hK16 : ∀ (x1 : Int32) (σ : St) (H : Heap) (locs : List Loc) (ls : Array Slot), K16 x1 σ = some (r, σ') → Wd kdM 31 D cA ad s σ H locs → lv_has ls 3 [(0, .ref (ad 0)), (1, .int x1)] → W p l e rmX8_write s m args below meth c H locs 0 0 (EndW kdM 31 D cA ad below args s (some (.int r)) σ') (F0 m 16 ls [])) : ∀ (n : Nat) (x1 : Int32) (x2 : Int32) (σ : St) (H : Heap) (locs : List Loc) (ls : Array Slot), fX8_write_26 N K16 n x1 x2 σ = some (r, σ') → Wd kdM 31 D cA ad s σ H locs → lv_has ls 3 [(0, .ref (ad 0)), (1, .int x1), (2, .int x2)] → W p l e rmX8_write s m args below meth c H locs 0 0 (EndW kdM 31 D cA ad below args s (some (.int r)) σ') (F0 m 26 ls []) := by
  have hx := hC.1
  have hb := hC.2.1
  have hown := hC.2.2.2.1
  have hts := hC.2.2.2.2.1
  intro n
  induction n with
  | zero =>
    intro x1 x2 σ H locs ls hf
    rw [fX8_write_26] at hf
    cases hf
  | succ n ih =>
    intro x1 x2 σ H locs ls hf hW hl
    rw [fX8_write_26] at hf
    refine lv_iload_n hx hb dX8_write_26 rfl (lv_at hl 2 rfl) ?_
    refine lv_iload_n hx hb dX8_write_27 rfl (lv_at hl 1 rfl) ?_
    refine lv_icmp_ge (tgt := 59) hx hb dX8_write_28 (by decide) (fun h1 => ?_) (fun h1 => ?_)
    · have hf := it_t h1 hf
      obtain ⟨v2, ev2⟩ : ∃ y : Int32, y = x1 + (1 : Int32) := ⟨_, rfl⟩
      have hf := nx_at ev2 hf
      refine lv_iinc (v := v2) (lv' := [(1, .int v2), (0, .ref (ad 0)), (2, .int x2)]) hx hb dX8_write_59 hl (k := 1) rfl (by rw [ev2]; rfl) (by decide) rfl (fun ls hl => ?_)
      refine lv_goto (tgt := 16) hx hb dX8_write_62 (by decide) ?_
      exact hK16 _ _ _ _ _ hf hW (lv_sub hl [1, 0] rfl)
    · have hf := it_f h1 hf
      refine lv_aload_n hx hb dX8_write_31 rfl (lv_at hl 0 rfl) ?_
      refine lv_bipush (v := 32) hx hb dX8_write_32 (by decide) ?_
      obtain ⟨r3, s4, c5, hf⟩ := bd_some hf
      refine Wd.callV (n := 1) (As := [.int (32 : Int32)]) (rest := []) (rv := none) hC hW 0 (kX8_ink c5) (by decide) rfl rfl q815 q817 qs50 q8 q818 ⟨rfl, rfl⟩ ⟨by decide +kernel, by decide +kernel, by decide +kernel⟩ ⟨Nat.le_of_ble_eq_true rfl, Nat.le_of_ble_eq_true rfl⟩ ⟨Nat.zero_le _, Nat.zero_le _⟩ rfl hl.1 rfl (st2 := []) rfl (Nat.le_of_ble_eq_true rfl) dX8_write_34 (fun H locs hW => ?_)
      refine lv_aload_n hx hb dX8_write_37 rfl (lv_at hl 0 rfl) ?_
      refine lv_aload_n hx hb dX8_write_38 rfl (lv_at hl 0 rfl) ?_
      refine gfX8_7 hC hW 0 (by decide) rfl (q := 1) rfl dX8_write_39 ?_
      refine lv_bipush (v := 20) hx hb dX8_write_42 (by decide) ?_
      refine lv_iload_n hx hb dX8_write_44 rfl (lv_at hl 1 rfl) ?_
      refine lv_imul hx hb dX8_write_45 ?_
      refine lv_iload_n hx hb dX8_write_46 rfl (lv_at hl 2 rfl) ?_
      refine lv_iadd hx hb dX8_write_47 ?_
      obtain ⟨h6, hf⟩ := gd_some hf
      refine Wd.iald hC hW 1 (by decide) rfl h6 dX8_write_48 ?_
      refine lv_i2l (v := (s4.1 1 (((20 : Int32) * x1) + x2).toNatClampNeg).toInt64) hx hb dX8_write_49 rfl ?_
      obtain ⟨r7, s8, c9, hf⟩ := bd_some hf
      refine Wd.callV (n := 1) (As := [.long ((s4.1 1 (((20 : Int32) * x1) + x2).toNatClampNeg).toInt64)]) (rest := []) (rv := none) hC hW 0 (kX8_inkNumber c9) (by decide) rfl rfl q811 q813 qs49 q8 q814 ⟨rfl, rfl⟩ ⟨by decide +kernel, by decide +kernel, by decide +kernel⟩ ⟨Nat.le_of_ble_eq_true rfl, Nat.le_of_ble_eq_true rfl⟩ ⟨Nat.zero_le _, Nat.zero_le _⟩ rfl hl.1 rfl (st2 := []) rfl (Nat.le_of_ble_eq_true rfl) dX8_write_50 (fun H locs hW => ?_)
      obtain ⟨v10, ev10⟩ : ∃ y : Int32, y = x2 + (1 : Int32) := ⟨_, rfl⟩
      have hf := nx_at ev10 hf
      refine lv_iinc (v := v10) (lv' := [(2, .int v10), (0, .ref (ad 0)), (1, .int x1)]) hx hb dX8_write_53 hl (k := 2) rfl (by rw [ev10]; rfl) (by decide) rfl (fun ls hl => ?_)
      refine lv_goto (tgt := 26) hx hb dX8_write_56 (by decide) ?_
      exact ih _ _ _ _ _ _ hf hW (lv_sub hl [1, 2, 0] rfl)
def fX8_write_16 (N : Nat) : Nat → Int32 → St → Option (Int32 × St)
  | 0, _, _ => none
  | n + 1, x1, σ => if (σ.1 0 0) ≤ x1 then some ((σ.1 0 7), σ) else (fX8_write_26 N (fX8_write_16 N n) N x1 (0 : Int32) σ)
set_option maxHeartbeats 4000000 in
set_option maxRecDepth 100000 in
theorem wX8_write_16 (hC : Cx RX8 cX8_write 3 (some .int) D cA p s m args meth c) {N : Nat} {r : Int32} {σ' : St} : ∀ (n : Nat) (x1 : Int32) (σ : St) (H : Heap) (locs : List Loc) (ls : Array Slot), fX8_write_16 N n x1 σ = some (r, σ') → Wd kdM 31 D cA ad s σ H locs → lv_has ls 3 [(0, .ref (ad 0)), (1, .int x1)] → W p l e rmX8_write s m args below meth c H locs 0 0 (EndW kdM 31 D cA ad below args s (some (.int r)) σ') (F0 m 16 ls []) := by
  have hx := hC.1
  have hb := hC.2.1
  have hown := hC.2.2.2.1
  have hts := hC.2.2.2.2.1
  intro n
  induction n with
  | zero =>
    intro x1 σ H locs ls hf
    rw [fX8_write_16] at hf
    cases hf
  | succ n ih =>
    intro x1 σ H locs ls hf hW hl
    rw [fX8_write_16] at hf
    refine lv_iload_n hx hb dX8_write_16 rfl (lv_at hl 1 rfl) ?_
    refine lv_aload_n hx hb dX8_write_17 rfl (lv_at hl 0 rfl) ?_
    refine gfX8_107 hC hW 0 (by decide) rfl rfl dX8_write_18 ?_
    refine lv_icmp_ge (tgt := 65) hx hb dX8_write_21 (by decide) (fun h1 => ?_) (fun h1 => ?_)
    · have hf := it_t h1 hf
      refine lv_aload_n hx hb dX8_write_65 rfl (lv_at hl 0 rfl) ?_
      refine gfX8_126 hC hW 0 (by decide) rfl rfl dX8_write_66 ?_
      obtain ⟨rfl, rfl⟩ := sp hf
      exact Wd.iret hC hW dX8_write_69
    · have hf := it_f h1 hf
      refine lv_iconst (v := 0) hx hb dX8_write_24 (by decide) ?_
      refine lv_istore_n (lv' := [(2, .int (0 : Int32)), (0, .ref (ad 0)), (1, .int x1)]) hx hb dX8_write_25 rfl hl (by decide) rfl (fun ls hl => ?_)
      exact wX8_write_26 hC ih N _ _ _ _ _ _ hf hW (lv_sub hl [1, 2, 0] rfl)
def fX8_write (N : Nat) (σ : St) : Option (Int32 × St) := nx (sI σ 0 7 (0 : Int32)) (fun s1 => bd (fX8_inkNumber N ((s1.1 0 0).toInt64) s1) (fun r2 s3 => (fX8_write_16 N N (0 : Int32) s3)))
set_option maxHeartbeats 4000000 in
set_option maxRecDepth 100000 in
theorem kX8_write {l : Launch} {D : va_G} {cA : Nat → ClassId} {ad : Nat → Nat} {N : Nat} {σ : St} {r : Int32} {σ' : St} (hf : fX8_write N σ = some (r, σ')) : MW kdM 31 l D cA ad ⟨RX8, "write", "()I"⟩ cX8_write 3 (some .int) rmX8_write [.ref (ad 0)] σ (some (.int r)) σ' := by
  refine MW.of (by decide) (Nat.le_of_ble_eq_true rfl) ?_
  intro p e s m args below meth c ls hC hW hl
  have hx := hC.1
  have hb := hC.2.1
  have hown := hC.2.2.2.1
  have hts := hC.2.2.2.2.1
  have hl : lv_has ls 3 [(0, .ref (ad 0))] := hl
  unfold fX8_write at hf
  refine lv_aload_n hx hb dX8_write_0 rfl (lv_at hl 0 rfl) ?_
  refine lv_iconst (v := 0) hx hb dX8_write_1 (by decide) ?_
  refine pgfX8_126 hC hW 0 (by decide) rfl rfl dX8_write_2 (fun H locs hW => ?_)
  obtain ⟨s1, es1, hf⟩ := nx_ex hf
  rw [← es1] at hW
  refine lv_aload_n hx hb dX8_write_5 rfl (lv_at hl 0 rfl) ?_
  refine lv_aload_n hx hb dX8_write_6 rfl (lv_at hl 0 rfl) ?_
  refine gfX8_107 hC hW 0 (by decide) rfl rfl dX8_write_7 ?_
  refine lv_i2l (v := (s1.1 0 0).toInt64) hx hb dX8_write_10 rfl ?_
  obtain ⟨r2, s3, c4, hf⟩ := bd_some hf
  refine Wd.callV (n := 1) (As := [.long ((s1.1 0 0).toInt64)]) (rest := []) (rv := none) hC hW 0 (kX8_inkNumber c4) (by decide) rfl rfl q811 q813 qs49 q8 q814 ⟨rfl, rfl⟩ ⟨by decide +kernel, by decide +kernel, by decide +kernel⟩ ⟨Nat.le_of_ble_eq_true rfl, Nat.le_of_ble_eq_true rfl⟩ ⟨Nat.zero_le _, Nat.zero_le _⟩ rfl hl.1 rfl (st2 := []) rfl (Nat.le_of_ble_eq_true rfl) dX8_write_11 (fun H locs hW => ?_)
  refine lv_iconst (v := 0) hx hb dX8_write_14 (by decide) ?_
  refine lv_istore_n (lv' := [(1, .int (0 : Int32)), (0, .ref (ad 0))]) hx hb dX8_write_15 rfl hl (by decide) rfl (fun ls hl => ?_)
  exact wX8_write_16 hC N _ _ _ _ _ hf hW (lv_sub hl [1, 0] rfl)
abbrev rmX8_out : Room := { frames := 1, cells := 0, slots := 0, locals := 21 }
def fX8_out (N : Nat) (x1 : Int32) (σ : St) : Option (Int32 × St) := bd (fX8_isIn N x1 (σ.1 0 7) σ) (fun r1 s2 => if r1 = 0 then some ((-1 : Int32), s2) else gd (ib x1 2400) (some (((s2.1 5 x1.toNatClampNeg) &&& (255 : Int32)), s2)))
set_option maxHeartbeats 4000000 in
set_option maxRecDepth 100000 in
theorem kX8_out {l : Launch} {D : va_G} {cA : Nat → ClassId} {ad : Nat → Nat} {N : Nat} {x1 : Int32} {σ : St} {r : Int32} {σ' : St} (hf : fX8_out N x1 σ = some (r, σ')) : MW kdM 31 l D cA ad ⟨RX8, "out", "(I)I"⟩ cX8_out 2 (some .int) rmX8_out [.ref (ad 0), .int x1] σ (some (.int r)) σ' := by
  refine MW.of (by decide) (Nat.le_of_ble_eq_true rfl) ?_
  intro p e s m args below meth c ls hC hW hl
  have hx := hC.1
  have hb := hC.2.1
  have hown := hC.2.2.2.1
  have hts := hC.2.2.2.2.1
  have hl : lv_has ls 2 [(0, .ref (ad 0)), (1, .int x1)] := hl
  unfold fX8_out at hf
  refine lv_iload_n hx hb dX8_out_0 rfl (lv_at hl 1 rfl) ?_
  refine lv_aload_n hx hb dX8_out_1 rfl (lv_at hl 0 rfl) ?_
  refine gfX8_126 hC hW 0 (by decide) rfl rfl dX8_out_2 ?_
  obtain ⟨r1, s2, c3, hf⟩ := bd_some hf
  refine Wd.callS (n := 2) (As := [.int x1, .int (σ.1 0 7)]) (rest := []) (rv := some (.int r1)) hC hW (kX8_isIn c3) q762 q763 q8 q764 ⟨rfl, rfl⟩ ⟨by decide +kernel, by decide +kernel, by decide +kernel⟩ ⟨Nat.le_of_ble_eq_true rfl, Nat.le_of_ble_eq_true rfl⟩ ⟨Nat.zero_le _, Nat.zero_le _⟩ rfl hl.1 rfl (st2 := [.int r1]) rfl (Nat.le_of_ble_eq_true rfl) dX8_out_5 (fun H locs hW => ?_)
  refine lv_if_eq (tgt := 24) hx hb dX8_out_8 (by decide) (fun h4 => ?_) (fun h4 => ?_)
  · have hf := it_t h4 hf
    refine lv_iconst (v := (-1)) hx hb dX8_out_24 (by decide) ?_
    obtain ⟨rfl, rfl⟩ := sp hf
    exact Wd.iret hC hW dX8_out_25
  · have hf := it_f h4 hf
    refine lv_aload_n hx hb dX8_out_11 rfl (lv_at hl 0 rfl) ?_
    refine gfX8_23 hC hW 0 (by decide) rfl (q := 5) rfl dX8_out_12 ?_
    refine lv_iload_n hx hb dX8_out_15 rfl (lv_at hl 1 rfl) ?_
    obtain ⟨h5, hf⟩ := gd_some hf
    refine Wd.bald hC hW 5 (by decide) rfl h5 dX8_out_16 ?_
    refine lv_sipush (v := 255) hx hb dX8_out_17 (by decide) ?_
    refine lv_iand hx hb dX8_out_20 ?_
    refine lv_goto (tgt := 25) hx hb dX8_out_21 (by decide) ?_
    obtain ⟨rfl, rfl⟩ := sp hf
    exact Wd.iret hC hW dX8_out_25
abbrev rmX8_many : Room := { frames := 0, cells := 0, slots := 0, locals := 0 }
def fX8_many_4 (N : Nat) : Nat → Int32 → Int32 → Int32 → St → Option (Int32 × St)
  | 0, _, _, _, _ => none
  | n + 1, x0, x1, x2, σ => if (20 : Int32) ≤ x2 then some (x1, σ) else nx (x1 + ((x0 >>> (x2 &&& 31)) &&& (1 : Int32))) (fun v2 => nx (x2 + (1 : Int32)) (fun v3 => ((fX8_many_4 N n) x0 v2 v3 σ)))
set_option maxHeartbeats 4000000 in
set_option maxRecDepth 100000 in
theorem wX8_many_4 (hC : Cx RX8 cX8_many 3 (some .int) D cA p s m args meth c) {N : Nat} {r : Int32} {σ' : St} : ∀ (n : Nat) (x0 : Int32) (x1 : Int32) (x2 : Int32) (σ : St) (H : Heap) (locs : List Loc) (ls : Array Slot), fX8_many_4 N n x0 x1 x2 σ = some (r, σ') → Wd kdM 31 D cA ad s σ H locs → lv_has ls 3 [(0, .int x0), (1, .int x1), (2, .int x2)] → W p l e rmX8_many s m args below meth c H locs 0 0 (EndW kdM 31 D cA ad below args s (some (.int r)) σ') (F0 m 4 ls []) := by
  have hx := hC.1
  have hb := hC.2.1
  have hown := hC.2.2.2.1
  have hts := hC.2.2.2.2.1
  intro n
  induction n with
  | zero =>
    intro x0 x1 x2 σ H locs ls hf
    rw [fX8_many_4] at hf
    cases hf
  | succ n ih =>
    intro x0 x1 x2 σ H locs ls hf hW hl
    rw [fX8_many_4] at hf
    refine lv_iload_n hx hb dX8_many_4 rfl (lv_at hl 2 rfl) ?_
    refine lv_bipush (v := 20) hx hb dX8_many_5 (by decide) ?_
    refine lv_icmp_ge (tgt := 24) hx hb dX8_many_7 (by decide) (fun h1 => ?_) (fun h1 => ?_)
    · have hf := it_t h1 hf
      refine lv_iload_n hx hb dX8_many_24 rfl (lv_at hl 1 rfl) ?_
      obtain ⟨rfl, rfl⟩ := sp hf
      exact Wd.iret hC hW dX8_many_25
    · have hf := it_f h1 hf
      refine lv_iload_n hx hb dX8_many_10 rfl (lv_at hl 1 rfl) ?_
      refine lv_iload_n hx hb dX8_many_11 rfl (lv_at hl 0 rfl) ?_
      refine lv_iload_n hx hb dX8_many_12 rfl (lv_at hl 2 rfl) ?_
      refine lv_ishr hx hb dX8_many_13 ?_
      refine lv_iconst (v := 1) hx hb dX8_many_14 (by decide) ?_
      refine lv_iand hx hb dX8_many_15 ?_
      refine lv_iadd hx hb dX8_many_16 ?_
      refine lv_topi (fun v2 ev2 => ?_)
      have hf := nx_at ev2 hf
      refine lv_istore_n (lv' := [(1, .int v2), (0, .int x0), (2, .int x2)]) hx hb dX8_many_17 rfl hl (by decide) rfl (fun ls hl => ?_)
      obtain ⟨v3, ev3⟩ : ∃ y : Int32, y = x2 + (1 : Int32) := ⟨_, rfl⟩
      have hf := nx_at ev3 hf
      refine lv_iinc (v := v3) (lv' := [(2, .int v3), (1, .int v2), (0, .int x0)]) hx hb dX8_many_18 hl (k := 2) rfl (by rw [ev3]; rfl) (by decide) rfl (fun ls hl => ?_)
      refine lv_goto (tgt := 4) hx hb dX8_many_21 (by decide) ?_
      exact ih _ _ _ _ _ _ _ hf hW (lv_sub hl [2, 1, 0] rfl)
def fX8_many (N : Nat) (x0 : Int32) (σ : St) : Option (Int32 × St) := (fX8_many_4 N N x0 (0 : Int32) (0 : Int32) σ)
set_option maxHeartbeats 4000000 in
set_option maxRecDepth 100000 in
theorem kX8_many {l : Launch} {D : va_G} {cA : Nat → ClassId} {ad : Nat → Nat} {N : Nat} {x0 : Int32} {σ : St} {r : Int32} {σ' : St} (hf : fX8_many N x0 σ = some (r, σ')) : MW kdM 31 l D cA ad ⟨RX8, "many", "(I)I"⟩ cX8_many 3 (some .int) rmX8_many [.int x0] σ (some (.int r)) σ' := by
  refine MW.of (by decide) (Nat.le_of_ble_eq_true rfl) ?_
  intro p e s m args below meth c ls hC hW hl
  have hx := hC.1
  have hb := hC.2.1
  have hown := hC.2.2.2.1
  have hts := hC.2.2.2.2.1
  have hl : lv_has ls 3 [(0, .int x0)] := hl
  unfold fX8_many at hf
  refine lv_iconst (v := 0) hx hb dX8_many_0 (by decide) ?_
  refine lv_istore_n (lv' := [(1, .int (0 : Int32)), (0, .int x0)]) hx hb dX8_many_1 rfl hl (by decide) rfl (fun ls hl => ?_)
  refine lv_iconst (v := 0) hx hb dX8_many_2 (by decide) ?_
  refine lv_istore_n (lv' := [(2, .int (0 : Int32)), (1, .int (0 : Int32)), (0, .int x0)]) hx hb dX8_many_3 rfl hl (by decide) rfl (fun ls hl => ?_)
  exact wX8_many_4 hC N _ _ _ _ _ _ _ hf hW (lv_sub hl [2, 1, 0] rfl)
abbrev rmX8_extreme : Room := { frames := 0, cells := 0, slots := 0, locals := 0 }
def fX8_extreme_89 (N : Nat) (K6 : Int32 → Int32 → Int32 → Int32 → Int32 → St → Option (Int32 × St)) (K16 : Int32 → Int32 → Int32 → Int32 → Int32 → Int32 → St → Option (Int32 × St)) (x1 : Int32) (x2 : Int32) (x3 : Int32) (x4 : Int32) (x5 : Int32) (x6 : Int32) (σ : St) : Option (Int32 × St) := nx (x6 + (1 : Int32)) (fun v1 => (K16 x1 x2 x3 x4 x5 v1 σ))
set_option maxHeartbeats 4000000 in
set_option maxRecDepth 100000 in
theorem wX8_extreme_89 (hC : Cx RX8 cX8_extreme 8 (some .int) D cA p s m args meth c) {N : Nat} {K6 : Int32 → Int32 → Int32 → Int32 → Int32 → St → Option (Int32 × St)} {K16 : Int32 → Int32 → Int32 → Int32 → Int32 → Int32 → St → Option (Int32 × St)} {x1 : Int32} {x2 : Int32} {x3 : Int32} {x4 : Int32} {x5 : Int32} {x6 : Int32} {σ : St} {r : Int32} {σ' : St} (hK6 : ∀ (x1 : Int32) (x2 : Int32) (x3 : Int32) (x4 : Int32) (x5 : Int32) (σ : St) (H : Heap) (locs : List Loc) (ls : Array Slot), K6 x1 x2 x3 x4 x5 σ = some (r, σ') → Wd kdM 31 D cA ad s σ H locs → lv_has ls 8 [(0, .ref (ad 0)), (1, .int x1), (2, .int x2), (3, .int x3), (4, .int x4), (5, .int x5)] → W p l e rmX8_extreme s m args below meth c H locs 0 0 (EndW kdM 31 D cA ad below args s (some (.int r)) σ') (F0 m 6 ls [])) (hK16 : ∀ (x1 : Int32) (x2 : Int32) (x3 : Int32) (x4 : Int32) (x5 : Int32) (x6 : Int32) (σ : St) (H : Heap) (locs : List Loc) (ls : Array Slot), K16 x1 x2 x3 x4 x5 x6 σ = some (r, σ') → Wd kdM 31 D cA ad s σ H locs → lv_has ls 8 [(0, .ref (ad 0)), (1, .int x1), (2, .int x2), (3, .int x3), (4, .int x4), (5, .int x5), (6, .int x6)] → W p l e rmX8_extreme s m args below meth c H locs 0 0 (EndW kdM 31 D cA ad below args s (some (.int r)) σ') (F0 m 16 ls [])) {H : Heap} {locs : List Loc} {ls : Array Slot} (hf : fX8_extreme_89 N K6 K16 x1 x2 x3 x4 x5 x6 σ = some (r, σ')) (hW : Wd kdM 31 D cA ad s σ H locs) (hl : lv_has ls 8 [(0, .ref (ad 0)), (1, .int x1), (2, .int x2), (3, .int x3), (4, .int x4), (5, .int x5), (6, .int x6)]) : W p l e rmX8_extreme s m args below meth c H locs 0 0 (EndW kdM 31 D cA ad below args s (some (.int r)) σ') (F0 m 89 ls []) := by
  have hx := hC.1
  have hb := hC.2.1
  have hown := hC.2.2.2.1
  have hts := hC.2.2.2.2.1
  unfold fX8_extreme_89 at hf
  obtain ⟨v1, ev1⟩ : ∃ y : Int32, y = x6 + (1 : Int32) := ⟨_, rfl⟩
  have hf := nx_at ev1 hf
  refine lv_iinc (v := v1) (lv' := [(6, .int v1), (0, .ref (ad 0)), (1, .int x1), (2, .int x2), (3, .int x3), (4, .int x4), (5, .int x5)]) hx hb dX8_extreme_89 hl (k := 6) rfl (by rw [ev1]; rfl) (by decide) rfl (fun ls hl => ?_)
  refine lv_goto (tgt := 16) hx hb dX8_extreme_92 (by decide) ?_
  exact hK16 _ _ _ _ _ _ _ _ _ _ hf hW (lv_sub hl [1, 2, 3, 4, 5, 6, 0] rfl)
def fX8_extreme_85 (N : Nat) (K6 : Int32 → Int32 → Int32 → Int32 → Int32 → St → Option (Int32 × St)) (K16 : Int32 → Int32 → Int32 → Int32 → Int32 → Int32 → St → Option (Int32 × St)) (x1 : Int32) (x2 : Int32) (x3 : Int32) (x5 : Int32) (x6 : Int32) (x7 : Int32) (σ : St) : Option (Int32 × St) := (fX8_extreme_89 N K6 K16 x1 x2 x3 x7 x5 x6 σ)
set_option maxHeartbeats 4000000 in
set_option maxRecDepth 100000 in
theorem wX8_extreme_85 (hC : Cx RX8 cX8_extreme 8 (some .int) D cA p s m args meth c) {N : Nat} {K6 : Int32 → Int32 → Int32 → Int32 → Int32 → St → Option (Int32 × St)} {K16 : Int32 → Int32 → Int32 → Int32 → Int32 → Int32 → St → Option (Int32 × St)} {x1 : Int32} {x2 : Int32} {x3 : Int32} {x5 : Int32} {x6 : Int32} {x7 : Int32} {σ : St} {r : Int32} {σ' : St} (hK6 : ∀ (x1 : Int32) (x2 : Int32) (x3 : Int32) (x4 : Int32) (x5 : Int32) (σ : St) (H : Heap) (locs : List Loc) (ls : Array Slot), K6 x1 x2 x3 x4 x5 σ = some (r, σ') → Wd kdM 31 D cA ad s σ H locs → lv_has ls 8 [(0, .ref (ad 0)), (1, .int x1), (2, .int x2), (3, .int x3), (4, .int x4), (5, .int x5)] → W p l e rmX8_extreme s m args below meth c H locs 0 0 (EndW kdM 31 D cA ad below args s (some (.int r)) σ') (F0 m 6 ls [])) (hK16 : ∀ (x1 : Int32) (x2 : Int32) (x3 : Int32) (x4 : Int32) (x5 : Int32) (x6 : Int32) (σ : St) (H : Heap) (locs : List Loc) (ls : Array Slot), K16 x1 x2 x3 x4 x5 x6 σ = some (r, σ') → Wd kdM 31 D cA ad s σ H locs → lv_has ls 8 [(0, .ref (ad 0)), (1, .int x1), (2, .int x2), (3, .int x3), (4, .int x4), (5, .int x5), (6, .int x6)] → W p l e rmX8_extreme s m args below meth c H locs 0 0 (EndW kdM 31 D cA ad below args s (some (.int r)) σ') (F0 m 16 ls [])) {H : Heap} {locs : List Loc} {ls : Array Slot} (hf : fX8_extreme_85 N K6 K16 x1 x2 x3 x5 x6 x7 σ = some (r, σ')) (hW : Wd kdM 31 D cA ad s σ H locs) (hl : lv_has ls 8 [(0, .ref (ad 0)), (1, .int x1), (2, .int x2), (3, .int x3), (5, .int x5), (6, .int x6), (7, .int x7)]) : W p l e rmX8_extreme s m args below meth c H locs 0 0 (EndW kdM 31 D cA ad below args s (some (.int r)) σ') (F0 m 85 ls []) := by
  have hx := hC.1
  have hb := hC.2.1
  have hown := hC.2.2.2.1
  have hts := hC.2.2.2.2.1
  unfold fX8_extreme_85 at hf
  refine lv_iload hx hb dX8_extreme_85 (lv_at hl 6 rfl) ?_
  refine lv_istore (lv' := [(4, .int x7), (0, .ref (ad 0)), (1, .int x1), (2, .int x2), (3, .int x3), (5, .int x5), (6, .int x6), (7, .int x7)]) hx hb dX8_extreme_87 hl (by decide) rfl (fun ls hl => ?_)
  exact wX8_extreme_89 hC hK6 hK16 hf hW (lv_sub hl [1, 2, 3, 4, 0, 5, 6] rfl)
def fX8_extreme_16 (N : Nat) (K6 : Int32 → Int32 → Int32 → Int32 → Int32 → St → Option (Int32 × St)) : Nat → Int32 → Int32 → Int32 → Int32 → Int32 → Int32 → St → Option (Int32 × St)
  | 0, _, _, _, _, _, _, _ => none
  | n + 1, x1, x2, x3, x4, x5, x6, σ => if (20 : Int32) ≤ x6 then nx (x5 + (1 : Int32)) (fun v2 => (K6 x1 x2 x3 x4 v2 σ)) else if ((x1 >>> (x5 &&& 31)) &&& (1 : Int32)) = 0 then (fX8_extreme_89 N K6 (fX8_extreme_16 N K6 n) x1 x2 x3 x4 x5 x6 σ) else if ((x2 >>> (x6 &&& 31)) &&& (1 : Int32)) = 0 then (fX8_extreme_89 N K6 (fX8_extreme_16 N K6 n) x1 x2 x3 x4 x5 x6 σ) else gd (ib (((20 : Int32) * x5) + x6) 400) (nx (σ.1 1 (((20 : Int32) * x5) + x6).toNatClampNeg) (fun v6 => if x4 < 0 then (fX8_extreme_85 N K6 (fX8_extreme_16 N K6 n) x1 x2 x3 x5 x6 v6 σ) else if x3 = 0 then if x4 ≤ v6 then (fX8_extreme_89 N K6 (fX8_extreme_16 N K6 n) x1 x2 x3 x4 x5 x6 σ) else (fX8_extreme_85 N K6 (fX8_extreme_16 N K6 n) x1 x2 x3 x5 x6 v6 σ) else if v6 ≤ x4 then (fX8_extreme_89 N K6 (fX8_extreme_16 N K6 n) x1 x2 x3 x4 x5 x6 σ) else (fX8_extreme_85 N K6 (fX8_extreme_16 N K6 n) x1 x2 x3 x5 x6 v6 σ)))
set_option maxHeartbeats 4000000 in
set_option maxRecDepth 100000 in
theorem wX8_extreme_16 (hC : Cx RX8 cX8_extreme 8 (some .int) D cA p s m args meth c) {N : Nat} {K6 : Int32 → Int32 → Int32 → Int32 → Int32 → St → Option (Int32 × St)} {r : Int32} {σ' : St} (hK6 : ∀ (x1 : Int32) (x2 : Int32) (x3 : Int32) (x4 : Int32) (x5 : Int32) (σ : St) (H : Heap) (locs : List Loc) (ls : Array Slot), K6 x1 x2 x3 x4 x5 σ = some (r, σ') → Wd kdM 31 D cA ad s σ H locs → lv_has ls 8 [(0, .ref (ad 0)), (1, .int x1), (2, .int x2), (3, .int x3), (4, .int x4), (5, .int x5)] → W p l e rmX8_extreme s m args below meth c H locs 0 0 (EndW kdM 31 D cA ad below args s (some (.int r)) σ') (F0 m 6 ls [])) : ∀ (n : Nat) (x1 : Int32) (x2 : Int32) (x3 : Int32) (x4 : Int32) (x5 : Int32) (x6 : Int32) (σ : St) (H : Heap) (locs : List Loc) (ls : Array Slot), fX8_extreme_16 N K6 n x1 x2 x3 x4 x5 x6 σ = some (r, σ') → Wd kdM 31 D cA ad s σ H locs → lv_has ls 8 [(0, .ref (ad 0)), (1, .int x1), (2, .int x2), (3, .int x3), (4, .int x4), (5, .int x5), (6, .int x6)] → W p l e rmX8_extreme s m args below meth c H locs 0 0 (EndW kdM 31 D cA ad below args s (some (.int r)) σ') (F0 m 16 ls []) := by
  have hx := hC.1
  have hb := hC.2.1
  have hown := hC.2.2.2.1
  have hts := hC.2.2.2.2.1
  intro n
  induction n with
  | zero =>
    intro x1 x2 x3 x4 x5 x6 σ H locs ls hf
    rw [fX8_extreme_16] at hf
    cases hf
  | succ n ih =>
    intro x1 x2 x3 x4 x5 x6 σ H locs ls hf hW hl
    rw [fX8_extreme_16] at hf
    refine lv_iload hx hb dX8_extreme_16 (lv_at hl 6 rfl) ?_
    refine lv_bipush (v := 20) hx hb dX8_extreme_18 (by decide) ?_
    refine lv_icmp_ge (tgt := 95) hx hb dX8_extreme_20 (by decide) (fun h1 => ?_) (fun h1 => ?_)
    · have hf := it_t h1 hf
      obtain ⟨v2, ev2⟩ : ∃ y : Int32, y = x5 + (1 : Int32) := ⟨_, rfl⟩
      have hf := nx_at ev2 hf
      refine lv_iinc (v := v2) (lv' := [(5, .int v2), (0, .ref (ad 0)), (1, .int x1), (2, .int x2), (3, .int x3), (4, .int x4), (6, .int x6)]) hx hb dX8_extreme_95 hl (k := 5) rfl (by rw [ev2]; rfl) (by decide) rfl (fun ls hl => ?_)
      refine lv_goto (tgt := 6) hx hb dX8_extreme_98 (by decide) ?_
      exact hK6 _ _ _ _ _ _ _ _ _ hf hW (lv_sub hl [1, 2, 3, 4, 5, 0] rfl)
    · have hf := it_f h1 hf
      refine lv_iload_n hx hb dX8_extreme_23 rfl (lv_at hl 1 rfl) ?_
      refine lv_iload hx hb dX8_extreme_24 (lv_at hl 5 rfl) ?_
      refine lv_ishr hx hb dX8_extreme_26 ?_
      refine lv_iconst (v := 1) hx hb dX8_extreme_27 (by decide) ?_
      refine lv_iand hx hb dX8_extreme_28 ?_
      refine lv_if_eq (tgt := 89) hx hb dX8_extreme_29 (by decide) (fun h3 => ?_) (fun h3 => ?_)
      · have hf := it_t h3 hf
        exact wX8_extreme_89 hC hK6 ih hf hW (lv_sub hl [0, 1, 2, 3, 4, 5, 6] rfl)
      · have hf := it_f h3 hf
        refine lv_iload_n hx hb dX8_extreme_32 rfl (lv_at hl 2 rfl) ?_
        refine lv_iload hx hb dX8_extreme_33 (lv_at hl 6 rfl) ?_
        refine lv_ishr hx hb dX8_extreme_35 ?_
        refine lv_iconst (v := 1) hx hb dX8_extreme_36 (by decide) ?_
        refine lv_iand hx hb dX8_extreme_37 ?_
        refine lv_if_ne (tgt := 44) hx hb dX8_extreme_38 (by decide) (fun h4 => ?_) (fun h4 => ?_)
        · have hf := it_f h4 hf
          refine lv_aload_n hx hb dX8_extreme_44 rfl (lv_at hl 0 rfl) ?_
          refine gfX8_7 hC hW 0 (by decide) rfl (q := 1) rfl dX8_extreme_45 ?_
          refine lv_bipush (v := 20) hx hb dX8_extreme_48 (by decide) ?_
          refine lv_iload hx hb dX8_extreme_50 (lv_at hl 5 rfl) ?_
          refine lv_imul hx hb dX8_extreme_52 ?_
          refine lv_iload hx hb dX8_extreme_53 (lv_at hl 6 rfl) ?_
          refine lv_iadd hx hb dX8_extreme_55 ?_
          obtain ⟨h5, hf⟩ := gd_some hf
          refine Wd.iald hC hW 1 (by decide) rfl h5 dX8_extreme_56 ?_
          refine lv_topi (fun v6 ev6 => ?_)
          have hf := nx_at ev6 hf
          refine lv_istore (lv' := [(7, .int v6), (0, .ref (ad 0)), (1, .int x1), (2, .int x2), (3, .int x3), (4, .int x4), (5, .int x5), (6, .int x6)]) hx hb dX8_extreme_57 hl (by decide) rfl (fun ls hl => ?_)
          refine lv_iload hx hb dX8_extreme_59 (lv_at hl 5 rfl) ?_
          refine lv_if_lt (tgt := 85) hx hb dX8_extreme_61 (by decide) (fun h7 => ?_) (fun h7 => ?_)
          · have hf := it_t h7 hf
            exact wX8_extreme_85 hC hK6 ih hf hW (lv_sub hl [1, 2, 3, 4, 6, 7, 0] rfl)
          · have hf := it_f h7 hf
            refine lv_iload_n hx hb dX8_extreme_64 rfl (lv_at hl 4 rfl) ?_
            refine lv_if_eq (tgt := 78) hx hb dX8_extreme_65 (by decide) (fun h8 => ?_) (fun h8 => ?_)
            · have hf := it_t h8 hf
              refine lv_iload hx hb dX8_extreme_78 (lv_at hl 0 rfl) ?_
              refine lv_iload hx hb dX8_extreme_80 (lv_at hl 5 rfl) ?_
              refine lv_icmp_ge (tgt := 89) hx hb dX8_extreme_82 (by decide) (fun h9 => ?_) (fun h9 => ?_)
              · have hf := it_t h9 hf
                exact wX8_extreme_89 hC hK6 ih hf hW (lv_sub hl [1, 2, 3, 4, 5, 6, 7] rfl)
              · have hf := it_f h9 hf
                exact wX8_extreme_85 hC hK6 ih hf hW (lv_sub hl [1, 2, 3, 4, 6, 7, 0] rfl)
            · have hf := it_f h8 hf
              refine lv_iload hx hb dX8_extreme_68 (lv_at hl 0 rfl) ?_
              refine lv_iload hx hb dX8_extreme_70 (lv_at hl 5 rfl) ?_
              refine lv_icmp_le (tgt := 89) hx hb dX8_extreme_72 (by decide) (fun h10 => ?_) (fun h10 => ?_)
              · have hf := it_t h10 hf
                exact wX8_extreme_89 hC hK6 ih hf hW (lv_sub hl [1, 2, 3, 4, 5, 6, 7] rfl)
              · have hf := it_f h10 hf
                refine lv_goto (tgt := 85) hx hb dX8_extreme_75 (by decide) ?_
                exact wX8_extreme_85 hC hK6 ih hf hW (lv_sub hl [1, 2, 3, 4, 6, 7, 0] rfl)
        · have hf := it_t h4 hf
          refine lv_goto (tgt := 89) hx hb dX8_extreme_41 (by decide) ?_
          exact wX8_extreme_89 hC hK6 ih hf hW (lv_sub hl [0, 1, 2, 3, 4, 5, 6] rfl)
def fX8_extreme_6 (N : Nat) : Nat → Int32 → Int32 → Int32 → Int32 → Int32 → St → Option (Int32 × St)
  | 0, _, _, _, _, _, _ => none
  | n + 1, x1, x2, x3, x4, x5, σ => if (20 : Int32) ≤ x5 then some (x4, σ) else (fX8_extreme_16 N (fX8_extreme_6 N n) N x1 x2 x3 x4 x5 (0 : Int32) σ)
set_option maxHeartbeats 4000000 in
set_option maxRecDepth 100000 in
theorem wX8_extreme_6 (hC : Cx RX8 cX8_extreme 8 (some .int) D cA p s m args meth c) {N : Nat} {r : Int32} {σ' : St} : ∀ (n : Nat) (x1 : Int32) (x2 : Int32) (x3 : Int32) (x4 : Int32) (x5 : Int32) (σ : St) (H : Heap) (locs : List Loc) (ls : Array Slot), fX8_extreme_6 N n x1 x2 x3 x4 x5 σ = some (r, σ') → Wd kdM 31 D cA ad s σ H locs → lv_has ls 8 [(0, .ref (ad 0)), (1, .int x1), (2, .int x2), (3, .int x3), (4, .int x4), (5, .int x5)] → W p l e rmX8_extreme s m args below meth c H locs 0 0 (EndW kdM 31 D cA ad below args s (some (.int r)) σ') (F0 m 6 ls []) := by
  have hx := hC.1
  have hb := hC.2.1
  have hown := hC.2.2.2.1
  have hts := hC.2.2.2.2.1
  intro n
  induction n with
  | zero =>
    intro x1 x2 x3 x4 x5 σ H locs ls hf
    rw [fX8_extreme_6] at hf
    cases hf
  | succ n ih =>
    intro x1 x2 x3 x4 x5 σ H locs ls hf hW hl
    rw [fX8_extreme_6] at hf
    refine lv_iload hx hb dX8_extreme_6 (lv_at hl 5 rfl) ?_
    refine lv_bipush (v := 20) hx hb dX8_extreme_8 (by decide) ?_
    refine lv_icmp_ge (tgt := 101) hx hb dX8_extreme_10 (by decide) (fun h1 => ?_) (fun h1 => ?_)
    · have hf := it_t h1 hf
      refine lv_iload hx hb dX8_extreme_101 (lv_at hl 4 rfl) ?_
      obtain ⟨rfl, rfl⟩ := sp hf
      exact Wd.iret hC hW dX8_extreme_103
    · have hf := it_f h1 hf
      refine lv_iconst (v := 0) hx hb dX8_extreme_13 (by decide) ?_
      refine lv_istore (lv' := [(6, .int (0 : Int32)), (0, .ref (ad 0)), (1, .int x1), (2, .int x2), (3, .int x3), (4, .int x4), (5, .int x5)]) hx hb dX8_extreme_14 hl (by decide) rfl (fun ls hl => ?_)
      exact wX8_extreme_16 hC ih N _ _ _ _ _ _ _ _ _ _ hf hW (lv_sub hl [1, 2, 3, 4, 5, 6, 0] rfl)
def fX8_extreme (N : Nat) (x1 : Int32) (x2 : Int32) (x3 : Int32) (σ : St) : Option (Int32 × St) := (fX8_extreme_6 N N x1 x2 x3 (-1 : Int32) (0 : Int32) σ)
set_option maxHeartbeats 4000000 in
set_option maxRecDepth 100000 in
theorem kX8_extreme {l : Launch} {D : va_G} {cA : Nat → ClassId} {ad : Nat → Nat} {N : Nat} {x1 : Int32} {x2 : Int32} {x3 : Int32} {σ : St} {r : Int32} {σ' : St} (hf : fX8_extreme N x1 x2 x3 σ = some (r, σ')) : MW kdM 31 l D cA ad ⟨RX8, "extreme", "(IIZ)I"⟩ cX8_extreme 8 (some .int) rmX8_extreme [.ref (ad 0), .int x1, .int x2, .int x3] σ (some (.int r)) σ' := by
  refine MW.of (by decide) (Nat.le_of_ble_eq_true rfl) ?_
  intro p e s m args below meth c ls hC hW hl
  have hx := hC.1
  have hb := hC.2.1
  have hown := hC.2.2.2.1
  have hts := hC.2.2.2.2.1
  have hl : lv_has ls 8 [(0, .ref (ad 0)), (1, .int x1), (2, .int x2), (3, .int x3)] := hl
  unfold fX8_extreme at hf
  refine lv_iconst (v := (-1)) hx hb dX8_extreme_0 (by decide) ?_
  refine lv_istore (lv' := [(4, .int (-1 : Int32)), (0, .ref (ad 0)), (1, .int x1), (2, .int x2), (3, .int x3)]) hx hb dX8_extreme_1 hl (by decide) rfl (fun ls hl => ?_)
  refine lv_iconst (v := 0) hx hb dX8_extreme_3 (by decide) ?_
  refine lv_istore (lv' := [(5, .int (0 : Int32)), (4, .int (-1 : Int32)), (0, .ref (ad 0)), (1, .int x1), (2, .int x2), (3, .int x3)]) hx hb dX8_extreme_4 hl (by decide) rfl (fun ls hl => ?_)
  exact wX8_extreme_6 hC N _ _ _ _ _ _ _ _ _ hf hW (lv_sub hl [2, 3, 4, 5, 1, 0] rfl)
abbrev rmX8_lowest : Room := { frames := 0, cells := 0, slots := 0, locals := 0 }
def fX8_lowest_17 (N : Nat) : Nat → Int64 → Int64 → Int64 → Int64 → St → Option (Unit × St)
  | 0, _, _, _, _, _ => none
  | n + 1, x1, x3, x5, x7, σ => if (lg_cmp x5 (0 : Int64)) = 0 then ndz (x7 = 0) inferInstance (nx (sJ σ 0 12 (x1 / x7)) (fun s3 => ndz (x7 = 0) inferInstance (nx (sJ s3 0 13 (x3 / x7)) (fun s5 => some ((), s5))))) else ndz (x5 = 0) inferInstance (nx (x7 - x7 / x5 * x5) (fun v7 => ((fX8_lowest_17 N n) x1 x3 v7 x5 σ)))
set_option maxHeartbeats 4000000 in
set_option maxRecDepth 100000 in
theorem wX8_lowest_17 (hC : Cx RX8 cX8_lowest 11 none D cA p s m args meth c) {N : Nat} {r : Unit} {σ' : St} : ∀ (n : Nat) (x1 : Int64) (x3 : Int64) (x5 : Int64) (x7 : Int64) (σ : St) (H : Heap) (locs : List Loc) (ls : Array Slot), fX8_lowest_17 N n x1 x3 x5 x7 σ = some (r, σ') → Wd kdM 31 D cA ad s σ H locs → lv_has ls 11 [(0, .ref (ad 0)), (1, .long x1), (3, .long x3), (5, .long x5), (7, .long x7)] → W p l e rmX8_lowest s m args below meth c H locs 0 0 (EndW kdM 31 D cA ad below args s none σ') (F0 m 17 ls []) := by
  have hx := hC.1
  have hb := hC.2.1
  have hown := hC.2.2.2.1
  have hts := hC.2.2.2.2.1
  intro n
  induction n with
  | zero =>
    intro x1 x3 x5 x7 σ H locs ls hf
    rw [fX8_lowest_17] at hf
    cases hf
  | succ n ih =>
    intro x1 x3 x5 x7 σ H locs ls hf hW hl
    rw [fX8_lowest_17] at hf
    refine lv_lload hx hb dX8_lowest_17 (lv_at hl 3 rfl) ?_
    refine lv_lconst (v := 0) hx hb dX8_lowest_19 (by decide) ?_
    refine W.lcmp hx hb dX8_lowest_20 ?_
    refine lv_if_eq (tgt := 42) hx hb dX8_lowest_21 (by decide) (fun h1 => ?_) (fun h1 => ?_)
    · have hf := it_t h1 hf
      refine lv_aload_n hx hb dX8_lowest_42 rfl (lv_at hl 0 rfl) ?_
      refine lv_lload_n hx hb dX8_lowest_43 rfl (lv_at hl 1 rfl) ?_
      refine lv_lload hx hb dX8_lowest_44 (lv_at hl 4 rfl) ?_
      obtain ⟨h2, hf⟩ := ndz_some hf
      refine lv_ldiv hx hb dX8_lowest_46 h2 ?_
      refine pgfX8_154 hC hW 0 (by decide) rfl rfl dX8_lowest_47 (fun H locs hW => ?_)
      obtain ⟨s3, es3, hf⟩ := nx_ex hf
      rw [← es3] at hW
      refine lv_aload_n hx hb dX8_lowest_50 rfl (lv_at hl 0 rfl) ?_
      refine lv_lload_n hx hb dX8_lowest_51 rfl (lv_at hl 2 rfl) ?_
      refine lv_lload hx hb dX8_lowest_52 (lv_at hl 4 rfl) ?_
      obtain ⟨h4, hf⟩ := ndz_some hf
      refine lv_ldiv hx hb dX8_lowest_54 h4 ?_
      refine pgfX8_158 hC hW 0 (by decide) rfl rfl dX8_lowest_55 (fun H locs hW => ?_)
      obtain ⟨s5, es5, hf⟩ := nx_ex hf
      rw [← es5] at hW
      obtain ⟨-, rfl⟩ := sp hf
      exact Wd.vret hC hW dX8_lowest_58
    · have hf := it_f h1 hf
      refine lv_lload hx hb dX8_lowest_24 (lv_at hl 4 rfl) ?_
      refine lv_lload hx hb dX8_lowest_26 (lv_at hl 3 rfl) ?_
      obtain ⟨h6, hf⟩ := ndz_some hf
      refine lv_lrem hx hb dX8_lowest_28 h6 ?_
      refine lv_topl (fun v7 ev7 => ?_)
      have hf := nx_at ev7 hf
      refine lv_lstore (lv' := [(9, .long v7), (0, .ref (ad 0)), (1, .long x1), (3, .long x3), (5, .long x5), (7, .long x7)]) hx hb dX8_lowest_29 hl (by decide) rfl (fun ls hl => ?_)
      refine lv_lload hx hb dX8_lowest_31 (lv_at hl 4 rfl) ?_
      refine lv_lstore (lv' := [(7, .long x5), (9, .long v7), (0, .ref (ad 0)), (1, .long x1), (3, .long x3), (5, .long x5)]) hx hb dX8_lowest_33 hl (by decide) rfl (fun ls hl => ?_)
      refine lv_lload hx hb dX8_lowest_35 (lv_at hl 1 rfl) ?_
      refine lv_lstore (lv' := [(5, .long v7), (7, .long x5), (9, .long v7), (0, .ref (ad 0)), (1, .long x1), (3, .long x3)]) hx hb dX8_lowest_37 hl (by decide) rfl (fun ls hl => ?_)
      refine lv_goto (tgt := 17) hx hb dX8_lowest_39 (by decide) ?_
      exact ih _ _ _ _ _ _ _ _ hf hW (lv_sub hl [3, 4, 5, 0, 1] rfl)
def fX8_lowest_12 (N : Nat) (x1 : Int64) (x3 : Int64) (y0 : Int64) (σ : St) : Option (Unit × St) := (fX8_lowest_17 N N x1 x3 y0 x3 σ)
set_option maxHeartbeats 4000000 in
set_option maxRecDepth 100000 in
theorem wX8_lowest_12 (hC : Cx RX8 cX8_lowest 11 none D cA p s m args meth c) {N : Nat} {x1 : Int64} {x3 : Int64} {y0 : Int64} {σ : St} {r : Unit} {σ' : St} {H : Heap} {locs : List Loc} {ls : Array Slot} (hf : fX8_lowest_12 N x1 x3 y0 σ = some (r, σ')) (hW : Wd kdM 31 D cA ad s σ H locs) (hl : lv_has ls 11 [(0, .ref (ad 0)), (1, .long x1), (3, .long x3)]) : W p l e rmX8_lowest s m args below meth c H locs 0 0 (EndW kdM 31 D cA ad below args s none σ') (F0 m 12 ls [.long y0]) := by
  have hx := hC.1
  have hb := hC.2.1
  have hown := hC.2.2.2.1
  have hts := hC.2.2.2.2.1
  unfold fX8_lowest_12 at hf
  refine lv_lstore (lv' := [(5, .long y0), (0, .ref (ad 0)), (1, .long x1), (3, .long x3)]) hx hb dX8_lowest_12 hl (by decide) rfl (fun ls hl => ?_)
  refine lv_lload_n hx hb dX8_lowest_14 rfl (lv_at hl 3 rfl) ?_
  refine lv_lstore (lv' := [(7, .long x3), (5, .long y0), (0, .ref (ad 0)), (1, .long x1), (3, .long x3)]) hx hb dX8_lowest_15 hl (by decide) rfl (fun ls hl => ?_)
  exact wX8_lowest_17 hC N _ _ _ _ _ _ _ _ hf hW (lv_sub hl [2, 3, 4, 1, 0] rfl)
def fX8_lowest (N : Nat) (x1 : Int64) (x3 : Int64) (σ : St) : Option (Unit × St) := if 0 ≤ (lg_cmp x1 (0 : Int64)) then (fX8_lowest_12 N x1 x3 x1 σ) else (fX8_lowest_12 N x1 x3 (-x1) σ)
set_option maxHeartbeats 4000000 in
set_option maxRecDepth 100000 in
theorem kX8_lowest {l : Launch} {D : va_G} {cA : Nat → ClassId} {ad : Nat → Nat} {N : Nat} {x1 : Int64} {x3 : Int64} {σ : St} {r : Unit} {σ' : St} (hf : fX8_lowest N x1 x3 σ = some (r, σ')) : MW kdM 31 l D cA ad ⟨RX8, "lowest", "(JJ)V"⟩ cX8_lowest 11 none rmX8_lowest [.ref (ad 0), .long x1, .long x3] σ none σ' := by
  refine MW.of (by decide) (Nat.le_of_ble_eq_true rfl) ?_
  intro p e s m args below meth c ls hC hW hl
  have hx := hC.1
  have hb := hC.2.1
  have hown := hC.2.2.2.1
  have hts := hC.2.2.2.2.1
  have hl : lv_has ls 11 [(0, .ref (ad 0)), (1, .long x1), (3, .long x3)] := hl
  unfold fX8_lowest at hf
  refine lv_lload_n hx hb dX8_lowest_0 rfl (lv_at hl 1 rfl) ?_
  refine lv_lconst (v := 0) hx hb dX8_lowest_1 (by decide) ?_
  refine W.lcmp hx hb dX8_lowest_2 ?_
  refine lv_if_ge (tgt := 11) hx hb dX8_lowest_3 (by decide) (fun h1 => ?_) (fun h1 => ?_)
  · have hf := it_t h1 hf
    refine lv_lload_n hx hb dX8_lowest_11 rfl (lv_at hl 1 rfl) ?_
    exact wX8_lowest_12 hC hf hW (lv_sub hl [0, 1, 2] rfl)
  · have hf := it_f h1 hf
    refine lv_lload_n hx hb dX8_lowest_6 rfl (lv_at hl 1 rfl) ?_
    refine lv_lneg hx hb dX8_lowest_7 ?_
    refine lv_goto (tgt := 12) hx hb dX8_lowest_8 (by decide) ?_
    exact wX8_lowest_12 hC hf hW (lv_sub hl [0, 1, 2] rfl)
abbrev rmX8_between : Room := { frames := 0, cells := 0, slots := 0, locals := 0 }
def fX8_between_61 (N : Nat) (K5 : Int32 → Int32 → Int64 → Int32 → St → Option (Int64 × St)) (K15 : Int32 → Int32 → Int64 → Int32 → Int32 → St → Option (Int64 × St)) (x1 : Int32) (x2 : Int32) (x5 : Int32) (x6 : Int32) (y0 : Int64) (y1 : Int64) (σ : St) : Option (Int64 × St) := nx (y1 + y0) (fun v1 => nx (x6 + (1 : Int32)) (fun v2 => (K15 x1 x2 v1 x5 v2 σ)))
set_option maxHeartbeats 4000000 in
set_option maxRecDepth 100000 in
theorem wX8_between_61 (hC : Cx RX8 cX8_between 7 (some .long) D cA p s m args meth c) {N : Nat} {K5 : Int32 → Int32 → Int64 → Int32 → St → Option (Int64 × St)} {K15 : Int32 → Int32 → Int64 → Int32 → Int32 → St → Option (Int64 × St)} {x1 : Int32} {x2 : Int32} {x5 : Int32} {x6 : Int32} {y0 : Int64} {y1 : Int64} {σ : St} {r : Int64} {σ' : St} (hK5 : ∀ (x1 : Int32) (x2 : Int32) (x3 : Int64) (x5 : Int32) (σ : St) (H : Heap) (locs : List Loc) (ls : Array Slot), K5 x1 x2 x3 x5 σ = some (r, σ') → Wd kdM 31 D cA ad s σ H locs → lv_has ls 7 [(0, .ref (ad 0)), (1, .int x1), (2, .int x2), (3, .long x3), (5, .int x5)] → W p l e rmX8_between s m args below meth c H locs 0 0 (EndW kdM 31 D cA ad below args s (some (.long r)) σ') (F0 m 5 ls [])) (hK15 : ∀ (x1 : Int32) (x2 : Int32) (x3 : Int64) (x5 : Int32) (x6 : Int32) (σ : St) (H : Heap) (locs : List Loc) (ls : Array Slot), K15 x1 x2 x3 x5 x6 σ = some (r, σ') → Wd kdM 31 D cA ad s σ H locs → lv_has ls 7 [(0, .ref (ad 0)), (1, .int x1), (2, .int x2), (3, .long x3), (5, .int x5), (6, .int x6)] → W p l e rmX8_between s m args below meth c H locs 0 0 (EndW kdM 31 D cA ad below args s (some (.long r)) σ') (F0 m 15 ls [])) {H : Heap} {locs : List Loc} {ls : Array Slot} (hf : fX8_between_61 N K5 K15 x1 x2 x5 x6 y0 y1 σ = some (r, σ')) (hW : Wd kdM 31 D cA ad s σ H locs) (hl : lv_has ls 7 [(0, .ref (ad 0)), (1, .int x1), (2, .int x2), (5, .int x5), (6, .int x6)]) : W p l e rmX8_between s m args below meth c H locs 0 0 (EndW kdM 31 D cA ad below args s (some (.long r)) σ') (F0 m 61 ls [.long y0, .long y1]) := by
  have hx := hC.1
  have hb := hC.2.1
  have hown := hC.2.2.2.1
  have hts := hC.2.2.2.2.1
  unfold fX8_between_61 at hf
  refine lv_ladd hx hb dX8_between_61 ?_
  refine lv_topl (fun v1 ev1 => ?_)
  have hf := nx_at ev1 hf
  refine lv_lstore_n (lv' := [(3, .long v1), (0, .ref (ad 0)), (1, .int x1), (2, .int x2), (5, .int x5), (6, .int x6)]) hx hb dX8_between_62 rfl hl (by decide) rfl (fun ls hl => ?_)
  obtain ⟨v2, ev2⟩ : ∃ y : Int32, y = x6 + (1 : Int32) := ⟨_, rfl⟩
  have hf := nx_at ev2 hf
  refine lv_iinc (v := v2) (lv' := [(6, .int v2), (3, .long v1), (0, .ref (ad 0)), (1, .int x1), (2, .int x2), (5, .int x5)]) hx hb dX8_between_63 hl (k := 5) rfl (by rw [ev2]; rfl) (by decide) rfl (fun ls hl => ?_)
  refine lv_goto (tgt := 15) hx hb dX8_between_66 (by decide) ?_
  exact hK15 _ _ _ _ _ _ _ _ _ hf hW (lv_sub hl [2, 3, 4, 1, 5, 0] rfl)
def fX8_between_60 (N : Nat) (K5 : Int32 → Int32 → Int64 → Int32 → St → Option (Int64 × St)) (K15 : Int32 → Int32 → Int64 → Int32 → Int32 → St → Option (Int64 × St)) (x1 : Int32) (x2 : Int32) (x5 : Int32) (x6 : Int32) (y0 : Int64) (σ : St) : Option (Int64 × St) := (fX8_between_61 N K5 K15 x1 x2 x5 x6 (0 : Int64) y0 σ)
set_option maxHeartbeats 4000000 in
set_option maxRecDepth 100000 in
theorem wX8_between_60 (hC : Cx RX8 cX8_between 7 (some .long) D cA p s m args meth c) {N : Nat} {K5 : Int32 → Int32 → Int64 → Int32 → St → Option (Int64 × St)} {K15 : Int32 → Int32 → Int64 → Int32 → Int32 → St → Option (Int64 × St)} {x1 : Int32} {x2 : Int32} {x5 : Int32} {x6 : Int32} {y0 : Int64} {σ : St} {r : Int64} {σ' : St} (hK5 : ∀ (x1 : Int32) (x2 : Int32) (x3 : Int64) (x5 : Int32) (σ : St) (H : Heap) (locs : List Loc) (ls : Array Slot), K5 x1 x2 x3 x5 σ = some (r, σ') → Wd kdM 31 D cA ad s σ H locs → lv_has ls 7 [(0, .ref (ad 0)), (1, .int x1), (2, .int x2), (3, .long x3), (5, .int x5)] → W p l e rmX8_between s m args below meth c H locs 0 0 (EndW kdM 31 D cA ad below args s (some (.long r)) σ') (F0 m 5 ls [])) (hK15 : ∀ (x1 : Int32) (x2 : Int32) (x3 : Int64) (x5 : Int32) (x6 : Int32) (σ : St) (H : Heap) (locs : List Loc) (ls : Array Slot), K15 x1 x2 x3 x5 x6 σ = some (r, σ') → Wd kdM 31 D cA ad s σ H locs → lv_has ls 7 [(0, .ref (ad 0)), (1, .int x1), (2, .int x2), (3, .long x3), (5, .int x5), (6, .int x6)] → W p l e rmX8_between s m args below meth c H locs 0 0 (EndW kdM 31 D cA ad below args s (some (.long r)) σ') (F0 m 15 ls [])) {H : Heap} {locs : List Loc} {ls : Array Slot} (hf : fX8_between_60 N K5 K15 x1 x2 x5 x6 y0 σ = some (r, σ')) (hW : Wd kdM 31 D cA ad s σ H locs) (hl : lv_has ls 7 [(0, .ref (ad 0)), (1, .int x1), (2, .int x2), (5, .int x5), (6, .int x6)]) : W p l e rmX8_between s m args below meth c H locs 0 0 (EndW kdM 31 D cA ad below args s (some (.long r)) σ') (F0 m 60 ls [.long y0]) := by
  have hx := hC.1
  have hb := hC.2.1
  have hown := hC.2.2.2.1
  have hts := hC.2.2.2.2.1
  unfold fX8_between_60 at hf
  refine lv_lconst (v := 0) hx hb dX8_between_60 (by decide) ?_
  exact wX8_between_61 hC hK5 hK15 hf hW (lv_sub hl [0, 1, 2, 3, 4] rfl)
def fX8_between_15 (N : Nat) (K5 : Int32 → Int32 → Int64 → Int32 → St → Option (Int64 × St)) : Nat → Int32 → Int32 → Int64 → Int32 → Int32 → St → Option (Int64 × St)
  | 0, _, _, _, _, _, _ => none
  | n + 1, x1, x2, x3, x5, x6, σ => if (20 : Int32) ≤ x6 then nx (x5 + (1 : Int32)) (fun v2 => (K5 x1 x2 x3 v2 σ)) else if ((x1 >>> (x5 &&& 31)) &&& (1 : Int32)) = (1 : Int32) then if ((x2 >>> (x6 &&& 31)) &&& (1 : Int32)) = (1 : Int32) then gd (ib (((20 : Int32) * x5) + x6) 400) ((fX8_between_61 N K5 (fX8_between_15 N K5 n) x1 x2 x5 x6 ((σ.1 1 (((20 : Int32) * x5) + x6).toNatClampNeg).toInt64) x3 σ)) else (fX8_between_60 N K5 (fX8_between_15 N K5 n) x1 x2 x5 x6 x3 σ) else (fX8_between_60 N K5 (fX8_between_15 N K5 n) x1 x2 x5 x6 x3 σ)
set_option maxHeartbeats 4000000 in
set_option maxRecDepth 100000 in
theorem wX8_between_15 (hC : Cx RX8 cX8_between 7 (some .long) D cA p s m args meth c) {N : Nat} {K5 : Int32 → Int32 → Int64 → Int32 → St → Option (Int64 × St)} {r : Int64} {σ' : St} (hK5 : ∀ (x1 : Int32) (x2 : Int32) (x3 : Int64) (x5 : Int32) (σ : St) (H : Heap) (locs : List Loc) (ls : Array Slot), K5 x1 x2 x3 x5 σ = some (r, σ') → Wd kdM 31 D cA ad s σ H locs → lv_has ls 7 [(0, .ref (ad 0)), (1, .int x1), (2, .int x2), (3, .long x3), (5, .int x5)] → W p l e rmX8_between s m args below meth c H locs 0 0 (EndW kdM 31 D cA ad below args s (some (.long r)) σ') (F0 m 5 ls [])) : ∀ (n : Nat) (x1 : Int32) (x2 : Int32) (x3 : Int64) (x5 : Int32) (x6 : Int32) (σ : St) (H : Heap) (locs : List Loc) (ls : Array Slot), fX8_between_15 N K5 n x1 x2 x3 x5 x6 σ = some (r, σ') → Wd kdM 31 D cA ad s σ H locs → lv_has ls 7 [(0, .ref (ad 0)), (1, .int x1), (2, .int x2), (3, .long x3), (5, .int x5), (6, .int x6)] → W p l e rmX8_between s m args below meth c H locs 0 0 (EndW kdM 31 D cA ad below args s (some (.long r)) σ') (F0 m 15 ls []) := by
  have hx := hC.1
  have hb := hC.2.1
  have hown := hC.2.2.2.1
  have hts := hC.2.2.2.2.1
  intro n
  induction n with
  | zero =>
    intro x1 x2 x3 x5 x6 σ H locs ls hf
    rw [fX8_between_15] at hf
    cases hf
  | succ n ih =>
    intro x1 x2 x3 x5 x6 σ H locs ls hf hW hl
    rw [fX8_between_15] at hf
    refine lv_iload hx hb dX8_between_15 (lv_at hl 5 rfl) ?_
    refine lv_bipush (v := 20) hx hb dX8_between_17 (by decide) ?_
    refine lv_icmp_ge (tgt := 69) hx hb dX8_between_19 (by decide) (fun h1 => ?_) (fun h1 => ?_)
    · have hf := it_t h1 hf
      obtain ⟨v2, ev2⟩ : ∃ y : Int32, y = x5 + (1 : Int32) := ⟨_, rfl⟩
      have hf := nx_at ev2 hf
      refine lv_iinc (v := v2) (lv' := [(5, .int v2), (0, .ref (ad 0)), (1, .int x1), (2, .int x2), (3, .long x3), (6, .int x6)]) hx hb dX8_between_69 hl (k := 4) rfl (by rw [ev2]; rfl) (by decide) rfl (fun ls hl => ?_)
      refine lv_goto (tgt := 5) hx hb dX8_between_72 (by decide) ?_
      exact hK5 _ _ _ _ _ _ _ _ hf hW (lv_sub hl [1, 2, 3, 4, 0] rfl)
    · have hf := it_f h1 hf
      refine lv_lload_n hx hb dX8_between_22 rfl (lv_at hl 3 rfl) ?_
      refine lv_iload_n hx hb dX8_between_23 rfl (lv_at hl 1 rfl) ?_
      refine lv_iload hx hb dX8_between_24 (lv_at hl 4 rfl) ?_
      refine lv_ishr hx hb dX8_between_26 ?_
      refine lv_iconst (v := 1) hx hb dX8_between_27 (by decide) ?_
      refine lv_iand hx hb dX8_between_28 ?_
      refine lv_iconst (v := 1) hx hb dX8_between_29 (by decide) ?_
      refine lv_icmp_ne (tgt := 60) hx hb dX8_between_30 (by decide) (fun h3 => ?_) (fun h3 => ?_)
      · have hf := it_f h3 hf
        exact wX8_between_60 hC hK5 ih hf hW (lv_sub hl [0, 1, 2, 4, 5] rfl)
      · have hf := it_t h3 hf
        refine lv_iload_n hx hb dX8_between_33 rfl (lv_at hl 2 rfl) ?_
        refine lv_iload hx hb dX8_between_34 (lv_at hl 5 rfl) ?_
        refine lv_ishr hx hb dX8_between_36 ?_
        refine lv_iconst (v := 1) hx hb dX8_between_37 (by decide) ?_
        refine lv_iand hx hb dX8_between_38 ?_
        refine lv_iconst (v := 1) hx hb dX8_between_39 (by decide) ?_
        refine lv_icmp_ne (tgt := 60) hx hb dX8_between_40 (by decide) (fun h4 => ?_) (fun h4 => ?_)
        · have hf := it_f h4 hf
          exact wX8_between_60 hC hK5 ih hf hW (lv_sub hl [0, 1, 2, 4, 5] rfl)
        · have hf := it_t h4 hf
          refine lv_aload_n hx hb dX8_between_43 rfl (lv_at hl 0 rfl) ?_
          refine gfX8_7 hC hW 0 (by decide) rfl (q := 1) rfl dX8_between_44 ?_
          refine lv_bipush (v := 20) hx hb dX8_between_47 (by decide) ?_
          refine lv_iload hx hb dX8_between_49 (lv_at hl 4 rfl) ?_
          refine lv_imul hx hb dX8_between_51 ?_
          refine lv_iload hx hb dX8_between_52 (lv_at hl 5 rfl) ?_
          refine lv_iadd hx hb dX8_between_54 ?_
          obtain ⟨h5, hf⟩ := gd_some hf
          refine Wd.iald hC hW 1 (by decide) rfl h5 dX8_between_55 ?_
          refine lv_i2l (v := (σ.1 1 (((20 : Int32) * x5) + x6).toNatClampNeg).toInt64) hx hb dX8_between_56 rfl ?_
          refine lv_goto (tgt := 61) hx hb dX8_between_57 (by decide) ?_
          exact wX8_between_61 hC hK5 ih hf hW (lv_sub hl [0, 1, 2, 4, 5] rfl)
def fX8_between_5 (N : Nat) : Nat → Int32 → Int32 → Int64 → Int32 → St → Option (Int64 × St)
  | 0, _, _, _, _, _ => none
  | n + 1, x1, x2, x3, x5, σ => if (20 : Int32) ≤ x5 then some (x3, σ) else (fX8_between_15 N (fX8_between_5 N n) N x1 x2 x3 x5 (0 : Int32) σ)
set_option maxHeartbeats 4000000 in
set_option maxRecDepth 100000 in
theorem wX8_between_5 (hC : Cx RX8 cX8_between 7 (some .long) D cA p s m args meth c) {N : Nat} {r : Int64} {σ' : St} : ∀ (n : Nat) (x1 : Int32) (x2 : Int32) (x3 : Int64) (x5 : Int32) (σ : St) (H : Heap) (locs : List Loc) (ls : Array Slot), fX8_between_5 N n x1 x2 x3 x5 σ = some (r, σ') → Wd kdM 31 D cA ad s σ H locs → lv_has ls 7 [(0, .ref (ad 0)), (1, .int x1), (2, .int x2), (3, .long x3), (5, .int x5)] → W p l e rmX8_between s m args below meth c H locs 0 0 (EndW kdM 31 D cA ad below args s (some (.long r)) σ') (F0 m 5 ls []) := by
  have hx := hC.1
  have hb := hC.2.1
  have hown := hC.2.2.2.1
  have hts := hC.2.2.2.2.1
  intro n
  induction n with
  | zero =>
    intro x1 x2 x3 x5 σ H locs ls hf
    rw [fX8_between_5] at hf
    cases hf
  | succ n ih =>
    intro x1 x2 x3 x5 σ H locs ls hf hW hl
    rw [fX8_between_5] at hf
    refine lv_iload hx hb dX8_between_5 (lv_at hl 4 rfl) ?_
    refine lv_bipush (v := 20) hx hb dX8_between_7 (by decide) ?_
    refine lv_icmp_ge (tgt := 75) hx hb dX8_between_9 (by decide) (fun h1 => ?_) (fun h1 => ?_)
    · have hf := it_t h1 hf
      refine lv_lload_n hx hb dX8_between_75 rfl (lv_at hl 3 rfl) ?_
      obtain ⟨rfl, rfl⟩ := sp hf
      exact Wd.lret hC hW dX8_between_76
    · have hf := it_f h1 hf
      refine lv_iconst (v := 0) hx hb dX8_between_12 (by decide) ?_
      refine lv_istore (lv' := [(6, .int (0 : Int32)), (0, .ref (ad 0)), (1, .int x1), (2, .int x2), (3, .long x3), (5, .int x5)]) hx hb dX8_between_13 hl (by decide) rfl (fun ls hl => ?_)
      exact wX8_between_15 hC ih N _ _ _ _ _ _ _ _ _ hf hW (lv_sub hl [1, 2, 3, 4, 5, 0] rfl)
def fX8_between (N : Nat) (x1 : Int32) (x2 : Int32) (σ : St) : Option (Int64 × St) := (fX8_between_5 N N x1 x2 (0 : Int64) (0 : Int32) σ)
set_option maxHeartbeats 4000000 in
set_option maxRecDepth 100000 in
theorem kX8_between {l : Launch} {D : va_G} {cA : Nat → ClassId} {ad : Nat → Nat} {N : Nat} {x1 : Int32} {x2 : Int32} {σ : St} {r : Int64} {σ' : St} (hf : fX8_between N x1 x2 σ = some (r, σ')) : MW kdM 31 l D cA ad ⟨RX8, "between", "(II)J"⟩ cX8_between 7 (some .long) rmX8_between [.ref (ad 0), .int x1, .int x2] σ (some (.long r)) σ' := by
  refine MW.of (by decide) (Nat.le_of_ble_eq_true rfl) ?_
  intro p e s m args below meth c ls hC hW hl
  have hx := hC.1
  have hb := hC.2.1
  have hown := hC.2.2.2.1
  have hts := hC.2.2.2.2.1
  have hl : lv_has ls 7 [(0, .ref (ad 0)), (1, .int x1), (2, .int x2)] := hl
  unfold fX8_between at hf
  refine lv_lconst (v := 0) hx hb dX8_between_0 (by decide) ?_
  refine lv_lstore_n (lv' := [(3, .long (0 : Int64)), (0, .ref (ad 0)), (1, .int x1), (2, .int x2)]) hx hb dX8_between_1 rfl hl (by decide) rfl (fun ls hl => ?_)
  refine lv_iconst (v := 0) hx hb dX8_between_2 (by decide) ?_
  refine lv_istore (lv' := [(5, .int (0 : Int32)), (3, .long (0 : Int64)), (0, .ref (ad 0)), (1, .int x1), (2, .int x2)]) hx hb dX8_between_3 hl (by decide) rfl (fun ls hl => ?_)
  exact wX8_between_5 hC N _ _ _ _ _ _ _ _ hf hW (lv_sub hl [2, 3, 4, 1, 0] rfl)
abbrev rmX8_deep : Room := { frames := 0, cells := 0, slots := 0, locals := 0 }
def fX8_deep_49 (N : Nat) (K5 : Int32 → Int32 → Int32 → Int32 → St → Option (Int32 × St)) (x1 : Int32) (x2 : Int32) (x4 : Int32) (y0 : Int32) (y1 : Int32) (σ : St) : Option (Int32 × St) := nx (y1 + y0) (fun v1 => nx (x4 + (1 : Int32)) (fun v2 => (K5 x1 x2 v1 v2 σ)))
set_option maxHeartbeats 4000000 in
set_option maxRecDepth 100000 in
theorem wX8_deep_49 (hC : Cx RX8 cX8_deep 5 (some .int) D cA p s m args meth c) {N : Nat} {K5 : Int32 → Int32 → Int32 → Int32 → St → Option (Int32 × St)} {x1 : Int32} {x2 : Int32} {x4 : Int32} {y0 : Int32} {y1 : Int32} {σ : St} {r : Int32} {σ' : St} (hK5 : ∀ (x1 : Int32) (x2 : Int32) (x3 : Int32) (x4 : Int32) (σ : St) (H : Heap) (locs : List Loc) (ls : Array Slot), K5 x1 x2 x3 x4 σ = some (r, σ') → Wd kdM 31 D cA ad s σ H locs → lv_has ls 5 [(0, .ref (ad 0)), (1, .int x1), (2, .int x2), (3, .int x3), (4, .int x4)] → W p l e rmX8_deep s m args below meth c H locs 0 0 (EndW kdM 31 D cA ad below args s (some (.int r)) σ') (F0 m 5 ls [])) {H : Heap} {locs : List Loc} {ls : Array Slot} (hf : fX8_deep_49 N K5 x1 x2 x4 y0 y1 σ = some (r, σ')) (hW : Wd kdM 31 D cA ad s σ H locs) (hl : lv_has ls 5 [(0, .ref (ad 0)), (1, .int x1), (2, .int x2), (4, .int x4)]) : W p l e rmX8_deep s m args below meth c H locs 0 0 (EndW kdM 31 D cA ad below args s (some (.int r)) σ') (F0 m 49 ls [.int y0, .int y1]) := by
  have hx := hC.1
  have hb := hC.2.1
  have hown := hC.2.2.2.1
  have hts := hC.2.2.2.2.1
  unfold fX8_deep_49 at hf
  refine lv_iadd hx hb dX8_deep_49 ?_
  refine lv_topi (fun v1 ev1 => ?_)
  have hf := nx_at ev1 hf
  refine lv_istore_n (lv' := [(3, .int v1), (0, .ref (ad 0)), (1, .int x1), (2, .int x2), (4, .int x4)]) hx hb dX8_deep_50 rfl hl (by decide) rfl (fun ls hl => ?_)
  obtain ⟨v2, ev2⟩ : ∃ y : Int32, y = x4 + (1 : Int32) := ⟨_, rfl⟩
  have hf := nx_at ev2 hf
  refine lv_iinc (v := v2) (lv' := [(4, .int v2), (3, .int v1), (0, .ref (ad 0)), (1, .int x1), (2, .int x2)]) hx hb dX8_deep_51 hl (k := 4) rfl (by rw [ev2]; rfl) (by decide) rfl (fun ls hl => ?_)
  refine lv_goto (tgt := 5) hx hb dX8_deep_54 (by decide) ?_
  exact hK5 _ _ _ _ _ _ _ _ hf hW (lv_sub hl [2, 3, 4, 1, 0] rfl)
def fX8_deep_48 (N : Nat) (K5 : Int32 → Int32 → Int32 → Int32 → St → Option (Int32 × St)) (x1 : Int32) (x2 : Int32) (x4 : Int32) (y0 : Int32) (σ : St) : Option (Int32 × St) := (fX8_deep_49 N K5 x1 x2 x4 (0 : Int32) y0 σ)
set_option maxHeartbeats 4000000 in
set_option maxRecDepth 100000 in
theorem wX8_deep_48 (hC : Cx RX8 cX8_deep 5 (some .int) D cA p s m args meth c) {N : Nat} {K5 : Int32 → Int32 → Int32 → Int32 → St → Option (Int32 × St)} {x1 : Int32} {x2 : Int32} {x4 : Int32} {y0 : Int32} {σ : St} {r : Int32} {σ' : St} (hK5 : ∀ (x1 : Int32) (x2 : Int32) (x3 : Int32) (x4 : Int32) (σ : St) (H : Heap) (locs : List Loc) (ls : Array Slot), K5 x1 x2 x3 x4 σ = some (r, σ') → Wd kdM 31 D cA ad s σ H locs → lv_has ls 5 [(0, .ref (ad 0)), (1, .int x1), (2, .int x2), (3, .int x3), (4, .int x4)] → W p l e rmX8_deep s m args below meth c H locs 0 0 (EndW kdM 31 D cA ad below args s (some (.int r)) σ') (F0 m 5 ls [])) {H : Heap} {locs : List Loc} {ls : Array Slot} (hf : fX8_deep_48 N K5 x1 x2 x4 y0 σ = some (r, σ')) (hW : Wd kdM 31 D cA ad s σ H locs) (hl : lv_has ls 5 [(0, .ref (ad 0)), (1, .int x1), (2, .int x2), (4, .int x4)]) : W p l e rmX8_deep s m args below meth c H locs 0 0 (EndW kdM 31 D cA ad below args s (some (.int r)) σ') (F0 m 48 ls [.int y0]) := by
  have hx := hC.1
  have hb := hC.2.1
  have hown := hC.2.2.2.1
  have hts := hC.2.2.2.2.1
  unfold fX8_deep_48 at hf
  refine lv_iconst (v := 0) hx hb dX8_deep_48 (by decide) ?_
  exact wX8_deep_49 hC hK5 hf hW (lv_sub hl [0, 1, 2, 3] rfl)
def fX8_deep_5 (N : Nat) : Nat → Int32 → Int32 → Int32 → Int32 → St → Option (Int32 × St)
  | 0, _, _, _, _, _ => none
  | n + 1, x1, x2, x3, x4, σ => if (σ.1 0 11) ≤ x4 then some (x3, σ) else gd (ib x4 19) (if (((σ.1 7 x4.toNatClampNeg) >>> (x1 &&& 31)) &&& (1 : Int32)) = (1 : Int32) then gd (ib x4 19) (if ((σ.1 7 x4.toNatClampNeg) &&& (x2 ^^^ (-1 : Int32))) = 0 then (fX8_deep_49 N (fX8_deep_5 N n) x1 x2 x4 (1 : Int32) x3 σ) else (fX8_deep_48 N (fX8_deep_5 N n) x1 x2 x4 x3 σ)) else (fX8_deep_48 N (fX8_deep_5 N n) x1 x2 x4 x3 σ))
set_option maxHeartbeats 4000000 in
set_option maxRecDepth 100000 in
theorem wX8_deep_5 (hC : Cx RX8 cX8_deep 5 (some .int) D cA p s m args meth c) {N : Nat} {r : Int32} {σ' : St} : ∀ (n : Nat) (x1 : Int32) (x2 : Int32) (x3 : Int32) (x4 : Int32) (σ : St) (H : Heap) (locs : List Loc) (ls : Array Slot), fX8_deep_5 N n x1 x2 x3 x4 σ = some (r, σ') → Wd kdM 31 D cA ad s σ H locs → lv_has ls 5 [(0, .ref (ad 0)), (1, .int x1), (2, .int x2), (3, .int x3), (4, .int x4)] → W p l e rmX8_deep s m args below meth c H locs 0 0 (EndW kdM 31 D cA ad below args s (some (.int r)) σ') (F0 m 5 ls []) := by
  have hx := hC.1
  have hb := hC.2.1
  have hown := hC.2.2.2.1
  have hts := hC.2.2.2.2.1
  intro n
  induction n with
  | zero =>
    intro x1 x2 x3 x4 σ H locs ls hf
    rw [fX8_deep_5] at hf
    cases hf
  | succ n ih =>
    intro x1 x2 x3 x4 σ H locs ls hf hW hl
    rw [fX8_deep_5] at hf
    refine lv_iload hx hb dX8_deep_5 (lv_at hl 4 rfl) ?_
    refine lv_aload_n hx hb dX8_deep_7 rfl (lv_at hl 0 rfl) ?_
    refine gfX8_147 hC hW 0 (by decide) rfl rfl dX8_deep_8 ?_
    refine lv_icmp_ge (tgt := 57) hx hb dX8_deep_11 (by decide) (fun h1 => ?_) (fun h1 => ?_)
    · have hf := it_t h1 hf
      refine lv_iload_n hx hb dX8_deep_57 rfl (lv_at hl 3 rfl) ?_
      obtain ⟨rfl, rfl⟩ := sp hf
      exact Wd.iret hC hW dX8_deep_58
    · have hf := it_f h1 hf
      refine lv_iload_n hx hb dX8_deep_14 rfl (lv_at hl 3 rfl) ?_
      refine lv_aload_n hx hb dX8_deep_15 rfl (lv_at hl 0 rfl) ?_
      refine gfX8_33 hC hW 0 (by decide) rfl (q := 7) rfl dX8_deep_16 ?_
      refine lv_iload hx hb dX8_deep_19 (lv_at hl 4 rfl) ?_
      obtain ⟨h2, hf⟩ := gd_some hf
      refine Wd.iald hC hW 7 (by decide) rfl h2 dX8_deep_21 ?_
      refine lv_iload_n hx hb dX8_deep_22 rfl (lv_at hl 1 rfl) ?_
      refine lv_ishr hx hb dX8_deep_23 ?_
      refine lv_iconst (v := 1) hx hb dX8_deep_24 (by decide) ?_
      refine lv_iand hx hb dX8_deep_25 ?_
      refine lv_iconst (v := 1) hx hb dX8_deep_26 (by decide) ?_
      refine lv_icmp_ne (tgt := 48) hx hb dX8_deep_27 (by decide) (fun h3 => ?_) (fun h3 => ?_)
      · have hf := it_f h3 hf
        exact wX8_deep_48 hC ih hf hW (lv_sub hl [0, 1, 2, 4] rfl)
      · have hf := it_t h3 hf
        refine lv_aload_n hx hb dX8_deep_30 rfl (lv_at hl 0 rfl) ?_
        refine gfX8_33 hC hW 0 (by decide) rfl (q := 7) rfl dX8_deep_31 ?_
        refine lv_iload hx hb dX8_deep_34 (lv_at hl 4 rfl) ?_
        obtain ⟨h4, hf⟩ := gd_some hf
        refine Wd.iald hC hW 7 (by decide) rfl h4 dX8_deep_36 ?_
        refine lv_iload_n hx hb dX8_deep_37 rfl (lv_at hl 2 rfl) ?_
        refine lv_iconst (v := (-1)) hx hb dX8_deep_38 (by decide) ?_
        refine lv_ixor hx hb dX8_deep_39 ?_
        refine lv_iand hx hb dX8_deep_40 ?_
        refine lv_if_ne (tgt := 48) hx hb dX8_deep_41 (by decide) (fun h5 => ?_) (fun h5 => ?_)
        · have hf := it_f h5 hf
          exact wX8_deep_48 hC ih hf hW (lv_sub hl [0, 1, 2, 4] rfl)
        · have hf := it_t h5 hf
          refine lv_iconst (v := 1) hx hb dX8_deep_44 (by decide) ?_
          refine lv_goto (tgt := 49) hx hb dX8_deep_45 (by decide) ?_
          exact wX8_deep_49 hC ih hf hW (lv_sub hl [0, 1, 2, 4] rfl)
def fX8_deep (N : Nat) (x1 : Int32) (x2 : Int32) (σ : St) : Option (Int32 × St) := (fX8_deep_5 N N x1 x2 (0 : Int32) (0 : Int32) σ)
set_option maxHeartbeats 4000000 in
set_option maxRecDepth 100000 in
theorem kX8_deep {l : Launch} {D : va_G} {cA : Nat → ClassId} {ad : Nat → Nat} {N : Nat} {x1 : Int32} {x2 : Int32} {σ : St} {r : Int32} {σ' : St} (hf : fX8_deep N x1 x2 σ = some (r, σ')) : MW kdM 31 l D cA ad ⟨RX8, "deep", "(II)I"⟩ cX8_deep 5 (some .int) rmX8_deep [.ref (ad 0), .int x1, .int x2] σ (some (.int r)) σ' := by
  refine MW.of (by decide) (Nat.le_of_ble_eq_true rfl) ?_
  intro p e s m args below meth c ls hC hW hl
  have hx := hC.1
  have hb := hC.2.1
  have hown := hC.2.2.2.1
  have hts := hC.2.2.2.2.1
  have hl : lv_has ls 5 [(0, .ref (ad 0)), (1, .int x1), (2, .int x2)] := hl
  unfold fX8_deep at hf
  refine lv_iconst (v := 0) hx hb dX8_deep_0 (by decide) ?_
  refine lv_istore_n (lv' := [(3, .int (0 : Int32)), (0, .ref (ad 0)), (1, .int x1), (2, .int x2)]) hx hb dX8_deep_1 rfl hl (by decide) rfl (fun ls hl => ?_)
  refine lv_iconst (v := 0) hx hb dX8_deep_2 (by decide) ?_
  refine lv_istore (lv' := [(4, .int (0 : Int32)), (3, .int (0 : Int32)), (0, .ref (ad 0)), (1, .int x1), (2, .int x2)]) hx hb dX8_deep_3 hl (by decide) rfl (fun ls hl => ?_)
  exact wX8_deep_5 hC N _ _ _ _ _ _ _ _ hf hW (lv_sub hl [2, 3, 4, 1, 0] rfl)
end
