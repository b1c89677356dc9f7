/-! THE CONSTRUCTORS (printed by wip/whole/gen/ctor.py) -/
theorem hfX7 : ∀ j, j < 6 → defaultValue (tyX7 j) = vp_V [.null, .null, .null, .null, .null, .null] j := by
  intro j hj
  match j, hj with
  | 0, _ => rfl
  | 1, _ => rfl
  | 2, _ => rfl
  | 3, _ => rfl
  | 4, _ => rfl
  | 5, _ => rfl
  | n + 6, h => exact absurd h (by omega)
abbrev rmX7_init : Room := { frames := 3, cells := 139, slots := 7473, locals := 60 }
abbrev S7 : Type := (Nat → Nat) × S3 × (Nat → Nat) × S1 × (Nat → S6)
def sl4 (t : Nat → Nat) : Nat → Option Nat := va_up (va_up (va_up (va_up (fun _ => none) (0 : Int32).toNatClampNeg (some (t 0))) (1 : Int32).toNatClampNeg (some (t 1))) (2 : Int32).toNatClampNeg (some (t 2))) (3 : Int32).toNatClampNeg (some (t 3))
def po7a (cA : Nat → ClassId) (r : S7) : va_W := ((((([] ++ po3 cA (r.1 0) r.2.1) ++ po0 cA (r.1 1) (r.2.2.1 0)) ++ po0 cA (r.1 2) (r.2.2.1 1)) ++ po5 cA (r.1 3) (r.2.2.1 2)) ++ po1 cA (r.1 4) r.2.2.2.1)
def po7b (cA : Nat → ClassId) (r : S7) : va_W := (((([] ++ po6 cA (r.1 6) (r.2.2.2.2 0)) ++ po6 cA (r.1 7) (r.2.2.2.2 1)) ++ po6 cA (r.1 8) (r.2.2.2.2 2)) ++ po6 cA (r.1 9) (r.2.2.2.2 3))
def po7 (cA : Nat → ClassId) (h0 : Nat) (r : S7) : va_W := ((h0, .inr (7, [.ref (r.1 0), .ref (r.1 1), .ref (r.1 2), .ref (r.1 3), .ref (r.1 4), .ref (r.1 5)])) :: po7a cA r) ++ ((r.1 5, .inl (cA 6, 4, .inr (.inr (.inr (.inr (sl4 (fun i => r.1 (6 + i)))))))) :: po7b cA r)
set_option maxHeartbeats 4000000 in
set_option maxRecDepth 100000 in
theorem iX7 {l : Launch} {D : va_G} {cA : Nat → ClassId} {h0 sz : Nat} : MI l D cA ⟨RX7, "<init>", "()V"⟩ cX7_init 2 rmX7_init h0 7 [.null, .null, .null, .null, .null, .null] sz (po7 cA h0) 139 7473 := by
  refine MI.of (by decide) (by decide) ?_
  intro p e s m args below meth c ls A hC hi hO hA hW hl
  have hx := hC.1
  have hb := hC.2.1
  have hl : lv_has ls 2 [(0, .ref h0)] := hl
  refine lv_aload_n hx hb dX7_init_0 rfl (lv_at hl 0 rfl) ?_
  refine Wi.obj' hC qc19 qc20 qc21 hl.1 dX7_init_1 (Nat.le_of_ble_eq_true rfl) (Nat.le_of_ble_eq_true rfl) ?_
  refine lv_aload_n hx hb dX7_init_4 rfl (lv_at hl 0 rfl) ?_
  refine Wi.newC hC hA hW inX3_g tyX3 tyX3_ok qc22 qc23 q2 (ci := 3) rfl [.int 0, .null, .null, .null] hfX3 (Nat.le_of_ble_eq_true rfl) (Nat.le_of_ble_eq_true rfl) dX7_init_5 (fun y0 H hW => ?_)
  refine lv_dup hx hb dX7_init_8 rfl ?_
  refine Wi.callNC hC hO hA (q := y0) (ci := 3) (fs := [.int 0, .null, .null, .null]) hW (iX3 (cA := cA) (h0 := y0)) qc24 qc25 q2 qc26 ⟨rfl, rfl⟩ ⟨by decide, by decide, by decide⟩ ⟨Nat.le_of_ble_eq_true rfl, Nat.le_of_ble_eq_true rfl⟩ ⟨Nat.le_of_ble_eq_true rfl, Nat.le_of_ble_eq_true rfl⟩ hl.1 (Nat.le_of_ble_eq_true rfl) dX7_init_9 (fun r0 H locs hW => ?_)
  refine Wi.putFS hC hi hW 0 (ty := (.object "DendroDesk$Points")) inX7_g tyX7_ok nmX7 rfl (by decide) q221 rfl rfl (by decide +kernel) rfl rfl (Nat.le_of_ble_eq_true rfl) (fs' := [.ref y0, .null, .null, .null, .null, .null]) rfl dX7_init_12 (fun H locs hW => ?_)
  refine lv_aload_n hx hb dX7_init_15 rfl (lv_at hl 0 rfl) ?_
  refine Wi.newC hC hA hW inX0_g tyX0 tyX0_ok qc50 qc51 q3 (ci := 0) rfl [.null, .int 0] hfX0 (Nat.le_of_ble_eq_true rfl) (Nat.le_of_ble_eq_true rfl) dX7_init_16 (fun y1 H hW => ?_)
  refine lv_dup hx hb dX7_init_19 rfl ?_
  refine Wi.callNC hC hO hA (q := y1) (ci := 0) (fs := [.null, .int 0]) hW (iX0 (cA := cA) (h0 := y1)) qc52 qc53 q3 qc54 ⟨rfl, rfl⟩ ⟨by decide, by decide, by decide⟩ ⟨Nat.le_of_ble_eq_true rfl, Nat.le_of_ble_eq_true rfl⟩ ⟨Nat.le_of_ble_eq_true rfl, Nat.le_of_ble_eq_true rfl⟩ hl.1 (Nat.le_of_ble_eq_true rfl) dX7_init_20 (fun r1 H locs hW => ?_)
  refine Wi.putFS hC hi hW 1 (ty := (.object "DendroDesk$Bytes")) inX7_g tyX7_ok nmX7 rfl (by decide) q222 rfl rfl (by decide +kernel) rfl rfl (Nat.le_of_ble_eq_true rfl) (fs' := [.ref y0, .ref y1, .null, .null, .null, .null]) rfl dX7_init_23 (fun H locs hW => ?_)
  refine lv_aload_n hx hb dX7_init_26 rfl (lv_at hl 0 rfl) ?_
  refine Wi.newC hC hA hW inX0_g tyX0 tyX0_ok qc50 qc51 q3 (ci := 0) rfl [.null, .int 0] hfX0 (Nat.le_of_ble_eq_true rfl) (Nat.le_of_ble_eq_true rfl) dX7_init_27 (fun y2 H hW => ?_)
  refine lv_dup hx hb dX7_init_30 rfl ?_
  refine Wi.callNC hC hO hA (q := y2) (ci := 0) (fs := [.null, .int 0]) hW (iX0 (cA := cA) (h0 := y2)) qc52 qc53 q3 qc54 ⟨rfl, rfl⟩ ⟨by decide, by decide, by decide⟩ ⟨Nat.le_of_ble_eq_true rfl, Nat.le_of_ble_eq_true rfl⟩ ⟨Nat.le_of_ble_eq_true rfl, Nat.le_of_ble_eq_true rfl⟩ hl.1 (Nat.le_of_ble_eq_true rfl) dX7_init_31 (fun r2 H locs hW => ?_)
  refine Wi.putFS hC hi hW 2 (ty := (.object "DendroDesk$Bytes")) inX7_g tyX7_ok nmX7 rfl (by decide) q223 rfl rfl (by decide +kernel) rfl rfl (Nat.le_of_ble_eq_true rfl) (fs' := [.ref y0, .ref y1, .ref y2, .null, .null, .null]) rfl dX7_init_34 (fun H locs hW => ?_)
  refine lv_aload_n hx hb dX7_init_37 rfl (lv_at hl 0 rfl) ?_
  refine Wi.newC hC hA hW inX5_g tyX5 tyX5_ok qc66 qc67 q4 (ci := 5) rfl [.null, .int 0, .int 0] hfX5 (Nat.le_of_ble_eq_true rfl) (Nat.le_of_ble_eq_true rfl) dX7_init_38 (fun y3 H hW => ?_)
  refine lv_dup hx hb dX7_init_41 rfl ?_
  refine Wi.callNC hC hO hA (q := y3) (ci := 5) (fs := [.null, .int 0, .int 0]) hW (iX5 (cA := cA) (h0 := y3)) qc68 qc69 q4 qc70 ⟨rfl, rfl⟩ ⟨by decide, by decide, by decide⟩ ⟨Nat.le_of_ble_eq_true rfl, Nat.le_of_ble_eq_true rfl⟩ ⟨Nat.le_of_ble_eq_true rfl, Nat.le_of_ble_eq_true rfl⟩ hl.1 (Nat.le_of_ble_eq_true rfl) dX7_init_42 (fun r3 H locs hW => ?_)
  refine Wi.putFS hC hi hW 3 (ty := (.object "DendroDesk$TableReader")) inX7_g tyX7_ok nmX7 rfl (by decide) q224 rfl rfl (by decide +kernel) rfl rfl (Nat.le_of_ble_eq_true rfl) (fs' := [.ref y0, .ref y1, .ref y2, .ref y3, .null, .null]) rfl dX7_init_45 (fun H locs hW => ?_)
  refine lv_aload_n hx hb dX7_init_48 rfl (lv_at hl 0 rfl) ?_
  refine Wi.newC hC hA hW inX1_g tyX1 tyX1_ok qc84 qc85 q5 (ci := 1) rfl [.int 0, .int 0, .int 0, .null, .null, .null, .int 0, .null, .null, .null, .null, .null, .null, .null, .int 0] hfX1 (Nat.le_of_ble_eq_true rfl) (Nat.le_of_ble_eq_true rfl) dX7_init_49 (fun y4 H hW => ?_)
  refine lv_dup hx hb dX7_init_52 rfl ?_
  refine Wi.callNC hC hO hA (q := y4) (ci := 1) (fs := [.int 0, .int 0, .int 0, .null, .null, .null, .int 0, .null, .null, .null, .null, .null, .null, .null, .int 0]) hW (iX1 (cA := cA) (h0 := y4)) qc86 qc87 q5 qc88 ⟨rfl, rfl⟩ ⟨by decide, by decide, by decide⟩ ⟨Nat.le_of_ble_eq_true rfl, Nat.le_of_ble_eq_true rfl⟩ ⟨Nat.le_of_ble_eq_true rfl, Nat.le_of_ble_eq_true rfl⟩ hl.1 (Nat.le_of_ble_eq_true rfl) dX7_init_53 (fun r4 H locs hW => ?_)
  refine Wi.putFS hC hi hW 4 (ty := (.object "DendroDesk$Joining")) inX7_g tyX7_ok nmX7 rfl (by decide) q225 rfl rfl (by decide +kernel) rfl rfl (Nat.le_of_ble_eq_true rfl) (fs' := [.ref y0, .ref y1, .ref y2, .ref y3, .ref y4, .null]) rfl dX7_init_56 (fun H locs hW => ?_)
  refine lv_aload_n hx hb dX7_init_59 rfl (lv_at hl 0 rfl) ?_
  refine lv_iconst (v := 4) hx hb dX7_init_60 (by decide) ?_
  have hW : Wi D A s ((h0, .inr (7, [.ref y0, .ref y1, .ref y2, .ref y3, .ref y4, .null])) :: ((((([] ++ po3 cA y0 r0) ++ po0 cA y1 r1) ++ po0 cA y2 r2) ++ po5 cA y3 r3) ++ po1 cA y4 r4)) H _ := hW
  refine Wi.newq hC hO hA (ws := (h0, .inr (7, [.ref y0, .ref y1, .ref y2, .ref y3, .ref y4, .null])) :: ((((([] ++ po3 cA y0 r0) ++ po0 cA y1 r1) ++ po0 cA y2 r2) ++ po5 cA y3 r3) ++ po1 cA y4 r4)) hW qc180 (N' := 4) (by decide) (by decide) (by decide) (Nat.le_of_ble_eq_true rfl) (Nat.le_of_ble_eq_true rfl) dX7_init_61 (fun y5 H hW => ?_)
  have hW : Wi D A s (((h0, .inr (7, [.ref y0, .ref y1, .ref y2, .ref y3, .ref y4, .null])) :: ((((([] ++ po3 cA y0 r0) ++ po0 cA y1 r1) ++ po0 cA y2 r2) ++ po5 cA y3 r3) ++ po1 cA y4 r4)) ++ ((y5, .inl (cA 6, 4, .inr (.inr (.inr (.inr (fun _ => none)))))) :: [])) H _ := hW
  refine Wi.putFS hC hi hW 5 (ty := (.array (.object "DendroDesk$Tree"))) inX7_g tyX7_ok nmX7 rfl (by decide) q226 rfl rfl (by decide +kernel) rfl rfl (Nat.le_of_ble_eq_true rfl) (fs' := [.ref y0, .ref y1, .ref y2, .ref y3, .ref y4, .ref y5]) rfl dX7_init_64 (fun H locs hW => ?_)
  have hW : Wi D A s (((h0, .inr (7, [.ref y0, .ref y1, .ref y2, .ref y3, .ref y4, .ref y5])) :: ((((([] ++ po3 cA y0 r0) ++ po0 cA y1 r1) ++ po0 cA y2 r2) ++ po5 cA y3 r3) ++ po1 cA y4 r4)) ++ ((y5, .inl (cA 6, 4, .inr (.inr (.inr (.inr (fun _ => none)))))) :: [])) H _ := hW
  refine lv_iconst (v := 0) hx hb dX7_init_67 (by decide) ?_
  refine lv_istore_n (lv' := [(1, .int 0), (0, .ref h0)]) hx hb dX7_init_68 rfl hl (by decide) rfl (fun ls hl => ?_)
  refine lv_iload_n hx hb dX7_init_69 rfl (lv_at hl 0 rfl) ?_
  refine lv_iconst (v := 4) hx hb dX7_init_70 (by decide) ?_
  refine lv_icmp_ge (tgt := 93) hx hb dX7_init_71 (by decide) (fun h1 => absurd h1 (by decide)) (fun _ => ?_)
  refine lv_aload_n hx hb dX7_init_74 rfl (lv_at hl 1 rfl) ?_
  refine Wi.get hC hW 5 inX7_g rfl (by decide) q226 rfl rfl dX7_init_75 ?_
  refine lv_iload_n hx hb dX7_init_78 rfl (lv_at hl 0 rfl) ?_
  refine Wi.new hC hA (ws := ((h0, .inr (7, [.ref y0, .ref y1, .ref y2, .ref y3, .ref y4, .ref y5])) :: ((((([] ++ po3 cA y0 r0) ++ po0 cA y1 r1) ++ po0 cA y2 r2) ++ po5 cA y3 r3) ++ po1 cA y4 r4)) ++ ((y5, .inl (cA 6, 4, .inr (.inr (.inr (.inr (fun _ => none)))))) :: [])) hW inX6_g tyX6 tyX6_ok qc180 qc182 q7 (ci := 6) rfl [.int 0, .int 0, .int 0, .int 0, .int 0, .null, .null] hfX6 (Nat.le_of_ble_eq_true rfl) (Nat.le_of_ble_eq_true rfl) dX7_init_79 (fun y6 H hW => ?_)
  refine lv_dup hx hb dX7_init_82 rfl ?_
  refine Wi.callN hC hO hA (ws := ((h0, .inr (7, [.ref y0, .ref y1, .ref y2, .ref y3, .ref y4, .ref y5])) :: ((((([] ++ po3 cA y0 r0) ++ po0 cA y1 r1) ++ po0 cA y2 r2) ++ po5 cA y3 r3) ++ po1 cA y4 r4)) ++ ((y5, .inl (cA 6, 4, .inr (.inr (.inr (.inr (fun _ => none)))))) :: [])) (q := y6) (ci := 6) (fs := [.int 0, .int 0, .int 0, .int 0, .int 0, .null, .null]) hW (iX6 (cA := cA) (h0 := y6)) qc183 qc184 q7 qc185 ⟨rfl, rfl⟩ ⟨by decide, by decide, by decide⟩ ⟨Nat.le_of_ble_eq_true rfl, Nat.le_of_ble_eq_true rfl⟩ ⟨Nat.le_of_ble_eq_true rfl, Nat.le_of_ble_eq_true rfl⟩ hl.1 (Nat.le_of_ble_eq_true rfl) dX7_init_83 (fun r5 H locs hW => ?_)
  refine Wi.astq hC (wA := (h0, .inr (7, [.ref y0, .ref y1, .ref y2, .ref y3, .ref y4, .ref y5])) :: ((((([] ++ po3 cA y0 r0) ++ po0 cA y1 r1) ++ po0 cA y2 r2) ++ po5 cA y3 r3) ++ po1 cA y4 r4)) (n := 4) (f := (fun _ => none)) (wT := []) hW (i := 0) (by unfold vp_in; decide) dX7_init_86 (fun H locs hW => ?_)
  have hW : Wi D A s (((h0, .inr (7, [.ref y0, .ref y1, .ref y2, .ref y3, .ref y4, .ref y5])) :: ((((([] ++ po3 cA y0 r0) ++ po0 cA y1 r1) ++ po0 cA y2 r2) ++ po5 cA y3 r3) ++ po1 cA y4 r4)) ++ ((y5, .inl (cA 6, 4, .inr (.inr (.inr (.inr (va_up (fun _ => none) (0 : Int32).toNatClampNeg (some y6))))))) :: ([] ++ po6 cA y6 r5))) H _ := hW
  refine lv_iinc (v := 1) (lv' := [(1, .int 1), (0, .ref h0)]) hx hb dX7_init_87 hl (k := 0) rfl (by decide) (by decide) rfl (fun ls hl => ?_)
  refine lv_goto (tgt := 69) hx hb dX7_init_90 (by decide) ?_
  refine lv_iload_n hx hb dX7_init_69 rfl (lv_at hl 0 rfl) ?_
  refine lv_iconst (v := 4) hx hb dX7_init_70 (by decide) ?_
  refine lv_icmp_ge (tgt := 93) hx hb dX7_init_71 (by decide) (fun h1 => absurd h1 (by decide)) (fun _ => ?_)
  refine lv_aload_n hx hb dX7_init_74 rfl (lv_at hl 1 rfl) ?_
  refine Wi.get hC hW 5 inX7_g rfl (by decide) q226 rfl rfl dX7_init_75 ?_
  refine lv_iload_n hx hb dX7_init_78 rfl (lv_at hl 0 rfl) ?_
  refine Wi.new hC hA (ws := ((h0, .inr (7, [.ref y0, .ref y1, .ref y2, .ref y3, .ref y4, .ref y5])) :: ((((([] ++ po3 cA y0 r0) ++ po0 cA y1 r1) ++ po0 cA y2 r2) ++ po5 cA y3 r3) ++ po1 cA y4 r4)) ++ ((y5, .inl (cA 6, 4, .inr (.inr (.inr (.inr (va_up (fun _ => none) (0 : Int32).toNatClampNeg (some y6))))))) :: ([] ++ po6 cA y6 r5))) hW inX6_g tyX6 tyX6_ok qc180 qc182 q7 (ci := 6) rfl [.int 0, .int 0, .int 0, .int 0, .int 0, .null, .null] hfX6 (Nat.le_of_ble_eq_true rfl) (Nat.le_of_ble_eq_true rfl) dX7_init_79 (fun y7 H hW => ?_)
  refine lv_dup hx hb dX7_init_82 rfl ?_
  refine Wi.callN hC hO hA (ws := ((h0, .inr (7, [.ref y0, .ref y1, .ref y2, .ref y3, .ref y4, .ref y5])) :: ((((([] ++ po3 cA y0 r0) ++ po0 cA y1 r1) ++ po0 cA y2 r2) ++ po5 cA y3 r3) ++ po1 cA y4 r4)) ++ ((y5, .inl (cA 6, 4, .inr (.inr (.inr (.inr (va_up (fun _ => none) (0 : Int32).toNatClampNeg (some y6))))))) :: ([] ++ po6 cA y6 r5))) (q := y7) (ci := 6) (fs := [.int 0, .int 0, .int 0, .int 0, .int 0, .null, .null]) hW (iX6 (cA := cA) (h0 := y7)) qc183 qc184 q7 qc185 ⟨rfl, rfl⟩ ⟨by decide, by decide, by decide⟩ ⟨Nat.le_of_ble_eq_true rfl, Nat.le_of_ble_eq_true rfl⟩ ⟨Nat.le_of_ble_eq_true rfl, Nat.le_of_ble_eq_true rfl⟩ hl.1 (Nat.le_of_ble_eq_true rfl) dX7_init_83 (fun r6 H locs hW => ?_)
  refine Wi.astq hC (wA := (h0, .inr (7, [.ref y0, .ref y1, .ref y2, .ref y3, .ref y4, .ref y5])) :: ((((([] ++ po3 cA y0 r0) ++ po0 cA y1 r1) ++ po0 cA y2 r2) ++ po5 cA y3 r3) ++ po1 cA y4 r4)) (n := 4) (f := (va_up (fun _ => none) (0 : Int32).toNatClampNeg (some y6))) (wT := ([] ++ po6 cA y6 r5)) hW (i := 1) (by unfold vp_in; decide) dX7_init_86 (fun H locs hW => ?_)
  have hW : Wi D A s (((h0, .inr (7, [.ref y0, .ref y1, .ref y2, .ref y3, .ref y4, .ref y5])) :: ((((([] ++ po3 cA y0 r0) ++ po0 cA y1 r1) ++ po0 cA y2 r2) ++ po5 cA y3 r3) ++ po1 cA y4 r4)) ++ ((y5, .inl (cA 6, 4, .inr (.inr (.inr (.inr (va_up (va_up (fun _ => none) (0 : Int32).toNatClampNeg (some y6)) (1 : Int32).toNatClampNeg (some y7))))))) :: (([] ++ po6 cA y6 r5) ++ po6 cA y7 r6))) H _ := hW
  refine lv_iinc (v := 2) (lv' := [(1, .int 2), (0, .ref h0)]) hx hb dX7_init_87 hl (k := 0) rfl (by decide) (by decide) rfl (fun ls hl => ?_)
  refine lv_goto (tgt := 69) hx hb dX7_init_90 (by decide) ?_
  refine lv_iload_n hx hb dX7_init_69 rfl (lv_at hl 0 rfl) ?_
  refine lv_iconst (v := 4) hx hb dX7_init_70 (by decide) ?_
  refine lv_icmp_ge (tgt := 93) hx hb dX7_init_71 (by decide) (fun h1 => absurd h1 (by decide)) (fun _ => ?_)
  refine lv_aload_n hx hb dX7_init_74 rfl (lv_at hl 1 rfl) ?_
  refine Wi.get hC hW 5 inX7_g rfl (by decide) q226 rfl rfl dX7_init_75 ?_
  refine lv_iload_n hx hb dX7_init_78 rfl (lv_at hl 0 rfl) ?_
  refine Wi.new hC hA (ws := ((h0, .inr (7, [.ref y0, .ref y1, .ref y2, .ref y3, .ref y4, .ref y5])) :: ((((([] ++ po3 cA y0 r0) ++ po0 cA y1 r1) ++ po0 cA y2 r2) ++ po5 cA y3 r3) ++ po1 cA y4 r4)) ++ ((y5, .inl (cA 6, 4, .inr (.inr (.inr (.inr (va_up (va_up (fun _ => none) (0 : Int32).toNatClampNeg (some y6)) (1 : Int32).toNatClampNeg (some y7))))))) :: (([] ++ po6 cA y6 r5) ++ po6 cA y7 r6))) hW inX6_g tyX6 tyX6_ok qc180 qc182 q7 (ci := 6) rfl [.int 0, .int 0, .int 0, .int 0, .int 0, .null, .null] hfX6 (Nat.le_of_ble_eq_true rfl) (Nat.le_of_ble_eq_true rfl) dX7_init_79 (fun y8 H hW => ?_)
  refine lv_dup hx hb dX7_init_82 rfl ?_
  refine Wi.callN hC hO hA (ws := ((h0, .inr (7, [.ref y0, .ref y1, .ref y2, .ref y3, .ref y4, .ref y5])) :: ((((([] ++ po3 cA y0 r0) ++ po0 cA y1 r1) ++ po0 cA y2 r2) ++ po5 cA y3 r3) ++ po1 cA y4 r4)) ++ ((y5, .inl (cA 6, 4, .inr (.inr (.inr (.inr (va_up (va_up (fun _ => none) (0 : Int32).toNatClampNeg (some y6)) (1 : Int32).toNatClampNeg (some y7))))))) :: (([] ++ po6 cA y6 r5) ++ po6 cA y7 r6))) (q := y8) (ci := 6) (fs := [.int 0, .int 0, .int 0, .int 0, .int 0, .null, .null]) hW (iX6 (cA := cA) (h0 := y8)) qc183 qc184 q7 qc185 ⟨rfl, rfl⟩ ⟨by decide, by decide, by decide⟩ ⟨Nat.le_of_ble_eq_true rfl, Nat.le_of_ble_eq_true rfl⟩ ⟨Nat.le_of_ble_eq_true rfl, Nat.le_of_ble_eq_true rfl⟩ hl.1 (Nat.le_of_ble_eq_true rfl) dX7_init_83 (fun r7 H locs hW => ?_)
  refine Wi.astq hC (wA := (h0, .inr (7, [.ref y0, .ref y1, .ref y2, .ref y3, .ref y4, .ref y5])) :: ((((([] ++ po3 cA y0 r0) ++ po0 cA y1 r1) ++ po0 cA y2 r2) ++ po5 cA y3 r3) ++ po1 cA y4 r4)) (n := 4) (f := (va_up (va_up (fun _ => none) (0 : Int32).toNatClampNeg (some y6)) (1 : Int32).toNatClampNeg (some y7))) (wT := (([] ++ po6 cA y6 r5) ++ po6 cA y7 r6)) hW (i := 2) (by unfold vp_in; decide) dX7_init_86 (fun H locs hW => ?_)
  have hW : Wi D A s (((h0, .inr (7, [.ref y0, .ref y1, .ref y2, .ref y3, .ref y4, .ref y5])) :: ((((([] ++ po3 cA y0 r0) ++ po0 cA y1 r1) ++ po0 cA y2 r2) ++ po5 cA y3 r3) ++ po1 cA y4 r4)) ++ ((y5, .inl (cA 6, 4, .inr (.inr (.inr (.inr (va_up (va_up (va_up (fun _ => none) (0 : Int32).toNatClampNeg (some y6)) (1 : Int32).toNatClampNeg (some y7)) (2 : Int32).toNatClampNeg (some y8))))))) :: ((([] ++ po6 cA y6 r5) ++ po6 cA y7 r6) ++ po6 cA y8 r7))) H _ := hW
  refine lv_iinc (v := 3) (lv' := [(1, .int 3), (0, .ref h0)]) hx hb dX7_init_87 hl (k := 0) rfl (by decide) (by decide) rfl (fun ls hl => ?_)
  refine lv_goto (tgt := 69) hx hb dX7_init_90 (by decide) ?_
  refine lv_iload_n hx hb dX7_init_69 rfl (lv_at hl 0 rfl) ?_
  refine lv_iconst (v := 4) hx hb dX7_init_70 (by decide) ?_
  refine lv_icmp_ge (tgt := 93) hx hb dX7_init_71 (by decide) (fun h1 => absurd h1 (by decide)) (fun _ => ?_)
  refine lv_aload_n hx hb dX7_init_74 rfl (lv_at hl 1 rfl) ?_
  refine Wi.get hC hW 5 inX7_g rfl (by decide) q226 rfl rfl dX7_init_75 ?_
  refine lv_iload_n hx hb dX7_init_78 rfl (lv_at hl 0 rfl) ?_
  refine Wi.new hC hA (ws := ((h0, .inr (7, [.ref y0, .ref y1, .ref y2, .ref y3, .ref y4, .ref y5])) :: ((((([] ++ po3 cA y0 r0) ++ po0 cA y1 r1) ++ po0 cA y2 r2) ++ po5 cA y3 r3) ++ po1 cA y4 r4)) ++ ((y5, .inl (cA 6, 4, .inr (.inr (.inr (.inr (va_up (va_up (va_up (fun _ => none) (0 : Int32).toNatClampNeg (some y6)) (1 : Int32).toNatClampNeg (some y7)) (2 : Int32).toNatClampNeg (some y8))))))) :: ((([] ++ po6 cA y6 r5) ++ po6 cA y7 r6) ++ po6 cA y8 r7))) hW inX6_g tyX6 tyX6_ok qc180 qc182 q7 (ci := 6) rfl [.int 0, .int 0, .int 0, .int 0, .int 0, .null, .null] hfX6 (Nat.le_of_ble_eq_true rfl) (Nat.le_of_ble_eq_true rfl) dX7_init_79 (fun y9 H hW => ?_)
  refine lv_dup hx hb dX7_init_82 rfl ?_
  refine Wi.callN hC hO hA (ws := ((h0, .inr (7, [.ref y0, .ref y1, .ref y2, .ref y3, .ref y4, .ref y5])) :: ((((([] ++ po3 cA y0 r0) ++ po0 cA y1 r1) ++ po0 cA y2 r2) ++ po5 cA y3 r3) ++ po1 cA y4 r4)) ++ ((y5, .inl (cA 6, 4, .inr (.inr (.inr (.inr (va_up (va_up (va_up (fun _ => none) (0 : Int32).toNatClampNeg (some y6)) (1 : Int32).toNatClampNeg (some y7)) (2 : Int32).toNatClampNeg (some y8))))))) :: ((([] ++ po6 cA y6 r5) ++ po6 cA y7 r6) ++ po6 cA y8 r7))) (q := y9) (ci := 6) (fs := [.int 0, .int 0, .int 0, .int 0, .int 0, .null, .null]) hW (iX6 (cA := cA) (h0 := y9)) qc183 qc184 q7 qc185 ⟨rfl, rfl⟩ ⟨by decide, by decide, by decide⟩ ⟨Nat.le_of_ble_eq_true rfl, Nat.le_of_ble_eq_true rfl⟩ ⟨Nat.le_of_ble_eq_true rfl, Nat.le_of_ble_eq_true rfl⟩ hl.1 (Nat.le_of_ble_eq_true rfl) dX7_init_83 (fun r8 H locs hW => ?_)
  refine Wi.astq hC (wA := (h0, .inr (7, [.ref y0, .ref y1, .ref y2, .ref y3, .ref y4, .ref y5])) :: ((((([] ++ po3 cA y0 r0) ++ po0 cA y1 r1) ++ po0 cA y2 r2) ++ po5 cA y3 r3) ++ po1 cA y4 r4)) (n := 4) (f := (va_up (va_up (va_up (fun _ => none) (0 : Int32).toNatClampNeg (some y6)) (1 : Int32).toNatClampNeg (some y7)) (2 : Int32).toNatClampNeg (some y8))) (wT := ((([] ++ po6 cA y6 r5) ++ po6 cA y7 r6) ++ po6 cA y8 r7)) hW (i := 3) (by unfold vp_in; decide) dX7_init_86 (fun H locs hW => ?_)
  have hW : Wi D A s (((h0, .inr (7, [.ref y0, .ref y1, .ref y2, .ref y3, .ref y4, .ref y5])) :: ((((([] ++ po3 cA y0 r0) ++ po0 cA y1 r1) ++ po0 cA y2 r2) ++ po5 cA y3 r3) ++ po1 cA y4 r4)) ++ ((y5, .inl (cA 6, 4, .inr (.inr (.inr (.inr (va_up (va_up (va_up (va_up (fun _ => none) (0 : Int32).toNatClampNeg (some y6)) (1 : Int32).toNatClampNeg (some y7)) (2 : Int32).toNatClampNeg (some y8)) (3 : Int32).toNatClampNeg (some y9))))))) :: (((([] ++ po6 cA y6 r5) ++ po6 cA y7 r6) ++ po6 cA y8 r7) ++ po6 cA y9 r8))) H _ := hW
  refine lv_iinc (v := 4) (lv' := [(1, .int 4), (0, .ref h0)]) hx hb dX7_init_87 hl (k := 0) rfl (by decide) (by decide) rfl (fun ls hl => ?_)
  refine lv_goto (tgt := 69) hx hb dX7_init_90 (by decide) ?_
  refine lv_iload_n hx hb dX7_init_69 rfl (lv_at hl 0 rfl) ?_
  refine lv_iconst (v := 4) hx hb dX7_init_70 (by decide) ?_
  refine lv_icmp_ge (tgt := 93) hx hb dX7_init_71 (by decide) (fun _ => ?_) (fun h1 => absurd (by decide) h1)
  exact Wi.ret hC (post := po7 cA h0) ((fun i => ([y0, y1, y2, y3, y4, y5, y6, y7, y8, y9] : List _).getD i 0), r0, (fun i => ([r1, r2, r3] : List _).getD i 0), r4, (fun i => ([r5, r6, r7, r8] : List _).getD i r5)) (show Wi D A s (po7 cA h0 ((fun i => ([y0, y1, y2, y3, y4, y5, y6, y7, y8, y9] : List _).getD i 0), r0, (fun i => ([r1, r2, r3] : List _).getD i 0), r4, (fun i => ([r5, r6, r7, r8] : List _).getD i r5))) H _ from hW) (Nat.le_of_ble_eq_true rfl) (Nat.le_of_ble_eq_true rfl) dX7_init_93
