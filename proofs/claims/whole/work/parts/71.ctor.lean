/-! THE CONSTRUCTORS (printed by wip/whole/gen/ctor.py) -/
theorem qc19 : (Jvm.Cond.methodLink "DendroDesk" (3 : Nat) ({ cls := "java/lang/Object", name := "<init>", desc := "()V" } : Jvm.MethodName)) ∈ lw_good := List.mem_filter.mpr ⟨List.mem_of_getElem? (i := 87) (by decide +kernel), by decide +kernel⟩
theorem qc20 : (Jvm.Cond.instanceMethod ({ cls := "java/lang/Object", name := "<init>", desc := "()V" } : Jvm.MethodName)) ∈ lw_good := List.mem_filter.mpr ⟨List.mem_of_getElem? (i := 88) (by decide +kernel), by decide +kernel⟩
theorem qc21 : (Jvm.Cond.code ({ cls := "java/lang/Object", name := "<init>", desc := "()V" } : Jvm.MethodName) object_method_1_code (1 : Nat) (Option.none : Option Jvm.ClassFile.FieldType)) ∈ lw_good := List.mem_filter.mpr ⟨List.mem_of_getElem? (i := 89) (by decide +kernel), by decide +kernel⟩
theorem qc22 : (Jvm.Cond.classLink "DendroDesk" (9 : Nat) "DendroDesk$Points") ∈ lw_good := List.mem_filter.mpr ⟨List.mem_of_getElem? (i := 90) (by decide +kernel), by decide +kernel⟩
theorem qc23 : (Jvm.Cond.instantiable "DendroDesk$Points" (4 : Nat)) ∈ lw_good := List.mem_filter.mpr ⟨List.mem_of_getElem? (i := 91) (by decide +kernel), by decide +kernel⟩
theorem qc24 : (Jvm.Cond.methodLinkNest "DendroDesk" (11 : Nat) ({ cls := "DendroDesk$Points", name := "<init>", desc := "()V" } : Jvm.MethodName) "DendroDesk") ∈ lw_tbl := List.mem_of_getElem? (i := 92) (by decide +kernel)
theorem qc25 : (Jvm.Cond.instanceMethod ({ cls := "DendroDesk$Points", name := "<init>", desc := "()V" } : Jvm.MethodName)) ∈ lw_good := List.mem_filter.mpr ⟨List.mem_of_getElem? (i := 93) (by decide +kernel), by decide +kernel⟩
theorem qc26 : (Jvm.Cond.code ({ cls := "DendroDesk$Points", name := "<init>", desc := "()V" } : Jvm.MethodName) prog_5_method_1_code (1 : Nat) (Option.none : Option Jvm.ClassFile.FieldType)) ∈ lw_good := List.mem_filter.mpr ⟨List.mem_of_getElem? (i := 94) (by decide +kernel), by decide +kernel⟩
theorem qc27 : (Jvm.Cond.methodLink "DendroDesk$Points" (3 : Nat) ({ cls := "java/lang/Object", name := "<init>", desc := "()V" } : Jvm.MethodName)) ∈ lw_good := List.mem_filter.mpr ⟨List.mem_of_getElem? (i := 95) (by decide +kernel), by decide +kernel⟩
theorem qc28 : (Jvm.Cond.classLink "DendroDesk$Points" (9 : Nat) "[[I") ∈ lw_good := List.mem_filter.mpr ⟨List.mem_of_getElem? (i := 96) (by decide +kernel), by decide +kernel⟩
theorem qc49 : (Jvm.Cond.arrayClass Jvm.ClassFile.FieldType.int) ∈ lw_good := List.mem_filter.mpr ⟨List.mem_of_getElem? (i := 117) (by decide +kernel), by decide +kernel⟩
theorem qc50 : (Jvm.Cond.classLink "DendroDesk" (16 : Nat) "DendroDesk$Bytes") ∈ lw_good := List.mem_filter.mpr ⟨List.mem_of_getElem? (i := 118) (by decide +kernel), by decide +kernel⟩
theorem qc51 : (Jvm.Cond.instantiable "DendroDesk$Bytes" (2 : Nat)) ∈ lw_good := List.mem_filter.mpr ⟨List.mem_of_getElem? (i := 119) (by decide +kernel), by decide +kernel⟩
theorem qc52 : (Jvm.Cond.methodLinkNest "DendroDesk" (18 : Nat) ({ cls := "DendroDesk$Bytes", name := "<init>", desc := "()V" } : Jvm.MethodName) "DendroDesk") ∈ lw_tbl := List.mem_of_getElem? (i := 120) (by decide +kernel)
theorem qc53 : (Jvm.Cond.instanceMethod ({ cls := "DendroDesk$Bytes", name := "<init>", desc := "()V" } : Jvm.MethodName)) ∈ lw_good := List.mem_filter.mpr ⟨List.mem_of_getElem? (i := 121) (by decide +kernel), by decide +kernel⟩
theorem qc54 : (Jvm.Cond.code ({ cls := "DendroDesk$Bytes", name := "<init>", desc := "()V" } : Jvm.MethodName) prog_2_method_1_code (1 : Nat) (Option.none : Option Jvm.ClassFile.FieldType)) ∈ lw_good := List.mem_filter.mpr ⟨List.mem_of_getElem? (i := 122) (by decide +kernel), by decide +kernel⟩
theorem qc55 : (Jvm.Cond.methodLink "DendroDesk$Bytes" (3 : Nat) ({ cls := "java/lang/Object", name := "<init>", desc := "()V" } : Jvm.MethodName)) ∈ lw_good := List.mem_filter.mpr ⟨List.mem_of_getElem? (i := 123) (by decide +kernel), by decide +kernel⟩
theorem qc65 : (Jvm.Cond.arrayClass Jvm.ClassFile.FieldType.byte) ∈ lw_good := List.mem_filter.mpr ⟨List.mem_of_getElem? (i := 133) (by decide +kernel), by decide +kernel⟩
theorem qc66 : (Jvm.Cond.classLink "DendroDesk" (26 : Nat) "DendroDesk$TableReader") ∈ lw_good := List.mem_filter.mpr ⟨List.mem_of_getElem? (i := 134) (by decide +kernel), by decide +kernel⟩
theorem qc67 : (Jvm.Cond.instantiable "DendroDesk$TableReader" (3 : Nat)) ∈ lw_good := List.mem_filter.mpr ⟨List.mem_of_getElem? (i := 135) (by decide +kernel), by decide +kernel⟩
theorem qc68 : (Jvm.Cond.methodLinkNest "DendroDesk" (28 : Nat) ({ cls := "DendroDesk$TableReader", name := "<init>", desc := "()V" } : Jvm.MethodName) "DendroDesk") ∈ lw_tbl := List.mem_of_getElem? (i := 136) (by decide +kernel)
theorem qc69 : (Jvm.Cond.instanceMethod ({ cls := "DendroDesk$TableReader", name := "<init>", desc := "()V" } : Jvm.MethodName)) ∈ lw_good := List.mem_filter.mpr ⟨List.mem_of_getElem? (i := 137) (by decide +kernel), by decide +kernel⟩
theorem qc70 : (Jvm.Cond.code ({ cls := "DendroDesk$TableReader", name := "<init>", desc := "()V" } : Jvm.MethodName) prog_7_method_1_code (1 : Nat) (Option.none : Option Jvm.ClassFile.FieldType)) ∈ lw_good := List.mem_filter.mpr ⟨List.mem_of_getElem? (i := 138) (by decide +kernel), by decide +kernel⟩
theorem qc71 : (Jvm.Cond.methodLink "DendroDesk$TableReader" (3 : Nat) ({ cls := "java/lang/Object", name := "<init>", desc := "()V" } : Jvm.MethodName)) ∈ lw_good := List.mem_filter.mpr ⟨List.mem_of_getElem? (i := 139) (by decide +kernel), by decide +kernel⟩
theorem qc84 : (Jvm.Cond.classLink "DendroDesk" (33 : Nat) "DendroDesk$Joining") ∈ lw_good := List.mem_filter.mpr ⟨List.mem_of_getElem? (i := 152) (by decide +kernel), by decide +kernel⟩
theorem qc85 : (Jvm.Cond.instantiable "DendroDesk$Joining" (15 : Nat)) ∈ lw_good := List.mem_filter.mpr ⟨List.mem_of_getElem? (i := 153) (by decide +kernel), by decide +kernel⟩
theorem qc86 : (Jvm.Cond.methodLinkNest "DendroDesk" (35 : Nat) ({ cls := "DendroDesk$Joining", name := "<init>", desc := "()V" } : Jvm.MethodName) "DendroDesk") ∈ lw_tbl := List.mem_of_getElem? (i := 154) (by decide +kernel)
theorem qc87 : (Jvm.Cond.instanceMethod ({ cls := "DendroDesk$Joining", name := "<init>", desc := "()V" } : Jvm.MethodName)) ∈ lw_good := List.mem_filter.mpr ⟨List.mem_of_getElem? (i := 155) (by decide +kernel), by decide +kernel⟩
theorem qc88 : (Jvm.Cond.code ({ cls := "DendroDesk$Joining", name := "<init>", desc := "()V" } : Jvm.MethodName) prog_3_method_1_code (1 : Nat) (Option.none : Option Jvm.ClassFile.FieldType)) ∈ lw_good := List.mem_filter.mpr ⟨List.mem_of_getElem? (i := 156) (by decide +kernel), by decide +kernel⟩
theorem qc89 : (Jvm.Cond.methodLink "DendroDesk$Joining" (3 : Nat) ({ cls := "java/lang/Object", name := "<init>", desc := "()V" } : Jvm.MethodName)) ∈ lw_good := List.mem_filter.mpr ⟨List.mem_of_getElem? (i := 157) (by decide +kernel), by decide +kernel⟩
theorem qc90 : (Jvm.Cond.classLink "DendroDesk$Joining" (9 : Nat) "DendroDesk$Steps") ∈ lw_good := List.mem_filter.mpr ⟨List.mem_of_getElem? (i := 158) (by decide +kernel), by decide +kernel⟩
theorem qc91 : (Jvm.Cond.instantiable "DendroDesk$Steps" (6 : Nat)) ∈ lw_good := List.mem_filter.mpr ⟨List.mem_of_getElem? (i := 159) (by decide +kernel), by decide +kernel⟩
theorem qc92 : (Jvm.Cond.methodLinkNest "DendroDesk$Joining" (11 : Nat) ({ cls := "DendroDesk$Steps", name := "<init>", desc := "()V" } : Jvm.MethodName) "DendroDesk") ∈ lw_tbl := List.mem_of_getElem? (i := 160) (by decide +kernel)
theorem qc93 : (Jvm.Cond.instanceMethod ({ cls := "DendroDesk$Steps", name := "<init>", desc := "()V" } : Jvm.MethodName)) ∈ lw_good := List.mem_filter.mpr ⟨List.mem_of_getElem? (i := 161) (by decide +kernel), by decide +kernel⟩
theorem qc94 : (Jvm.Cond.code ({ cls := "DendroDesk$Steps", name := "<init>", desc := "()V" } : Jvm.MethodName) prog_6_method_1_code (1 : Nat) (Option.none : Option Jvm.ClassFile.FieldType)) ∈ lw_good := List.mem_filter.mpr ⟨List.mem_of_getElem? (i := 162) (by decide +kernel), by decide +kernel⟩
theorem qc95 : (Jvm.Cond.methodLink "DendroDesk$Steps" (3 : Nat) ({ cls := "java/lang/Object", name := "<init>", desc := "()V" } : Jvm.MethodName)) ∈ lw_good := List.mem_filter.mpr ⟨List.mem_of_getElem? (i := 163) (by decide +kernel), by decide +kernel⟩
theorem qc131 : (Jvm.Cond.arrayClass Jvm.ClassFile.FieldType.long) ∈ lw_good := List.mem_filter.mpr ⟨List.mem_of_getElem? (i := 199) (by decide +kernel), by decide +kernel⟩
theorem qc132 : (Jvm.Cond.classLink "DendroDesk$Joining" (35 : Nat) "[[J") ∈ lw_good := List.mem_filter.mpr ⟨List.mem_of_getElem? (i := 200) (by decide +kernel), by decide +kernel⟩
theorem qc180 : (Jvm.Cond.classLink "DendroDesk" (40 : Nat) "DendroDesk$Tree") ∈ lw_good := List.mem_filter.mpr ⟨List.mem_of_getElem? (i := 248) (by decide +kernel), by decide +kernel⟩
theorem qc182 : (Jvm.Cond.instantiable "DendroDesk$Tree" (7 : Nat)) ∈ lw_good := List.mem_filter.mpr ⟨List.mem_of_getElem? (i := 250) (by decide +kernel), by decide +kernel⟩
theorem qc183 : (Jvm.Cond.methodLinkNest "DendroDesk" (46 : Nat) ({ cls := "DendroDesk$Tree", name := "<init>", desc := "()V" } : Jvm.MethodName) "DendroDesk") ∈ lw_tbl := List.mem_of_getElem? (i := 251) (by decide +kernel)
theorem qc184 : (Jvm.Cond.instanceMethod ({ cls := "DendroDesk$Tree", name := "<init>", desc := "()V" } : Jvm.MethodName)) ∈ lw_good := List.mem_filter.mpr ⟨List.mem_of_getElem? (i := 252) (by decide +kernel), by decide +kernel⟩
theorem qc185 : (Jvm.Cond.code ({ cls := "DendroDesk$Tree", name := "<init>", desc := "()V" } : Jvm.MethodName) prog_8_method_1_code (1 : Nat) (Option.none : Option Jvm.ClassFile.FieldType)) ∈ lw_good := List.mem_filter.mpr ⟨List.mem_of_getElem? (i := 253) (by decide +kernel), by decide +kernel⟩
theorem qc186 : (Jvm.Cond.methodLink "DendroDesk$Tree" (3 : Nat) ({ cls := "java/lang/Object", name := "<init>", desc := "()V" } : Jvm.MethodName)) ∈ lw_good := List.mem_filter.mpr ⟨List.mem_of_getElem? (i := 254) (by decide +kernel), by decide +kernel⟩
theorem qc187 : (Jvm.Cond.classLink "DendroDesk$Tree" (9 : Nat) "DendroDesk$Steps") ∈ lw_good := List.mem_filter.mpr ⟨List.mem_of_getElem? (i := 255) (by decide +kernel), by decide +kernel⟩
theorem qc188 : (Jvm.Cond.methodLinkNest "DendroDesk$Tree" (11 : Nat) ({ cls := "DendroDesk$Steps", name := "<init>", desc := "()V" } : Jvm.MethodName) "DendroDesk") ∈ lw_tbl := List.mem_of_getElem? (i := 256) (by decide +kernel)
theorem qc634 : (Jvm.Cond.methodLink "DendroDeskModel" (1 : Nat) ({ cls := "java/lang/Object", name := "<init>", desc := "()V" } : Jvm.MethodName)) ∈ lw_good := List.mem_filter.mpr ⟨List.mem_of_getElem? (i := 702) (by decide +kernel), by decide +kernel⟩
theorem qc753 : (Jvm.Cond.arrayClass Jvm.ClassFile.FieldType.boolean) ∈ lw_good := List.mem_filter.mpr ⟨List.mem_of_getElem? (i := 821) (by decide +kernel), by decide +kernel⟩
theorem hfX0 : ∀ j, j < 2 → defaultValue (tyX0 j) = vp_V [.null, .int 0] j := by
  intro j hj
  match j, hj with
  | 0, _ => rfl
  | 1, _ => rfl
  | n + 2, h => exact absurd h (by omega)
abbrev rmX0_init : Room := { frames := 1, cells := 1, slots := 2400, locals := 20 }
def po0 (cA : Nat → ClassId) (h0 : Nat) (q : Nat) : va_W := [(h0, .inr (0, [.ref q, .int 0])), (q, .inl (cA 1, 2400, .inl (fun _ => 0)))]
set_option maxHeartbeats 4000000 in
set_option maxRecDepth 100000 in
theorem iX0 {l : Launch} {D : va_G} {cA : Nat → ClassId} {h0 sz : Nat} : MI l D cA ⟨RX0, "<init>", "()V"⟩ cX0_init 1 rmX0_init h0 0 [.null, .int 0] sz (po0 cA h0) 1 2400 := by
  refine MI.of (by decide) (by decide) ?_
  intro p e s m args below meth c ls A hC hi hO hA hW hl
  have hx := hC.1
  have hb := hC.2.1
  have hl : lv_has ls 1 [(0, .ref h0)] := hl
  refine lv_aload_n hx hb dX0_init_0 rfl (lv_at hl 0 rfl) ?_
  refine Wi.obj' hC qc55 qc20 qc21 hl.1 dX0_init_1 (Nat.le_of_ble_eq_true rfl) (Nat.le_of_ble_eq_true rfl) ?_
  refine lv_aload_n hx hb dX0_init_4 rfl (lv_at hl 0 rfl) ?_
  refine lv_sipush (v := 2400) hx hb dX0_init_5 (by decide) ?_
  refine Wi.newaC hC hA hW 1 (ty := .byte) rfl rfl qc65 (N' := 2400) (2400, .inl (fun _ => 0)) (fun _ => rfl) (by decide) (by decide) (by decide) (Nat.le_of_ble_eq_true rfl) (Nat.le_of_ble_eq_true rfl) dX0_init_8 (fun y0 H hW => ?_)
  refine Wi.putFS hC hi hW 0 (ty := (.array .byte)) inX0_g tyX0_ok nmX0 rfl (by decide) q56 rfl rfl (by decide +kernel) rfl rfl (Nat.le_of_ble_eq_true rfl) (fs' := [.ref y0, .int 0]) rfl dX0_init_10 (fun H locs hW => ?_)
  exact Wi.ret hC (post := po0 cA h0) y0 (show Wi D A s (po0 cA h0 y0) H _ from hW) (Nat.le_of_ble_eq_true rfl) (Nat.le_of_ble_eq_true rfl) dX0_init_13
theorem hfX4 : ∀ j, j < 6 → defaultValue (tyX4 j) = vp_V [.int 0, .null, .null, .null, .null, .null] j := by
  intro j hj
  match j, hj with
  | 0, _ => rfl
  | 1, _ => rfl
  | 2, _ => rfl
  | 3, _ => rfl
  | 4, _ => rfl
  | 5, _ => rfl
  | n + 6, h => exact absurd h (by omega)
abbrev rmX4_init : Room := { frames := 1, cells := 5, slots := 95, locals := 20 }
def po4 (cA : Nat → ClassId) (h0 : Nat) (r : Nat → Nat) : va_W := [(h0, .inr (4, [.int 0, .ref (r 0), .ref (r 1), .ref (r 2), .ref (r 3), .ref (r 4)])), (r 0, .inl (cA 0, (19, .inl (fun _ => 0)))), (r 1, .inl (cA 0, (19, .inl (fun _ => 0)))), (r 2, .inl (cA 0, (19, .inl (fun _ => 0)))), (r 3, .inl (cA 3, (19, .inr (.inl (fun _ => 0))))), (r 4, .inl (cA 3, (19, .inr (.inl (fun _ => 0)))))]
set_option maxHeartbeats 4000000 in
set_option maxRecDepth 100000 in
theorem iX4 {l : Launch} {D : va_G} {cA : Nat → ClassId} {h0 sz : Nat} : MI l D cA ⟨RX4, "<init>", "()V"⟩ cX4_init 1 rmX4_init h0 4 [.int 0, .null, .null, .null, .null, .null] sz (po4 cA h0) 5 95 := by
  refine MI.of (by decide) (by decide) ?_
  intro p e s m args below meth c ls A hC hi hO hA hW hl
  have hx := hC.1
  have hb := hC.2.1
  have hl : lv_has ls 1 [(0, .ref h0)] := hl
  refine lv_aload_n hx hb dX4_init_0 rfl (lv_at hl 0 rfl) ?_
  refine Wi.obj' hC qc95 qc20 qc21 hl.1 dX4_init_1 (Nat.le_of_ble_eq_true rfl) (Nat.le_of_ble_eq_true rfl) ?_
  refine lv_aload_n hx hb dX4_init_4 rfl (lv_at hl 0 rfl) ?_
  refine lv_bipush (v := 19) hx hb dX4_init_5 (by decide) ?_
  refine Wi.newaC hC hA hW 0 (ty := .int) rfl rfl qc49 (N' := 19) (19, .inl (fun _ => 0)) (fun _ => rfl) (by decide) (by decide) (by decide) (Nat.le_of_ble_eq_true rfl) (Nat.le_of_ble_eq_true rfl) dX4_init_7 (fun y0 H hW => ?_)
  refine Wi.putFS hC hi hW 1 (ty := (.array .int)) inX4_g tyX4_ok nmX4 rfl (by decide) q100 rfl rfl (by decide +kernel) rfl rfl (Nat.le_of_ble_eq_true rfl) (fs' := [.int 0, .ref y0, .null, .null, .null, .null]) rfl dX4_init_9 (fun H locs hW => ?_)
  refine lv_aload_n hx hb dX4_init_12 rfl (lv_at hl 0 rfl) ?_
  refine lv_bipush (v := 19) hx hb dX4_init_13 (by decide) ?_
  refine Wi.newaC hC hA hW 0 (ty := .int) rfl rfl qc49 (N' := 19) (19, .inl (fun _ => 0)) (fun _ => rfl) (by decide) (by decide) (by decide) (Nat.le_of_ble_eq_true rfl) (Nat.le_of_ble_eq_true rfl) dX4_init_15 (fun y1 H hW => ?_)
  refine Wi.putFS hC hi hW 2 (ty := (.array .int)) inX4_g tyX4_ok nmX4 rfl (by decide) q104 rfl rfl (by decide +kernel) rfl rfl (Nat.le_of_ble_eq_true rfl) (fs' := [.int 0, .ref y0, .ref y1, .null, .null, .null]) rfl dX4_init_17 (fun H locs hW => ?_)
  refine lv_aload_n hx hb dX4_init_20 rfl (lv_at hl 0 rfl) ?_
  refine lv_bipush (v := 19) hx hb dX4_init_21 (by decide) ?_
  refine Wi.newaC hC hA hW 0 (ty := .int) rfl rfl qc49 (N' := 19) (19, .inl (fun _ => 0)) (fun _ => rfl) (by decide) (by decide) (by decide) (Nat.le_of_ble_eq_true rfl) (Nat.le_of_ble_eq_true rfl) dX4_init_23 (fun y2 H hW => ?_)
  refine Wi.putFS hC hi hW 3 (ty := (.array .int)) inX4_g tyX4_ok nmX4 rfl (by decide) q108 rfl rfl (by decide +kernel) rfl rfl (Nat.le_of_ble_eq_true rfl) (fs' := [.int 0, .ref y0, .ref y1, .ref y2, .null, .null]) rfl dX4_init_25 (fun H locs hW => ?_)
  refine lv_aload_n hx hb dX4_init_28 rfl (lv_at hl 0 rfl) ?_
  refine lv_bipush (v := 19) hx hb dX4_init_29 (by decide) ?_
  refine Wi.newaC hC hA hW 3 (ty := .long) rfl rfl qc131 (N' := 19) (19, .inr (.inl (fun _ => 0))) (fun _ => rfl) (by decide) (by decide) (by decide) (Nat.le_of_ble_eq_true rfl) (Nat.le_of_ble_eq_true rfl) dX4_init_31 (fun y3 H hW => ?_)
  refine Wi.putFS hC hi hW 4 (ty := (.array .long)) inX4_g tyX4_ok nmX4 rfl (by decide) q112 rfl rfl (by decide +kernel) rfl rfl (Nat.le_of_ble_eq_true rfl) (fs' := [.int 0, .ref y0, .ref y1, .ref y2, .ref y3, .null]) rfl dX4_init_33 (fun H locs hW => ?_)
  refine lv_aload_n hx hb dX4_init_36 rfl (lv_at hl 0 rfl) ?_
  refine lv_bipush (v := 19) hx hb dX4_init_37 (by decide) ?_
  refine Wi.newaC hC hA hW 3 (ty := .long) rfl rfl qc131 (N' := 19) (19, .inr (.inl (fun _ => 0))) (fun _ => rfl) (by decide) (by decide) (by decide) (Nat.le_of_ble_eq_true rfl) (Nat.le_of_ble_eq_true rfl) dX4_init_39 (fun y4 H hW => ?_)
  refine Wi.putFS hC hi hW 5 (ty := (.array .long)) inX4_g tyX4_ok nmX4 rfl (by decide) q115 rfl rfl (by decide +kernel) rfl rfl (Nat.le_of_ble_eq_true rfl) (fs' := [.int 0, .ref y0, .ref y1, .ref y2, .ref y3, .ref y4]) rfl dX4_init_41 (fun H locs hW => ?_)
  exact Wi.ret hC (post := po4 cA h0) (fun i => ([y0, y1, y2, y3, y4] : List _).getD i 0) (show Wi D A s (po4 cA h0 (fun i => ([y0, y1, y2, y3, y4] : List _).getD i 0)) H _ from hW) (Nat.le_of_ble_eq_true rfl) (Nat.le_of_ble_eq_true rfl) dX4_init_44
theorem hfX3 : ∀ j, j < 4 → defaultValue (tyX3 j) = vp_V [.int 0, .null, .null, .null] j := by
  intro j hj
  match j, hj with
  | 0, _ => rfl
  | 1, _ => rfl
  | 2, _ => rfl
  | 3, _ => rfl
  | n + 4, h => exact absurd h (by omega)
abbrev rmX3_init : Room := { frames := 1, cells := 23, slots := 460, locals := 20 }
abbrev S3 : Type := (Nat → Nat) × (Nat → Nat)
/-- n rows of one length -/
def rws (c : ClassId) (z : vp_A) (n : Nat) (w : Nat → Nat) : va_W := (List.range n).map (fun i => (w i, .inl (c, z)))
def rfs (n : Nat) (w : Nat → Nat) : Nat → Option Nat := fun i => if i < n then some (w i) else none
def po3 (cA : Nat → ClassId) (h0 : Nat) (r : S3) : va_W := (h0, .inr (3, [.int 0, .ref (r.1 0), .ref (r.1 1), .ref (r.1 2)])) :: (((r.1 0, .inl (cA 4, 20, .inr (.inr (.inr (.inr (rfs 20 r.2)))))) :: rws (cA 0) (20, .inl (fun _ => 0)) 20 r.2) ++ [(r.1 1, .inl (cA 0, (20, .inl (fun _ => 0)))), (r.1 2, .inl (cA 0, (20, .inl (fun _ => 0))))])
set_option maxHeartbeats 4000000 in
set_option maxRecDepth 100000 in
theorem iX3 {l : Launch} {D : va_G} {cA : Nat → ClassId} {h0 sz : Nat} : MI l D cA ⟨RX3, "<init>", "()V"⟩ cX3_init 1 rmX3_init h0 3 [.int 0, .null, .null, .null] sz (po3 cA h0) 23 460 := by
  refine MI.of (by decide) (by decide) ?_
  intro p e s m args below meth c ls A hC hi hO hA hW hl
  have hx := hC.1
  have hb := hC.2.1
  have hl : lv_has ls 1 [(0, .ref h0)] := hl
  refine lv_aload_n hx hb dX3_init_0 rfl (lv_at hl 0 rfl) ?_
  refine Wi.obj' hC qc27 qc20 qc21 hl.1 dX3_init_1 (Nat.le_of_ble_eq_true rfl) (Nat.le_of_ble_eq_true rfl) ?_
  refine lv_aload_n hx hb dX3_init_4 rfl (lv_at hl 0 rfl) ?_
  refine lv_bipush (v := 20) hx hb dX3_init_5 (by decide) ?_
  refine lv_bipush (v := 20) hx hb dX3_init_7 (by decide) ?_
  refine Wi.mnaC hC hA hW 4 0 (ty := .int) hO.1 rfl rfl qc28 qc49 (fun h => h) (N' := 20) (K' := 20) (20, .inl (fun _ => 0)) (by decide) (by decide) (by decide) (by decide) (by decide) (by decide) (by decide) rfl rfl (Nat.le_of_ble_eq_true rfl) (Nat.le_of_ble_eq_true rfl) (fun _ => rfl) dX3_init_9 (fun y0 w0 H hW => ?_)
  refine Wi.putFS hC hi hW 1 (ty := (.array (.array .int))) inX3_g tyX3_ok nmX3 rfl (by decide) q33 rfl rfl (by decide +kernel) rfl rfl (Nat.le_of_ble_eq_true rfl) (fs' := [.int 0, .ref y0, .null, .null]) rfl dX3_init_13 (fun H locs hW => ?_)
  refine lv_aload_n hx hb dX3_init_16 rfl (lv_at hl 0 rfl) ?_
  refine lv_bipush (v := 20) hx hb dX3_init_17 (by decide) ?_
  refine Wi.newaC hC hA hW 0 (ty := .int) rfl rfl qc49 (N' := 20) (20, .inl (fun _ => 0)) (fun _ => rfl) (by decide) (by decide) (by decide) (Nat.le_of_ble_eq_true rfl) (Nat.le_of_ble_eq_true rfl) dX3_init_19 (fun y1 H hW => ?_)
  refine Wi.putFS hC hi hW 2 (ty := (.array .int)) inX3_g tyX3_ok nmX3 rfl (by decide) q36 rfl rfl (by decide +kernel) rfl rfl (Nat.le_of_ble_eq_true rfl) (fs' := [.int 0, .ref y0, .ref y1, .null]) rfl dX3_init_21 (fun H locs hW => ?_)
  refine lv_aload_n hx hb dX3_init_24 rfl (lv_at hl 0 rfl) ?_
  refine lv_bipush (v := 20) hx hb dX3_init_25 (by decide) ?_
  refine Wi.newaC hC hA hW 0 (ty := .int) rfl rfl qc49 (N' := 20) (20, .inl (fun _ => 0)) (fun _ => rfl) (by decide) (by decide) (by decide) (Nat.le_of_ble_eq_true rfl) (Nat.le_of_ble_eq_true rfl) dX3_init_27 (fun y2 H hW => ?_)
  refine Wi.putFS hC hi hW 3 (ty := (.array .int)) inX3_g tyX3_ok nmX3 rfl (by decide) q38 rfl rfl (by decide +kernel) rfl rfl (Nat.le_of_ble_eq_true rfl) (fs' := [.int 0, .ref y0, .ref y1, .ref y2]) rfl dX3_init_29 (fun H locs hW => ?_)
  exact Wi.ret hC (post := po3 cA h0) ((fun i => ([y0, y1, y2] : List _).getD i 0), w0) (show Wi D A s (po3 cA h0 ((fun i => ([y0, y1, y2] : List _).getD i 0), w0)) H _ from hW) (Nat.le_of_ble_eq_true rfl) (Nat.le_of_ble_eq_true rfl) dX3_init_32
theorem hfX5 : ∀ j, j < 3 → defaultValue (tyX5 j) = vp_V [.null, .int 0, .int 0] j := by
  intro j hj
  match j, hj with
  | 0, _ => rfl
  | 1, _ => rfl
  | 2, _ => rfl
  | n + 3, h => exact absurd h (by omega)
abbrev rmX5_init : Room := { frames := 1, cells := 1, slots := 191, locals := 20 }
def po5 (cA : Nat → ClassId) (h0 : Nat) (q : Nat) : va_W := [(h0, .inr (5, [.ref q, .int 0, .int (-1)])), (q, .inl (cA 0, (191, .inl (fun _ => 0))))]
set_option maxHeartbeats 4000000 in
set_option maxRecDepth 100000 in
theorem iX5 {l : Launch} {D : va_G} {cA : Nat → ClassId} {h0 sz : Nat} : MI l D cA ⟨RX5, "<init>", "()V"⟩ cX5_init 1 rmX5_init h0 5 [.null, .int 0, .int 0] sz (po5 cA h0) 1 191 := by
  refine MI.of (by decide) (by decide) ?_
  intro p e s m args below meth c ls A hC hi hO hA hW hl
  have hx := hC.1
  have hb := hC.2.1
  have hl : lv_has ls 1 [(0, .ref h0)] := hl
  refine lv_aload_n hx hb dX5_init_0 rfl (lv_at hl 0 rfl) ?_
  refine Wi.obj' hC qc71 qc20 qc21 hl.1 dX5_init_1 (Nat.le_of_ble_eq_true rfl) (Nat.le_of_ble_eq_true rfl) ?_
  refine lv_aload_n hx hb dX5_init_4 rfl (lv_at hl 0 rfl) ?_
  refine lv_sipush (v := 191) hx hb dX5_init_5 (by decide) ?_
  refine Wi.newaC hC hA hW 0 (ty := .int) rfl rfl qc49 (N' := 191) (191, .inl (fun _ => 0)) (fun _ => rfl) (by decide) (by decide) (by decide) (Nat.le_of_ble_eq_true rfl) (Nat.le_of_ble_eq_true rfl) dX5_init_8 (fun y0 H hW => ?_)
  refine Wi.putFS hC hi hW 0 (ty := (.array .int)) inX5_g tyX5_ok nmX5 rfl (by decide) q72 rfl rfl (by decide +kernel) rfl rfl (Nat.le_of_ble_eq_true rfl) (fs' := [.ref y0, .int 0, .int 0]) rfl dX5_init_10 (fun H locs hW => ?_)
  refine lv_aload_n hx hb dX5_init_13 rfl (lv_at hl 0 rfl) ?_
  refine lv_iconst (v := (-1)) hx hb dX5_init_14 (by decide) ?_
  refine Wi.putS hC hW 2 (ty := .int) inX5_g tyX5_ok nmX5 rfl (by decide) q75 rfl rfl (by decide +kernel) rfl rfl (Nat.le_of_ble_eq_true rfl) (fs' := [.ref y0, .int 0, .int (-1)]) rfl dX5_init_15 (fun H locs hW => ?_)
  exact Wi.ret hC (post := po5 cA h0) y0 (show Wi D A s (po5 cA h0 y0) H _ from hW) (Nat.le_of_ble_eq_true rfl) (Nat.le_of_ble_eq_true rfl) dX5_init_18
theorem hfX6 : ∀ j, j < 7 → defaultValue (tyX6 j) = vp_V [.int 0, .int 0, .int 0, .int 0, .int 0, .null, .null] j := by
  intro j hj
  match j, hj with
  | 0, _ => rfl
  | 1, _ => rfl
  | 2, _ => rfl
  | 3, _ => rfl
  | 4, _ => rfl
  | 5, _ => rfl
  | 6, _ => rfl
  | n + 7, h => exact absurd h (by omega)
abbrev rmX6_init : Room := { frames := 2, cells := 7, slots := 121, locals := 40 }
abbrev S6 : Type := Nat × (Nat → Nat) × Nat
def po6 (cA : Nat → ClassId) (h0 : Nat) (r : S6) : va_W := (h0, .inr (6, [.int 0, .int 0, .int 0, .int 0, .int 0, .ref r.1, .ref r.2.2])) :: (po4 cA r.1 r.2.1 ++ [(r.2.2, .inl (cA 0, (20, .inl (fun _ => 0))))])
set_option maxHeartbeats 4000000 in
set_option maxRecDepth 100000 in
theorem iX6 {l : Launch} {D : va_G} {cA : Nat → ClassId} {h0 sz : Nat} : MI l D cA ⟨RX6, "<init>", "()V"⟩ cX6_init 1 rmX6_init h0 6 [.int 0, .int 0, .int 0, .int 0, .int 0, .null, .null] sz (po6 cA h0) 7 121 := by
  refine MI.of (by decide) (by decide) ?_
  intro p e s m args below meth c ls A hC hi hO hA hW hl
  have hx := hC.1
  have hb := hC.2.1
  have hl : lv_has ls 1 [(0, .ref h0)] := hl
  refine lv_aload_n hx hb dX6_init_0 rfl (lv_at hl 0 rfl) ?_
  refine Wi.obj' hC qc186 qc20 qc21 hl.1 dX6_init_1 (Nat.le_of_ble_eq_true rfl) (Nat.le_of_ble_eq_true rfl) ?_
  refine lv_aload_n hx hb dX6_init_4 rfl (lv_at hl 0 rfl) ?_
  refine Wi.newC hC hA hW inX4_g tyX4 tyX4_ok qc187 qc91 q6 (ci := 4) rfl [.int 0, .null, .null, .null, .null, .null] hfX4 (Nat.le_of_ble_eq_true rfl) (Nat.le_of_ble_eq_true rfl) dX6_init_5 (fun y0 H hW => ?_)
  refine lv_dup hx hb dX6_init_8 rfl ?_
  refine Wi.callNC hC hO hA (q := y0) (ci := 4) (fs := [.int 0, .null, .null, .null, .null, .null]) hW (iX4 (cA := cA) (h0 := y0)) qc188 qc93 q6 qc94 ⟨rfl, rfl⟩ ⟨by decide, by decide, by decide⟩ ⟨Nat.le_of_ble_eq_true rfl, Nat.le_of_ble_eq_true rfl⟩ ⟨Nat.le_of_ble_eq_true rfl, Nat.le_of_ble_eq_true rfl⟩ hl.1 (Nat.le_of_ble_eq_true rfl) dX6_init_9 (fun r0 H locs hW => ?_)
  refine Wi.putFS hC hi hW 5 (ty := (.object "DendroDesk$Steps")) inX6_g tyX6_ok nmX6 rfl (by decide) q200 rfl rfl (by decide +kernel) rfl rfl (Nat.le_of_ble_eq_true rfl) (fs' := [.int 0, .int 0, .int 0, .int 0, .int 0, .ref y0, .null]) rfl dX6_init_12 (fun H locs hW => ?_)
  refine lv_aload_n hx hb dX6_init_15 rfl (lv_at hl 0 rfl) ?_
  refine lv_bipush (v := 20) hx hb dX6_init_16 (by decide) ?_
  refine Wi.newaC hC hA hW 0 (ty := .int) rfl rfl qc49 (N' := 20) (20, .inl (fun _ => 0)) (fun _ => rfl) (by decide) (by decide) (by decide) (Nat.le_of_ble_eq_true rfl) (Nat.le_of_ble_eq_true rfl) dX6_init_18 (fun y1 H hW => ?_)
  refine Wi.putFS hC hi hW 6 (ty := (.array .int)) inX6_g tyX6_ok nmX6 rfl (by decide) q203 rfl rfl (by decide +kernel) rfl rfl (Nat.le_of_ble_eq_true rfl) (fs' := [.int 0, .int 0, .int 0, .int 0, .int 0, .ref y0, .ref y1]) rfl dX6_init_20 (fun H locs hW => ?_)
  exact Wi.ret hC (post := po6 cA h0) (y0, r0, y1) (show Wi D A s (po6 cA h0 (y0, r0, y1)) H _ from hW) (Nat.le_of_ble_eq_true rfl) (Nat.le_of_ble_eq_true rfl) dX6_init_23
