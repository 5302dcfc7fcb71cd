set_option maxHeartbeats 4000000 in
set_option maxRecDepth 100000 in
theorem kX3_thrown (l : Launch) (D : va_G) (ad : Nat → Nat) (cy : Nat → ClassId) (sz : Nat) (th : Int32) (n : Nat) (E : Nat → Int64) (R : Nat → Int32) (Z : Nat → Int32) (B : Nat → Int32) (BR : Nat → Int64) (wt : Nat) (rk : Nat → Int32) (U : Nat → Int32) (br : Int32) (lc : Int32) (jo : Int64) (wk : Int64)  : mI l yX3_thrown wsX3_thrown ({ frames := 0, cells := 0, slots := 0, locals := 0 }) [.ref (ad 0)] D (mT cy) (mW ad cy th n E R Z B BR wt rk U br lc jo wk) sz th (mW ad cy th n E R Z B BR wt rk U br lc jo wk) 0 0 := by
  refine zin (fun A => zQi D (mT cy) (mW ad cy th n E R Z B BR wt rk U br lc jo wk) th A) (cc := cX3_thrown) (maxL := 1) (ret := (some .int)) (own := RX3) (by decide) rfl rfl (Nat.le_of_ble_eq_true rfl) ?_
  intro p e s m below meth c A F hr hlocks hmn hA hK H locs hP hD hS ls hl
  obtain ⟨hx, hb, hml, hown, hts⟩ := id F
  have hl : lv_has ls 1 [(0, .ref (ad 0))] := hl
  have hinX3 : ∀ w ∈ wsX30, w ∈ wsX3_thrown := by decide +kernel
  have hf_37 := hts (.fieldLink RX3 37 "RegionSharesModel" "thrown" "I") (by decide +kernel)
  refine lv_aload_n hx hb dX3_thrown_0 rfl (lv_at hl 0 rfl) ?_
  refine va_get (D := D) (ci := 3) (v := .int th) (C := RX3) (T := TX3) (N := 14) hx hb hts hinX3 hown hK hP 0 rfl rfl 0 (by decide) hf_37 (fun _ h9 => h9) rfl dX3_thrown_1 ?_
  exact zret_i F hr hlocks hK hP hD hS rfl dX3_thrown_4

set_option maxHeartbeats 4000000 in
set_option maxRecDepth 100000 in
theorem kX3_isShare1 (l : Launch) (D : va_G) (ad : Nat → Nat) (cy : Nat → ClassId) (sz : Nat) (th : Int32) (n : Nat) (E : Nat → Int64) (R : Nat → Int32) (Z : Nat → Int32) (B : Nat → Int32) (BR : Nat → Int64) (wt : Nat) (rk : Nat → Int32) (U : Nat → Int32) (br : Int32) (lc : Int32) (jo : Int64) (wk : Int64) (k : Nat) (hk : k < n) (hn : n ≤ 40) : mI l yX3_isShare wsX3_isShare ({ frames := 0, cells := 0, slots := 0, locals := 0 }) [.ref (ad 0), .int (nI k)] D (mT cy) (mW ad cy th n E R Z B BR wt rk U br lc jo wk) sz 1 (mW ad cy th n E R Z B BR wt rk U br lc jo wk) 0 0 := by
  refine zin (fun A => zQi D (mT cy) (mW ad cy th n E R Z B BR wt rk U br lc jo wk) 1 A) (cc := cX3_isShare) (maxL := 2) (ret := (some .boolean)) (own := RX3) (by decide) rfl rfl (Nat.le_of_ble_eq_true rfl) ?_
  intro p e s m below meth c A F hr hlocks hmn hA hK H locs hP hD hS ls hl
  obtain ⟨hx, hb, hml, hown, hts⟩ := id F
  have hl : lv_has ls 2 [(0, .ref (ad 0)), (1, .int (nI k))] := hl
  have hinX3 : ∀ w ∈ wsX30, w ∈ wsX3_isShare := by decide +kernel
  have hf_33 := hts (.fieldLink RX3 33 "RegionSharesModel" "shares" "I") (by decide +kernel)
  refine lv_iload_n hx hb dX3_isShare_0 rfl (lv_at hl 1 rfl) ?_
  refine lv_if_lt (tgt := 16) hx hb dX3_isShare_1 (by decide) (fun c1 => ?_) (fun c1 => ?_)
  · exact absurd c1 (nI_pos (by omega))
  · refine lv_iload_n hx hb dX3_isShare_4 rfl (lv_at hl 1 rfl) ?_
    refine lv_aload_n hx hb dX3_isShare_5 rfl (lv_at hl 0 rfl) ?_
    refine va_get (D := D) (ci := 3) (v := .int (nI n)) (C := RX3) (T := TX3) (N := 14) hx hb hts hinX3 hown hK hP 0 rfl rfl 1 (by decide) hf_33 (fun _ h9 => h9) rfl dX3_isShare_6 ?_
    refine zb_ge (a := k) (b := n) (tgt := 16) hx hb dX3_isShare_9 (by decide) (by omega) (by omega) (fun c9 => ?_) (fun c9 => ?_)
    · exact absurd c9 (by omega)
    · refine lv_iconst (v := 1) hx hb dX3_isShare_12 (by decide) ?_
      refine lv_goto (tgt := 17) hx hb dX3_isShare_13 (by decide) ?_
      exact zret_z F hr hlocks hK hP hD hS (by decide) rfl dX3_isShare_17

set_option maxHeartbeats 4000000 in
set_option maxRecDepth 100000 in
theorem kX3_isShare0 (l : Launch) (D : va_G) (ad : Nat → Nat) (cy : Nat → ClassId) (sz : Nat) (th : Int32) (n : Nat) (E : Nat → Int64) (R : Nat → Int32) (Z : Nat → Int32) (B : Nat → Int32) (BR : Nat → Int64) (wt : Nat) (rk : Nat → Int32) (U : Nat → Int32) (br : Int32) (lc : Int32) (jo : Int64) (wk : Int64) (x : Int32) (hxo : x < 0 ∨ nI n ≤ x) : mI l yX3_isShare wsX3_isShare ({ frames := 0, cells := 0, slots := 0, locals := 0 }) [.ref (ad 0), .int x] D (mT cy) (mW ad cy th n E R Z B BR wt rk U br lc jo wk) sz 0 (mW ad cy th n E R Z B BR wt rk U br lc jo wk) 0 0 := by
  refine zin (fun A => zQi D (mT cy) (mW ad cy th n E R Z B BR wt rk U br lc jo wk) 0 A) (cc := cX3_isShare) (maxL := 2) (ret := (some .boolean)) (own := RX3) (by decide) rfl rfl (Nat.le_of_ble_eq_true rfl) ?_
  intro p e s m below meth c A F hr hlocks hmn hA hK H locs hP hD hS ls hl
  obtain ⟨hx, hb, hml, hown, hts⟩ := id F
  have hl : lv_has ls 2 [(0, .ref (ad 0)), (1, .int x)] := hl
  have hinX3 : ∀ w ∈ wsX30, w ∈ wsX3_isShare := by decide +kernel
  have hf_33 := hts (.fieldLink RX3 33 "RegionSharesModel" "shares" "I") (by decide +kernel)
  refine lv_iload_n hx hb dX3_isShare_0 rfl (lv_at hl 1 rfl) ?_
  refine lv_if_lt (tgt := 16) hx hb dX3_isShare_1 (by decide) (fun c1 => ?_) (fun c1 => ?_)
  · refine lv_iconst (v := 0) hx hb dX3_isShare_16 (by decide) ?_
    exact zret_z F hr hlocks hK hP hD hS (by decide) rfl dX3_isShare_17
  · refine lv_iload_n hx hb dX3_isShare_4 rfl (lv_at hl 1 rfl) ?_
    refine lv_aload_n hx hb dX3_isShare_5 rfl (lv_at hl 0 rfl) ?_
    refine va_get (D := D) (ci := 3) (v := .int (nI n)) (C := RX3) (T := TX3) (N := 14) hx hb hts hinX3 hown hK hP 0 rfl rfl 1 (by decide) hf_33 (fun _ h9 => h9) rfl dX3_isShare_6 ?_
    refine lv_icmp_ge (tgt := 16) hx hb dX3_isShare_9 (by decide) (fun c9 => ?_) (fun c9 => ?_)
    · refine lv_iconst (v := 0) hx hb dX3_isShare_16 (by decide) ?_
      exact zret_z F hr hlocks hK hP hD hS (by decide) rfl dX3_isShare_17
    · exact absurd (hxo.resolve_left c1) c9

set_option maxHeartbeats 4000000 in
set_option maxRecDepth 100000 in
theorem kX3_value0 (l : Launch) (D : va_G) (ad : Nat → Nat) (cy : Nat → ClassId) (sz : Nat) (th : Int32) (n : Nat) (E : Nat → Int64) (R : Nat → Int32) (Z : Nat → Int32) (B : Nat → Int32) (BR : Nat → Int64) (wt : Nat) (rk : Nat → Int32) (U : Nat → Int32) (br : Int32) (lc : Int32) (jo : Int64) (wk : Int64) (k : Nat) (x : Int32) (h : E k = x.toInt64) (hx1 : -8000 ≤ x.toInt) (hx2 : x.toInt ≤ 8000) (hk : k < n) (hn : n ≤ 40) : mI l yX3_value wsX3_value ({ frames := 1, cells := 0, slots := 0, locals := 40 }) [.ref (ad 0), .int (nI k), .double (Dz (8 * x.toInt))] D (mT cy) (mW ad cy th n E R Z B BR wt rk U br lc jo wk) sz 0 (mW ad cy 0 n (vp_updL E k x.toInt64) R Z B BR wt rk U br lc jo wk) 0 0 := by
  refine zin (fun A => zQi D (mT cy) (mW ad cy 0 n (vp_updL E k x.toInt64) R Z B BR wt rk U br lc jo wk) 0 A) (cc := cX3_value) (maxL := 7) (ret := (some .boolean)) (own := RX3) (by decide) rfl rfl (Nat.le_of_ble_eq_true rfl) ?_
  intro p e s m below meth c A F hr hlocks hmn hA hK H locs hP hD hS ls hl
  obtain ⟨hx, hb, hml, hown, hts⟩ := id F
  have hl : lv_has ls 7 [(0, .ref (ad 0)), (1, .int (nI k)), (2, .double (Dz (8 * x.toInt)))] := hl
  have hinX3 : ∀ w ∈ wsX30, w ∈ wsX3_value := by decide +kernel
  have hf_7 := hts (.fieldLink RX3 7 "RegionSharesModel" "eighths" "[J") (by decide +kernel)
  have hf_37 := hts (.fieldLink RX3 37 "RegionSharesModel" "thrown" "I") (by decide +kernel)
  refine lv_aload_n hx hb dX3_value_0 rfl (lv_at hl 0 rfl) ?_
  refine lv_aload_n hx hb dX3_value_1 rfl (lv_at hl 0 rfl) ?_
  refine lv_iload_n hx hb dX3_value_2 rfl (lv_at hl 1 rfl) ?_
  refine zcV_i (As := [.int (nI k)]) (rest := [.ref (ad 0)]) F (kX3_isShare1 l D ad cy _ th n E R Z B BR wt rk U br lc jo wk k hk hn) (cwV 1 hts gX3_value_X3_isShare rfl rfl rfl (by decide +kernel) ⟨Nat.le_of_ble_eq_true rfl, Nat.le_of_ble_eq_true rfl⟩) (va_recv hK hP (ci := 3) (q0 := 0) rfl rfl) hK hP hD hS hA rfl hl.1 rfl (Nat.le_of_ble_eq_true rfl) dX3_value_3 ⟨Nat.le_of_ble_eq_true rfl, Nat.le_of_ble_eq_true rfl⟩ (fun H locs hP hD hS => ?_)
  have r1 := x.toInt_lt
  have r2 := x.le_toInt
  refine lv_if_ne (tgt := 13) hx hb dX3_value_6 (by decide) (fun c6 => ?_) (fun c6 => ?_)
  · refine lv_dload_n hx hb dX3_value_13 rfl (lv_at hl 2 rfl) ?_
    refine lv_ldc2d hx hb hown (hts (.constantDouble RX3 44 (13875379345695965184)) (by decide +kernel)) dX3_value_14 ?_
    refine z_topd (y := Dz (-64000)) dz_m1000 ?_
    refine lv_dcmp hx hb dX3_value_17 ?_
    refine z_topi (y := cv (8 * x.toInt) (-64000)) (dz_cv (by omega) (by decide) _) ?_
    refine lv_if_lt (tgt := 33) hx hb dX3_value_18 (by decide) (fun c18 => ?_) (fun c18 => ?_)
    · exact absurd (cv_lt.mp c18) (by omega)
    · refine lv_dload_n hx hb dX3_value_21 rfl (lv_at hl 2 rfl) ?_
      refine lv_ldc2d hx hb hown (hts (.constantDouble RX3 46 (4652007308841189376)) (by decide +kernel)) dX3_value_22 ?_
      refine z_topd (y := Dz 64000) dz_1000 ?_
      refine lv_dcmp hx hb dX3_value_25 ?_
      refine z_topi (y := cv (8 * x.toInt) 64000) (dz_cv (by omega) (by decide) _) ?_
      refine lv_if_gt (tgt := 33) hx hb dX3_value_26 (by decide) (fun c26 => ?_) (fun c26 => ?_)
      · exact absurd (cv_gt.mp c26) (by omega)
      · refine lv_iconst (v := 0) hx hb dX3_value_29 (by decide) ?_
        refine lv_goto (tgt := 34) hx hb dX3_value_30 (by decide) ?_
        refine va_put (D := D) (ci := 3) (v := .int 0) (ty := .int) (C := RX3) (T := TX3) (N := 14) hx hb hts hinX3 tyX3 tyX3_ok nmX3 hown hK hP hD hS 0 rfl rfl 0 (by decide) hf_37 (fun _ h9 => h9) rfl (by decide +kernel) rfl rfl (Nat.le_of_ble_eq_true rfl) dX3_value_34 (fun H locs hP hD hS => ?_)
        have hP : va_P D vwCl (mW ad cy 0 n E R Z B BR wt rk U br lc jo wk) H := hP
        have hD : va_D A (mW ad cy 0 n E R Z B BR wt rk U br lc jo wk) := hD
        refine lv_aload_n hx hb dX3_value_37 rfl (lv_at hl 0 rfl) ?_
        refine va_get (D := D) (ci := 3) (v := .int 0) (C := RX3) (T := TX3) (N := 14) hx hb hts hinX3 hown hK hP 0 rfl rfl 0 (by decide) hf_37 (fun _ h9 => h9) rfl dX3_value_38 ?_
        refine lv_if_eq (tgt := 46) hx hb dX3_value_41 (by decide) (fun c41 => ?_) (fun c41 => ?_)
        · refine lv_dload_n hx hb dX3_value_46 rfl (lv_at hl 2 rfl) ?_
          refine lv_ldc2d hx hb hown (hts (.constantDouble RX3 48 (4620693217682128896)) (by decide +kernel)) dX3_value_47 ?_
          refine z_topd (y := Dz 512) dz_8 ?_
          refine lv_dmul hx hb dX3_value_50 (by rw [dz_v8]; exact dz_n64 (by omega)) ?_
          refine z_topd (y := Dz (64 * x.toInt)) (dz_v8 x) ?_
          refine lv_d2l hx hb dX3_value_51 ?_
          refine z_topl (y := x.toInt64) (dz_d2l x) ?_
          refine lv_lstore (lv' := [(4, .long x.toInt64), (0, .ref (ad 0)), (1, .int (nI k)), (2, .double (Dz (8 * x.toInt)))]) hx hb dX3_value_52 hl (by decide) rfl (fun ls hl => ?_)
          refine lv_aload_n hx hb dX3_value_54 rfl (lv_at hl 1 rfl) ?_
          refine va_get (D := D) (ci := 3) (v := .ref (ad 1)) (C := RX3) (T := TX3) (N := 14) hx hb hts hinX3 hown hK hP 0 rfl rfl 2 (by decide) hf_7 (fun _ h9 => h9) rfl dX3_value_55 ?_
          refine lv_iload_n hx hb dX3_value_58 rfl (lv_at hl 2 rfl) ?_
          refine ax_lld hx hb hK hP 1 0 rfl rfl (by omega) (by omega) dX3_value_59 ?_
          refine lv_lload hx hb dX3_value_60 (lv_at hl 0 rfl) ?_
          refine W.lcmp hx hb dX3_value_62 ?_
          refine lv_if_eq (tgt := 70) hx hb dX3_value_63 (by decide) (fun c63 => ?_) (fun c63 => ?_)
          · refine lv_iconst (v := 0) hx hb dX3_value_70 (by decide) ?_
            refine lv_istore (lv' := [(6, .int 0), (4, .long x.toInt64), (0, .ref (ad 0)), (1, .int (nI k)), (2, .double (Dz (8 * x.toInt)))]) hx hb dX3_value_71 hl (by decide) rfl (fun ls hl => ?_)
            refine lv_aload_n hx hb dX3_value_73 rfl (lv_at hl 2 rfl) ?_
            refine va_get (D := D) (ci := 3) (v := .ref (ad 1)) (C := RX3) (T := TX3) (N := 14) hx hb hts hinX3 hown hK hP 0 rfl rfl 2 (by decide) hf_7 (fun _ h9 => h9) rfl dX3_value_74 ?_
            refine lv_iload_n hx hb dX3_value_77 rfl (lv_at hl 3 rfl) ?_
            refine lv_lload hx hb dX3_value_78 (lv_at hl 1 rfl) ?_
            refine ax_lst hx hb hK hP hD hS 1 0 rfl rfl (by omega) (by omega) dX3_value_80 (fun H locs hP hD hS => ?_)
            have hP : va_P D vwCl (mW ad cy 0 n (vp_updL E k x.toInt64) R Z B BR wt rk U br lc jo wk) H := hP
            have hD : va_D A (mW ad cy 0 n (vp_updL E k x.toInt64) R Z B BR wt rk U br lc jo wk) := hD
            refine lv_iload hx hb dX3_value_81 (lv_at hl 0 rfl) ?_
            exact zret_z F hr hlocks hK hP hD hS (by decide) rfl dX3_value_83
          · exact absurd (lgc0.mpr h) c63
        · exact absurd rfl c41
  · exact absurd c6 (by decide)

set_option maxHeartbeats 4000000 in
set_option maxRecDepth 100000 in
theorem kX3_value1 (l : Launch) (D : va_G) (ad : Nat → Nat) (cy : Nat → ClassId) (sz : Nat) (th : Int32) (n : Nat) (E : Nat → Int64) (R : Nat → Int32) (Z : Nat → Int32) (B : Nat → Int32) (BR : Nat → Int64) (wt : Nat) (rk : Nat → Int32) (U : Nat → Int32) (br : Int32) (lc : Int32) (jo : Int64) (wk : Int64) (k : Nat) (x : Int32) (h : ¬ E k = x.toInt64) (hx1 : -8000 ≤ x.toInt) (hx2 : x.toInt ≤ 8000) (hk : k < n) (hn : n ≤ 40) : mI l yX3_value wsX3_value ({ frames := 1, cells := 0, slots := 0, locals := 40 }) [.ref (ad 0), .int (nI k), .double (Dz (8 * x.toInt))] D (mT cy) (mW ad cy th n E R Z B BR wt rk U br lc jo wk) sz 1 (mW ad cy 0 n (vp_updL E k x.toInt64) R Z B BR wt rk U br lc jo wk) 0 0 := by
  refine zin (fun A => zQi D (mT cy) (mW ad cy 0 n (vp_updL E k x.toInt64) R Z B BR wt rk U br lc jo wk) 1 A) (cc := cX3_value) (maxL := 7) (ret := (some .boolean)) (own := RX3) (by decide) rfl rfl (Nat.le_of_ble_eq_true rfl) ?_
  intro p e s m below meth c A F hr hlocks hmn hA hK H locs hP hD hS ls hl
  obtain ⟨hx, hb, hml, hown, hts⟩ := id F
  have hl : lv_has ls 7 [(0, .ref (ad 0)), (1, .int (nI k)), (2, .double (Dz (8 * x.toInt)))] := hl
  have hinX3 : ∀ w ∈ wsX30, w ∈ wsX3_value := by decide +kernel
  have hf_7 := hts (.fieldLink RX3 7 "RegionSharesModel" "eighths" "[J") (by decide +kernel)
  have hf_37 := hts (.fieldLink RX3 37 "RegionSharesModel" "thrown" "I") (by decide +kernel)
  refine lv_aload_n hx hb dX3_value_0 rfl (lv_at hl 0 rfl) ?_
  refine lv_aload_n hx hb dX3_value_1 rfl (lv_at hl 0 rfl) ?_
  refine lv_iload_n hx hb dX3_value_2 rfl (lv_at hl 1 rfl) ?_
  refine zcV_i (As := [.int (nI k)]) (rest := [.ref (ad 0)]) F (kX3_isShare1 l D ad cy _ th n E R Z B BR wt rk U br lc jo wk k hk hn) (cwV 1 hts gX3_value_X3_isShare rfl rfl rfl (by decide +kernel) ⟨Nat.le_of_ble_eq_true rfl, Nat.le_of_ble_eq_true rfl⟩) (va_recv hK hP (ci := 3) (q0 := 0) rfl rfl) hK hP hD hS hA rfl hl.1 rfl (Nat.le_of_ble_eq_true rfl) dX3_value_3 ⟨Nat.le_of_ble_eq_true rfl, Nat.le_of_ble_eq_true rfl⟩ (fun H locs hP hD hS => ?_)
  have r1 := x.toInt_lt
  have r2 := x.le_toInt
  refine lv_if_ne (tgt := 13) hx hb dX3_value_6 (by decide) (fun c6 => ?_) (fun c6 => ?_)
  · refine lv_dload_n hx hb dX3_value_13 rfl (lv_at hl 2 rfl) ?_
    refine lv_ldc2d hx hb hown (hts (.constantDouble RX3 44 (13875379345695965184)) (by decide +kernel)) dX3_value_14 ?_
    refine z_topd (y := Dz (-64000)) dz_m1000 ?_
    refine lv_dcmp hx hb dX3_value_17 ?_
    refine z_topi (y := cv (8 * x.toInt) (-64000)) (dz_cv (by omega) (by decide) _) ?_
    refine lv_if_lt (tgt := 33) hx hb dX3_value_18 (by decide) (fun c18 => ?_) (fun c18 => ?_)
    · exact absurd (cv_lt.mp c18) (by omega)
    · refine lv_dload_n hx hb dX3_value_21 rfl (lv_at hl 2 rfl) ?_
      refine lv_ldc2d hx hb hown (hts (.constantDouble RX3 46 (4652007308841189376)) (by decide +kernel)) dX3_value_22 ?_
      refine z_topd (y := Dz 64000) dz_1000 ?_
      refine lv_dcmp hx hb dX3_value_25 ?_
      refine z_topi (y := cv (8 * x.toInt) 64000) (dz_cv (by omega) (by decide) _) ?_
      refine lv_if_gt (tgt := 33) hx hb dX3_value_26 (by decide) (fun c26 => ?_) (fun c26 => ?_)
      · exact absurd (cv_gt.mp c26) (by omega)
      · refine lv_iconst (v := 0) hx hb dX3_value_29 (by decide) ?_
        refine lv_goto (tgt := 34) hx hb dX3_value_30 (by decide) ?_
        refine va_put (D := D) (ci := 3) (v := .int 0) (ty := .int) (C := RX3) (T := TX3) (N := 14) hx hb hts hinX3 tyX3 tyX3_ok nmX3 hown hK hP hD hS 0 rfl rfl 0 (by decide) hf_37 (fun _ h9 => h9) rfl (by decide +kernel) rfl rfl (Nat.le_of_ble_eq_true rfl) dX3_value_34 (fun H locs hP hD hS => ?_)
        have hP : va_P D vwCl (mW ad cy 0 n E R Z B BR wt rk U br lc jo wk) H := hP
        have hD : va_D A (mW ad cy 0 n E R Z B BR wt rk U br lc jo wk) := hD
        refine lv_aload_n hx hb dX3_value_37 rfl (lv_at hl 0 rfl) ?_
        refine va_get (D := D) (ci := 3) (v := .int 0) (C := RX3) (T := TX3) (N := 14) hx hb hts hinX3 hown hK hP 0 rfl rfl 0 (by decide) hf_37 (fun _ h9 => h9) rfl dX3_value_38 ?_
        refine lv_if_eq (tgt := 46) hx hb dX3_value_41 (by decide) (fun c41 => ?_) (fun c41 => ?_)
        · refine lv_dload_n hx hb dX3_value_46 rfl (lv_at hl 2 rfl) ?_
          refine lv_ldc2d hx hb hown (hts (.constantDouble RX3 48 (4620693217682128896)) (by decide +kernel)) dX3_value_47 ?_
          refine z_topd (y := Dz 512) dz_8 ?_
          refine lv_dmul hx hb dX3_value_50 (by rw [dz_v8]; exact dz_n64 (by omega)) ?_
          refine z_topd (y := Dz (64 * x.toInt)) (dz_v8 x) ?_
          refine lv_d2l hx hb dX3_value_51 ?_
          refine z_topl (y := x.toInt64) (dz_d2l x) ?_
          refine lv_lstore (lv' := [(4, .long x.toInt64), (0, .ref (ad 0)), (1, .int (nI k)), (2, .double (Dz (8 * x.toInt)))]) hx hb dX3_value_52 hl (by decide) rfl (fun ls hl => ?_)
          refine lv_aload_n hx hb dX3_value_54 rfl (lv_at hl 1 rfl) ?_
          refine va_get (D := D) (ci := 3) (v := .ref (ad 1)) (C := RX3) (T := TX3) (N := 14) hx hb hts hinX3 hown hK hP 0 rfl rfl 2 (by decide) hf_7 (fun _ h9 => h9) rfl dX3_value_55 ?_
          refine lv_iload_n hx hb dX3_value_58 rfl (lv_at hl 2 rfl) ?_
          refine ax_lld hx hb hK hP 1 0 rfl rfl (by omega) (by omega) dX3_value_59 ?_
          refine lv_lload hx hb dX3_value_60 (lv_at hl 0 rfl) ?_
          refine W.lcmp hx hb dX3_value_62 ?_
          refine lv_if_eq (tgt := 70) hx hb dX3_value_63 (by decide) (fun c63 => ?_) (fun c63 => ?_)
          · exact absurd (lgc0.mp c63) h
          · refine lv_iconst (v := 1) hx hb dX3_value_66 (by decide) ?_
            refine lv_goto (tgt := 71) hx hb dX3_value_67 (by decide) ?_
            refine lv_istore (lv' := [(6, .int 1), (4, .long x.toInt64), (0, .ref (ad 0)), (1, .int (nI k)), (2, .double (Dz (8 * x.toInt)))]) hx hb dX3_value_71 hl (by decide) rfl (fun ls hl => ?_)
            refine lv_aload_n hx hb dX3_value_73 rfl (lv_at hl 2 rfl) ?_
            refine va_get (D := D) (ci := 3) (v := .ref (ad 1)) (C := RX3) (T := TX3) (N := 14) hx hb hts hinX3 hown hK hP 0 rfl rfl 2 (by decide) hf_7 (fun _ h9 => h9) rfl dX3_value_74 ?_
            refine lv_iload_n hx hb dX3_value_77 rfl (lv_at hl 3 rfl) ?_
            refine lv_lload hx hb dX3_value_78 (lv_at hl 1 rfl) ?_
            refine ax_lst hx hb hK hP hD hS 1 0 rfl rfl (by omega) (by omega) dX3_value_80 (fun H locs hP hD hS => ?_)
            have hP : va_P D vwCl (mW ad cy 0 n (vp_updL E k x.toInt64) R Z B BR wt rk U br lc jo wk) H := hP
            have hD : va_D A (mW ad cy 0 n (vp_updL E k x.toInt64) R Z B BR wt rk U br lc jo wk) := hD
            refine lv_iload hx hb dX3_value_81 (lv_at hl 0 rfl) ?_
            exact zret_z F hr hlocks hK hP hD hS (by decide) rfl dX3_value_83
        · exact absurd rfl c41
  · exact absurd c6 (by decide)

set_option maxHeartbeats 4000000 in
set_option maxRecDepth 100000 in
theorem kX3_value2 (l : Launch) (D : va_G) (ad : Nat → Nat) (cy : Nat → ClassId) (sz : Nat) (th : Int32) (n : Nat) (E : Nat → Int64) (R : Nat → Int32) (Z : Nat → Int32) (B : Nat → Int32) (BR : Nat → Int64) (wt : Nat) (rk : Nat → Int32) (U : Nat → Int32) (br : Int32) (lc : Int32) (jo : Int64) (wk : Int64) (k : Nat) (x : Int32) (hx1 : x.toInt < -8000 ∨ 8000 < x.toInt) (hk : k < n) (hn : n ≤ 40) : mI l yX3_value wsX3_value ({ frames := 1, cells := 0, slots := 0, locals := 40 }) [.ref (ad 0), .int (nI k), .double (Dz (8 * x.toInt))] D (mT cy) (mW ad cy th n E R Z B BR wt rk U br lc jo wk) sz 0 (mW ad cy 2 n E R Z B BR wt rk U br lc jo wk) 0 0 := by
  refine zin (fun A => zQi D (mT cy) (mW ad cy 2 n E R Z B BR wt rk U br lc jo wk) 0 A) (cc := cX3_value) (maxL := 7) (ret := (some .boolean)) (own := RX3) (by decide) rfl rfl (Nat.le_of_ble_eq_true rfl) ?_
  intro p e s m below meth c A F hr hlocks hmn hA hK H locs hP hD hS ls hl
  obtain ⟨hx, hb, hml, hown, hts⟩ := id F
  have hl : lv_has ls 7 [(0, .ref (ad 0)), (1, .int (nI k)), (2, .double (Dz (8 * x.toInt)))] := hl
  have hinX3 : ∀ w ∈ wsX30, w ∈ wsX3_value := by decide +kernel
  have hf_37 := hts (.fieldLink RX3 37 "RegionSharesModel" "thrown" "I") (by decide +kernel)
  refine lv_aload_n hx hb dX3_value_0 rfl (lv_at hl 0 rfl) ?_
  refine lv_aload_n hx hb dX3_value_1 rfl (lv_at hl 0 rfl) ?_
  refine lv_iload_n hx hb dX3_value_2 rfl (lv_at hl 1 rfl) ?_
  refine zcV_i (As := [.int (nI k)]) (rest := [.ref (ad 0)]) F (kX3_isShare1 l D ad cy _ th n E R Z B BR wt rk U br lc jo wk k hk hn) (cwV 1 hts gX3_value_X3_isShare rfl rfl rfl (by decide +kernel) ⟨Nat.le_of_ble_eq_true rfl, Nat.le_of_ble_eq_true rfl⟩) (va_recv hK hP (ci := 3) (q0 := 0) rfl rfl) hK hP hD hS hA rfl hl.1 rfl (Nat.le_of_ble_eq_true rfl) dX3_value_3 ⟨Nat.le_of_ble_eq_true rfl, Nat.le_of_ble_eq_true rfl⟩ (fun H locs hP hD hS => ?_)
  have r1 := x.toInt_lt
  have r2 := x.le_toInt
  refine lv_if_ne (tgt := 13) hx hb dX3_value_6 (by decide) (fun c6 => ?_) (fun c6 => ?_)
  · refine lv_dload_n hx hb dX3_value_13 rfl (lv_at hl 2 rfl) ?_
    refine lv_ldc2d hx hb hown (hts (.constantDouble RX3 44 (13875379345695965184)) (by decide +kernel)) dX3_value_14 ?_
    refine z_topd (y := Dz (-64000)) dz_m1000 ?_
    refine lv_dcmp hx hb dX3_value_17 ?_
    refine z_topi (y := cv (8 * x.toInt) (-64000)) (dz_cv (by omega) (by decide) _) ?_
    refine lv_if_lt (tgt := 33) hx hb dX3_value_18 (by decide) (fun c18 => ?_) (fun c18 => ?_)
    · refine lv_iconst (v := 2) hx hb dX3_value_33 (by decide) ?_
      refine va_put (D := D) (ci := 3) (v := .int 2) (ty := .int) (C := RX3) (T := TX3) (N := 14) hx hb hts hinX3 tyX3 tyX3_ok nmX3 hown hK hP hD hS 0 rfl rfl 0 (by decide) hf_37 (fun _ h9 => h9) rfl (by decide +kernel) rfl rfl (Nat.le_of_ble_eq_true rfl) dX3_value_34 (fun H locs hP hD hS => ?_)
      have hP : va_P D vwCl (mW ad cy 2 n E R Z B BR wt rk U br lc jo wk) H := hP
      have hD : va_D A (mW ad cy 2 n E R Z B BR wt rk U br lc jo wk) := hD
      refine lv_aload_n hx hb dX3_value_37 rfl (lv_at hl 0 rfl) ?_
      refine va_get (D := D) (ci := 3) (v := .int 2) (C := RX3) (T := TX3) (N := 14) hx hb hts hinX3 hown hK hP 0 rfl rfl 0 (by decide) hf_37 (fun _ h9 => h9) rfl dX3_value_38 ?_
      refine lv_if_eq (tgt := 46) hx hb dX3_value_41 (by decide) (fun c41 => ?_) (fun c41 => ?_)
      · exact absurd c41 (by decide)
      · refine lv_iconst (v := 0) hx hb dX3_value_44 (by decide) ?_
        exact zret_z F hr hlocks hK hP hD hS (by decide) rfl dX3_value_45
    · refine lv_dload_n hx hb dX3_value_21 rfl (lv_at hl 2 rfl) ?_
      refine lv_ldc2d hx hb hown (hts (.constantDouble RX3 46 (4652007308841189376)) (by decide +kernel)) dX3_value_22 ?_
      refine z_topd (y := Dz 64000) dz_1000 ?_
      refine lv_dcmp hx hb dX3_value_25 ?_
      refine z_topi (y := cv (8 * x.toInt) 64000) (dz_cv (by omega) (by decide) _) ?_
      refine lv_if_gt (tgt := 33) hx hb dX3_value_26 (by decide) (fun c26 => ?_) (fun c26 => ?_)
      · refine lv_iconst (v := 2) hx hb dX3_value_33 (by decide) ?_
        refine va_put (D := D) (ci := 3) (v := .int 2) (ty := .int) (C := RX3) (T := TX3) (N := 14) hx hb hts hinX3 tyX3 tyX3_ok nmX3 hown hK hP hD hS 0 rfl rfl 0 (by decide) hf_37 (fun _ h9 => h9) rfl (by decide +kernel) rfl rfl (Nat.le_of_ble_eq_true rfl) dX3_value_34 (fun H locs hP hD hS => ?_)
        have hP : va_P D vwCl (mW ad cy 2 n E R Z B BR wt rk U br lc jo wk) H := hP
        have hD : va_D A (mW ad cy 2 n E R Z B BR wt rk U br lc jo wk) := hD
        refine lv_aload_n hx hb dX3_value_37 rfl (lv_at hl 0 rfl) ?_
        refine va_get (D := D) (ci := 3) (v := .int 2) (C := RX3) (T := TX3) (N := 14) hx hb hts hinX3 hown hK hP 0 rfl rfl 0 (by decide) hf_37 (fun _ h9 => h9) rfl dX3_value_38 ?_
        refine lv_if_eq (tgt := 46) hx hb dX3_value_41 (by decide) (fun c41 => ?_) (fun c41 => ?_)
        · exact absurd c41 (by decide)
        · refine lv_iconst (v := 0) hx hb dX3_value_44 (by decide) ?_
          exact zret_z F hr hlocks hK hP hD hS (by decide) rfl dX3_value_45
      · have q1 : ¬ 8 * x.toInt < -64000 := fun q => c18 (cv_lt.mpr q)
        have q2 : ¬ 64000 < 8 * x.toInt := fun q => c26 (cv_gt.mpr q)
        exact absurd hx1 (by omega)
  · exact absurd c6 (by decide)

set_option maxHeartbeats 4000000 in
set_option maxRecDepth 100000 in
theorem kX3_valueX (l : Launch) (D : va_G) (ad : Nat → Nat) (cy : Nat → ClassId) (sz : Nat) (th : Int32) (n : Nat) (E : Nat → Int64) (R : Nat → Int32) (Z : Nat → Int32) (B : Nat → Int32) (BR : Nat → Int64) (wt : Nat) (rk : Nat → Int32) (U : Nat → Int32) (br : Int32) (lc : Int32) (jo : Int64) (wk : Int64) (x : Int32) (v : UInt64) (hxo : x < 0 ∨ nI n ≤ x) : mI l yX3_value wsX3_value ({ frames := 1, cells := 0, slots := 0, locals := 40 }) [.ref (ad 0), .int x, .double v] D (mT cy) (mW ad cy th n E R Z B BR wt rk U br lc jo wk) sz 0 (mW ad cy 1 n E R Z B BR wt rk U br lc jo wk) 0 0 := by
  refine zin (fun A => zQi D (mT cy) (mW ad cy 1 n E R Z B BR wt rk U br lc jo wk) 0 A) (cc := cX3_value) (maxL := 7) (ret := (some .boolean)) (own := RX3) (by decide) rfl rfl (Nat.le_of_ble_eq_true rfl) ?_
  intro p e s m below meth c A F hr hlocks hmn hA hK H locs hP hD hS ls hl
  obtain ⟨hx, hb, hml, hown, hts⟩ := id F
  have hl : lv_has ls 7 [(0, .ref (ad 0)), (1, .int x), (2, .double v)] := hl
  have hinX3 : ∀ w ∈ wsX30, w ∈ wsX3_value := by decide +kernel
  have hf_37 := hts (.fieldLink RX3 37 "RegionSharesModel" "thrown" "I") (by decide +kernel)
  refine lv_aload_n hx hb dX3_value_0 rfl (lv_at hl 0 rfl) ?_
  refine lv_aload_n hx hb dX3_value_1 rfl (lv_at hl 0 rfl) ?_
  refine lv_iload_n hx hb dX3_value_2 rfl (lv_at hl 1 rfl) ?_
  refine zcV_i (As := [.int x]) (rest := [.ref (ad 0)]) F (kX3_isShare0 l D ad cy _ th n E R Z B BR wt rk U br lc jo wk x hxo) (cwV 1 hts gX3_value_X3_isShare rfl rfl rfl (by decide +kernel) ⟨Nat.le_of_ble_eq_true rfl, Nat.le_of_ble_eq_true rfl⟩) (va_recv hK hP (ci := 3) (q0 := 0) rfl rfl) hK hP hD hS hA rfl hl.1 rfl (Nat.le_of_ble_eq_true rfl) dX3_value_3 ⟨Nat.le_of_ble_eq_true rfl, Nat.le_of_ble_eq_true rfl⟩ (fun H locs hP hD hS => ?_)
  refine lv_if_ne (tgt := 13) hx hb dX3_value_6 (by decide) (fun c6 => ?_) (fun c6 => ?_)
  · exact absurd rfl c6
  · refine lv_iconst (v := 1) hx hb dX3_value_9 (by decide) ?_
    refine lv_goto (tgt := 34) hx hb dX3_value_10 (by decide) ?_
    refine va_put (D := D) (ci := 3) (v := .int 1) (ty := .int) (C := RX3) (T := TX3) (N := 14) hx hb hts hinX3 tyX3 tyX3_ok nmX3 hown hK hP hD hS 0 rfl rfl 0 (by decide) hf_37 (fun _ h9 => h9) rfl (by decide +kernel) rfl rfl (Nat.le_of_ble_eq_true rfl) dX3_value_34 (fun H locs hP hD hS => ?_)
    have hP : va_P D vwCl (mW ad cy 1 n E R Z B BR wt rk U br lc jo wk) H := hP
    have hD : va_D A (mW ad cy 1 n E R Z B BR wt rk U br lc jo wk) := hD
    refine lv_aload_n hx hb dX3_value_37 rfl (lv_at hl 0 rfl) ?_
    refine va_get (D := D) (ci := 3) (v := .int 1) (C := RX3) (T := TX3) (N := 14) hx hb hts hinX3 hown hK hP 0 rfl rfl 0 (by decide) hf_37 (fun _ h9 => h9) rfl dX3_value_38 ?_
    refine lv_if_eq (tgt := 46) hx hb dX3_value_41 (by decide) (fun c41 => ?_) (fun c41 => ?_)
    · exact absurd c41 (by decide)
    · refine lv_iconst (v := 0) hx hb dX3_value_44 (by decide) ?_
      exact zret_z F hr hlocks hK hP hD hS (by decide) rfl dX3_value_45

set_option maxHeartbeats 4000000 in
set_option maxRecDepth 100000 in
theorem kX3_touches0 (l : Launch) (D : va_G) (ad : Nat → Nat) (cy : Nat → ClassId) (sz : Nat) (th : Int32) (n : Nat) (E : Nat → Int64) (R : Nat → Int32) (Z : Nat → Int32) (B : Nat → Int32) (BR : Nat → Int64) (wt : Nat) (rk : Nat → Int32) (U : Nat → Int32) (br : Int32) (lc : Int32) (jo : Int64) (wk : Int64) (k : Nat) (g : Nat) (h : (R k >>> (nI g &&& 31)) &&& 1 = 1) (hk : k < n) (hg : g < 31) (hn : n ≤ 40) : mI l yX3_touches wsX3_touches ({ frames := 1, cells := 0, slots := 0, locals := 40 }) [.ref (ad 0), .int (nI k), .int (nI g)] D (mT cy) (mW ad cy th n E R Z B BR wt rk U br lc jo wk) sz 0 (mW ad cy 0 n E R Z B BR wt rk U br lc jo wk) 0 0 := by
  refine zin (fun A => zQi D (mT cy) (mW ad cy 0 n E R Z B BR wt rk U br lc jo wk) 0 A) (cc := cX3_touches) (maxL := 3) (ret := (some .boolean)) (own := RX3) (by decide) rfl rfl (Nat.le_of_ble_eq_true rfl) ?_
  intro p e s m below meth c A F hr hlocks hmn hA hK H locs hP hD hS ls hl
  obtain ⟨hx, hb, hml, hown, hts⟩ := id F
  have hl : lv_has ls 3 [(0, .ref (ad 0)), (1, .int (nI k)), (2, .int (nI g))] := hl
  have hinX3 : ∀ w ∈ wsX30, w ∈ wsX3_touches := by decide +kernel
  have hf_13 := hts (.fieldLink RX3 13 "RegionSharesModel" "regions" "[I") (by decide +kernel)
  have hf_37 := hts (.fieldLink RX3 37 "RegionSharesModel" "thrown" "I") (by decide +kernel)
  refine lv_aload_n hx hb dX3_touches_0 rfl (lv_at hl 0 rfl) ?_
  refine lv_aload_n hx hb dX3_touches_1 rfl (lv_at hl 0 rfl) ?_
  refine lv_iload_n hx hb dX3_touches_2 rfl (lv_at hl 1 rfl) ?_
  refine zcV_i (As := [.int (nI k)]) (rest := [.ref (ad 0)]) F (kX3_isShare1 l D ad cy _ th n E R Z B BR wt rk U br lc jo wk k hk hn) (cwV 1 hts gX3_touches_X3_isShare rfl rfl rfl (by decide +kernel) ⟨Nat.le_of_ble_eq_true rfl, Nat.le_of_ble_eq_true rfl⟩) (va_recv hK hP (ci := 3) (q0 := 0) rfl rfl) hK hP hD hS hA rfl hl.1 rfl (Nat.le_of_ble_eq_true rfl) dX3_touches_3 ⟨Nat.le_of_ble_eq_true rfl, Nat.le_of_ble_eq_true rfl⟩ (fun H locs hP hD hS => ?_)
  refine lv_if_eq (tgt := 23) hx hb dX3_touches_6 (by decide) (fun c6 => ?_) (fun c6 => ?_)
  · exact absurd c6 (by decide)
  · refine lv_iload_n hx hb dX3_touches_9 rfl (lv_at hl 2 rfl) ?_
    refine lv_if_lt (tgt := 23) hx hb dX3_touches_10 (by decide) (fun c10 => ?_) (fun c10 => ?_)
    · exact absurd c10 (nI_pos (by omega))
    · refine lv_iload_n hx hb dX3_touches_13 rfl (lv_at hl 2 rfl) ?_
      refine lv_bipush (v := nI 31) hx hb dX3_touches_14 (by decide) ?_
      refine zb_ge (a := g) (b := 31) (tgt := 23) hx hb dX3_touches_16 (by decide) (by omega) (by omega) (fun c16 => ?_) (fun c16 => ?_)
      · exact absurd c16 (by omega)
      · refine lv_iconst (v := 0) hx hb dX3_touches_19 (by decide) ?_
        refine lv_goto (tgt := 24) hx hb dX3_touches_20 (by decide) ?_
        refine va_put (D := D) (ci := 3) (v := .int 0) (ty := .int) (C := RX3) (T := TX3) (N := 14) hx hb hts hinX3 tyX3 tyX3_ok nmX3 hown hK hP hD hS 0 rfl rfl 0 (by decide) hf_37 (fun _ h9 => h9) rfl (by decide +kernel) rfl rfl (Nat.le_of_ble_eq_true rfl) dX3_touches_24 (fun H locs hP hD hS => ?_)
        have hP : va_P D vwCl (mW ad cy 0 n E R Z B BR wt rk U br lc jo wk) H := hP
        have hD : va_D A (mW ad cy 0 n E R Z B BR wt rk U br lc jo wk) := hD
        refine lv_aload_n hx hb dX3_touches_27 rfl (lv_at hl 0 rfl) ?_
        refine va_get (D := D) (ci := 3) (v := .int 0) (C := RX3) (T := TX3) (N := 14) hx hb hts hinX3 hown hK hP 0 rfl rfl 0 (by decide) hf_37 (fun _ h9 => h9) rfl dX3_touches_28 ?_
        refine lv_if_ne (tgt := 48) hx hb dX3_touches_31 (by decide) (fun c31 => ?_) (fun c31 => ?_)
        · exact absurd rfl c31
        · refine lv_aload_n hx hb dX3_touches_34 rfl (lv_at hl 0 rfl) ?_
          refine va_get (D := D) (ci := 3) (v := .ref (ad 2)) (C := RX3) (T := TX3) (N := 14) hx hb hts hinX3 hown hK hP 0 rfl rfl 3 (by decide) hf_13 (fun _ h9 => h9) rfl dX3_touches_35 ?_
          refine lv_iload_n hx hb dX3_touches_38 rfl (lv_at hl 1 rfl) ?_
          refine ax_ild hx hb hK hP 2 1 rfl rfl (by omega) (by omega) dX3_touches_39 ?_
          refine lv_iload_n hx hb dX3_touches_40 rfl (lv_at hl 2 rfl) ?_
          refine lv_ishr hx hb dX3_touches_41 ?_
          refine lv_iconst (v := 1) hx hb dX3_touches_42 (by decide) ?_
          refine lv_iand hx hb dX3_touches_43 ?_
          refine lv_iconst (v := 1) hx hb dX3_touches_44 (by decide) ?_
          refine lv_icmp_ne (tgt := 50) hx hb dX3_touches_45 (by decide) (fun c45 => ?_) (fun c45 => ?_)
          · exact absurd h c45
          · refine lv_iconst (v := 0) hx hb dX3_touches_48 (by decide) ?_
            exact zret_z F hr hlocks hK hP hD hS (by decide) rfl dX3_touches_49

set_option maxHeartbeats 4000000 in
set_option maxRecDepth 100000 in
theorem kX3_touches1 (l : Launch) (D : va_G) (ad : Nat → Nat) (cy : Nat → ClassId) (sz : Nat) (th : Int32) (n : Nat) (E : Nat → Int64) (R : Nat → Int32) (Z : Nat → Int32) (B : Nat → Int32) (BR : Nat → Int64) (wt : Nat) (rk : Nat → Int32) (U : Nat → Int32) (br : Int32) (lc : Int32) (jo : Int64) (wk : Int64) (k : Nat) (g : Nat) (h : ¬ (R k >>> (nI g &&& 31)) &&& 1 = 1) (hk : k < n) (hg : g < 31) (hn : n ≤ 40) : mI l yX3_touches wsX3_touches ({ frames := 1, cells := 0, slots := 0, locals := 40 }) [.ref (ad 0), .int (nI k), .int (nI g)] D (mT cy) (mW ad cy th n E R Z B BR wt rk U br lc jo wk) sz 1 (mW ad cy 0 n E (upd R k (R k ||| pBit (nI g))) Z B BR wt rk U br lc jo wk) 0 0 := by
  refine zin (fun A => zQi D (mT cy) (mW ad cy 0 n E (upd R k (R k ||| pBit (nI g))) Z B BR wt rk U br lc jo wk) 1 A) (cc := cX3_touches) (maxL := 3) (ret := (some .boolean)) (own := RX3) (by decide) rfl rfl (Nat.le_of_ble_eq_true rfl) ?_
  intro p e s m below meth c A F hr hlocks hmn hA hK H locs hP hD hS ls hl
  obtain ⟨hx, hb, hml, hown, hts⟩ := id F
  have hl : lv_has ls 3 [(0, .ref (ad 0)), (1, .int (nI k)), (2, .int (nI g))] := hl
  have hinX3 : ∀ w ∈ wsX30, w ∈ wsX3_touches := by decide +kernel
  have hf_13 := hts (.fieldLink RX3 13 "RegionSharesModel" "regions" "[I") (by decide +kernel)
  have hf_37 := hts (.fieldLink RX3 37 "RegionSharesModel" "thrown" "I") (by decide +kernel)
  refine lv_aload_n hx hb dX3_touches_0 rfl (lv_at hl 0 rfl) ?_
  refine lv_aload_n hx hb dX3_touches_1 rfl (lv_at hl 0 rfl) ?_
  refine lv_iload_n hx hb dX3_touches_2 rfl (lv_at hl 1 rfl) ?_
  refine zcV_i (As := [.int (nI k)]) (rest := [.ref (ad 0)]) F (kX3_isShare1 l D ad cy _ th n E R Z B BR wt rk U br lc jo wk k hk hn) (cwV 1 hts gX3_touches_X3_isShare rfl rfl rfl (by decide +kernel) ⟨Nat.le_of_ble_eq_true rfl, Nat.le_of_ble_eq_true rfl⟩) (va_recv hK hP (ci := 3) (q0 := 0) rfl rfl) hK hP hD hS hA rfl hl.1 rfl (Nat.le_of_ble_eq_true rfl) dX3_touches_3 ⟨Nat.le_of_ble_eq_true rfl, Nat.le_of_ble_eq_true rfl⟩ (fun H locs hP hD hS => ?_)
  refine lv_if_eq (tgt := 23) hx hb dX3_touches_6 (by decide) (fun c6 => ?_) (fun c6 => ?_)
  · exact absurd c6 (by decide)
  · refine lv_iload_n hx hb dX3_touches_9 rfl (lv_at hl 2 rfl) ?_
    refine lv_if_lt (tgt := 23) hx hb dX3_touches_10 (by decide) (fun c10 => ?_) (fun c10 => ?_)
    · exact absurd c10 (nI_pos (by omega))
    · refine lv_iload_n hx hb dX3_touches_13 rfl (lv_at hl 2 rfl) ?_
      refine lv_bipush (v := nI 31) hx hb dX3_touches_14 (by decide) ?_
      refine zb_ge (a := g) (b := 31) (tgt := 23) hx hb dX3_touches_16 (by decide) (by omega) (by omega) (fun c16 => ?_) (fun c16 => ?_)
      · exact absurd c16 (by omega)
      · refine lv_iconst (v := 0) hx hb dX3_touches_19 (by decide) ?_
        refine lv_goto (tgt := 24) hx hb dX3_touches_20 (by decide) ?_
        refine va_put (D := D) (ci := 3) (v := .int 0) (ty := .int) (C := RX3) (T := TX3) (N := 14) hx hb hts hinX3 tyX3 tyX3_ok nmX3 hown hK hP hD hS 0 rfl rfl 0 (by decide) hf_37 (fun _ h9 => h9) rfl (by decide +kernel) rfl rfl (Nat.le_of_ble_eq_true rfl) dX3_touches_24 (fun H locs hP hD hS => ?_)
        have hP : va_P D vwCl (mW ad cy 0 n E R Z B BR wt rk U br lc jo wk) H := hP
        have hD : va_D A (mW ad cy 0 n E R Z B BR wt rk U br lc jo wk) := hD
        refine lv_aload_n hx hb dX3_touches_27 rfl (lv_at hl 0 rfl) ?_
        refine va_get (D := D) (ci := 3) (v := .int 0) (C := RX3) (T := TX3) (N := 14) hx hb hts hinX3 hown hK hP 0 rfl rfl 0 (by decide) hf_37 (fun _ h9 => h9) rfl dX3_touches_28 ?_
        refine lv_if_ne (tgt := 48) hx hb dX3_touches_31 (by decide) (fun c31 => ?_) (fun c31 => ?_)
        · exact absurd rfl c31
        · refine lv_aload_n hx hb dX3_touches_34 rfl (lv_at hl 0 rfl) ?_
          refine va_get (D := D) (ci := 3) (v := .ref (ad 2)) (C := RX3) (T := TX3) (N := 14) hx hb hts hinX3 hown hK hP 0 rfl rfl 3 (by decide) hf_13 (fun _ h9 => h9) rfl dX3_touches_35 ?_
          refine lv_iload_n hx hb dX3_touches_38 rfl (lv_at hl 1 rfl) ?_
          refine ax_ild hx hb hK hP 2 1 rfl rfl (by omega) (by omega) dX3_touches_39 ?_
          refine lv_iload_n hx hb dX3_touches_40 rfl (lv_at hl 2 rfl) ?_
          refine lv_ishr hx hb dX3_touches_41 ?_
          refine lv_iconst (v := 1) hx hb dX3_touches_42 (by decide) ?_
          refine lv_iand hx hb dX3_touches_43 ?_
          refine lv_iconst (v := 1) hx hb dX3_touches_44 (by decide) ?_
          refine lv_icmp_ne (tgt := 50) hx hb dX3_touches_45 (by decide) (fun c45 => ?_) (fun c45 => ?_)
          · refine lv_aload_n hx hb dX3_touches_50 rfl (lv_at hl 0 rfl) ?_
            refine va_get (D := D) (ci := 3) (v := .ref (ad 2)) (C := RX3) (T := TX3) (N := 14) hx hb hts hinX3 hown hK hP 0 rfl rfl 3 (by decide) hf_13 (fun _ h9 => h9) rfl dX3_touches_51 ?_
            refine lv_iload_n hx hb dX3_touches_54 rfl (lv_at hl 1 rfl) ?_
            refine lv_aload_n hx hb dX3_touches_55 rfl (lv_at hl 0 rfl) ?_
            refine va_get (D := D) (ci := 3) (v := .ref (ad 2)) (C := RX3) (T := TX3) (N := 14) hx hb hts hinX3 hown hK hP 0 rfl rfl 3 (by decide) hf_13 (fun _ h9 => h9) rfl dX3_touches_56 ?_
            refine lv_iload_n hx hb dX3_touches_59 rfl (lv_at hl 1 rfl) ?_
            refine ax_ild hx hb hK hP 2 1 rfl rfl (by omega) (by omega) dX3_touches_60 ?_
            refine lv_iconst (v := 1) hx hb dX3_touches_61 (by decide) ?_
            refine lv_iload_n hx hb dX3_touches_62 rfl (lv_at hl 2 rfl) ?_
            refine lv_ishl hx hb dX3_touches_63 ?_
            refine z_topi (y := pBit (nI g)) rfl ?_
            refine lv_ior hx hb dX3_touches_64 ?_
            refine ax_ist hx hb hK hP hD hS 2 1 rfl rfl (by omega) (by omega) dX3_touches_65 (fun H locs hP hD hS => ?_)
            have hP : va_P D vwCl (mW ad cy 0 n E (upd R k ((R k) ||| (pBit (nI g)))) Z B BR wt rk U br lc jo wk) H := hP
            have hD : va_D A (mW ad cy 0 n E (upd R k ((R k) ||| (pBit (nI g)))) Z B BR wt rk U br lc jo wk) := hD
            refine lv_iconst (v := 1) hx hb dX3_touches_66 (by decide) ?_
            exact zret_z F hr hlocks hK hP hD hS (by decide) rfl dX3_touches_67
          · exact absurd c45 h

set_option maxHeartbeats 4000000 in
set_option maxRecDepth 100000 in
theorem kX3_touchesX (l : Launch) (D : va_G) (ad : Nat → Nat) (cy : Nat → ClassId) (sz : Nat) (th : Int32) (n : Nat) (E : Nat → Int64) (R : Nat → Int32) (Z : Nat → Int32) (B : Nat → Int32) (BR : Nat → Int64) (wt : Nat) (rk : Nat → Int32) (U : Nat → Int32) (br : Int32) (lc : Int32) (jo : Int64) (wk : Int64) (x : Int32) (y : Int32) (hxo : x < 0 ∨ nI n ≤ x) : mI l yX3_touches wsX3_touches ({ frames := 1, cells := 0, slots := 0, locals := 40 }) [.ref (ad 0), .int x, .int y] D (mT cy) (mW ad cy th n E R Z B BR wt rk U br lc jo wk) sz 0 (mW ad cy 1 n E R Z B BR wt rk U br lc jo wk) 0 0 := by
  refine zin (fun A => zQi D (mT cy) (mW ad cy 1 n E R Z B BR wt rk U br lc jo wk) 0 A) (cc := cX3_touches) (maxL := 3) (ret := (some .boolean)) (own := RX3) (by decide) rfl rfl (Nat.le_of_ble_eq_true rfl) ?_
  intro p e s m below meth c A F hr hlocks hmn hA hK H locs hP hD hS ls hl
  obtain ⟨hx, hb, hml, hown, hts⟩ := id F
  have hl : lv_has ls 3 [(0, .ref (ad 0)), (1, .int x), (2, .int y)] := hl
  have hinX3 : ∀ w ∈ wsX30, w ∈ wsX3_touches := by decide +kernel
  have hf_37 := hts (.fieldLink RX3 37 "RegionSharesModel" "thrown" "I") (by decide +kernel)
  refine lv_aload_n hx hb dX3_touches_0 rfl (lv_at hl 0 rfl) ?_
  refine lv_aload_n hx hb dX3_touches_1 rfl (lv_at hl 0 rfl) ?_
  refine lv_iload_n hx hb dX3_touches_2 rfl (lv_at hl 1 rfl) ?_
  refine zcV_i (As := [.int x]) (rest := [.ref (ad 0)]) F (kX3_isShare0 l D ad cy _ th n E R Z B BR wt rk U br lc jo wk x hxo) (cwV 1 hts gX3_touches_X3_isShare rfl rfl rfl (by decide +kernel) ⟨Nat.le_of_ble_eq_true rfl, Nat.le_of_ble_eq_true rfl⟩) (va_recv hK hP (ci := 3) (q0 := 0) rfl rfl) hK hP hD hS hA rfl hl.1 rfl (Nat.le_of_ble_eq_true rfl) dX3_touches_3 ⟨Nat.le_of_ble_eq_true rfl, Nat.le_of_ble_eq_true rfl⟩ (fun H locs hP hD hS => ?_)
  refine lv_if_eq (tgt := 23) hx hb dX3_touches_6 (by decide) (fun c6 => ?_) (fun c6 => ?_)
  · refine lv_iconst (v := 1) hx hb dX3_touches_23 (by decide) ?_
    refine va_put (D := D) (ci := 3) (v := .int 1) (ty := .int) (C := RX3) (T := TX3) (N := 14) hx hb hts hinX3 tyX3 tyX3_ok nmX3 hown hK hP hD hS 0 rfl rfl 0 (by decide) hf_37 (fun _ h9 => h9) rfl (by decide +kernel) rfl rfl (Nat.le_of_ble_eq_true rfl) dX3_touches_24 (fun H locs hP hD hS => ?_)
    have hP : va_P D vwCl (mW ad cy 1 n E R Z B BR wt rk U br lc jo wk) H := hP
    have hD : va_D A (mW ad cy 1 n E R Z B BR wt rk U br lc jo wk) := hD
    refine lv_aload_n hx hb dX3_touches_27 rfl (lv_at hl 0 rfl) ?_
    refine va_get (D := D) (ci := 3) (v := .int 1) (C := RX3) (T := TX3) (N := 14) hx hb hts hinX3 hown hK hP 0 rfl rfl 0 (by decide) hf_37 (fun _ h9 => h9) rfl dX3_touches_28 ?_
    refine lv_if_ne (tgt := 48) hx hb dX3_touches_31 (by decide) (fun c31 => ?_) (fun c31 => ?_)
    · refine lv_iconst (v := 0) hx hb dX3_touches_48 (by decide) ?_
      exact zret_z F hr hlocks hK hP hD hS (by decide) rfl dX3_touches_49
    · exact absurd c31 (by decide)
  · exact absurd rfl c6

set_option maxHeartbeats 4000000 in
set_option maxRecDepth 100000 in
theorem kX3_touchesY (l : Launch) (D : va_G) (ad : Nat → Nat) (cy : Nat → ClassId) (sz : Nat) (th : Int32) (n : Nat) (E : Nat → Int64) (R : Nat → Int32) (Z : Nat → Int32) (B : Nat → Int32) (BR : Nat → Int64) (wt : Nat) (rk : Nat → Int32) (U : Nat → Int32) (br : Int32) (lc : Int32) (jo : Int64) (wk : Int64) (k : Nat) (y : Int32) (hy : y < 0 ∨ nI 31 ≤ y) (hk : k < n) (hn : n ≤ 40) : mI l yX3_touches wsX3_touches ({ frames := 1, cells := 0, slots := 0, locals := 40 }) [.ref (ad 0), .int (nI k), .int y] D (mT cy) (mW ad cy th n E R Z B BR wt rk U br lc jo wk) sz 0 (mW ad cy 1 n E R Z B BR wt rk U br lc jo wk) 0 0 := by
  refine zin (fun A => zQi D (mT cy) (mW ad cy 1 n E R Z B BR wt rk U br lc jo wk) 0 A) (cc := cX3_touches) (maxL := 3) (ret := (some .boolean)) (own := RX3) (by decide) rfl rfl (Nat.le_of_ble_eq_true rfl) ?_
  intro p e s m below meth c A F hr hlocks hmn hA hK H locs hP hD hS ls hl
  obtain ⟨hx, hb, hml, hown, hts⟩ := id F
  have hl : lv_has ls 3 [(0, .ref (ad 0)), (1, .int (nI k)), (2, .int y)] := hl
  have hinX3 : ∀ w ∈ wsX30, w ∈ wsX3_touches := by decide +kernel
  have hf_37 := hts (.fieldLink RX3 37 "RegionSharesModel" "thrown" "I") (by decide +kernel)
  refine lv_aload_n hx hb dX3_touches_0 rfl (lv_at hl 0 rfl) ?_
  refine lv_aload_n hx hb dX3_touches_1 rfl (lv_at hl 0 rfl) ?_
  refine lv_iload_n hx hb dX3_touches_2 rfl (lv_at hl 1 rfl) ?_
  refine zcV_i (As := [.int (nI k)]) (rest := [.ref (ad 0)]) F (kX3_isShare1 l D ad cy _ th n E R Z B BR wt rk U br lc jo wk k hk hn) (cwV 1 hts gX3_touches_X3_isShare rfl rfl rfl (by decide +kernel) ⟨Nat.le_of_ble_eq_true rfl, Nat.le_of_ble_eq_true rfl⟩) (va_recv hK hP (ci := 3) (q0 := 0) rfl rfl) hK hP hD hS hA rfl hl.1 rfl (Nat.le_of_ble_eq_true rfl) dX3_touches_3 ⟨Nat.le_of_ble_eq_true rfl, Nat.le_of_ble_eq_true rfl⟩ (fun H locs hP hD hS => ?_)
  refine lv_if_eq (tgt := 23) hx hb dX3_touches_6 (by decide) (fun c6 => ?_) (fun c6 => ?_)
  · exact absurd c6 (by decide)
  · refine lv_iload_n hx hb dX3_touches_9 rfl (lv_at hl 2 rfl) ?_
    refine lv_if_lt (tgt := 23) hx hb dX3_touches_10 (by decide) (fun c10 => ?_) (fun c10 => ?_)
    · refine lv_iconst (v := 1) hx hb dX3_touches_23 (by decide) ?_
      refine va_put (D := D) (ci := 3) (v := .int 1) (ty := .int) (C := RX3) (T := TX3) (N := 14) hx hb hts hinX3 tyX3 tyX3_ok nmX3 hown hK hP hD hS 0 rfl rfl 0 (by decide) hf_37 (fun _ h9 => h9) rfl (by decide +kernel) rfl rfl (Nat.le_of_ble_eq_true rfl) dX3_touches_24 (fun H locs hP hD hS => ?_)
      have hP : va_P D vwCl (mW ad cy 1 n E R Z B BR wt rk U br lc jo wk) H := hP
      have hD : va_D A (mW ad cy 1 n E R Z B BR wt rk U br lc jo wk) := hD
      refine lv_aload_n hx hb dX3_touches_27 rfl (lv_at hl 0 rfl) ?_
      refine va_get (D := D) (ci := 3) (v := .int 1) (C := RX3) (T := TX3) (N := 14) hx hb hts hinX3 hown hK hP 0 rfl rfl 0 (by decide) hf_37 (fun _ h9 => h9) rfl dX3_touches_28 ?_
      refine lv_if_ne (tgt := 48) hx hb dX3_touches_31 (by decide) (fun c31 => ?_) (fun c31 => ?_)
      · refine lv_iconst (v := 0) hx hb dX3_touches_48 (by decide) ?_
        exact zret_z F hr hlocks hK hP hD hS (by decide) rfl dX3_touches_49
      · exact absurd c31 (by decide)
    · refine lv_iload_n hx hb dX3_touches_13 rfl (lv_at hl 2 rfl) ?_
      refine lv_bipush (v := nI 31) hx hb dX3_touches_14 (by decide) ?_
      refine lv_icmp_ge (tgt := 23) hx hb dX3_touches_16 (by decide) (fun c16 => ?_) (fun c16 => ?_)
      · refine lv_iconst (v := 1) hx hb dX3_touches_23 (by decide) ?_
        refine va_put (D := D) (ci := 3) (v := .int 1) (ty := .int) (C := RX3) (T := TX3) (N := 14) hx hb hts hinX3 tyX3 tyX3_ok nmX3 hown hK hP hD hS 0 rfl rfl 0 (by decide) hf_37 (fun _ h9 => h9) rfl (by decide +kernel) rfl rfl (Nat.le_of_ble_eq_true rfl) dX3_touches_24 (fun H locs hP hD hS => ?_)
        have hP : va_P D vwCl (mW ad cy 1 n E R Z B BR wt rk U br lc jo wk) H := hP
        have hD : va_D A (mW ad cy 1 n E R Z B BR wt rk U br lc jo wk) := hD
        refine lv_aload_n hx hb dX3_touches_27 rfl (lv_at hl 0 rfl) ?_
        refine va_get (D := D) (ci := 3) (v := .int 1) (C := RX3) (T := TX3) (N := 14) hx hb hts hinX3 hown hK hP 0 rfl rfl 0 (by decide) hf_37 (fun _ h9 => h9) rfl dX3_touches_28 ?_
        refine lv_if_ne (tgt := 48) hx hb dX3_touches_31 (by decide) (fun c31 => ?_) (fun c31 => ?_)
        · refine lv_iconst (v := 0) hx hb dX3_touches_48 (by decide) ?_
          exact zret_z F hr hlocks hK hP hD hS (by decide) rfl dX3_touches_49
        · exact absurd c31 (by decide)
      · exact absurd (hy.resolve_left c10) c16

set_option maxHeartbeats 4000000 in
set_option maxRecDepth 100000 in
theorem kX3_stop0 (l : Launch) (D : va_G) (ad : Nat → Nat) (cy : Nat → ClassId) (sz : Nat) (th : Int32) (n : Nat) (E : Nat → Int64) (R : Nat → Int32) (Z : Nat → Int32) (B : Nat → Int32) (BR : Nat → Int64) (wt : Nat) (rk : Nat → Int32) (U : Nat → Int32) (br : Int32) (lc : Int32) (jo : Int64) (wk : Int64) (k : Nat) (h : ¬ Z k = 0) (hk : k < n) (hn : n ≤ 40) : mI l yX3_stop wsX3_stop ({ frames := 1, cells := 0, slots := 0, locals := 40 }) [.ref (ad 0), .int (nI k)] D (mT cy) (mW ad cy th n E R Z B BR wt rk U br lc jo wk) sz 0 (mW ad cy 0 n E R (upd Z k 0) B BR wt rk U br lc jo wk) 0 0 := by
  refine zin (fun A => zQi D (mT cy) (mW ad cy 0 n E R (upd Z k 0) B BR wt rk U br lc jo wk) 0 A) (cc := cX3_stop) (maxL := 2) (ret := (some .boolean)) (own := RX3) (by decide) rfl rfl (Nat.le_of_ble_eq_true rfl) ?_
  intro p e s m below meth c A F hr hlocks hmn hA hK H locs hP hD hS ls hl
  obtain ⟨hx, hb, hml, hown, hts⟩ := id F
  have hl : lv_has ls 2 [(0, .ref (ad 0)), (1, .int (nI k))] := hl
  have hinX3 : ∀ w ∈ wsX30, w ∈ wsX3_stop := by decide +kernel
  have hf_17 := hts (.fieldLink RX3 17 "RegionSharesModel" "stopped" "[Z") (by decide +kernel)
  have hf_37 := hts (.fieldLink RX3 37 "RegionSharesModel" "thrown" "I") (by decide +kernel)
  refine lv_aload_n hx hb dX3_stop_0 rfl (lv_at hl 0 rfl) ?_
  refine lv_aload_n hx hb dX3_stop_1 rfl (lv_at hl 0 rfl) ?_
  refine lv_iload_n hx hb dX3_stop_2 rfl (lv_at hl 1 rfl) ?_
  refine zcV_i (As := [.int (nI k)]) (rest := [.ref (ad 0)]) F (kX3_isShare1 l D ad cy _ th n E R Z B BR wt rk U br lc jo wk k hk hn) (cwV 1 hts gX3_stop_X3_isShare rfl rfl rfl (by decide +kernel) ⟨Nat.le_of_ble_eq_true rfl, Nat.le_of_ble_eq_true rfl⟩) (va_recv hK hP (ci := 3) (q0 := 0) rfl rfl) hK hP hD hS hA rfl hl.1 rfl (Nat.le_of_ble_eq_true rfl) dX3_stop_3 ⟨Nat.le_of_ble_eq_true rfl, Nat.le_of_ble_eq_true rfl⟩ (fun H locs hP hD hS => ?_)
  refine lv_if_eq (tgt := 13) hx hb dX3_stop_6 (by decide) (fun c6 => ?_) (fun c6 => ?_)
  · exact absurd c6 (by decide)
  · refine lv_iconst (v := 0) hx hb dX3_stop_9 (by decide) ?_
    refine lv_goto (tgt := 14) hx hb dX3_stop_10 (by decide) ?_
    refine va_put (D := D) (ci := 3) (v := .int 0) (ty := .int) (C := RX3) (T := TX3) (N := 14) hx hb hts hinX3 tyX3 tyX3_ok nmX3 hown hK hP hD hS 0 rfl rfl 0 (by decide) hf_37 (fun _ h9 => h9) rfl (by decide +kernel) rfl rfl (Nat.le_of_ble_eq_true rfl) dX3_stop_14 (fun H locs hP hD hS => ?_)
    have hP : va_P D vwCl (mW ad cy 0 n E R Z B BR wt rk U br lc jo wk) H := hP
    have hD : va_D A (mW ad cy 0 n E R Z B BR wt rk U br lc jo wk) := hD
    refine lv_aload_n hx hb dX3_stop_17 rfl (lv_at hl 0 rfl) ?_
    refine va_get (D := D) (ci := 3) (v := .int 0) (C := RX3) (T := TX3) (N := 14) hx hb hts hinX3 hown hK hP 0 rfl rfl 0 (by decide) hf_37 (fun _ h9 => h9) rfl dX3_stop_18 ?_
    refine lv_if_eq (tgt := 26) hx hb dX3_stop_21 (by decide) (fun c21 => ?_) (fun c21 => ?_)
    · refine lv_aload_n hx hb dX3_stop_26 rfl (lv_at hl 0 rfl) ?_
      refine va_get (D := D) (ci := 3) (v := .ref (ad 3)) (C := RX3) (T := TX3) (N := 14) hx hb hts hinX3 hown hK hP 0 rfl rfl 4 (by decide) hf_17 (fun _ h9 => h9) rfl dX3_stop_27 ?_
      refine lv_iload_n hx hb dX3_stop_30 rfl (lv_at hl 1 rfl) ?_
      refine lv_aload_n hx hb dX3_stop_31 rfl (lv_at hl 0 rfl) ?_
      refine va_get (D := D) (ci := 3) (v := .ref (ad 3)) (C := RX3) (T := TX3) (N := 14) hx hb hts hinX3 hown hK hP 0 rfl rfl 4 (by decide) hf_17 (fun _ h9 => h9) rfl dX3_stop_32 ?_
      refine lv_iload_n hx hb dX3_stop_35 rfl (lv_at hl 1 rfl) ?_
      refine ax_zld hx hb hK hP 3 2 rfl rfl (by omega) (by omega) dX3_stop_36 ?_
      refine lv_if_ne (tgt := 44) hx hb dX3_stop_37 (by decide) (fun c37 => ?_) (fun c37 => ?_)
      · refine lv_iconst (v := 0) hx hb dX3_stop_44 (by decide) ?_
        refine ax_zst hx hb hK hP hD hS 3 2 rfl rfl (by decide) (by omega) (by omega) dX3_stop_45 (fun H locs hP hD hS => ?_)
        have hP : va_P D vwCl (mW ad cy 0 n E R (upd Z k 0) B BR wt rk U br lc jo wk) H := hP
        have hD : va_D A (mW ad cy 0 n E R (upd Z k 0) B BR wt rk U br lc jo wk) := hD
        refine lv_aload_n hx hb dX3_stop_46 rfl (lv_at hl 0 rfl) ?_
        refine va_get (D := D) (ci := 3) (v := .ref (ad 3)) (C := RX3) (T := TX3) (N := 14) hx hb hts hinX3 hown hK hP 0 rfl rfl 4 (by decide) hf_17 (fun _ h9 => h9) rfl dX3_stop_47 ?_
        refine lv_iload_n hx hb dX3_stop_50 rfl (lv_at hl 1 rfl) ?_
        refine ax_zld hx hb hK hP 3 2 rfl rfl (by omega) (by omega) dX3_stop_51 ?_
        refine z_topi (y := 0) (upd_at _ _ _) ?_
        exact zret_z F hr hlocks hK hP hD hS (by decide) rfl dX3_stop_52
      · exact absurd c37 h
    · exact absurd rfl c21

set_option maxHeartbeats 4000000 in
set_option maxRecDepth 100000 in
theorem kX3_stop1 (l : Launch) (D : va_G) (ad : Nat → Nat) (cy : Nat → ClassId) (sz : Nat) (th : Int32) (n : Nat) (E : Nat → Int64) (R : Nat → Int32) (Z : Nat → Int32) (B : Nat → Int32) (BR : Nat → Int64) (wt : Nat) (rk : Nat → Int32) (U : Nat → Int32) (br : Int32) (lc : Int32) (jo : Int64) (wk : Int64) (k : Nat) (h : Z k = 0) (hk : k < n) (hn : n ≤ 40) : mI l yX3_stop wsX3_stop ({ frames := 1, cells := 0, slots := 0, locals := 40 }) [.ref (ad 0), .int (nI k)] D (mT cy) (mW ad cy th n E R Z B BR wt rk U br lc jo wk) sz 1 (mW ad cy 0 n E R (upd Z k 1) B BR wt rk U br lc jo wk) 0 0 := by
  refine zin (fun A => zQi D (mT cy) (mW ad cy 0 n E R (upd Z k 1) B BR wt rk U br lc jo wk) 1 A) (cc := cX3_stop) (maxL := 2) (ret := (some .boolean)) (own := RX3) (by decide) rfl rfl (Nat.le_of_ble_eq_true rfl) ?_
  intro p e s m below meth c A F hr hlocks hmn hA hK H locs hP hD hS ls hl
  obtain ⟨hx, hb, hml, hown, hts⟩ := id F
  have hl : lv_has ls 2 [(0, .ref (ad 0)), (1, .int (nI k))] := hl
  have hinX3 : ∀ w ∈ wsX30, w ∈ wsX3_stop := by decide +kernel
  have hf_17 := hts (.fieldLink RX3 17 "RegionSharesModel" "stopped" "[Z") (by decide +kernel)
  have hf_37 := hts (.fieldLink RX3 37 "RegionSharesModel" "thrown" "I") (by decide +kernel)
  refine lv_aload_n hx hb dX3_stop_0 rfl (lv_at hl 0 rfl) ?_
  refine lv_aload_n hx hb dX3_stop_1 rfl (lv_at hl 0 rfl) ?_
  refine lv_iload_n hx hb dX3_stop_2 rfl (lv_at hl 1 rfl) ?_
  refine zcV_i (As := [.int (nI k)]) (rest := [.ref (ad 0)]) F (kX3_isShare1 l D ad cy _ th n E R Z B BR wt rk U br lc jo wk k hk hn) (cwV 1 hts gX3_stop_X3_isShare rfl rfl rfl (by decide +kernel) ⟨Nat.le_of_ble_eq_true rfl, Nat.le_of_ble_eq_true rfl⟩) (va_recv hK hP (ci := 3) (q0 := 0) rfl rfl) hK hP hD hS hA rfl hl.1 rfl (Nat.le_of_ble_eq_true rfl) dX3_stop_3 ⟨Nat.le_of_ble_eq_true rfl, Nat.le_of_ble_eq_true rfl⟩ (fun H locs hP hD hS => ?_)
  refine lv_if_eq (tgt := 13) hx hb dX3_stop_6 (by decide) (fun c6 => ?_) (fun c6 => ?_)
  · exact absurd c6 (by decide)
  · refine lv_iconst (v := 0) hx hb dX3_stop_9 (by decide) ?_
    refine lv_goto (tgt := 14) hx hb dX3_stop_10 (by decide) ?_
    refine va_put (D := D) (ci := 3) (v := .int 0) (ty := .int) (C := RX3) (T := TX3) (N := 14) hx hb hts hinX3 tyX3 tyX3_ok nmX3 hown hK hP hD hS 0 rfl rfl 0 (by decide) hf_37 (fun _ h9 => h9) rfl (by decide +kernel) rfl rfl (Nat.le_of_ble_eq_true rfl) dX3_stop_14 (fun H locs hP hD hS => ?_)
    have hP : va_P D vwCl (mW ad cy 0 n E R Z B BR wt rk U br lc jo wk) H := hP
    have hD : va_D A (mW ad cy 0 n E R Z B BR wt rk U br lc jo wk) := hD
    refine lv_aload_n hx hb dX3_stop_17 rfl (lv_at hl 0 rfl) ?_
    refine va_get (D := D) (ci := 3) (v := .int 0) (C := RX3) (T := TX3) (N := 14) hx hb hts hinX3 hown hK hP 0 rfl rfl 0 (by decide) hf_37 (fun _ h9 => h9) rfl dX3_stop_18 ?_
    refine lv_if_eq (tgt := 26) hx hb dX3_stop_21 (by decide) (fun c21 => ?_) (fun c21 => ?_)
    · refine lv_aload_n hx hb dX3_stop_26 rfl (lv_at hl 0 rfl) ?_
      refine va_get (D := D) (ci := 3) (v := .ref (ad 3)) (C := RX3) (T := TX3) (N := 14) hx hb hts hinX3 hown hK hP 0 rfl rfl 4 (by decide) hf_17 (fun _ h9 => h9) rfl dX3_stop_27 ?_
      refine lv_iload_n hx hb dX3_stop_30 rfl (lv_at hl 1 rfl) ?_
      refine lv_aload_n hx hb dX3_stop_31 rfl (lv_at hl 0 rfl) ?_
      refine va_get (D := D) (ci := 3) (v := .ref (ad 3)) (C := RX3) (T := TX3) (N := 14) hx hb hts hinX3 hown hK hP 0 rfl rfl 4 (by decide) hf_17 (fun _ h9 => h9) rfl dX3_stop_32 ?_
      refine lv_iload_n hx hb dX3_stop_35 rfl (lv_at hl 1 rfl) ?_
      refine ax_zld hx hb hK hP 3 2 rfl rfl (by omega) (by omega) dX3_stop_36 ?_
      refine lv_if_ne (tgt := 44) hx hb dX3_stop_37 (by decide) (fun c37 => ?_) (fun c37 => ?_)
      · exact absurd h c37
      · refine lv_iconst (v := 1) hx hb dX3_stop_40 (by decide) ?_
        refine lv_goto (tgt := 45) hx hb dX3_stop_41 (by decide) ?_
        refine ax_zst hx hb hK hP hD hS 3 2 rfl rfl (by decide) (by omega) (by omega) dX3_stop_45 (fun H locs hP hD hS => ?_)
        have hP : va_P D vwCl (mW ad cy 0 n E R (upd Z k 1) B BR wt rk U br lc jo wk) H := hP
        have hD : va_D A (mW ad cy 0 n E R (upd Z k 1) B BR wt rk U br lc jo wk) := hD
        refine lv_aload_n hx hb dX3_stop_46 rfl (lv_at hl 0 rfl) ?_
        refine va_get (D := D) (ci := 3) (v := .ref (ad 3)) (C := RX3) (T := TX3) (N := 14) hx hb hts hinX3 hown hK hP 0 rfl rfl 4 (by decide) hf_17 (fun _ h9 => h9) rfl dX3_stop_47 ?_
        refine lv_iload_n hx hb dX3_stop_50 rfl (lv_at hl 1 rfl) ?_
        refine ax_zld hx hb hK hP 3 2 rfl rfl (by omega) (by omega) dX3_stop_51 ?_
        refine z_topi (y := 1) (upd_at _ _ _) ?_
        exact zret_z F hr hlocks hK hP hD hS (by decide) rfl dX3_stop_52
    · exact absurd rfl c21

set_option maxHeartbeats 4000000 in
set_option maxRecDepth 100000 in
theorem kX3_stopX (l : Launch) (D : va_G) (ad : Nat → Nat) (cy : Nat → ClassId) (sz : Nat) (th : Int32) (n : Nat) (E : Nat → Int64) (R : Nat → Int32) (Z : Nat → Int32) (B : Nat → Int32) (BR : Nat → Int64) (wt : Nat) (rk : Nat → Int32) (U : Nat → Int32) (br : Int32) (lc : Int32) (jo : Int64) (wk : Int64) (x : Int32) (hxo : x < 0 ∨ nI n ≤ x) : mI l yX3_stop wsX3_stop ({ frames := 1, cells := 0, slots := 0, locals := 40 }) [.ref (ad 0), .int x] D (mT cy) (mW ad cy th n E R Z B BR wt rk U br lc jo wk) sz 0 (mW ad cy 1 n E R Z B BR wt rk U br lc jo wk) 0 0 := by
  refine zin (fun A => zQi D (mT cy) (mW ad cy 1 n E R Z B BR wt rk U br lc jo wk) 0 A) (cc := cX3_stop) (maxL := 2) (ret := (some .boolean)) (own := RX3) (by decide) rfl rfl (Nat.le_of_ble_eq_true rfl) ?_
  intro p e s m below meth c A F hr hlocks hmn hA hK H locs hP hD hS ls hl
  obtain ⟨hx, hb, hml, hown, hts⟩ := id F
  have hl : lv_has ls 2 [(0, .ref (ad 0)), (1, .int x)] := hl
  have hinX3 : ∀ w ∈ wsX30, w ∈ wsX3_stop := by decide +kernel
  have hf_37 := hts (.fieldLink RX3 37 "RegionSharesModel" "thrown" "I") (by decide +kernel)
  refine lv_aload_n hx hb dX3_stop_0 rfl (lv_at hl 0 rfl) ?_
  refine lv_aload_n hx hb dX3_stop_1 rfl (lv_at hl 0 rfl) ?_
  refine lv_iload_n hx hb dX3_stop_2 rfl (lv_at hl 1 rfl) ?_
  refine zcV_i (As := [.int x]) (rest := [.ref (ad 0)]) F (kX3_isShare0 l D ad cy _ th n E R Z B BR wt rk U br lc jo wk x hxo) (cwV 1 hts gX3_stop_X3_isShare rfl rfl rfl (by decide +kernel) ⟨Nat.le_of_ble_eq_true rfl, Nat.le_of_ble_eq_true rfl⟩) (va_recv hK hP (ci := 3) (q0 := 0) rfl rfl) hK hP hD hS hA rfl hl.1 rfl (Nat.le_of_ble_eq_true rfl) dX3_stop_3 ⟨Nat.le_of_ble_eq_true rfl, Nat.le_of_ble_eq_true rfl⟩ (fun H locs hP hD hS => ?_)
  refine lv_if_eq (tgt := 13) hx hb dX3_stop_6 (by decide) (fun c6 => ?_) (fun c6 => ?_)
  · refine lv_iconst (v := 1) hx hb dX3_stop_13 (by decide) ?_
    refine va_put (D := D) (ci := 3) (v := .int 1) (ty := .int) (C := RX3) (T := TX3) (N := 14) hx hb hts hinX3 tyX3 tyX3_ok nmX3 hown hK hP hD hS 0 rfl rfl 0 (by decide) hf_37 (fun _ h9 => h9) rfl (by decide +kernel) rfl rfl (Nat.le_of_ble_eq_true rfl) dX3_stop_14 (fun H locs hP hD hS => ?_)
    have hP : va_P D vwCl (mW ad cy 1 n E R Z B BR wt rk U br lc jo wk) H := hP
    have hD : va_D A (mW ad cy 1 n E R Z B BR wt rk U br lc jo wk) := hD
    refine lv_aload_n hx hb dX3_stop_17 rfl (lv_at hl 0 rfl) ?_
    refine va_get (D := D) (ci := 3) (v := .int 1) (C := RX3) (T := TX3) (N := 14) hx hb hts hinX3 hown hK hP 0 rfl rfl 0 (by decide) hf_37 (fun _ h9 => h9) rfl dX3_stop_18 ?_
    refine lv_if_eq (tgt := 26) hx hb dX3_stop_21 (by decide) (fun c21 => ?_) (fun c21 => ?_)
    · exact absurd c21 (by decide)
    · refine lv_iconst (v := 0) hx hb dX3_stop_24 (by decide) ?_
      exact zret_z F hr hlocks hK hP hD hS (by decide) rfl dX3_stop_25
  · exact absurd rfl c6

set_option maxHeartbeats 4000000 in
set_option maxRecDepth 100000 in
theorem kX3_failAt0 (l : Launch) (D : va_G) (ad : Nat → Nat) (cy : Nat → ClassId) (sz : Nat) (th : Int32) (n : Nat) (E : Nat → Int64) (R : Nat → Int32) (Z : Nat → Int32) (B : Nat → Int32) (BR : Nat → Int64) (wt : Nat) (rk : Nat → Int32) (U : Nat → Int32) (br : Int32) (lc : Int32) (jo : Int64) (wk : Int64) (g : Nat) (k : Nat) (h : (BR g >>> ((nI k).toInt64 &&& 63)) &&& 1 = 1) (hg : g < 16) (hk : k < n) (hn : n ≤ 40) : mI l yX3_failAt wsX3_failAt ({ frames := 1, cells := 0, slots := 0, locals := 40 }) [.ref (ad 0), .int (nI g), .int (nI k)] D (mT cy) (mW ad cy th n E R Z B BR wt rk U br lc jo wk) sz 0 (mW ad cy 0 n E R Z B BR wt rk U br lc jo wk) 0 0 := by
  refine zin (fun A => zQi D (mT cy) (mW ad cy 0 n E R Z B BR wt rk U br lc jo wk) 0 A) (cc := cX3_failAt) (maxL := 3) (ret := (some .boolean)) (own := RX3) (by decide) rfl rfl (Nat.le_of_ble_eq_true rfl) ?_
  intro p e s m below meth c A F hr hlocks hmn hA hK H locs hP hD hS ls hl
  obtain ⟨hx, hb, hml, hown, hts⟩ := id F
  have hl : lv_has ls 3 [(0, .ref (ad 0)), (1, .int (nI g)), (2, .int (nI k))] := hl
  have hinX3 : ∀ w ∈ wsX30, w ∈ wsX3_failAt := by decide +kernel
  have hf_24 := hts (.fieldLink RX3 24 "RegionSharesModel" "breaks" "[J") (by decide +kernel)
  have hf_37 := hts (.fieldLink RX3 37 "RegionSharesModel" "thrown" "I") (by decide +kernel)
  refine lv_aload_n hx hb dX3_failAt_0 rfl (lv_at hl 0 rfl) ?_
  refine lv_iload_n hx hb dX3_failAt_1 rfl (lv_at hl 1 rfl) ?_
  refine lv_if_lt (tgt := 23) hx hb dX3_failAt_2 (by decide) (fun c2 => ?_) (fun c2 => ?_)
  · exact absurd c2 (nI_pos (by omega))
  · refine lv_iload_n hx hb dX3_failAt_5 rfl (lv_at hl 1 rfl) ?_
    refine lv_bipush (v := nI 16) hx hb dX3_failAt_6 (by decide) ?_
    refine zb_ge (a := g) (b := 16) (tgt := 23) hx hb dX3_failAt_8 (by decide) (by omega) (by omega) (fun c8 => ?_) (fun c8 => ?_)
    · exact absurd c8 (by omega)
    · refine lv_aload_n hx hb dX3_failAt_11 rfl (lv_at hl 0 rfl) ?_
      refine lv_iload_n hx hb dX3_failAt_12 rfl (lv_at hl 2 rfl) ?_
      refine zcV_i (As := [.int (nI k)]) (rest := [.ref (ad 0)]) F (kX3_isShare1 l D ad cy _ th n E R Z B BR wt rk U br lc jo wk k hk hn) (cwV 1 hts gX3_failAt_X3_isShare rfl rfl rfl (by decide +kernel) ⟨Nat.le_of_ble_eq_true rfl, Nat.le_of_ble_eq_true rfl⟩) (va_recv hK hP (ci := 3) (q0 := 0) rfl rfl) hK hP hD hS hA rfl hl.1 rfl (Nat.le_of_ble_eq_true rfl) dX3_failAt_13 ⟨Nat.le_of_ble_eq_true rfl, Nat.le_of_ble_eq_true rfl⟩ (fun H locs hP hD hS => ?_)
      refine lv_if_eq (tgt := 23) hx hb dX3_failAt_16 (by decide) (fun c16 => ?_) (fun c16 => ?_)
      · exact absurd c16 (by decide)
      · refine lv_iconst (v := 0) hx hb dX3_failAt_19 (by decide) ?_
        refine lv_goto (tgt := 24) hx hb dX3_failAt_20 (by decide) ?_
        refine va_put (D := D) (ci := 3) (v := .int 0) (ty := .int) (C := RX3) (T := TX3) (N := 14) hx hb hts hinX3 tyX3 tyX3_ok nmX3 hown hK hP hD hS 0 rfl rfl 0 (by decide) hf_37 (fun _ h9 => h9) rfl (by decide +kernel) rfl rfl (Nat.le_of_ble_eq_true rfl) dX3_failAt_24 (fun H locs hP hD hS => ?_)
        have hP : va_P D vwCl (mW ad cy 0 n E R Z B BR wt rk U br lc jo wk) H := hP
        have hD : va_D A (mW ad cy 0 n E R Z B BR wt rk U br lc jo wk) := hD
        refine lv_aload_n hx hb dX3_failAt_27 rfl (lv_at hl 0 rfl) ?_
        refine va_get (D := D) (ci := 3) (v := .int 0) (C := RX3) (T := TX3) (N := 14) hx hb hts hinX3 hown hK hP 0 rfl rfl 0 (by decide) hf_37 (fun _ h9 => h9) rfl dX3_failAt_28 ?_
        refine lv_if_ne (tgt := 49) hx hb dX3_failAt_31 (by decide) (fun c31 => ?_) (fun c31 => ?_)
        · exact absurd rfl c31
        · refine lv_aload_n hx hb dX3_failAt_34 rfl (lv_at hl 0 rfl) ?_
          refine va_get (D := D) (ci := 3) (v := .ref (ad 5)) (C := RX3) (T := TX3) (N := 14) hx hb hts hinX3 hown hK hP 0 rfl rfl 6 (by decide) hf_24 (fun _ h9 => h9) rfl dX3_failAt_35 ?_
          refine lv_iload_n hx hb dX3_failAt_38 rfl (lv_at hl 1 rfl) ?_
          refine ax_lld hx hb hK hP 5 4 rfl rfl (by omega) (by omega) dX3_failAt_39 ?_
          refine lv_iload_n hx hb dX3_failAt_40 rfl (lv_at hl 2 rfl) ?_
          refine lv_lshr (v := (BR g) >>> ((nI k).toInt64 &&& 63)) hx hb dX3_failAt_41 rfl ?_
          refine lv_lconst (v := 1) hx hb dX3_failAt_42 (by decide) ?_
          refine lv_land hx hb dX3_failAt_43 ?_
          refine lv_lconst (v := 1) hx hb dX3_failAt_44 (by decide) ?_
          refine W.lcmp hx hb dX3_failAt_45 ?_
          refine lv_if_ne (tgt := 51) hx hb dX3_failAt_46 (by decide) (fun c46 => ?_) (fun c46 => ?_)
          · exact absurd (lgc0.mpr h) c46
          · refine lv_iconst (v := 0) hx hb dX3_failAt_49 (by decide) ?_
            exact zret_z F hr hlocks hK hP hD hS (by decide) rfl dX3_failAt_50

set_option maxHeartbeats 4000000 in
set_option maxRecDepth 100000 in
theorem kX3_failAt1 (l : Launch) (D : va_G) (ad : Nat → Nat) (cy : Nat → ClassId) (sz : Nat) (th : Int32) (n : Nat) (E : Nat → Int64) (R : Nat → Int32) (Z : Nat → Int32) (B : Nat → Int32) (BR : Nat → Int64) (wt : Nat) (rk : Nat → Int32) (U : Nat → Int32) (br : Int32) (lc : Int32) (jo : Int64) (wk : Int64) (g : Nat) (k : Nat) (h : ¬ (BR g >>> ((nI k).toInt64 &&& 63)) &&& 1 = 1) (hg : g < 16) (hk : k < n) (hn : n ≤ 40) : mI l yX3_failAt wsX3_failAt ({ frames := 1, cells := 0, slots := 0, locals := 40 }) [.ref (ad 0), .int (nI g), .int (nI k)] D (mT cy) (mW ad cy th n E R Z B BR wt rk U br lc jo wk) sz 1 (mW ad cy 0 n E R Z B (vp_updL BR g (BR g ||| ((1 : Int64) <<< ((nI k).toInt64 &&& 63)))) wt rk U br lc jo wk) 0 0 := by
  refine zin (fun A => zQi D (mT cy) (mW ad cy 0 n E R Z B (vp_updL BR g (BR g ||| ((1 : Int64) <<< ((nI k).toInt64 &&& 63)))) wt rk U br lc jo wk) 1 A) (cc := cX3_failAt) (maxL := 3) (ret := (some .boolean)) (own := RX3) (by decide) rfl rfl (Nat.le_of_ble_eq_true rfl) ?_
  intro p e s m below meth c A F hr hlocks hmn hA hK H locs hP hD hS ls hl
  obtain ⟨hx, hb, hml, hown, hts⟩ := id F
  have hl : lv_has ls 3 [(0, .ref (ad 0)), (1, .int (nI g)), (2, .int (nI k))] := hl
  have hinX3 : ∀ w ∈ wsX30, w ∈ wsX3_failAt := by decide +kernel
  have hf_24 := hts (.fieldLink RX3 24 "RegionSharesModel" "breaks" "[J") (by decide +kernel)
  have hf_37 := hts (.fieldLink RX3 37 "RegionSharesModel" "thrown" "I") (by decide +kernel)
  refine lv_aload_n hx hb dX3_failAt_0 rfl (lv_at hl 0 rfl) ?_
  refine lv_iload_n hx hb dX3_failAt_1 rfl (lv_at hl 1 rfl) ?_
  refine lv_if_lt (tgt := 23) hx hb dX3_failAt_2 (by decide) (fun c2 => ?_) (fun c2 => ?_)
  · exact absurd c2 (nI_pos (by omega))
  · refine lv_iload_n hx hb dX3_failAt_5 rfl (lv_at hl 1 rfl) ?_
    refine lv_bipush (v := nI 16) hx hb dX3_failAt_6 (by decide) ?_
    refine zb_ge (a := g) (b := 16) (tgt := 23) hx hb dX3_failAt_8 (by decide) (by omega) (by omega) (fun c8 => ?_) (fun c8 => ?_)
    · exact absurd c8 (by omega)
    · refine lv_aload_n hx hb dX3_failAt_11 rfl (lv_at hl 0 rfl) ?_
      refine lv_iload_n hx hb dX3_failAt_12 rfl (lv_at hl 2 rfl) ?_
      refine zcV_i (As := [.int (nI k)]) (rest := [.ref (ad 0)]) F (kX3_isShare1 l D ad cy _ th n E R Z B BR wt rk U br lc jo wk k hk hn) (cwV 1 hts gX3_failAt_X3_isShare rfl rfl rfl (by decide +kernel) ⟨Nat.le_of_ble_eq_true rfl, Nat.le_of_ble_eq_true rfl⟩) (va_recv hK hP (ci := 3) (q0 := 0) rfl rfl) hK hP hD hS hA rfl hl.1 rfl (Nat.le_of_ble_eq_true rfl) dX3_failAt_13 ⟨Nat.le_of_ble_eq_true rfl, Nat.le_of_ble_eq_true rfl⟩ (fun H locs hP hD hS => ?_)
      refine lv_if_eq (tgt := 23) hx hb dX3_failAt_16 (by decide) (fun c16 => ?_) (fun c16 => ?_)
      · exact absurd c16 (by decide)
      · refine lv_iconst (v := 0) hx hb dX3_failAt_19 (by decide) ?_
        refine lv_goto (tgt := 24) hx hb dX3_failAt_20 (by decide) ?_
        refine va_put (D := D) (ci := 3) (v := .int 0) (ty := .int) (C := RX3) (T := TX3) (N := 14) hx hb hts hinX3 tyX3 tyX3_ok nmX3 hown hK hP hD hS 0 rfl rfl 0 (by decide) hf_37 (fun _ h9 => h9) rfl (by decide +kernel) rfl rfl (Nat.le_of_ble_eq_true rfl) dX3_failAt_24 (fun H locs hP hD hS => ?_)
        have hP : va_P D vwCl (mW ad cy 0 n E R Z B BR wt rk U br lc jo wk) H := hP
        have hD : va_D A (mW ad cy 0 n E R Z B BR wt rk U br lc jo wk) := hD
        refine lv_aload_n hx hb dX3_failAt_27 rfl (lv_at hl 0 rfl) ?_
        refine va_get (D := D) (ci := 3) (v := .int 0) (C := RX3) (T := TX3) (N := 14) hx hb hts hinX3 hown hK hP 0 rfl rfl 0 (by decide) hf_37 (fun _ h9 => h9) rfl dX3_failAt_28 ?_
        refine lv_if_ne (tgt := 49) hx hb dX3_failAt_31 (by decide) (fun c31 => ?_) (fun c31 => ?_)
        · exact absurd rfl c31
        · refine lv_aload_n hx hb dX3_failAt_34 rfl (lv_at hl 0 rfl) ?_
          refine va_get (D := D) (ci := 3) (v := .ref (ad 5)) (C := RX3) (T := TX3) (N := 14) hx hb hts hinX3 hown hK hP 0 rfl rfl 6 (by decide) hf_24 (fun _ h9 => h9) rfl dX3_failAt_35 ?_
          refine lv_iload_n hx hb dX3_failAt_38 rfl (lv_at hl 1 rfl) ?_
          refine ax_lld hx hb hK hP 5 4 rfl rfl (by omega) (by omega) dX3_failAt_39 ?_
          refine lv_iload_n hx hb dX3_failAt_40 rfl (lv_at hl 2 rfl) ?_
          refine lv_lshr (v := (BR g) >>> ((nI k).toInt64 &&& 63)) hx hb dX3_failAt_41 rfl ?_
          refine lv_lconst (v := 1) hx hb dX3_failAt_42 (by decide) ?_
          refine lv_land hx hb dX3_failAt_43 ?_
          refine lv_lconst (v := 1) hx hb dX3_failAt_44 (by decide) ?_
          refine W.lcmp hx hb dX3_failAt_45 ?_
          refine lv_if_ne (tgt := 51) hx hb dX3_failAt_46 (by decide) (fun c46 => ?_) (fun c46 => ?_)
          · refine lv_aload_n hx hb dX3_failAt_51 rfl (lv_at hl 0 rfl) ?_
            refine va_get (D := D) (ci := 3) (v := .ref (ad 5)) (C := RX3) (T := TX3) (N := 14) hx hb hts hinX3 hown hK hP 0 rfl rfl 6 (by decide) hf_24 (fun _ h9 => h9) rfl dX3_failAt_52 ?_
            refine lv_iload_n hx hb dX3_failAt_55 rfl (lv_at hl 1 rfl) ?_
            refine lv_aload_n hx hb dX3_failAt_56 rfl (lv_at hl 0 rfl) ?_
            refine va_get (D := D) (ci := 3) (v := .ref (ad 5)) (C := RX3) (T := TX3) (N := 14) hx hb hts hinX3 hown hK hP 0 rfl rfl 6 (by decide) hf_24 (fun _ h9 => h9) rfl dX3_failAt_57 ?_
            refine lv_iload_n hx hb dX3_failAt_60 rfl (lv_at hl 1 rfl) ?_
            refine ax_lld hx hb hK hP 5 4 rfl rfl (by omega) (by omega) dX3_failAt_61 ?_
            refine lv_lconst (v := 1) hx hb dX3_failAt_62 (by decide) ?_
            refine lv_iload_n hx hb dX3_failAt_63 rfl (lv_at hl 2 rfl) ?_
            refine lv_lshl (v := 1 <<< ((nI k).toInt64 &&& 63)) hx hb dX3_failAt_64 rfl ?_
            refine lv_lor hx hb dX3_failAt_65 ?_
            refine ax_lst hx hb hK hP hD hS 5 4 rfl rfl (by omega) (by omega) dX3_failAt_66 (fun H locs hP hD hS => ?_)
            have hP : va_P D vwCl (mW ad cy 0 n E R Z B (vp_updL BR g ((BR g) ||| (1 <<< ((nI k).toInt64 &&& 63)))) wt rk U br lc jo wk) H := hP
            have hD : va_D A (mW ad cy 0 n E R Z B (vp_updL BR g ((BR g) ||| (1 <<< ((nI k).toInt64 &&& 63)))) wt rk U br lc jo wk) := hD
            refine lv_iconst (v := 1) hx hb dX3_failAt_67 (by decide) ?_
            exact zret_z F hr hlocks hK hP hD hS (by decide) rfl dX3_failAt_68
          · exact absurd (lgc0.mp c46) h

set_option maxHeartbeats 4000000 in
set_option maxRecDepth 100000 in
theorem kX3_failAtY (l : Launch) (D : va_G) (ad : Nat → Nat) (cy : Nat → ClassId) (sz : Nat) (th : Int32) (n : Nat) (E : Nat → Int64) (R : Nat → Int32) (Z : Nat → Int32) (B : Nat → Int32) (BR : Nat → Int64) (wt : Nat) (rk : Nat → Int32) (U : Nat → Int32) (br : Int32) (lc : Int32) (jo : Int64) (wk : Int64) (y : Int32) (x : Int32) (hy : y < 0 ∨ nI 16 ≤ y) : mI l yX3_failAt wsX3_failAt ({ frames := 1, cells := 0, slots := 0, locals := 40 }) [.ref (ad 0), .int y, .int x] D (mT cy) (mW ad cy th n E R Z B BR wt rk U br lc jo wk) sz 0 (mW ad cy 1 n E R Z B BR wt rk U br lc jo wk) 0 0 := by
  refine zin (fun A => zQi D (mT cy) (mW ad cy 1 n E R Z B BR wt rk U br lc jo wk) 0 A) (cc := cX3_failAt) (maxL := 3) (ret := (some .boolean)) (own := RX3) (by decide) rfl rfl (Nat.le_of_ble_eq_true rfl) ?_
  intro p e s m below meth c A F hr hlocks hmn hA hK H locs hP hD hS ls hl
  obtain ⟨hx, hb, hml, hown, hts⟩ := id F
  have hl : lv_has ls 3 [(0, .ref (ad 0)), (1, .int y), (2, .int x)] := hl
  have hinX3 : ∀ w ∈ wsX30, w ∈ wsX3_failAt := by decide +kernel
  have hf_37 := hts (.fieldLink RX3 37 "RegionSharesModel" "thrown" "I") (by decide +kernel)
  refine lv_aload_n hx hb dX3_failAt_0 rfl (lv_at hl 0 rfl) ?_
  refine lv_iload_n hx hb dX3_failAt_1 rfl (lv_at hl 1 rfl) ?_
  refine lv_if_lt (tgt := 23) hx hb dX3_failAt_2 (by decide) (fun c2 => ?_) (fun c2 => ?_)
  · refine lv_iconst (v := 1) hx hb dX3_failAt_23 (by decide) ?_
    refine va_put (D := D) (ci := 3) (v := .int 1) (ty := .int) (C := RX3) (T := TX3) (N := 14) hx hb hts hinX3 tyX3 tyX3_ok nmX3 hown hK hP hD hS 0 rfl rfl 0 (by decide) hf_37 (fun _ h9 => h9) rfl (by decide +kernel) rfl rfl (Nat.le_of_ble_eq_true rfl) dX3_failAt_24 (fun H locs hP hD hS => ?_)
    have hP : va_P D vwCl (mW ad cy 1 n E R Z B BR wt rk U br lc jo wk) H := hP
    have hD : va_D A (mW ad cy 1 n E R Z B BR wt rk U br lc jo wk) := hD
    refine lv_aload_n hx hb dX3_failAt_27 rfl (lv_at hl 0 rfl) ?_
    refine va_get (D := D) (ci := 3) (v := .int 1) (C := RX3) (T := TX3) (N := 14) hx hb hts hinX3 hown hK hP 0 rfl rfl 0 (by decide) hf_37 (fun _ h9 => h9) rfl dX3_failAt_28 ?_
    refine lv_if_ne (tgt := 49) hx hb dX3_failAt_31 (by decide) (fun c31 => ?_) (fun c31 => ?_)
    · refine lv_iconst (v := 0) hx hb dX3_failAt_49 (by decide) ?_
      exact zret_z F hr hlocks hK hP hD hS (by decide) rfl dX3_failAt_50
    · exact absurd c31 (by decide)
  · refine lv_iload_n hx hb dX3_failAt_5 rfl (lv_at hl 1 rfl) ?_
    refine lv_bipush (v := nI 16) hx hb dX3_failAt_6 (by decide) ?_
    refine lv_icmp_ge (tgt := 23) hx hb dX3_failAt_8 (by decide) (fun c8 => ?_) (fun c8 => ?_)
    · refine lv_iconst (v := 1) hx hb dX3_failAt_23 (by decide) ?_
      refine va_put (D := D) (ci := 3) (v := .int 1) (ty := .int) (C := RX3) (T := TX3) (N := 14) hx hb hts hinX3 tyX3 tyX3_ok nmX3 hown hK hP hD hS 0 rfl rfl 0 (by decide) hf_37 (fun _ h9 => h9) rfl (by decide +kernel) rfl rfl (Nat.le_of_ble_eq_true rfl) dX3_failAt_24 (fun H locs hP hD hS => ?_)
      have hP : va_P D vwCl (mW ad cy 1 n E R Z B BR wt rk U br lc jo wk) H := hP
      have hD : va_D A (mW ad cy 1 n E R Z B BR wt rk U br lc jo wk) := hD
      refine lv_aload_n hx hb dX3_failAt_27 rfl (lv_at hl 0 rfl) ?_
      refine va_get (D := D) (ci := 3) (v := .int 1) (C := RX3) (T := TX3) (N := 14) hx hb hts hinX3 hown hK hP 0 rfl rfl 0 (by decide) hf_37 (fun _ h9 => h9) rfl dX3_failAt_28 ?_
      refine lv_if_ne (tgt := 49) hx hb dX3_failAt_31 (by decide) (fun c31 => ?_) (fun c31 => ?_)
      · refine lv_iconst (v := 0) hx hb dX3_failAt_49 (by decide) ?_
        exact zret_z F hr hlocks hK hP hD hS (by decide) rfl dX3_failAt_50
      · exact absurd c31 (by decide)
    · exact absurd (hy.resolve_left c2) c8

set_option maxHeartbeats 4000000 in
set_option maxRecDepth 100000 in
theorem kX3_failAtX (l : Launch) (D : va_G) (ad : Nat → Nat) (cy : Nat → ClassId) (sz : Nat) (th : Int32) (n : Nat) (E : Nat → Int64) (R : Nat → Int32) (Z : Nat → Int32) (B : Nat → Int32) (BR : Nat → Int64) (wt : Nat) (rk : Nat → Int32) (U : Nat → Int32) (br : Int32) (lc : Int32) (jo : Int64) (wk : Int64) (g : Nat) (x : Int32) (hg : g < 16) (hxo : x < 0 ∨ nI n ≤ x) : mI l yX3_failAt wsX3_failAt ({ frames := 1, cells := 0, slots := 0, locals := 40 }) [.ref (ad 0), .int (nI g), .int x] D (mT cy) (mW ad cy th n E R Z B BR wt rk U br lc jo wk) sz 0 (mW ad cy 1 n E R Z B BR wt rk U br lc jo wk) 0 0 := by
  refine zin (fun A => zQi D (mT cy) (mW ad cy 1 n E R Z B BR wt rk U br lc jo wk) 0 A) (cc := cX3_failAt) (maxL := 3) (ret := (some .boolean)) (own := RX3) (by decide) rfl rfl (Nat.le_of_ble_eq_true rfl) ?_
  intro p e s m below meth c A F hr hlocks hmn hA hK H locs hP hD hS ls hl
  obtain ⟨hx, hb, hml, hown, hts⟩ := id F
  have hl : lv_has ls 3 [(0, .ref (ad 0)), (1, .int (nI g)), (2, .int x)] := hl
  have hinX3 : ∀ w ∈ wsX30, w ∈ wsX3_failAt := by decide +kernel
  have hf_37 := hts (.fieldLink RX3 37 "RegionSharesModel" "thrown" "I") (by decide +kernel)
  refine lv_aload_n hx hb dX3_failAt_0 rfl (lv_at hl 0 rfl) ?_
  refine lv_iload_n hx hb dX3_failAt_1 rfl (lv_at hl 1 rfl) ?_
  refine lv_if_lt (tgt := 23) hx hb dX3_failAt_2 (by decide) (fun c2 => ?_) (fun c2 => ?_)
  · exact absurd c2 (nI_pos (by omega))
  · refine lv_iload_n hx hb dX3_failAt_5 rfl (lv_at hl 1 rfl) ?_
    refine lv_bipush (v := nI 16) hx hb dX3_failAt_6 (by decide) ?_
    refine zb_ge (a := g) (b := 16) (tgt := 23) hx hb dX3_failAt_8 (by decide) (by omega) (by omega) (fun c8 => ?_) (fun c8 => ?_)
    · exact absurd c8 (by omega)
    · refine lv_aload_n hx hb dX3_failAt_11 rfl (lv_at hl 0 rfl) ?_
      refine lv_iload_n hx hb dX3_failAt_12 rfl (lv_at hl 2 rfl) ?_
      refine zcV_i (As := [.int x]) (rest := [.ref (ad 0)]) F (kX3_isShare0 l D ad cy _ th n E R Z B BR wt rk U br lc jo wk x hxo) (cwV 1 hts gX3_failAt_X3_isShare rfl rfl rfl (by decide +kernel) ⟨Nat.le_of_ble_eq_true rfl, Nat.le_of_ble_eq_true rfl⟩) (va_recv hK hP (ci := 3) (q0 := 0) rfl rfl) hK hP hD hS hA rfl hl.1 rfl (Nat.le_of_ble_eq_true rfl) dX3_failAt_13 ⟨Nat.le_of_ble_eq_true rfl, Nat.le_of_ble_eq_true rfl⟩ (fun H locs hP hD hS => ?_)
      refine lv_if_eq (tgt := 23) hx hb dX3_failAt_16 (by decide) (fun c16 => ?_) (fun c16 => ?_)
      · refine lv_iconst (v := 1) hx hb dX3_failAt_23 (by decide) ?_
        refine va_put (D := D) (ci := 3) (v := .int 1) (ty := .int) (C := RX3) (T := TX3) (N := 14) hx hb hts hinX3 tyX3 tyX3_ok nmX3 hown hK hP hD hS 0 rfl rfl 0 (by decide) hf_37 (fun _ h9 => h9) rfl (by decide +kernel) rfl rfl (Nat.le_of_ble_eq_true rfl) dX3_failAt_24 (fun H locs hP hD hS => ?_)
        have hP : va_P D vwCl (mW ad cy 1 n E R Z B BR wt rk U br lc jo wk) H := hP
        have hD : va_D A (mW ad cy 1 n E R Z B BR wt rk U br lc jo wk) := hD
        refine lv_aload_n hx hb dX3_failAt_27 rfl (lv_at hl 0 rfl) ?_
        refine va_get (D := D) (ci := 3) (v := .int 1) (C := RX3) (T := TX3) (N := 14) hx hb hts hinX3 hown hK hP 0 rfl rfl 0 (by decide) hf_37 (fun _ h9 => h9) rfl dX3_failAt_28 ?_
        refine lv_if_ne (tgt := 49) hx hb dX3_failAt_31 (by decide) (fun c31 => ?_) (fun c31 => ?_)
        · refine lv_iconst (v := 0) hx hb dX3_failAt_49 (by decide) ?_
          exact zret_z F hr hlocks hK hP hD hS (by decide) rfl dX3_failAt_50
        · exact absurd c31 (by decide)
      · exact absurd rfl c16

set_option maxHeartbeats 4000000 in
set_option maxRecDepth 100000 in
theorem kX3_times1 (l : Launch) (D : va_G) (ad : Nat → Nat) (cy : Nat → ClassId) (sz : Nat) (th : Int32) (n : Nat) (E : Nat → Int64) (R : Nat → Int32) (Z : Nat → Int32) (B : Nat → Int32) (BR : Nat → Int64) (wt : Nat) (rk : Nat → Int32) (U : Nat → Int32) (br : Int32) (lc : Int32) (jo : Int64) (wk : Int64) (k : Nat) (hk : k < n) (hn : n ≤ 40) : mI l yX3_times wsX3_times ({ frames := 1, cells := 0, slots := 0, locals := 40 }) [.ref (ad 0), .int (nI k)] D (mT cy) (mW ad cy th n E R Z B BR wt rk U br lc jo wk) sz (U k) (mW ad cy 0 n E R Z B BR wt rk U br lc jo wk) 0 0 := by
  refine zin (fun A => zQi D (mT cy) (mW ad cy 0 n E R Z B BR wt rk U br lc jo wk) (U k) A) (cc := cX3_times) (maxL := 2) (ret := (some .int)) (own := RX3) (by decide) rfl rfl (Nat.le_of_ble_eq_true rfl) ?_
  intro p e s m below meth c A F hr hlocks hmn hA hK H locs hP hD hS ls hl
  obtain ⟨hx, hb, hml, hown, hts⟩ := id F
  have hl : lv_has ls 2 [(0, .ref (ad 0)), (1, .int (nI k))] := hl
  have hinX3 : ∀ w ∈ wsX30, w ∈ wsX3_times := by decide +kernel
  have hf_30 := hts (.fieldLink RX3 30 "RegionSharesModel" "begun" "[I") (by decide +kernel)
  have hf_37 := hts (.fieldLink RX3 37 "RegionSharesModel" "thrown" "I") (by decide +kernel)
  refine lv_aload_n hx hb dX3_times_0 rfl (lv_at hl 0 rfl) ?_
  refine lv_aload_n hx hb dX3_times_1 rfl (lv_at hl 0 rfl) ?_
  refine lv_iload_n hx hb dX3_times_2 rfl (lv_at hl 1 rfl) ?_
  refine zcV_i (As := [.int (nI k)]) (rest := [.ref (ad 0)]) F (kX3_isShare1 l D ad cy _ th n E R Z B BR wt rk U br lc jo wk k hk hn) (cwV 1 hts gX3_times_X3_isShare rfl rfl rfl (by decide +kernel) ⟨Nat.le_of_ble_eq_true rfl, Nat.le_of_ble_eq_true rfl⟩) (va_recv hK hP (ci := 3) (q0 := 0) rfl rfl) hK hP hD hS hA rfl hl.1 rfl (Nat.le_of_ble_eq_true rfl) dX3_times_3 ⟨Nat.le_of_ble_eq_true rfl, Nat.le_of_ble_eq_true rfl⟩ (fun H locs hP hD hS => ?_)
  refine lv_if_eq (tgt := 13) hx hb dX3_times_6 (by decide) (fun c6 => ?_) (fun c6 => ?_)
  · exact absurd c6 (by decide)
  · refine lv_iconst (v := 0) hx hb dX3_times_9 (by decide) ?_
    refine lv_goto (tgt := 14) hx hb dX3_times_10 (by decide) ?_
    refine va_put (D := D) (ci := 3) (v := .int 0) (ty := .int) (C := RX3) (T := TX3) (N := 14) hx hb hts hinX3 tyX3 tyX3_ok nmX3 hown hK hP hD hS 0 rfl rfl 0 (by decide) hf_37 (fun _ h9 => h9) rfl (by decide +kernel) rfl rfl (Nat.le_of_ble_eq_true rfl) dX3_times_14 (fun H locs hP hD hS => ?_)
    have hP : va_P D vwCl (mW ad cy 0 n E R Z B BR wt rk U br lc jo wk) H := hP
    have hD : va_D A (mW ad cy 0 n E R Z B BR wt rk U br lc jo wk) := hD
    refine lv_aload_n hx hb dX3_times_17 rfl (lv_at hl 0 rfl) ?_
    refine va_get (D := D) (ci := 3) (v := .int 0) (C := RX3) (T := TX3) (N := 14) hx hb hts hinX3 hown hK hP 0 rfl rfl 0 (by decide) hf_37 (fun _ h9 => h9) rfl dX3_times_18 ?_
    refine lv_if_ne (tgt := 33) hx hb dX3_times_21 (by decide) (fun c21 => ?_) (fun c21 => ?_)
    · exact absurd rfl c21
    · refine lv_aload_n hx hb dX3_times_24 rfl (lv_at hl 0 rfl) ?_
      refine va_get (D := D) (ci := 3) (v := .ref (ad 7)) (C := RX3) (T := TX3) (N := 14) hx hb hts hinX3 hown hK hP 0 rfl rfl 9 (by decide) hf_30 (fun _ h9 => h9) rfl dX3_times_25 ?_
      refine lv_iload_n hx hb dX3_times_28 rfl (lv_at hl 1 rfl) ?_
      refine ax_ild hx hb hK hP 7 6 rfl rfl (by omega) (by omega) dX3_times_29 ?_
      refine lv_goto (tgt := 34) hx hb dX3_times_30 (by decide) ?_
      exact zret_i F hr hlocks hK hP hD hS rfl dX3_times_34

set_option maxHeartbeats 4000000 in
set_option maxRecDepth 100000 in
theorem kX3_timesX (l : Launch) (D : va_G) (ad : Nat → Nat) (cy : Nat → ClassId) (sz : Nat) (th : Int32) (n : Nat) (E : Nat → Int64) (R : Nat → Int32) (Z : Nat → Int32) (B : Nat → Int32) (BR : Nat → Int64) (wt : Nat) (rk : Nat → Int32) (U : Nat → Int32) (br : Int32) (lc : Int32) (jo : Int64) (wk : Int64) (x : Int32) (hxo : x < 0 ∨ nI n ≤ x) : mI l yX3_times wsX3_times ({ frames := 1, cells := 0, slots := 0, locals := 40 }) [.ref (ad 0), .int x] D (mT cy) (mW ad cy th n E R Z B BR wt rk U br lc jo wk) sz 0 (mW ad cy 1 n E R Z B BR wt rk U br lc jo wk) 0 0 := by
  refine zin (fun A => zQi D (mT cy) (mW ad cy 1 n E R Z B BR wt rk U br lc jo wk) 0 A) (cc := cX3_times) (maxL := 2) (ret := (some .int)) (own := RX3) (by decide) rfl rfl (Nat.le_of_ble_eq_true rfl) ?_
  intro p e s m below meth c A F hr hlocks hmn hA hK H locs hP hD hS ls hl
  obtain ⟨hx, hb, hml, hown, hts⟩ := id F
  have hl : lv_has ls 2 [(0, .ref (ad 0)), (1, .int x)] := hl
  have hinX3 : ∀ w ∈ wsX30, w ∈ wsX3_times := by decide +kernel
  have hf_37 := hts (.fieldLink RX3 37 "RegionSharesModel" "thrown" "I") (by decide +kernel)
  refine lv_aload_n hx hb dX3_times_0 rfl (lv_at hl 0 rfl) ?_
  refine lv_aload_n hx hb dX3_times_1 rfl (lv_at hl 0 rfl) ?_
  refine lv_iload_n hx hb dX3_times_2 rfl (lv_at hl 1 rfl) ?_
  refine zcV_i (As := [.int x]) (rest := [.ref (ad 0)]) F (kX3_isShare0 l D ad cy _ th n E R Z B BR wt rk U br lc jo wk x hxo) (cwV 1 hts gX3_times_X3_isShare rfl rfl rfl (by decide +kernel) ⟨Nat.le_of_ble_eq_true rfl, Nat.le_of_ble_eq_true rfl⟩) (va_recv hK hP (ci := 3) (q0 := 0) rfl rfl) hK hP hD hS hA rfl hl.1 rfl (Nat.le_of_ble_eq_true rfl) dX3_times_3 ⟨Nat.le_of_ble_eq_true rfl, Nat.le_of_ble_eq_true rfl⟩ (fun H locs hP hD hS => ?_)
  refine lv_if_eq (tgt := 13) hx hb dX3_times_6 (by decide) (fun c6 => ?_) (fun c6 => ?_)
  · refine lv_iconst (v := 1) hx hb dX3_times_13 (by decide) ?_
    refine va_put (D := D) (ci := 3) (v := .int 1) (ty := .int) (C := RX3) (T := TX3) (N := 14) hx hb hts hinX3 tyX3 tyX3_ok nmX3 hown hK hP hD hS 0 rfl rfl 0 (by decide) hf_37 (fun _ h9 => h9) rfl (by decide +kernel) rfl rfl (Nat.le_of_ble_eq_true rfl) dX3_times_14 (fun H locs hP hD hS => ?_)
    have hP : va_P D vwCl (mW ad cy 1 n E R Z B BR wt rk U br lc jo wk) H := hP
    have hD : va_D A (mW ad cy 1 n E R Z B BR wt rk U br lc jo wk) := hD
    refine lv_aload_n hx hb dX3_times_17 rfl (lv_at hl 0 rfl) ?_
    refine va_get (D := D) (ci := 3) (v := .int 1) (C := RX3) (T := TX3) (N := 14) hx hb hts hinX3 hown hK hP 0 rfl rfl 0 (by decide) hf_37 (fun _ h9 => h9) rfl dX3_times_18 ?_
    refine lv_if_ne (tgt := 33) hx hb dX3_times_21 (by decide) (fun c21 => ?_) (fun c21 => ?_)
    · refine lv_iconst (v := 0) hx hb dX3_times_33 (by decide) ?_
      exact zret_i F hr hlocks hK hP hD hS rfl dX3_times_34
    · exact absurd c21 (by decide)
  · exact absurd rfl c6

set_option maxHeartbeats 4000000 in
set_option maxRecDepth 100000 in
theorem kX3_work (l : Launch) (D : va_G) (ad : Nat → Nat) (cy : Nat → ClassId) (sz : Nat) (th : Int32) (n : Nat) (E : Nat → Int64) (R : Nat → Int32) (Z : Nat → Int32) (B : Nat → Int32) (BR : Nat → Int64) (wt : Nat) (rk : Nat → Int32) (U : Nat → Int32) (br : Int32) (lc : Int32) (jo : Int64) (wk : Int64)  : mL l yX3_work wsX3_work ({ frames := 0, cells := 0, slots := 0, locals := 0 }) [.ref (ad 0)] D (mT cy) (mW ad cy th n E R Z B BR wt rk U br lc jo wk) sz wk (mW ad cy 0 n E R Z B BR wt rk U br lc jo wk) 0 0 := by
  refine zin (fun A => zQl D (mT cy) (mW ad cy 0 n E R Z B BR wt rk U br lc jo wk) wk A) (cc := cX3_work) (maxL := 1) (ret := (some .long)) (own := RX3) (by decide) rfl rfl (Nat.le_of_ble_eq_true rfl) ?_
  intro p e s m below meth c A F hr hlocks hmn hA hK H locs hP hD hS ls hl
  obtain ⟨hx, hb, hml, hown, hts⟩ := id F
  have hl : lv_has ls 1 [(0, .ref (ad 0))] := hl
  have hinX3 : ∀ w ∈ wsX30, w ∈ wsX3_work := by decide +kernel
  have hf_37 := hts (.fieldLink RX3 37 "RegionSharesModel" "thrown" "I") (by decide +kernel)
  have hf_69 := hts (.fieldLink RX3 69 "RegionSharesModel" "work" "J") (by decide +kernel)
  refine lv_aload_n hx hb dX3_work_0 rfl (lv_at hl 0 rfl) ?_
  refine lv_iconst (v := 0) hx hb dX3_work_1 (by decide) ?_
  refine va_put (D := D) (ci := 3) (v := .int 0) (ty := .int) (C := RX3) (T := TX3) (N := 14) hx hb hts hinX3 tyX3 tyX3_ok nmX3 hown hK hP hD hS 0 rfl rfl 0 (by decide) hf_37 (fun _ h9 => h9) rfl (by decide +kernel) rfl rfl (Nat.le_of_ble_eq_true rfl) dX3_work_2 (fun H locs hP hD hS => ?_)
  have hP : va_P D vwCl (mW ad cy 0 n E R Z B BR wt rk U br lc jo wk) H := hP
  have hD : va_D A (mW ad cy 0 n E R Z B BR wt rk U br lc jo wk) := hD
  refine lv_aload_n hx hb dX3_work_5 rfl (lv_at hl 0 rfl) ?_
  refine va_get (D := D) (ci := 3) (v := .long wk) (C := RX3) (T := TX3) (N := 14) hx hb hts hinX3 hown hK hP 0 rfl rfl 13 (by decide) hf_69 (fun _ h9 => h9) rfl dX3_work_6 ?_
  exact zret_l F hr hlocks hK hP hD hS rfl dX3_work_9

set_option maxHeartbeats 4000000 in
set_option maxRecDepth 100000 in
theorem kX3_broken (l : Launch) (D : va_G) (ad : Nat → Nat) (cy : Nat → ClassId) (sz : Nat) (th : Int32) (n : Nat) (E : Nat → Int64) (R : Nat → Int32) (Z : Nat → Int32) (B : Nat → Int32) (BR : Nat → Int64) (wt : Nat) (rk : Nat → Int32) (U : Nat → Int32) (br : Int32) (lc : Int32) (jo : Int64) (wk : Int64)  : mI l yX3_broken wsX3_broken ({ frames := 0, cells := 0, slots := 0, locals := 0 }) [.ref (ad 0)] D (mT cy) (mW ad cy th n E R Z B BR wt rk U br lc jo wk) sz br (mW ad cy 0 n E R Z B BR wt rk U br lc jo wk) 0 0 := by
  refine zin (fun A => zQi D (mT cy) (mW ad cy 0 n E R Z B BR wt rk U br lc jo wk) br A) (cc := cX3_broken) (maxL := 1) (ret := (some .int)) (own := RX3) (by decide) rfl rfl (Nat.le_of_ble_eq_true rfl) ?_
  intro p e s m below meth c A F hr hlocks hmn hA hK H locs hP hD hS ls hl
  obtain ⟨hx, hb, hml, hown, hts⟩ := id F
  have hl : lv_has ls 1 [(0, .ref (ad 0))] := hl
  have hinX3 : ∀ w ∈ wsX30, w ∈ wsX3_broken := by decide +kernel
  have hf_37 := hts (.fieldLink RX3 37 "RegionSharesModel" "thrown" "I") (by decide +kernel)
  have hf_73 := hts (.fieldLink RX3 73 "RegionSharesModel" "broke" "I") (by decide +kernel)
  refine lv_aload_n hx hb dX3_broken_0 rfl (lv_at hl 0 rfl) ?_
  refine lv_iconst (v := 0) hx hb dX3_broken_1 (by decide) ?_
  refine va_put (D := D) (ci := 3) (v := .int 0) (ty := .int) (C := RX3) (T := TX3) (N := 14) hx hb hts hinX3 tyX3 tyX3_ok nmX3 hown hK hP hD hS 0 rfl rfl 0 (by decide) hf_37 (fun _ h9 => h9) rfl (by decide +kernel) rfl rfl (Nat.le_of_ble_eq_true rfl) dX3_broken_2 (fun H locs hP hD hS => ?_)
  have hP : va_P D vwCl (mW ad cy 0 n E R Z B BR wt rk U br lc jo wk) H := hP
  have hD : va_D A (mW ad cy 0 n E R Z B BR wt rk U br lc jo wk) := hD
  refine lv_aload_n hx hb dX3_broken_5 rfl (lv_at hl 0 rfl) ?_
  refine va_get (D := D) (ci := 3) (v := .int br) (C := RX3) (T := TX3) (N := 14) hx hb hts hinX3 hown hK hP 0 rfl rfl 10 (by decide) hf_73 (fun _ h9 => h9) rfl dX3_broken_6 ?_
  exact zret_i F hr hlocks hK hP hD hS rfl dX3_broken_9

set_option maxHeartbeats 4000000 in
set_option maxRecDepth 100000 in
theorem kX3_live (l : Launch) (D : va_G) (ad : Nat → Nat) (cy : Nat → ClassId) (sz : Nat) (th : Int32) (n : Nat) (E : Nat → Int64) (R : Nat → Int32) (Z : Nat → Int32) (B : Nat → Int32) (BR : Nat → Int64) (wt : Nat) (rk : Nat → Int32) (U : Nat → Int32) (br : Int32) (lc : Int32) (jo : Int64) (wk : Int64)  : mI l yX3_live wsX3_live ({ frames := 0, cells := 0, slots := 0, locals := 0 }) [.ref (ad 0)] D (mT cy) (mW ad cy th n E R Z B BR wt rk U br lc jo wk) sz lc (mW ad cy 0 n E R Z B BR wt rk U br lc jo wk) 0 0 := by
  refine zin (fun A => zQi D (mT cy) (mW ad cy 0 n E R Z B BR wt rk U br lc jo wk) lc A) (cc := cX3_live) (maxL := 1) (ret := (some .int)) (own := RX3) (by decide) rfl rfl (Nat.le_of_ble_eq_true rfl) ?_
  intro p e s m below meth c A F hr hlocks hmn hA hK H locs hP hD hS ls hl
  obtain ⟨hx, hb, hml, hown, hts⟩ := id F
  have hl : lv_has ls 1 [(0, .ref (ad 0))] := hl
  have hinX3 : ∀ w ∈ wsX30, w ∈ wsX3_live := by decide +kernel
  have hf_37 := hts (.fieldLink RX3 37 "RegionSharesModel" "thrown" "I") (by decide +kernel)
  have hf_76 := hts (.fieldLink RX3 76 "RegionSharesModel" "liveCount" "I") (by decide +kernel)
  refine lv_aload_n hx hb dX3_live_0 rfl (lv_at hl 0 rfl) ?_
  refine lv_iconst (v := 0) hx hb dX3_live_1 (by decide) ?_
  refine va_put (D := D) (ci := 3) (v := .int 0) (ty := .int) (C := RX3) (T := TX3) (N := 14) hx hb hts hinX3 tyX3 tyX3_ok nmX3 hown hK hP hD hS 0 rfl rfl 0 (by decide) hf_37 (fun _ h9 => h9) rfl (by decide +kernel) rfl rfl (Nat.le_of_ble_eq_true rfl) dX3_live_2 (fun H locs hP hD hS => ?_)
  have hP : va_P D vwCl (mW ad cy 0 n E R Z B BR wt rk U br lc jo wk) H := hP
  have hD : va_D A (mW ad cy 0 n E R Z B BR wt rk U br lc jo wk) := hD
  refine lv_aload_n hx hb dX3_live_5 rfl (lv_at hl 0 rfl) ?_
  refine va_get (D := D) (ci := 3) (v := .int lc) (C := RX3) (T := TX3) (N := 14) hx hb hts hinX3 hown hK hP 0 rfl rfl 11 (by decide) hf_76 (fun _ h9 => h9) rfl dX3_live_6 ?_
  exact zret_i F hr hlocks hK hP hD hS rfl dX3_live_9

set_option maxHeartbeats 4000000 in
set_option maxRecDepth 100000 in
theorem kX3_joined (l : Launch) (D : va_G) (ad : Nat → Nat) (cy : Nat → ClassId) (sz : Nat) (th : Int32) (n : Nat) (E : Nat → Int64) (R : Nat → Int32) (Z : Nat → Int32) (B : Nat → Int32) (BR : Nat → Int64) (wt : Nat) (rk : Nat → Int32) (U : Nat → Int32) (br : Int32) (lc : Int32) (jo : Int64) (wk : Int64)  (hj : jo.toInt.natAbs < 2 ^ 40) : mD l yX3_joined wsX3_joined ({ frames := 0, cells := 0, slots := 0, locals := 0 }) [.ref (ad 0)] D (mT cy) (mW ad cy th n E R Z B BR wt rk U br lc jo wk) sz (Dz jo.toInt) (mW ad cy 0 n E R Z B BR wt rk U br lc jo wk) 0 0 := by
  refine zin (fun A => zQd D (mT cy) (mW ad cy 0 n E R Z B BR wt rk U br lc jo wk) (Dz jo.toInt) A) (cc := cX3_joined) (maxL := 1) (ret := (some .double)) (own := RX3) (by decide) rfl rfl (Nat.le_of_ble_eq_true rfl) ?_
  intro p e s m below meth c A F hr hlocks hmn hA hK H locs hP hD hS ls hl
  obtain ⟨hx, hb, hml, hown, hts⟩ := id F
  have hl : lv_has ls 1 [(0, .ref (ad 0))] := hl
  have hinX3 : ∀ w ∈ wsX30, w ∈ wsX3_joined := by decide +kernel
  have hf_37 := hts (.fieldLink RX3 37 "RegionSharesModel" "thrown" "I") (by decide +kernel)
  have hf_94 := hts (.fieldLink RX3 94 "RegionSharesModel" "joined" "J") (by decide +kernel)
  refine lv_aload_n hx hb dX3_joined_0 rfl (lv_at hl 0 rfl) ?_
  refine lv_iconst (v := 0) hx hb dX3_joined_1 (by decide) ?_
  refine va_put (D := D) (ci := 3) (v := .int 0) (ty := .int) (C := RX3) (T := TX3) (N := 14) hx hb hts hinX3 tyX3 tyX3_ok nmX3 hown hK hP hD hS 0 rfl rfl 0 (by decide) hf_37 (fun _ h9 => h9) rfl (by decide +kernel) rfl rfl (Nat.le_of_ble_eq_true rfl) dX3_joined_2 (fun H locs hP hD hS => ?_)
  have hP : va_P D vwCl (mW ad cy 0 n E R Z B BR wt rk U br lc jo wk) H := hP
  have hD : va_D A (mW ad cy 0 n E R Z B BR wt rk U br lc jo wk) := hD
  refine lv_aload_n hx hb dX3_joined_5 rfl (lv_at hl 0 rfl) ?_
  refine va_get (D := D) (ci := 3) (v := .long jo) (C := RX3) (T := TX3) (N := 14) hx hb hts hinX3 hown hK hP 0 rfl rfl 12 (by decide) hf_94 (fun _ h9 => h9) rfl dX3_joined_6 ?_
  refine lv_l2d hx hb dX3_joined_9 ?_
  refine lv_ldc2d hx hb hown (hts (.constantDouble RX3 101 (4634204016564240384)) (by decide +kernel)) dX3_joined_10 ?_
  refine z_topd (y := Dz 4096) dz_64 ?_
  refine lv_ddiv hx hb dX3_joined_13 (by rw [dz_d64 hj]; exact dz_n64 (by omega)) ?_
  refine z_topd (y := Dz jo.toInt) (dz_d64 hj) ?_
  exact zret_d F hr hlocks hK hP hD hS rfl dX3_joined_14

set_option maxHeartbeats 4000000 in
set_option maxRecDepth 100000 in
theorem lp_taken {p : Program} {l : Launch} {e : Env} {s : State} {m : MethodId} {args : Array Value} {below : List Frame} {meth : Method} {c : Code} {A : Nat → Prop} {D : va_G} {ad : Nat → Nat} {cy : Nat → ClassId} (F : CallFix p m c cX3_isTaken 5 s args wsX3_isTaken RX3) (hr : meth.sig.returnType = (some .boolean)) (hlocks : meth.locks = false) (hA : ∀ q, s.heap.size ≤ q → A q) (hK : va_K D vwCl (mT cy) s) (th : Int32) (n : Nat) (E : Nat → Int64) (R : Nat → Int32) (Z : Nat → Int32) (B : Nat → Int32) (BR : Nat → Int64) (wt : Nat) (rk : Nat → Int32) (U : Nat → Int32) (br : Int32) (lc : Int32) (jo : Int64) (wk : Int64) (b : Int32) (k9 : Nat) (hk9 : k9 < 40) : ∀ (k : Nat) (i : Nat), i + k = k9 → ∀ (H : Heap) (locs : List Loc), va_P D vwCl (mW ad cy th n E R Z B BR wt rk U br lc jo wk) H → va_D A (mW ad cy th n E R Z B BR wt rk U br lc jo wk) → va_S A s.heap H locs → ∀ ls : Array Slot, lv_has ls 5 [(3, .int (pOr B R b i)), (4, .int (nI i)), (0, .ref (ad 0)), (1, .int b), (2, .int (nI k9))] → W p l e ({ frames := 0, cells := 0, slots := 0, locals := 0 }) s m args below meth c H locs 0 0 (MQ below (zQi D (mT cy) (mW ad cy th n E R Z B BR wt rk U br lc jo wk) (if pOr B R b k9 &&& R k9 = 0 then 0 else 1) A) args s 0 0 A) (F0 m 5 ls []) := by
  obtain ⟨hx, hb, hml, hown, hts⟩ := id F
  have hinX3 : ∀ w ∈ wsX30, w ∈ wsX3_isTaken := by decide +kernel
  have hf_13 := hts (.fieldLink RX3 13 "RegionSharesModel" "regions" "[I") (by decide +kernel)
  have hf_21 := hts (.fieldLink RX3 21 "RegionSharesModel" "batchOf" "[I") (by decide +kernel)
  intro k
  induction k with
  | zero =>
    intro i hk 
    intro H locs hP hD hS ls hl
    refine lv_iload hx hb dX3_isTaken_5 (lv_at hl 1 rfl) ?_
    refine lv_iload_n hx hb dX3_isTaken_7 rfl (lv_at hl 4 rfl) ?_
    refine zb_ge (a := i) (b := k9) (tgt := 42) hx hb dX3_isTaken_8 (by decide) (by omega) (by omega) (fun c8 => ?_) (fun c8 => ?_)
    · obtain rfl : i = k9 := by omega
      refine lv_iload_n hx hb dX3_isTaken_42 rfl (lv_at hl 0 rfl) ?_
      refine lv_aload_n hx hb dX3_isTaken_43 rfl (lv_at hl 2 rfl) ?_
      refine va_get (D := D) (ci := 3) (v := .ref (ad 2)) (C := RX3) (T := TX3) (N := 14) hx hb hts hinX3 hown hK hP 0 rfl rfl 3 (by decide) hf_13 (fun _ h9 => h9) rfl dX3_isTaken_44 ?_
      refine lv_iload_n hx hb dX3_isTaken_47 rfl (lv_at hl 4 rfl) ?_
      refine ax_ild hx hb hK hP 2 1 rfl rfl (by omega) (by omega) dX3_isTaken_48 ?_
      refine lv_iand hx hb dX3_isTaken_49 ?_
      refine lv_if_eq (tgt := 57) hx hb dX3_isTaken_50 (by decide) (fun c50 => ?_) (fun c50 => ?_)
      · refine lv_iconst (v := 0) hx hb dX3_isTaken_57 (by decide) ?_
        exact zret_z F hr hlocks hK hP hD hS (by decide) (by first | exact (if_pos c50).symm | exact (if_neg c50).symm) dX3_isTaken_58
      · refine lv_iconst (v := 1) hx hb dX3_isTaken_53 (by decide) ?_
        refine lv_goto (tgt := 58) hx hb dX3_isTaken_54 (by decide) ?_
        exact zret_z F hr hlocks hK hP hD hS (by decide) (by first | exact (if_pos c50).symm | exact (if_neg c50).symm) dX3_isTaken_58
    · exact absurd c8 (by omega)
  | succ k ih =>
    intro i hk  H locs hP hD hS ls hl
    refine lv_iload hx hb dX3_isTaken_5 (lv_at hl 1 rfl) ?_
    refine lv_iload_n hx hb dX3_isTaken_7 rfl (lv_at hl 4 rfl) ?_
    refine zb_ge (a := i) (b := k9) (tgt := 42) hx hb dX3_isTaken_8 (by decide) (by omega) (by omega) (fun c8 => ?_) (fun c8 => ?_)
    · exact absurd c8 (by omega)
    · refine lv_aload_n hx hb dX3_isTaken_11 rfl (lv_at hl 2 rfl) ?_
      refine va_get (D := D) (ci := 3) (v := .ref (ad 4)) (C := RX3) (T := TX3) (N := 14) hx hb hts hinX3 hown hK hP 0 rfl rfl 5 (by decide) hf_21 (fun _ h9 => h9) rfl dX3_isTaken_12 ?_
      refine lv_iload hx hb dX3_isTaken_15 (lv_at hl 1 rfl) ?_
      refine ax_ild hx hb hK hP 4 3 rfl rfl (by omega) (by omega) dX3_isTaken_17 ?_
      refine lv_iload_n hx hb dX3_isTaken_18 rfl (lv_at hl 3 rfl) ?_
      refine lv_icmp_ne (tgt := 34) hx hb dX3_isTaken_19 (by decide) (fun c19 => ?_) (fun c19 => ?_)
      · refine lv_iload_n hx hb dX3_isTaken_34 rfl (lv_at hl 0 rfl) ?_
        refine lv_istore_n (lv' := [(3, .int (pOr B R b i)), (4, .int (nI i)), (0, .ref (ad 0)), (1, .int b), (2, .int (nI k9))]) hx hb dX3_isTaken_35 rfl hl (by decide) rfl (fun ls hl => ?_)
        refine lv_iinc (v := nI (i + 1)) (lv' := [(4, .int (nI (i + 1))), (3, .int (pOr B R b i)), (0, .ref (ad 0)), (1, .int b), (2, .int (nI k9))]) hx hb dX3_isTaken_36 hl (k := 1) rfl (by exact nI_1 _) (by decide) rfl (fun ls hl => ?_)
        refine lv_goto (tgt := 5) hx hb dX3_isTaken_39 (by decide) ?_
        have ha : pOr B R b (i + 1) = pOr B R b i := by
          first | exact if_neg c19 | exact if_pos c19
        exact ih (i + 1) (by omega) H locs hP hD hS ls (by rw [ha]; exact lv_sub hl [1, 0, 2, 3, 4] rfl)
      · refine lv_iload_n hx hb dX3_isTaken_22 rfl (lv_at hl 0 rfl) ?_
        refine lv_aload_n hx hb dX3_isTaken_23 rfl (lv_at hl 2 rfl) ?_
        refine va_get (D := D) (ci := 3) (v := .ref (ad 2)) (C := RX3) (T := TX3) (N := 14) hx hb hts hinX3 hown hK hP 0 rfl rfl 3 (by decide) hf_13 (fun _ h9 => h9) rfl dX3_isTaken_24 ?_
        refine lv_iload hx hb dX3_isTaken_27 (lv_at hl 1 rfl) ?_
        refine ax_ild hx hb hK hP 2 1 rfl rfl (by omega) (by omega) dX3_isTaken_29 ?_
        refine lv_ior hx hb dX3_isTaken_30 ?_
        refine lv_goto (tgt := 35) hx hb dX3_isTaken_31 (by decide) ?_
        refine lv_istore_n (lv' := [(3, .int ((pOr B R b i) ||| (R i))), (4, .int (nI i)), (0, .ref (ad 0)), (1, .int b), (2, .int (nI k9))]) hx hb dX3_isTaken_35 rfl hl (by decide) rfl (fun ls hl => ?_)
        refine lv_iinc (v := nI (i + 1)) (lv' := [(4, .int (nI (i + 1))), (3, .int ((pOr B R b i) ||| (R i))), (0, .ref (ad 0)), (1, .int b), (2, .int (nI k9))]) hx hb dX3_isTaken_36 hl (k := 1) rfl (by exact nI_1 _) (by decide) rfl (fun ls hl => ?_)
        refine lv_goto (tgt := 5) hx hb dX3_isTaken_39 (by decide) ?_
        have ha : pOr B R b (i + 1) = (pOr B R b i) ||| (R i) := by
          first | exact if_neg c19 | exact if_pos c19
        exact ih (i + 1) (by omega) H locs hP hD hS ls (by rw [ha]; exact lv_sub hl [1, 0, 2, 3, 4] rfl)

set_option maxHeartbeats 4000000 in
set_option maxRecDepth 100000 in
theorem kX3_isTaken (l : Launch) (D : va_G) (ad : Nat → Nat) (cy : Nat → ClassId) (sz : Nat) (th : Int32) (n : Nat) (E : Nat → Int64) (R : Nat → Int32) (Z : Nat → Int32) (B : Nat → Int32) (BR : Nat → Int64) (wt : Nat) (rk : Nat → Int32) (U : Nat → Int32) (br : Int32) (lc : Int32) (jo : Int64) (wk : Int64) (b : Int32) (k9 : Nat) (hk9 : k9 < 40) : mI l yX3_isTaken wsX3_isTaken ({ frames := 0, cells := 0, slots := 0, locals := 0 }) [.ref (ad 0), .int b, .int (nI k9)] D (mT cy) (mW ad cy th n E R Z B BR wt rk U br lc jo wk) sz (if pOr B R b k9 &&& R k9 = 0 then 0 else 1) (mW ad cy th n E R Z B BR wt rk U br lc jo wk) 0 0 := by
  refine zin (fun A => zQi D (mT cy) (mW ad cy th n E R Z B BR wt rk U br lc jo wk) (if pOr B R b k9 &&& R k9 = 0 then 0 else 1) A) (cc := cX3_isTaken) (maxL := 5) (ret := (some .boolean)) (own := RX3) (by decide) rfl rfl (Nat.le_of_ble_eq_true rfl) ?_
  intro p e s m below meth c A F hr hlocks hmn hA hK H locs hP hD hS ls hl
  obtain ⟨hx, hb, hml, hown, hts⟩ := id F
  have hl : lv_has ls 5 [(0, .ref (ad 0)), (1, .int b), (2, .int (nI k9))] := hl
  refine lv_iconst (v := 0) hx hb dX3_isTaken_0 (by decide) ?_
  refine lv_istore_n (lv' := [(3, .int 0), (0, .ref (ad 0)), (1, .int b), (2, .int (nI k9))]) hx hb dX3_isTaken_1 rfl hl (by decide) rfl (fun ls hl => ?_)
  refine lv_iconst (v := nI 0) hx hb dX3_isTaken_2 (by decide) ?_
  refine lv_istore (lv' := [(4, .int (nI 0)), (3, .int 0), (0, .ref (ad 0)), (1, .int b), (2, .int (nI k9))]) hx hb dX3_isTaken_3 hl (by decide) rfl (fun ls hl => ?_)
  exact lp_taken F hr hlocks hA hK th n E R Z B BR wt rk U br lc jo wk b k9 hk9 k9 0 (by omega) H locs hP hD hS ls (lv_sub hl [1, 0, 2, 3, 4] rfl)

set_option maxHeartbeats 4000000 in
set_option maxRecDepth 100000 in
theorem lk_low {p : Program} {l : Launch} {e : Env} {s : State} {m : MethodId} {args : Array Value} {below : List Frame} {meth : Method} {c : Code} {Q : State → Prop} {A : Nat → Prop} {D : va_G} {ad : Nat → Nat} {cy : Nat → ClassId} (F : CallFix p m c cX3_findBatches 4 s args wsX3_findBatches RX3) (hA : ∀ q, s.heap.size ≤ q → A q) (hK : va_K D vwCl (mT cy) s) (th : Int32) (n : Nat) (E : Nat → Int64) (R : Nat → Int32) (Z : Nat → Int32) (B : Nat → Int32) (BR : Nat → Int64) (wt : Nat) (rk : Nat → Int32) (U : Nat → Int32) (br : Int32) (lc : Int32) (jo : Int64) (wk : Int64) (cn i e9 : Nat) (hi40 : i < 40) (hfree : pOr B R (nI e9) i &&& R i = 0) : ∀ (f : Nat) (b : Nat), b + f = e9 → (∀ (H : Heap) (locs : List Loc), va_P D vwCl (mW ad cy th n E R Z B BR wt rk U br lc jo wk) H → va_D A (mW ad cy th n E R Z B BR wt rk U br lc jo wk) → va_S A s.heap H locs → ∀ ls : Array Slot, lv_has ls 4 [(3, .int (nI (mLowF B R i f b))), (1, .int (nI cn)), (2, .int (nI i)), (0, .ref (ad 0))] → W p l e ({ frames := 1, cells := 0, slots := 0, locals := 30 }) s m args below meth c H locs 0 0 Q (F0 m 29 ls [])) → ∀ (H : Heap) (locs : List Loc), va_P D vwCl (mW ad cy th n E R Z B BR wt rk U br lc jo wk) H → va_D A (mW ad cy th n E R Z B BR wt rk U br lc jo wk) → va_S A s.heap H locs → ∀ ls : Array Slot, lv_has ls 4 [(3, .int (nI b)), (1, .int (nI cn)), (2, .int (nI i)), (0, .ref (ad 0))] → W p l e ({ frames := 1, cells := 0, slots := 0, locals := 30 }) s m args below meth c H locs 0 0 Q (F0 m 14 ls []) := by
  obtain ⟨hx, hb, hml, hown, hts⟩ := id F
  intro f
  induction f with
  | zero =>
    intro b hk kT
    intro H locs hP hD hS ls hl
    refine lv_aload_n hx hb dX3_findBatches_14 rfl (lv_at hl 3 rfl) ?_
    refine lv_iload_n hx hb dX3_findBatches_15 rfl (lv_at hl 0 rfl) ?_
    refine lv_iload_n hx hb dX3_findBatches_16 rfl (lv_at hl 2 rfl) ?_
    obtain rfl : b = e9 := by omega
    refine zcV_i (As := [.int (nI b), .int (nI i)]) (rest := []) F (kX3_isTaken l D ad cy _ th n E R Z B BR wt rk U br lc jo wk (nI b) i hi40) (cwV 2 hts gX3_findBatches_X3_isTaken rfl rfl rfl (by decide +kernel) ⟨Nat.le_of_ble_eq_true rfl, Nat.le_of_ble_eq_true rfl⟩) (va_recv hK hP (ci := 3) (q0 := 0) rfl rfl) hK hP hD hS hA rfl hl.1 rfl (Nat.le_of_ble_eq_true rfl) dX3_findBatches_17 ⟨Nat.le_of_ble_eq_true rfl, Nat.le_of_ble_eq_true rfl⟩ (fun H locs hP hD hS => ?_)
    refine z_topi (y := 0) (if_pos hfree) ?_
    refine lv_if_eq (tgt := 29) hx hb dX3_findBatches_20 (by decide) (fun c20 => ?_) (fun c20 => ?_)
    · exact kT H locs hP hD hS ls hl
    · exact absurd rfl c20
  | succ f ih =>
    intro b hk kT H locs hP hD hS ls hl
    refine lv_aload_n hx hb dX3_findBatches_14 rfl (lv_at hl 3 rfl) ?_
    refine lv_iload_n hx hb dX3_findBatches_15 rfl (lv_at hl 0 rfl) ?_
    refine lv_iload_n hx hb dX3_findBatches_16 rfl (lv_at hl 2 rfl) ?_
    by_cases h2 : pOr B R (nI b) i &&& R i = 0
    · refine zcV_i (As := [.int (nI b), .int (nI i)]) (rest := []) F (kX3_isTaken l D ad cy _ th n E R Z B BR wt rk U br lc jo wk (nI b) i hi40) (cwV 2 hts gX3_findBatches_X3_isTaken rfl rfl rfl (by decide +kernel) ⟨Nat.le_of_ble_eq_true rfl, Nat.le_of_ble_eq_true rfl⟩) (va_recv hK hP (ci := 3) (q0 := 0) rfl rfl) hK hP hD hS hA rfl hl.1 rfl (Nat.le_of_ble_eq_true rfl) dX3_findBatches_17 ⟨Nat.le_of_ble_eq_true rfl, Nat.le_of_ble_eq_true rfl⟩ (fun H locs hP hD hS => ?_)
      refine z_topi (y := 0) (if_pos h2) ?_
      refine lv_if_eq (tgt := 29) hx hb dX3_findBatches_20 (by decide) (fun c20 => ?_) (fun c20 => ?_)
      · rw [show mLowF B R i (f + 1) b = b from if_pos h2] at kT
        exact kT H locs hP hD hS ls hl
      · exact absurd rfl c20
    · refine zcV_i (As := [.int (nI b), .int (nI i)]) (rest := []) F (kX3_isTaken l D ad cy _ th n E R Z B BR wt rk U br lc jo wk (nI b) i hi40) (cwV 2 hts gX3_findBatches_X3_isTaken rfl rfl rfl (by decide +kernel) ⟨Nat.le_of_ble_eq_true rfl, Nat.le_of_ble_eq_true rfl⟩) (va_recv hK hP (ci := 3) (q0 := 0) rfl rfl) hK hP hD hS hA rfl hl.1 rfl (Nat.le_of_ble_eq_true rfl) dX3_findBatches_17 ⟨Nat.le_of_ble_eq_true rfl, Nat.le_of_ble_eq_true rfl⟩ (fun H locs hP hD hS => ?_)
      refine z_topi (y := 1) (if_neg h2) ?_
      refine lv_if_eq (tgt := 29) hx hb dX3_findBatches_20 (by decide) (fun c20 => ?_) (fun c20 => ?_)
      · exact absurd c20 (by decide)
      · rw [show mLowF B R i (f + 1) b = mLowF B R i f (b + 1) from if_neg h2] at kT
        refine lv_iinc (v := nI (b + 1)) (lv' := [(3, .int (nI (b + 1))), (1, .int (nI cn)), (2, .int (nI i)), (0, .ref (ad 0))]) hx hb dX3_findBatches_23 hl (k := 0) rfl (by exact nI_1 _) (by decide) rfl (fun ls hl => ?_)
        refine lv_goto (tgt := 14) hx hb dX3_findBatches_26 (by decide) ?_
        exact ih (b + 1) (by omega) kT H locs hP hD hS ls (lv_sub hl [0, 1, 2, 3] rfl)

set_option maxHeartbeats 4000000 in
set_option maxRecDepth 100000 in
theorem lp_find {p : Program} {l : Launch} {e : Env} {s : State} {m : MethodId} {args : Array Value} {below : List Frame} {meth : Method} {c : Code} {A : Nat → Prop} {D : va_G} {ad : Nat → Nat} {cy : Nat → ClassId} (F : CallFix p m c cX3_findBatches 4 s args wsX3_findBatches RX3) (hr : meth.sig.returnType = (some .int)) (hlocks : meth.locks = false) (hA : ∀ q, s.heap.size ≤ q → A q) (hK : va_K D vwCl (mT cy) s) (th : Int32) (n : Nat) (E : Nat → Int64) (R : Nat → Int32) (Z : Nat → Int32) (B : Nat → Int32) (BR : Nat → Int64) (wt : Nat) (rk : Nat → Int32) (U : Nat → Int32) (br : Int32) (lc : Int32) (jo : Int64) (wk : Int64)  (hn : n ≤ 40) : ∀ (k : Nat) (i : Nat), i + k = n → ∀ (H : Heap) (locs : List Loc), va_P D vwCl (mW ad cy th n E R Z ((mFb R B i).1) BR wt rk U br lc jo wk) H → va_D A (mW ad cy th n E R Z ((mFb R B i).1) BR wt rk U br lc jo wk) → va_S A s.heap H locs → ∀ ls : Array Slot, lv_has ls 4 [(1, .int (nI (mFb R B i).2)), (2, .int (nI i)), (0, .ref (ad 0))] → W p l e ({ frames := 1, cells := 0, slots := 0, locals := 30 }) s m args below meth c H locs 0 0 (MQ below (zQi D (mT cy) (mW ad cy th n E R Z ((mFb R B n).1) BR wt rk U br lc jo wk) (nI (mFb R B n).2) A) args s 0 0 A) (F0 m 4 ls []) := by
  obtain ⟨hx, hb, hml, hown, hts⟩ := id F
  have hinX3 : ∀ w ∈ wsX30, w ∈ wsX3_findBatches := by decide +kernel
  have hf_21 := hts (.fieldLink RX3 21 "RegionSharesModel" "batchOf" "[I") (by decide +kernel)
  have hf_33 := hts (.fieldLink RX3 33 "RegionSharesModel" "shares" "I") (by decide +kernel)
  intro k
  induction k with
  | zero =>
    intro i hk 
    intro H locs hP hD hS ls hl
    refine lv_iload_n hx hb dX3_findBatches_4 rfl (lv_at hl 1 rfl) ?_
    refine lv_aload_n hx hb dX3_findBatches_5 rfl (lv_at hl 2 rfl) ?_
    refine va_get (D := D) (ci := 3) (v := .int (nI n)) (C := RX3) (T := TX3) (N := 14) hx hb hts hinX3 hown hK hP 0 rfl rfl 1 (by decide) hf_33 (fun _ h9 => h9) rfl dX3_findBatches_6 ?_
    refine zb_ge (a := i) (b := n) (tgt := 57) hx hb dX3_findBatches_9 (by decide) (by omega) (by omega) (fun c9 => ?_) (fun c9 => ?_)
    · refine lv_iload_n hx hb dX3_findBatches_57 rfl (lv_at hl 0 rfl) ?_
      obtain rfl : i = n := by omega
      exact zret_i F hr hlocks hK hP hD hS rfl dX3_findBatches_58
    · exact absurd c9 (by omega)
  | succ k ih =>
    intro i hk  H locs hP hD hS ls hl
    have hb9 := mFb_le R B i
    generalize hx9 : mFb R B i = x at hP hD hl hb9
    refine lv_iload_n hx hb dX3_findBatches_4 rfl (lv_at hl 1 rfl) ?_
    refine lv_aload_n hx hb dX3_findBatches_5 rfl (lv_at hl 2 rfl) ?_
    refine va_get (D := D) (ci := 3) (v := .int (nI n)) (C := RX3) (T := TX3) (N := 14) hx hb hts hinX3 hown hK hP 0 rfl rfl 1 (by decide) hf_33 (fun _ h9 => h9) rfl dX3_findBatches_6 ?_
    refine zb_ge (a := i) (b := n) (tgt := 57) hx hb dX3_findBatches_9 (by decide) (by omega) (by omega) (fun c9 => ?_) (fun c9 => ?_)
    · exact absurd c9 (by omega)
    · refine lv_iconst (v := nI 0) hx hb dX3_findBatches_12 (by decide) ?_
      refine lv_istore_n (lv' := [(3, .int (nI 0)), (1, .int (nI x.2)), (2, .int (nI i)), (0, .ref (ad 0))]) hx hb dX3_findBatches_13 rfl hl (by decide) rfl (fun ls hl => ?_)
      refine lk_low F hA hK th n E R Z x.1 BR wt rk U br lc jo wk x.2 i i (by omega) (by rw [← hx9, mFb_free R B (by omega)]; exact Int32.zero_and) i 0 (by omega) (fun H locs hP hD hS ls hl => ?_) H locs hP hD hS ls (lv_sub hl [0, 1, 2, 3] rfl)
      have hlo := mLowF_le x.1 R i i 0
      generalize hb8 : mLowF x.1 R i i 0 = b9 at hlo hl
      · refine lv_aload_n hx hb dX3_findBatches_29 rfl (lv_at hl 3 rfl) ?_
        refine va_get (D := D) (ci := 3) (v := .ref (ad 4)) (C := RX3) (T := TX3) (N := 14) hx hb hts hinX3 hown hK hP 0 rfl rfl 5 (by decide) hf_21 (fun _ h9 => h9) rfl dX3_findBatches_30 ?_
        refine lv_iload_n hx hb dX3_findBatches_33 rfl (lv_at hl 2 rfl) ?_
        refine lv_iload_n hx hb dX3_findBatches_34 rfl (lv_at hl 0 rfl) ?_
        refine ax_ist hx hb hK hP hD hS 4 3 rfl rfl (by omega) (by omega) dX3_findBatches_35 (fun H locs hP hD hS => ?_)
        have hP : va_P D vwCl (mW ad cy th n E R Z (upd x.1 i (nI b9)) BR wt rk U br lc jo wk) H := hP
        have hD : va_D A (mW ad cy th n E R Z (upd x.1 i (nI b9)) BR wt rk U br lc jo wk) := hD
        refine lv_iload_n hx hb dX3_findBatches_36 rfl (lv_at hl 0 rfl) ?_
        refine lv_iconst (v := nI 1) hx hb dX3_findBatches_37 (by decide) ?_
        refine lv_iadd hx hb dX3_findBatches_38 ?_
        refine z_topi (y := nI (b9 + 1)) (nI_add _ 1) ?_
        refine lv_iload_n hx hb dX3_findBatches_39 rfl (lv_at hl 1 rfl) ?_
        refine zb_le (a := (b9 + 1)) (b := x.2) (tgt := 49) hx hb dX3_findBatches_40 (by decide) (by omega) (by omega) (fun c40 => ?_) (fun c40 => ?_)
        · refine lv_iload_n hx hb dX3_findBatches_49 rfl (lv_at hl 1 rfl) ?_
          refine lv_istore_n (lv' := [(1, .int (nI x.2)), (3, .int (nI b9)), (2, .int (nI i)), (0, .ref (ad 0))]) hx hb dX3_findBatches_50 rfl hl (by decide) rfl (fun ls hl => ?_)
          refine lv_iinc (v := nI (i + 1)) (lv' := [(2, .int (nI (i + 1))), (1, .int (nI x.2)), (3, .int (nI b9)), (0, .ref (ad 0))]) hx hb dX3_findBatches_51 hl (k := 2) rfl (by exact nI_1 _) (by decide) rfl (fun ls hl => ?_)
          refine lv_goto (tgt := 4) hx hb dX3_findBatches_54 (by decide) ?_
          have hst : mFb R B (i + 1) = (upd x.1 i (nI b9), x.2) := by
            show mFbS R i (mFb R B i) = _
            rw [hx9]
            unfold mFbS
            rw [hb8]
            first | rw [if_pos c40] | rw [if_neg (Nat.not_le.mpr c40)]
          exact ih (i + 1) (by omega) H locs (by rw [hst]; exact hP) (by rw [hst]; exact hD) hS ls (by rw [hst]; exact lv_sub hl [1, 0, 3] rfl)
        · refine lv_iload_n hx hb dX3_findBatches_43 rfl (lv_at hl 0 rfl) ?_
          refine lv_iconst (v := nI 1) hx hb dX3_findBatches_44 (by decide) ?_
          refine lv_iadd hx hb dX3_findBatches_45 ?_
          refine z_topi (y := nI (b9 + 1)) (nI_add _ 1) ?_
          refine lv_goto (tgt := 50) hx hb dX3_findBatches_46 (by decide) ?_
          refine lv_istore_n (lv' := [(1, .int (nI (b9 + 1))), (3, .int (nI b9)), (2, .int (nI i)), (0, .ref (ad 0))]) hx hb dX3_findBatches_50 rfl hl (by decide) rfl (fun ls hl => ?_)
          refine lv_iinc (v := nI (i + 1)) (lv' := [(2, .int (nI (i + 1))), (1, .int (nI (b9 + 1))), (3, .int (nI b9)), (0, .ref (ad 0))]) hx hb dX3_findBatches_51 hl (k := 2) rfl (by exact nI_1 _) (by decide) rfl (fun ls hl => ?_)
          refine lv_goto (tgt := 4) hx hb dX3_findBatches_54 (by decide) ?_
          have hst : mFb R B (i + 1) = (upd x.1 i (nI b9), (b9 + 1)) := by
            show mFbS R i (mFb R B i) = _
            rw [hx9]
            unfold mFbS
            rw [hb8]
            first | rw [if_pos c40] | rw [if_neg (Nat.not_le.mpr c40)]
          exact ih (i + 1) (by omega) H locs (by rw [hst]; exact hP) (by rw [hst]; exact hD) hS ls (by rw [hst]; exact lv_sub hl [1, 0, 3] rfl)

set_option maxHeartbeats 4000000 in
set_option maxRecDepth 100000 in
theorem kX3_findBatches (l : Launch) (D : va_G) (ad : Nat → Nat) (cy : Nat → ClassId) (sz : Nat) (th : Int32) (n : Nat) (E : Nat → Int64) (R : Nat → Int32) (Z : Nat → Int32) (B : Nat → Int32) (BR : Nat → Int64) (wt : Nat) (rk : Nat → Int32) (U : Nat → Int32) (br : Int32) (lc : Int32) (jo : Int64) (wk : Int64)  (hn : n ≤ 40) : mI l yX3_findBatches wsX3_findBatches ({ frames := 1, cells := 0, slots := 0, locals := 30 }) [.ref (ad 0)] D (mT cy) (mW ad cy th n E R Z B BR wt rk U br lc jo wk) sz (nI (mFb R B n).2) (mW ad cy th n E R Z ((mFb R B n).1) BR wt rk U br lc jo wk) 0 0 := by
  refine zin (fun A => zQi D (mT cy) (mW ad cy th n E R Z ((mFb R B n).1) BR wt rk U br lc jo wk) (nI (mFb R B n).2) A) (cc := cX3_findBatches) (maxL := 4) (ret := (some .int)) (own := RX3) (by decide) rfl rfl (Nat.le_of_ble_eq_true rfl) ?_
  intro p e s m below meth c A F hr hlocks hmn hA hK H locs hP hD hS ls hl
  obtain ⟨hx, hb, hml, hown, hts⟩ := id F
  have hl : lv_has ls 4 [(0, .ref (ad 0))] := hl
  refine lv_iconst (v := nI 0) hx hb dX3_findBatches_0 (by decide) ?_
  refine lv_istore_n (lv' := [(1, .int (nI 0)), (0, .ref (ad 0))]) hx hb dX3_findBatches_1 rfl hl (by decide) rfl (fun ls hl => ?_)
  refine lv_iconst (v := nI 0) hx hb dX3_findBatches_2 (by decide) ?_
  refine lv_istore_n (lv' := [(2, .int (nI 0)), (1, .int (nI 0)), (0, .ref (ad 0))]) hx hb dX3_findBatches_3 rfl hl (by decide) rfl (fun ls hl => ?_)
  exact lp_find F hr hlocks hA hK th n E R Z B BR wt rk U br lc jo wk hn n 0 (by omega) H locs hP hD hS ls (lv_sub hl [1, 0, 2] rfl)

set_option maxHeartbeats 4000000 in
set_option maxRecDepth 100000 in
theorem kX3_batches (l : Launch) (D : va_G) (ad : Nat → Nat) (cy : Nat → ClassId) (sz : Nat) (th : Int32) (n : Nat) (E : Nat → Int64) (R : Nat → Int32) (Z : Nat → Int32) (B : Nat → Int32) (BR : Nat → Int64) (wt : Nat) (rk : Nat → Int32) (U : Nat → Int32) (br : Int32) (lc : Int32) (jo : Int64) (wk : Int64)  (hn : n ≤ 40) : mI l yX3_batches wsX3_batches ({ frames := 2, cells := 0, slots := 0, locals := 60 }) [.ref (ad 0)] D (mT cy) (mW ad cy th n E R Z B BR wt rk U br lc jo wk) sz (nI (mFb R B n).2) (mW ad cy 0 n E R Z ((mFb R B n).1) BR wt rk U br lc jo wk) 0 0 := by
  refine zin (fun A => zQi D (mT cy) (mW ad cy 0 n E R Z ((mFb R B n).1) BR wt rk U br lc jo wk) (nI (mFb R B n).2) A) (cc := cX3_batches) (maxL := 1) (ret := (some .int)) (own := RX3) (by decide) rfl rfl (Nat.le_of_ble_eq_true rfl) ?_
  intro p e s m below meth c A F hr hlocks hmn hA hK H locs hP hD hS ls hl
  obtain ⟨hx, hb, hml, hown, hts⟩ := id F
  have hl : lv_has ls 1 [(0, .ref (ad 0))] := hl
  have hinX3 : ∀ w ∈ wsX30, w ∈ wsX3_batches := by decide +kernel
  have hf_37 := hts (.fieldLink RX3 37 "RegionSharesModel" "thrown" "I") (by decide +kernel)
  refine lv_aload_n hx hb dX3_batches_0 rfl (lv_at hl 0 rfl) ?_
  refine lv_iconst (v := 0) hx hb dX3_batches_1 (by decide) ?_
  refine va_put (D := D) (ci := 3) (v := .int 0) (ty := .int) (C := RX3) (T := TX3) (N := 14) hx hb hts hinX3 tyX3 tyX3_ok nmX3 hown hK hP hD hS 0 rfl rfl 0 (by decide) hf_37 (fun _ h9 => h9) rfl (by decide +kernel) rfl rfl (Nat.le_of_ble_eq_true rfl) dX3_batches_2 (fun H locs hP hD hS => ?_)
  have hP : va_P D vwCl (mW ad cy 0 n E R Z B BR wt rk U br lc jo wk) H := hP
  have hD : va_D A (mW ad cy 0 n E R Z B BR wt rk U br lc jo wk) := hD
  refine lv_aload_n hx hb dX3_batches_5 rfl (lv_at hl 0 rfl) ?_
  refine zcV_i (As := []) (rest := []) F (kX3_findBatches l D ad cy _ 0 n E R Z B BR wt rk U br lc jo wk hn) (cwV 0 hts gX3_batches_X3_findBatches rfl rfl rfl (by decide +kernel) ⟨Nat.le_of_ble_eq_true rfl, Nat.le_of_ble_eq_true rfl⟩) (va_recv hK hP (ci := 3) (q0 := 0) rfl rfl) hK hP hD hS hA rfl hl.1 rfl (Nat.le_of_ble_eq_true rfl) dX3_batches_6 ⟨Nat.le_of_ble_eq_true rfl, Nat.le_of_ble_eq_true rfl⟩ (fun H locs hP hD hS => ?_)
  exact zret_i F hr hlocks hK hP hD hS rfl dX3_batches_9

set_option maxHeartbeats 4000000 in
set_option maxRecDepth 100000 in
theorem kX3_batch1 (l : Launch) (D : va_G) (ad : Nat → Nat) (cy : Nat → ClassId) (sz : Nat) (th : Int32) (n : Nat) (E : Nat → Int64) (R : Nat → Int32) (Z : Nat → Int32) (B : Nat → Int32) (BR : Nat → Int64) (wt : Nat) (rk : Nat → Int32) (U : Nat → Int32) (br : Int32) (lc : Int32) (jo : Int64) (wk : Int64) (k : Nat) (hk : k < n) (hn : n ≤ 40) : mI l yX3_batch wsX3_batch ({ frames := 2, cells := 0, slots := 0, locals := 60 }) [.ref (ad 0), .int (nI k)] D (mT cy) (mW ad cy th n E R Z B BR wt rk U br lc jo wk) sz ((mFb R B n).1 k) (mW ad cy 0 n E R Z ((mFb R B n).1) BR wt rk U br lc jo wk) 0 0 := by
  refine zin (fun A => zQi D (mT cy) (mW ad cy 0 n E R Z ((mFb R B n).1) BR wt rk U br lc jo wk) ((mFb R B n).1 k) A) (cc := cX3_batch) (maxL := 2) (ret := (some .int)) (own := RX3) (by decide) rfl rfl (Nat.le_of_ble_eq_true rfl) ?_
  intro p e s m below meth c A F hr hlocks hmn hA hK H locs hP hD hS ls hl
  obtain ⟨hx, hb, hml, hown, hts⟩ := id F
  have hl : lv_has ls 2 [(0, .ref (ad 0)), (1, .int (nI k))] := hl
  have hinX3 : ∀ w ∈ wsX30, w ∈ wsX3_batch := by decide +kernel
  have hf_21 := hts (.fieldLink RX3 21 "RegionSharesModel" "batchOf" "[I") (by decide +kernel)
  have hf_37 := hts (.fieldLink RX3 37 "RegionSharesModel" "thrown" "I") (by decide +kernel)
  refine lv_aload_n hx hb dX3_batch_0 rfl (lv_at hl 0 rfl) ?_
  refine lv_aload_n hx hb dX3_batch_1 rfl (lv_at hl 0 rfl) ?_
  refine lv_iload_n hx hb dX3_batch_2 rfl (lv_at hl 1 rfl) ?_
  refine zcV_i (As := [.int (nI k)]) (rest := [.ref (ad 0)]) F (kX3_isShare1 l D ad cy _ th n E R Z B BR wt rk U br lc jo wk k hk hn) (cwV 1 hts gX3_batch_X3_isShare rfl rfl rfl (by decide +kernel) ⟨Nat.le_of_ble_eq_true rfl, Nat.le_of_ble_eq_true rfl⟩) (va_recv hK hP (ci := 3) (q0 := 0) rfl rfl) hK hP hD hS hA rfl hl.1 rfl (Nat.le_of_ble_eq_true rfl) dX3_batch_3 ⟨Nat.le_of_ble_eq_true rfl, Nat.le_of_ble_eq_true rfl⟩ (fun H locs hP hD hS => ?_)
  refine lv_if_eq (tgt := 13) hx hb dX3_batch_6 (by decide) (fun c6 => ?_) (fun c6 => ?_)
  · exact absurd c6 (by decide)
  · refine lv_iconst (v := 0) hx hb dX3_batch_9 (by decide) ?_
    refine lv_goto (tgt := 14) hx hb dX3_batch_10 (by decide) ?_
    refine va_put (D := D) (ci := 3) (v := .int 0) (ty := .int) (C := RX3) (T := TX3) (N := 14) hx hb hts hinX3 tyX3 tyX3_ok nmX3 hown hK hP hD hS 0 rfl rfl 0 (by decide) hf_37 (fun _ h9 => h9) rfl (by decide +kernel) rfl rfl (Nat.le_of_ble_eq_true rfl) dX3_batch_14 (fun H locs hP hD hS => ?_)
    have hP : va_P D vwCl (mW ad cy 0 n E R Z B BR wt rk U br lc jo wk) H := hP
    have hD : va_D A (mW ad cy 0 n E R Z B BR wt rk U br lc jo wk) := hD
    refine lv_aload_n hx hb dX3_batch_17 rfl (lv_at hl 0 rfl) ?_
    refine va_get (D := D) (ci := 3) (v := .int 0) (C := RX3) (T := TX3) (N := 14) hx hb hts hinX3 hown hK hP 0 rfl rfl 0 (by decide) hf_37 (fun _ h9 => h9) rfl dX3_batch_18 ?_
    refine lv_if_eq (tgt := 26) hx hb dX3_batch_21 (by decide) (fun c21 => ?_) (fun c21 => ?_)
    · refine lv_aload_n hx hb dX3_batch_26 rfl (lv_at hl 0 rfl) ?_
      refine zcV_i (As := []) (rest := []) F (kX3_findBatches l D ad cy _ 0 n E R Z B BR wt rk U br lc jo wk hn) (cwV 0 hts gX3_batch_X3_findBatches rfl rfl rfl (by decide +kernel) ⟨Nat.le_of_ble_eq_true rfl, Nat.le_of_ble_eq_true rfl⟩) (va_recv hK hP (ci := 3) (q0 := 0) rfl rfl) hK hP hD hS hA rfl hl.1 rfl (Nat.le_of_ble_eq_true rfl) dX3_batch_27 ⟨Nat.le_of_ble_eq_true rfl, Nat.le_of_ble_eq_true rfl⟩ (fun H locs hP hD hS => ?_)
      refine lv_pop hx hb dX3_batch_30 rfl ?_
      refine lv_aload_n hx hb dX3_batch_31 rfl (lv_at hl 0 rfl) ?_
      refine va_get (D := D) (ci := 3) (v := .ref (ad 4)) (C := RX3) (T := TX3) (N := 14) hx hb hts hinX3 hown hK hP 0 rfl rfl 5 (by decide) hf_21 (fun _ h9 => h9) rfl dX3_batch_32 ?_
      refine lv_iload_n hx hb dX3_batch_35 rfl (lv_at hl 1 rfl) ?_
      refine ax_ild hx hb hK hP 4 3 rfl rfl (by omega) (by omega) dX3_batch_36 ?_
      exact zret_i F hr hlocks hK hP hD hS rfl dX3_batch_37
    · exact absurd rfl c21

set_option maxHeartbeats 4000000 in
set_option maxRecDepth 100000 in
theorem kX3_batchX (l : Launch) (D : va_G) (ad : Nat → Nat) (cy : Nat → ClassId) (sz : Nat) (th : Int32) (n : Nat) (E : Nat → Int64) (R : Nat → Int32) (Z : Nat → Int32) (B : Nat → Int32) (BR : Nat → Int64) (wt : Nat) (rk : Nat → Int32) (U : Nat → Int32) (br : Int32) (lc : Int32) (jo : Int64) (wk : Int64) (x : Int32) (hxo : x < 0 ∨ nI n ≤ x) : mI l yX3_batch wsX3_batch ({ frames := 2, cells := 0, slots := 0, locals := 60 }) [.ref (ad 0), .int x] D (mT cy) (mW ad cy th n E R Z B BR wt rk U br lc jo wk) sz 0 (mW ad cy 1 n E R Z B BR wt rk U br lc jo wk) 0 0 := by
  refine zin (fun A => zQi D (mT cy) (mW ad cy 1 n E R Z B BR wt rk U br lc jo wk) 0 A) (cc := cX3_batch) (maxL := 2) (ret := (some .int)) (own := RX3) (by decide) rfl rfl (Nat.le_of_ble_eq_true rfl) ?_
  intro p e s m below meth c A F hr hlocks hmn hA hK H locs hP hD hS ls hl
  obtain ⟨hx, hb, hml, hown, hts⟩ := id F
  have hl : lv_has ls 2 [(0, .ref (ad 0)), (1, .int x)] := hl
  have hinX3 : ∀ w ∈ wsX30, w ∈ wsX3_batch := by decide +kernel
  have hf_37 := hts (.fieldLink RX3 37 "RegionSharesModel" "thrown" "I") (by decide +kernel)
  refine lv_aload_n hx hb dX3_batch_0 rfl (lv_at hl 0 rfl) ?_
  refine lv_aload_n hx hb dX3_batch_1 rfl (lv_at hl 0 rfl) ?_
  refine lv_iload_n hx hb dX3_batch_2 rfl (lv_at hl 1 rfl) ?_
  refine zcV_i (As := [.int x]) (rest := [.ref (ad 0)]) F (kX3_isShare0 l D ad cy _ th n E R Z B BR wt rk U br lc jo wk x hxo) (cwV 1 hts gX3_batch_X3_isShare rfl rfl rfl (by decide +kernel) ⟨Nat.le_of_ble_eq_true rfl, Nat.le_of_ble_eq_true rfl⟩) (va_recv hK hP (ci := 3) (q0 := 0) rfl rfl) hK hP hD hS hA rfl hl.1 rfl (Nat.le_of_ble_eq_true rfl) dX3_batch_3 ⟨Nat.le_of_ble_eq_true rfl, Nat.le_of_ble_eq_true rfl⟩ (fun H locs hP hD hS => ?_)
  refine lv_if_eq (tgt := 13) hx hb dX3_batch_6 (by decide) (fun c6 => ?_) (fun c6 => ?_)
  · refine lv_iconst (v := 1) hx hb dX3_batch_13 (by decide) ?_
    refine va_put (D := D) (ci := 3) (v := .int 1) (ty := .int) (C := RX3) (T := TX3) (N := 14) hx hb hts hinX3 tyX3 tyX3_ok nmX3 hown hK hP hD hS 0 rfl rfl 0 (by decide) hf_37 (fun _ h9 => h9) rfl (by decide +kernel) rfl rfl (Nat.le_of_ble_eq_true rfl) dX3_batch_14 (fun H locs hP hD hS => ?_)
    have hP : va_P D vwCl (mW ad cy 1 n E R Z B BR wt rk U br lc jo wk) H := hP
    have hD : va_D A (mW ad cy 1 n E R Z B BR wt rk U br lc jo wk) := hD
    refine lv_aload_n hx hb dX3_batch_17 rfl (lv_at hl 0 rfl) ?_
    refine va_get (D := D) (ci := 3) (v := .int 1) (C := RX3) (T := TX3) (N := 14) hx hb hts hinX3 hown hK hP 0 rfl rfl 0 (by decide) hf_37 (fun _ h9 => h9) rfl dX3_batch_18 ?_
    refine lv_if_eq (tgt := 26) hx hb dX3_batch_21 (by decide) (fun c21 => ?_) (fun c21 => ?_)
    · exact absurd c21 (by decide)
    · refine lv_iconst (v := 0) hx hb dX3_batch_24 (by decide) ?_
      exact zret_i F hr hlocks hK hP hD hS rfl dX3_batch_25
  · exact absurd rfl c6

theorem pSt_01 (B Z : Nat → Int32) (b : Int32) : ∀ i, pSt B Z b i = 0 ∨ pSt B Z b i = 1 := by
  intro i
  induction i with
  | zero => exact Or.inl rfl
  | succ i ih =>
    rw [pSt]
    split
    · split
      · split
        · exact Or.inl rfl
        · exact Or.inr rfl
      · exact Or.inl rfl
    · exact Or.inr rfl

set_option maxHeartbeats 4000000 in
set_option maxRecDepth 100000 in
theorem lp_stopped {p : Program} {l : Launch} {e : Env} {s : State} {m : MethodId} {args : Array Value} {below : List Frame} {meth : Method} {c : Code} {A : Nat → Prop} {D : va_G} {ad : Nat → Nat} {cy : Nat → ClassId} (F : CallFix p m c cX3_isStopped 4 s args wsX3_isStopped RX3) (hr : meth.sig.returnType = (some .boolean)) (hlocks : meth.locks = false) (hA : ∀ q, s.heap.size ≤ q → A q) (hK : va_K D vwCl (mT cy) s) (th : Int32) (n : Nat) (E : Nat → Int64) (R : Nat → Int32) (Z : Nat → Int32) (B : Nat → Int32) (BR : Nat → Int64) (wt : Nat) (rk : Nat → Int32) (U : Nat → Int32) (br : Int32) (lc : Int32) (jo : Int64) (wk : Int64) (b : Int32) (hn : n ≤ 40) : ∀ (k : Nat) (i : Nat), i + k = n → ∀ (H : Heap) (locs : List Loc), va_P D vwCl (mW ad cy th n E R Z B BR wt rk U br lc jo wk) H → va_D A (mW ad cy th n E R Z B BR wt rk U br lc jo wk) → va_S A s.heap H locs → ∀ ls : Array Slot, lv_has ls 4 [(2, .int (pSt B Z b i)), (3, .int (nI i)), (0, .ref (ad 0)), (1, .int b)] → W p l e ({ frames := 0, cells := 0, slots := 0, locals := 0 }) s m args below meth c H locs 0 0 (MQ below (zQi D (mT cy) (mW ad cy th n E R Z B BR wt rk U br lc jo wk) (pSt B Z b n) A) args s 0 0 A) (F0 m 4 ls []) := by
  obtain ⟨hx, hb, hml, hown, hts⟩ := id F
  have hinX3 : ∀ w ∈ wsX30, w ∈ wsX3_isStopped := by decide +kernel
  have hf_17 := hts (.fieldLink RX3 17 "RegionSharesModel" "stopped" "[Z") (by decide +kernel)
  have hf_21 := hts (.fieldLink RX3 21 "RegionSharesModel" "batchOf" "[I") (by decide +kernel)
  have hf_33 := hts (.fieldLink RX3 33 "RegionSharesModel" "shares" "I") (by decide +kernel)
  intro k
  induction k with
  | zero =>
    intro i hk 
    intro H locs hP hD hS ls hl
    refine lv_iload_n hx hb dX3_isStopped_4 rfl (lv_at hl 1 rfl) ?_
    refine lv_aload_n hx hb dX3_isStopped_5 rfl (lv_at hl 2 rfl) ?_
    refine va_get (D := D) (ci := 3) (v := .int (nI n)) (C := RX3) (T := TX3) (N := 14) hx hb hts hinX3 hown hK hP 0 rfl rfl 1 (by decide) hf_33 (fun _ h9 => h9) rfl dX3_isStopped_6 ?_
    refine zb_ge (a := i) (b := n) (tgt := 47) hx hb dX3_isStopped_9 (by decide) (by omega) (by omega) (fun c9 => ?_) (fun c9 => ?_)
    · refine lv_iload_n hx hb dX3_isStopped_47 rfl (lv_at hl 0 rfl) ?_
      obtain rfl : i = n := by omega
      exact zret_z F hr hlocks hK hP hD hS (by rcases pSt_01 B Z b i with q | q <;> rw [q] <;> decide) rfl dX3_isStopped_48
    · exact absurd c9 (by omega)
  | succ k ih =>
    intro i hk  H locs hP hD hS ls hl
    refine lv_iload_n hx hb dX3_isStopped_4 rfl (lv_at hl 1 rfl) ?_
    refine lv_aload_n hx hb dX3_isStopped_5 rfl (lv_at hl 2 rfl) ?_
    refine va_get (D := D) (ci := 3) (v := .int (nI n)) (C := RX3) (T := TX3) (N := 14) hx hb hts hinX3 hown hK hP 0 rfl rfl 1 (by decide) hf_33 (fun _ h9 => h9) rfl dX3_isStopped_6 ?_
    refine zb_ge (a := i) (b := n) (tgt := 47) hx hb dX3_isStopped_9 (by decide) (by omega) (by omega) (fun c9 => ?_) (fun c9 => ?_)
    · exact absurd c9 (by omega)
    · refine lv_iload_n hx hb dX3_isStopped_12 rfl (lv_at hl 0 rfl) ?_
      refine lv_if_ne (tgt := 35) hx hb dX3_isStopped_13 (by decide) (fun c13 => ?_) (fun c13 => ?_)
      · refine lv_iconst (v := 1) hx hb dX3_isStopped_35 (by decide) ?_
        refine lv_goto (tgt := 40) hx hb dX3_isStopped_36 (by decide) ?_
        refine lv_istore_n (lv' := [(2, .int 1), (3, .int (nI i)), (0, .ref (ad 0)), (1, .int b)]) hx hb dX3_isStopped_40 rfl hl (by decide) rfl (fun ls hl => ?_)
        refine lv_iinc (v := nI (i + 1)) (lv' := [(3, .int (nI (i + 1))), (2, .int 1), (0, .ref (ad 0)), (1, .int b)]) hx hb dX3_isStopped_41 hl (k := 1) rfl (by exact nI_1 _) (by decide) rfl (fun ls hl => ?_)
        refine lv_goto (tgt := 4) hx hb dX3_isStopped_44 (by decide) ?_
        have ha : pSt B Z b (i + 1) = 1 := by
          rw [pSt]
          first | rw [if_neg c13] | rw [if_pos c13, if_neg c23] | rw [if_pos c13, if_pos c23, if_pos c32] | rw [if_pos c13, if_pos c23, if_neg c32]
        exact ih (i + 1) (by omega) H locs hP hD hS ls (by rw [ha]; exact lv_sub hl [1, 0, 2, 3] rfl)
      · refine lv_aload_n hx hb dX3_isStopped_16 rfl (lv_at hl 2 rfl) ?_
        refine va_get (D := D) (ci := 3) (v := .ref (ad 4)) (C := RX3) (T := TX3) (N := 14) hx hb hts hinX3 hown hK hP 0 rfl rfl 5 (by decide) hf_21 (fun _ h9 => h9) rfl dX3_isStopped_17 ?_
        refine lv_iload_n hx hb dX3_isStopped_20 rfl (lv_at hl 1 rfl) ?_
        refine ax_ild hx hb hK hP 4 3 rfl rfl (by omega) (by omega) dX3_isStopped_21 ?_
        refine lv_iload_n hx hb dX3_isStopped_22 rfl (lv_at hl 3 rfl) ?_
        refine lv_icmp_ne (tgt := 39) hx hb dX3_isStopped_23 (by decide) (fun c23 => ?_) (fun c23 => ?_)
        · refine lv_iconst (v := 0) hx hb dX3_isStopped_39 (by decide) ?_
          refine lv_istore_n (lv' := [(2, .int 0), (3, .int (nI i)), (0, .ref (ad 0)), (1, .int b)]) hx hb dX3_isStopped_40 rfl hl (by decide) rfl (fun ls hl => ?_)
          refine lv_iinc (v := nI (i + 1)) (lv' := [(3, .int (nI (i + 1))), (2, .int 0), (0, .ref (ad 0)), (1, .int b)]) hx hb dX3_isStopped_41 hl (k := 1) rfl (by exact nI_1 _) (by decide) rfl (fun ls hl => ?_)
          refine lv_goto (tgt := 4) hx hb dX3_isStopped_44 (by decide) ?_
          have ha : pSt B Z b (i + 1) = 0 := by
            rw [pSt]
            first | rw [if_neg c13] | rw [if_pos c13, if_neg c23] | rw [if_pos c13, if_pos c23, if_pos c32] | rw [if_pos c13, if_pos c23, if_neg c32]
          exact ih (i + 1) (by omega) H locs hP hD hS ls (by rw [ha]; exact lv_sub hl [1, 0, 2, 3] rfl)
        · refine lv_aload_n hx hb dX3_isStopped_26 rfl (lv_at hl 2 rfl) ?_
          refine va_get (D := D) (ci := 3) (v := .ref (ad 3)) (C := RX3) (T := TX3) (N := 14) hx hb hts hinX3 hown hK hP 0 rfl rfl 4 (by decide) hf_17 (fun _ h9 => h9) rfl dX3_isStopped_27 ?_
          refine lv_iload_n hx hb dX3_isStopped_30 rfl (lv_at hl 1 rfl) ?_
          refine ax_zld hx hb hK hP 3 2 rfl rfl (by omega) (by omega) dX3_isStopped_31 ?_
          refine lv_if_eq (tgt := 39) hx hb dX3_isStopped_32 (by decide) (fun c32 => ?_) (fun c32 => ?_)
          · refine lv_iconst (v := 0) hx hb dX3_isStopped_39 (by decide) ?_
            refine lv_istore_n (lv' := [(2, .int 0), (3, .int (nI i)), (0, .ref (ad 0)), (1, .int b)]) hx hb dX3_isStopped_40 rfl hl (by decide) rfl (fun ls hl => ?_)
            refine lv_iinc (v := nI (i + 1)) (lv' := [(3, .int (nI (i + 1))), (2, .int 0), (0, .ref (ad 0)), (1, .int b)]) hx hb dX3_isStopped_41 hl (k := 1) rfl (by exact nI_1 _) (by decide) rfl (fun ls hl => ?_)
            refine lv_goto (tgt := 4) hx hb dX3_isStopped_44 (by decide) ?_
            have ha : pSt B Z b (i + 1) = 0 := by
              rw [pSt]
              first | rw [if_neg c13] | rw [if_pos c13, if_neg c23] | rw [if_pos c13, if_pos c23, if_pos c32] | rw [if_pos c13, if_pos c23, if_neg c32]
            exact ih (i + 1) (by omega) H locs hP hD hS ls (by rw [ha]; exact lv_sub hl [1, 0, 2, 3] rfl)
          · refine lv_iconst (v := 1) hx hb dX3_isStopped_35 (by decide) ?_
            refine lv_goto (tgt := 40) hx hb dX3_isStopped_36 (by decide) ?_
            refine lv_istore_n (lv' := [(2, .int 1), (3, .int (nI i)), (0, .ref (ad 0)), (1, .int b)]) hx hb dX3_isStopped_40 rfl hl (by decide) rfl (fun ls hl => ?_)
            refine lv_iinc (v := nI (i + 1)) (lv' := [(3, .int (nI (i + 1))), (2, .int 1), (0, .ref (ad 0)), (1, .int b)]) hx hb dX3_isStopped_41 hl (k := 1) rfl (by exact nI_1 _) (by decide) rfl (fun ls hl => ?_)
            refine lv_goto (tgt := 4) hx hb dX3_isStopped_44 (by decide) ?_
            have ha : pSt B Z b (i + 1) = 1 := by
              rw [pSt]
              first | rw [if_neg c13] | rw [if_pos c13, if_neg c23] | rw [if_pos c13, if_pos c23, if_pos c32] | rw [if_pos c13, if_pos c23, if_neg c32]
            exact ih (i + 1) (by omega) H locs hP hD hS ls (by rw [ha]; exact lv_sub hl [1, 0, 2, 3] rfl)

set_option maxHeartbeats 4000000 in
set_option maxRecDepth 100000 in
theorem kX3_isStopped (l : Launch) (D : va_G) (ad : Nat → Nat) (cy : Nat → ClassId) (sz : Nat) (th : Int32) (n : Nat) (E : Nat → Int64) (R : Nat → Int32) (Z : Nat → Int32) (B : Nat → Int32) (BR : Nat → Int64) (wt : Nat) (rk : Nat → Int32) (U : Nat → Int32) (br : Int32) (lc : Int32) (jo : Int64) (wk : Int64) (b : Int32) (hn : n ≤ 40) : mI l yX3_isStopped wsX3_isStopped ({ frames := 0, cells := 0, slots := 0, locals := 0 }) [.ref (ad 0), .int b] D (mT cy) (mW ad cy th n E R Z B BR wt rk U br lc jo wk) sz (pSt B Z b n) (mW ad cy th n E R Z B BR wt rk U br lc jo wk) 0 0 := by
  refine zin (fun A => zQi D (mT cy) (mW ad cy th n E R Z B BR wt rk U br lc jo wk) (pSt B Z b n) A) (cc := cX3_isStopped) (maxL := 4) (ret := (some .boolean)) (own := RX3) (by decide) rfl rfl (Nat.le_of_ble_eq_true rfl) ?_
  intro p e s m below meth c A F hr hlocks hmn hA hK H locs hP hD hS ls hl
  obtain ⟨hx, hb, hml, hown, hts⟩ := id F
  have hl : lv_has ls 4 [(0, .ref (ad 0)), (1, .int b)] := hl
  refine lv_iconst (v := 0) hx hb dX3_isStopped_0 (by decide) ?_
  refine lv_istore_n (lv' := [(2, .int 0), (0, .ref (ad 0)), (1, .int b)]) hx hb dX3_isStopped_1 rfl hl (by decide) rfl (fun ls hl => ?_)
  refine lv_iconst (v := nI 0) hx hb dX3_isStopped_2 (by decide) ?_
  refine lv_istore_n (lv' := [(3, .int (nI 0)), (2, .int 0), (0, .ref (ad 0)), (1, .int b)]) hx hb dX3_isStopped_3 rfl hl (by decide) rfl (fun ls hl => ?_)
  exact lp_stopped F hr hlocks hA hK th n E R Z B BR wt rk U br lc jo wk b hn n 0 (by omega) H locs hP hD hS ls (lv_sub hl [1, 0, 2, 3] rfl)

set_option maxHeartbeats 4000000 in
set_option maxRecDepth 100000 in
theorem kX3_resultOf (l : Launch) (D : va_G) (ad : Nat → Nat) (cy : Nat → ClassId) (sz : Nat) (th : Int32) (n : Nat) (E : Nat → Int64) (R : Nat → Int32) (Z : Nat → Int32) (B : Nat → Int32) (BR : Nat → Int64) (wt : Nat) (rk : Nat → Int32) (U : Nat → Int32) (br : Int32) (lc : Int32) (jo : Int64) (wk : Int64) (k : Nat) (hk : k < 40) : mL l yX3_resultOf wsX3_resultOf ({ frames := 0, cells := 0, slots := 0, locals := 0 }) [.ref (ad 0), .int (nI k)] D (mT cy) (mW ad cy th n E R Z B BR wt rk U br lc jo wk) sz (mRes E k) (mW ad cy th n E R Z B BR wt rk U br lc jo wk) 0 0 := by
  refine zin (fun A => zQl D (mT cy) (mW ad cy th n E R Z B BR wt rk U br lc jo wk) (mRes E k) A) (cc := cX3_resultOf) (maxL := 2) (ret := (some .long)) (own := RX3) (by decide) rfl rfl (Nat.le_of_ble_eq_true rfl) ?_
  intro p e s m below meth c A F hr hlocks hmn hA hK H locs hP hD hS ls hl
  obtain ⟨hx, hb, hml, hown, hts⟩ := id F
  have hl : lv_has ls 2 [(0, .ref (ad 0)), (1, .int (nI k))] := hl
  have hinX3 : ∀ w ∈ wsX30, w ∈ wsX3_resultOf := by decide +kernel
  have hf_7 := hts (.fieldLink RX3 7 "RegionSharesModel" "eighths" "[J") (by decide +kernel)
  refine lv_aload_n hx hb dX3_resultOf_0 rfl (lv_at hl 0 rfl) ?_
  refine va_get (D := D) (ci := 3) (v := .ref (ad 1)) (C := RX3) (T := TX3) (N := 14) hx hb hts hinX3 hown hK hP 0 rfl rfl 2 (by decide) hf_7 (fun _ h9 => h9) rfl dX3_resultOf_1 ?_
  refine lv_iload_n hx hb dX3_resultOf_4 rfl (lv_at hl 1 rfl) ?_
  refine ax_lld hx hb hK hP 1 0 rfl rfl (by omega) (by omega) dX3_resultOf_5 ?_
  refine lv_aload_n hx hb dX3_resultOf_6 rfl (lv_at hl 0 rfl) ?_
  refine va_get (D := D) (ci := 3) (v := .ref (ad 1)) (C := RX3) (T := TX3) (N := 14) hx hb hts hinX3 hown hK hP 0 rfl rfl 2 (by decide) hf_7 (fun _ h9 => h9) rfl dX3_resultOf_7 ?_
  refine lv_iload_n hx hb dX3_resultOf_10 rfl (lv_at hl 1 rfl) ?_
  refine ax_lld hx hb hK hP 1 0 rfl rfl (by omega) (by omega) dX3_resultOf_11 ?_
  refine lv_lmul hx hb dX3_resultOf_12 ?_
  refine lv_ldc2 hx hb hown (hts (.constantLong RX3 62 (4)) (by decide +kernel)) dX3_resultOf_13 ?_
  refine lv_aload_n hx hb dX3_resultOf_16 rfl (lv_at hl 0 rfl) ?_
  refine va_get (D := D) (ci := 3) (v := .ref (ad 1)) (C := RX3) (T := TX3) (N := 14) hx hb hts hinX3 hown hK hP 0 rfl rfl 2 (by decide) hf_7 (fun _ h9 => h9) rfl dX3_resultOf_17 ?_
  refine lv_iload_n hx hb dX3_resultOf_20 rfl (lv_at hl 1 rfl) ?_
  refine ax_lld hx hb hK hP 1 0 rfl rfl (by omega) (by omega) dX3_resultOf_21 ?_
  refine lv_lmul hx hb dX3_resultOf_22 ?_
  refine lv_ladd hx hb dX3_resultOf_23 ?_
  refine lv_ldc2 hx hb hown (hts (.constantLong RX3 64 (64)) (by decide +kernel)) dX3_resultOf_24 ?_
  refine lv_iload_n hx hb dX3_resultOf_27 rfl (lv_at hl 1 rfl) ?_
  refine lv_i2l (v := (nI k).toInt64) hx hb dX3_resultOf_28 rfl ?_
  refine lv_lmul hx hb dX3_resultOf_29 ?_
  refine lv_ladd hx hb dX3_resultOf_30 ?_
  exact zret_l F hr hlocks hK hP hD hS rfl dX3_resultOf_31

set_option maxHeartbeats 4000000 in
set_option maxRecDepth 100000 in
theorem lp_plain {p : Program} {l : Launch} {e : Env} {s : State} {m : MethodId} {args : Array Value} {below : List Frame} {meth : Method} {c : Code} {A : Nat → Prop} {D : va_G} {ad : Nat → Nat} {cy : Nat → ClassId} (F : CallFix p m c cX3_plain 4 s args wsX3_plain RX3) (hr : meth.sig.returnType = (some .double)) (hlocks : meth.locks = false) (hA : ∀ q, s.heap.size ≤ q → A q) (hK : va_K D vwCl (mT cy) s) (th : Int32) (n : Nat) (E : Nat → Int64) (R : Nat → Int32) (Z : Nat → Int32) (B : Nat → Int32) (BR : Nat → Int64) (wt : Nat) (rk : Nat → Int32) (U : Nat → Int32) (br : Int32) (lc : Int32) (jo : Int64) (wk : Int64)  (hn : n ≤ 40) (hj : (mPl E n).toInt.natAbs < 2 ^ 40) : ∀ (k : Nat) (i : Nat), i + k = n → ∀ (H : Heap) (locs : List Loc), va_P D vwCl (mW ad cy th n E R Z B BR wt rk U br lc jo wk) H → va_D A (mW ad cy th n E R Z B BR wt rk U br lc jo wk) → va_S A s.heap H locs → ∀ ls : Array Slot, lv_has ls 4 [(1, .long (mPl E i)), (3, .int (nI i)), (0, .ref (ad 0))] → W p l e ({ frames := 1, cells := 0, slots := 0, locals := 40 }) s m args below meth c H locs 0 0 (MQ below (zQd D (mT cy) (mW ad cy th n E R Z B BR wt rk U br lc jo wk) (Dz (mPl E n).toInt) A) args s 0 0 A) (F0 m 9 ls []) := by
  obtain ⟨hx, hb, hml, hown, hts⟩ := id F
  have hinX3 : ∀ w ∈ wsX30, w ∈ wsX3_plain := by decide +kernel
  have hf_33 := hts (.fieldLink RX3 33 "RegionSharesModel" "shares" "I") (by decide +kernel)
  intro k
  induction k with
  | zero =>
    intro i hk 
    intro H locs hP hD hS ls hl
    refine lv_iload_n hx hb dX3_plain_9 rfl (lv_at hl 1 rfl) ?_
    refine lv_aload_n hx hb dX3_plain_10 rfl (lv_at hl 2 rfl) ?_
    refine va_get (D := D) (ci := 3) (v := .int (nI n)) (C := RX3) (T := TX3) (N := 14) hx hb hts hinX3 hown hK hP 0 rfl rfl 1 (by decide) hf_33 (fun _ h9 => h9) rfl dX3_plain_11 ?_
    refine zb_ge (a := i) (b := n) (tgt := 31) hx hb dX3_plain_14 (by decide) (by omega) (by omega) (fun c14 => ?_) (fun c14 => ?_)
    · obtain rfl : i = n := by omega
      refine lv_lload_n hx hb dX3_plain_31 rfl (lv_at hl 0 rfl) ?_
      refine lv_l2d hx hb dX3_plain_32 ?_
      refine lv_ldc2d hx hb hown (hts (.constantDouble RX3 101 (4634204016564240384)) (by decide +kernel)) dX3_plain_33 ?_
      refine z_topd (y := Dz 4096) dz_64 ?_
      refine lv_ddiv hx hb dX3_plain_36 (by rw [dz_d64 hj]; exact dz_n64 (by omega)) ?_
      refine z_topd (y := Dz (mPl E i).toInt) (dz_d64 hj) ?_
      exact zret_d F hr hlocks hK hP hD hS rfl dX3_plain_37
    · exact absurd c14 (by omega)
  | succ k ih =>
    intro i hk  H locs hP hD hS ls hl
    refine lv_iload_n hx hb dX3_plain_9 rfl (lv_at hl 1 rfl) ?_
    refine lv_aload_n hx hb dX3_plain_10 rfl (lv_at hl 2 rfl) ?_
    refine va_get (D := D) (ci := 3) (v := .int (nI n)) (C := RX3) (T := TX3) (N := 14) hx hb hts hinX3 hown hK hP 0 rfl rfl 1 (by decide) hf_33 (fun _ h9 => h9) rfl dX3_plain_11 ?_
    refine zb_ge (a := i) (b := n) (tgt := 31) hx hb dX3_plain_14 (by decide) (by omega) (by omega) (fun c14 => ?_) (fun c14 => ?_)
    · exact absurd c14 (by omega)
    · refine lv_lload_n hx hb dX3_plain_17 rfl (lv_at hl 0 rfl) ?_
      refine lv_aload_n hx hb dX3_plain_18 rfl (lv_at hl 2 rfl) ?_
      refine lv_iload_n hx hb dX3_plain_19 rfl (lv_at hl 1 rfl) ?_
      refine zcV_l (As := [.int (nI i)]) (rest := [.long (mPl E i)]) F (kX3_resultOf l D ad cy _ th n E R Z B BR wt rk U br lc jo wk i (by omega)) (cwV 1 hts gX3_plain_X3_resultOf rfl rfl rfl (by decide +kernel) ⟨Nat.le_of_ble_eq_true rfl, Nat.le_of_ble_eq_true rfl⟩) (va_recv hK hP (ci := 3) (q0 := 0) rfl rfl) hK hP hD hS hA rfl hl.1 rfl (Nat.le_of_ble_eq_true rfl) dX3_plain_20 ⟨Nat.le_of_ble_eq_true rfl, Nat.le_of_ble_eq_true rfl⟩ (fun H locs hP hD hS => ?_)
      refine lv_ladd hx hb dX3_plain_23 ?_
      refine lv_lstore_n (lv' := [(1, .long ((mPl E i) + (mRes E i))), (3, .int (nI i)), (0, .ref (ad 0))]) hx hb dX3_plain_24 rfl hl (by decide) rfl (fun ls hl => ?_)
      refine lv_iinc (v := nI (i + 1)) (lv' := [(3, .int (nI (i + 1))), (1, .long ((mPl E i) + (mRes E i))), (0, .ref (ad 0))]) hx hb dX3_plain_25 hl (k := 1) rfl (by exact nI_1 _) (by decide) rfl (fun ls hl => ?_)
      refine lv_goto (tgt := 9) hx hb dX3_plain_28 (by decide) ?_
      exact ih (i + 1) (by omega) H locs hP hD hS ls (lv_sub hl [1, 0, 2] rfl)

set_option maxHeartbeats 4000000 in
set_option maxRecDepth 100000 in
theorem kX3_plain (l : Launch) (D : va_G) (ad : Nat → Nat) (cy : Nat → ClassId) (sz : Nat) (th : Int32) (n : Nat) (E : Nat → Int64) (R : Nat → Int32) (Z : Nat → Int32) (B : Nat → Int32) (BR : Nat → Int64) (wt : Nat) (rk : Nat → Int32) (U : Nat → Int32) (br : Int32) (lc : Int32) (jo : Int64) (wk : Int64)  (hn : n ≤ 40) (hj : (mPl E n).toInt.natAbs < 2 ^ 40) : mD l yX3_plain wsX3_plain ({ frames := 1, cells := 0, slots := 0, locals := 40 }) [.ref (ad 0)] D (mT cy) (mW ad cy th n E R Z B BR wt rk U br lc jo wk) sz (Dz (mPl E n).toInt) (mW ad cy 0 n E R Z B BR wt rk U br lc jo wk) 0 0 := by
  refine zin (fun A => zQd D (mT cy) (mW ad cy 0 n E R Z B BR wt rk U br lc jo wk) (Dz (mPl E n).toInt) A) (cc := cX3_plain) (maxL := 4) (ret := (some .double)) (own := RX3) (by decide) rfl rfl (Nat.le_of_ble_eq_true rfl) ?_
  intro p e s m below meth c A F hr hlocks hmn hA hK H locs hP hD hS ls hl
  obtain ⟨hx, hb, hml, hown, hts⟩ := id F
  have hl : lv_has ls 4 [(0, .ref (ad 0))] := hl
  have hinX3 : ∀ w ∈ wsX30, w ∈ wsX3_plain := by decide +kernel
  have hf_37 := hts (.fieldLink RX3 37 "RegionSharesModel" "thrown" "I") (by decide +kernel)
  refine lv_aload_n hx hb dX3_plain_0 rfl (lv_at hl 0 rfl) ?_
  refine lv_iconst (v := 0) hx hb dX3_plain_1 (by decide) ?_
  refine va_put (D := D) (ci := 3) (v := .int 0) (ty := .int) (C := RX3) (T := TX3) (N := 14) hx hb hts hinX3 tyX3 tyX3_ok nmX3 hown hK hP hD hS 0 rfl rfl 0 (by decide) hf_37 (fun _ h9 => h9) rfl (by decide +kernel) rfl rfl (Nat.le_of_ble_eq_true rfl) dX3_plain_2 (fun H locs hP hD hS => ?_)
  have hP : va_P D vwCl (mW ad cy 0 n E R Z B BR wt rk U br lc jo wk) H := hP
  have hD : va_D A (mW ad cy 0 n E R Z B BR wt rk U br lc jo wk) := hD
  refine lv_lconst (v := 0) hx hb dX3_plain_5 (by decide) ?_
  refine lv_lstore_n (lv' := [(1, .long 0), (0, .ref (ad 0))]) hx hb dX3_plain_6 rfl hl (by decide) rfl (fun ls hl => ?_)
  refine lv_iconst (v := nI 0) hx hb dX3_plain_7 (by decide) ?_
  refine lv_istore_n (lv' := [(3, .int (nI 0)), (1, .long 0), (0, .ref (ad 0))]) hx hb dX3_plain_8 rfl hl (by decide) rfl (fun ls hl => ?_)
  exact lp_plain F hr hlocks hA hK 0 n E R Z B BR wt rk U br lc jo wk hn hj n 0 (by omega) H locs hP hD hS ls (lv_sub hl [1, 0, 2] rfl)

set_option maxHeartbeats 4000000 in
set_option maxRecDepth 100000 in
theorem lp_act {p : Program} {l : Launch} {e : Env} {s : State} {m : MethodId} {args : Array Value} {below : List Frame} {meth : Method} {c : Code} {A : Nat → Prop} {D : va_G} {ad : Nat → Nat} {cy : Nat → ClassId} (F : CallFix p m c cX3_act 4 s args wsX3_act RX3) (hr : meth.sig.returnType = (some .int)) (hlocks : meth.locks = false) (hA : ∀ q, s.heap.size ≤ q → A q) (hK : va_K D vwCl (mT cy) s) (th : Int32) (n : Nat) (E : Nat → Int64) (R : Nat → Int32) (Z : Nat → Int32) (B : Nat → Int32) (BR : Nat → Int64) (wt : Nat) (rk : Nat → Int32) (U : Nat → Int32) (br : Int32) (lc : Int32) (jo : Int64) (wk : Int64) (r : Nat) (hw : wt < 20) : ∀ (k : Nat) (i : Nat), i + k = wt → ∀ (H : Heap) (locs : List Loc), va_P D vwCl (mW ad cy th n E R Z B BR wt rk U br lc jo wk) H → va_D A (mW ad cy th n E R Z B BR wt rk U br lc jo wk) → va_S A s.heap H locs → ∀ ls : Array Slot, lv_has ls 4 [(2, .int (mAc rk (nI r) i)), (3, .int (nI i)), (0, .ref (ad 0)), (1, .int (nI r))] → W p l e ({ frames := 0, cells := 0, slots := 0, locals := 0 }) s m args below meth c H locs 0 0 (MQ below (zQi D (mT cy) (mW ad cy th n E R Z B BR (wt + 1) (upd rk wt (nI r)) U br lc jo wk) (mAc rk (nI r) wt) A) args s 0 0 A) (F0 m 43 ls []) := by
  obtain ⟨hx, hb, hml, hown, hts⟩ := id F
  have hinX3 : ∀ w ∈ wsX30, w ∈ wsX3_act := by decide +kernel
  have hf_27 := hts (.fieldLink RX3 27 "RegionSharesModel" "ranks" "[I") (by decide +kernel)
  have hf_66 := hts (.fieldLink RX3 66 "RegionSharesModel" "waits" "I") (by decide +kernel)
  intro k
  induction k with
  | zero =>
    intro i hk 
    intro H locs hP hD hS ls hl
    refine lv_iload_n hx hb dX3_act_43 rfl (lv_at hl 1 rfl) ?_
    refine lv_aload_n hx hb dX3_act_44 rfl (lv_at hl 2 rfl) ?_
    refine va_get (D := D) (ci := 3) (v := .int (nI wt)) (C := RX3) (T := TX3) (N := 14) hx hb hts hinX3 hown hK hP 0 rfl rfl 7 (by decide) hf_66 (fun _ h9 => h9) rfl dX3_act_45 ?_
    refine zb_ge (a := i) (b := wt) (tgt := 75) hx hb dX3_act_48 (by decide) (by omega) (by omega) (fun c48 => ?_) (fun c48 => ?_)
    · obtain rfl : wt = i := by omega
      refine lv_aload_n hx hb dX3_act_75 rfl (lv_at hl 2 rfl) ?_
      refine va_get (D := D) (ci := 3) (v := .ref (ad 6)) (C := RX3) (T := TX3) (N := 14) hx hb hts hinX3 hown hK hP 0 rfl rfl 8 (by decide) hf_27 (fun _ h9 => h9) rfl dX3_act_76 ?_
      refine lv_aload_n hx hb dX3_act_79 rfl (lv_at hl 2 rfl) ?_
      refine va_get (D := D) (ci := 3) (v := .int (nI wt)) (C := RX3) (T := TX3) (N := 14) hx hb hts hinX3 hown hK hP 0 rfl rfl 7 (by decide) hf_66 (fun _ h9 => h9) rfl dX3_act_80 ?_
      refine lv_iload_n hx hb dX3_act_83 rfl (lv_at hl 3 rfl) ?_
      refine ax_ist hx hb hK hP hD hS 6 5 rfl rfl (by omega) (by omega) dX3_act_84 (fun H locs hP hD hS => ?_)
      have hP : va_P D vwCl (mW ad cy th n E R Z B BR wt (upd rk wt (nI r)) U br lc jo wk) H := hP
      have hD : va_D A (mW ad cy th n E R Z B BR wt (upd rk wt (nI r)) U br lc jo wk) := hD
      refine lv_aload_n hx hb dX3_act_85 rfl (lv_at hl 2 rfl) ?_
      refine lv_dup hx hb dX3_act_86 rfl ?_
      refine va_get (D := D) (ci := 3) (v := .int (nI wt)) (C := RX3) (T := TX3) (N := 14) hx hb hts hinX3 hown hK hP 0 rfl rfl 7 (by decide) hf_66 (fun _ h9 => h9) rfl dX3_act_87 ?_
      refine lv_iconst (v := nI 1) hx hb dX3_act_90 (by decide) ?_
      refine lv_iadd hx hb dX3_act_91 ?_
      refine z_topi (y := nI (wt + 1)) (nI_add _ 1) ?_
      refine va_put (D := D) (ci := 3) (v := .int (nI (wt + 1))) (ty := .int) (C := RX3) (T := TX3) (N := 14) hx hb hts hinX3 tyX3 tyX3_ok nmX3 hown hK hP hD hS 0 rfl rfl 7 (by decide) hf_66 (fun _ h9 => h9) rfl (by decide +kernel) rfl rfl (Nat.le_of_ble_eq_true rfl) dX3_act_92 (fun H locs hP hD hS => ?_)
      have hP : va_P D vwCl (mW ad cy th n E R Z B BR (wt + 1) (upd rk wt (nI r)) U br lc jo wk) H := hP
      have hD : va_D A (mW ad cy th n E R Z B BR (wt + 1) (upd rk wt (nI r)) U br lc jo wk) := hD
      refine lv_iload_n hx hb dX3_act_95 rfl (lv_at hl 0 rfl) ?_
      exact zret_i F hr hlocks hK hP hD hS rfl dX3_act_96
    · exact absurd c48 (by omega)
  | succ k ih =>
    intro i hk  H locs hP hD hS ls hl
    refine lv_iload_n hx hb dX3_act_43 rfl (lv_at hl 1 rfl) ?_
    refine lv_aload_n hx hb dX3_act_44 rfl (lv_at hl 2 rfl) ?_
    refine va_get (D := D) (ci := 3) (v := .int (nI wt)) (C := RX3) (T := TX3) (N := 14) hx hb hts hinX3 hown hK hP 0 rfl rfl 7 (by decide) hf_66 (fun _ h9 => h9) rfl dX3_act_45 ?_
    refine zb_ge (a := i) (b := wt) (tgt := 75) hx hb dX3_act_48 (by decide) (by omega) (by omega) (fun c48 => ?_) (fun c48 => ?_)
    · exact absurd c48 (by omega)
    · refine lv_iload_n hx hb dX3_act_51 rfl (lv_at hl 0 rfl) ?_
      refine lv_aload_n hx hb dX3_act_52 rfl (lv_at hl 2 rfl) ?_
      refine va_get (D := D) (ci := 3) (v := .ref (ad 6)) (C := RX3) (T := TX3) (N := 14) hx hb hts hinX3 hown hK hP 0 rfl rfl 8 (by decide) hf_27 (fun _ h9 => h9) rfl dX3_act_53 ?_
      refine lv_iload_n hx hb dX3_act_56 rfl (lv_at hl 1 rfl) ?_
      refine ax_ild hx hb hK hP 6 5 rfl rfl (by omega) (by omega) dX3_act_57 ?_
      refine lv_iload_n hx hb dX3_act_58 rfl (lv_at hl 3 rfl) ?_
      refine lv_icmp_lt (tgt := 66) hx hb dX3_act_59 (by decide) (fun c59 => ?_) (fun c59 => ?_)
      · refine lv_iconst (v := 0) hx hb dX3_act_66 (by decide) ?_
        refine lv_iadd hx hb dX3_act_67 ?_
        refine lv_istore_n (lv' := [(2, .int ((mAc rk (nI r) i) + 0)), (3, .int (nI i)), (0, .ref (ad 0)), (1, .int (nI r))]) hx hb dX3_act_68 rfl hl (by decide) rfl (fun ls hl => ?_)
        refine lv_iinc (v := nI (i + 1)) (lv' := [(3, .int (nI (i + 1))), (2, .int ((mAc rk (nI r) i) + 0)), (0, .ref (ad 0)), (1, .int (nI r))]) hx hb dX3_act_69 hl (k := 1) rfl (by exact nI_1 _) (by decide) rfl (fun ls hl => ?_)
        refine lv_goto (tgt := 43) hx hb dX3_act_72 (by decide) ?_
        have ha : mAc rk (nI r) (i + 1) = (mAc rk (nI r) i) + 0 := by
          rw [mAc]
          first | rw [if_pos c59] | rw [if_neg c59]
        exact ih (i + 1) (by omega) H locs hP hD hS ls (by rw [ha]; exact lv_sub hl [1, 0, 2, 3] rfl)
      · refine lv_iconst (v := 1) hx hb dX3_act_62 (by decide) ?_
        refine lv_goto (tgt := 67) hx hb dX3_act_63 (by decide) ?_
        refine lv_iadd hx hb dX3_act_67 ?_
        refine lv_istore_n (lv' := [(2, .int ((mAc rk (nI r) i) + 1)), (3, .int (nI i)), (0, .ref (ad 0)), (1, .int (nI r))]) hx hb dX3_act_68 rfl hl (by decide) rfl (fun ls hl => ?_)
        refine lv_iinc (v := nI (i + 1)) (lv' := [(3, .int (nI (i + 1))), (2, .int ((mAc rk (nI r) i) + 1)), (0, .ref (ad 0)), (1, .int (nI r))]) hx hb dX3_act_69 hl (k := 1) rfl (by exact nI_1 _) (by decide) rfl (fun ls hl => ?_)
        refine lv_goto (tgt := 43) hx hb dX3_act_72 (by decide) ?_
        have ha : mAc rk (nI r) (i + 1) = (mAc rk (nI r) i) + 1 := by
          rw [mAc]
          first | rw [if_pos c59] | rw [if_neg c59]
        exact ih (i + 1) (by omega) H locs hP hD hS ls (by rw [ha]; exact lv_sub hl [1, 0, 2, 3] rfl)

set_option maxHeartbeats 4000000 in
set_option maxRecDepth 100000 in
theorem kX3_act0 (l : Launch) (D : va_G) (ad : Nat → Nat) (cy : Nat → ClassId) (sz : Nat) (th : Int32) (n : Nat) (E : Nat → Int64) (R : Nat → Int32) (Z : Nat → Int32) (B : Nat → Int32) (BR : Nat → Int64) (wt : Nat) (rk : Nat → Int32) (U : Nat → Int32) (br : Int32) (lc : Int32) (jo : Int64) (wk : Int64) (r : Nat) (h : wt = 20) (hr10 : r < 10) : mI l yX3_act wsX3_act ({ frames := 0, cells := 0, slots := 0, locals := 0 }) [.ref (ad 0), .int (nI r)] D (mT cy) (mW ad cy th n E R Z B BR wt rk U br lc jo wk) sz (-1) (mW ad cy 0 n E R Z B BR wt rk U br lc jo wk) 0 0 := by
  refine zin (fun A => zQi D (mT cy) (mW ad cy 0 n E R Z B BR wt rk U br lc jo wk) (-1) A) (cc := cX3_act) (maxL := 4) (ret := (some .int)) (own := RX3) (by decide) rfl rfl (Nat.le_of_ble_eq_true rfl) ?_
  intro p e s m below meth c A F hr hlocks hmn hA hK H locs hP hD hS ls hl
  obtain ⟨hx, hb, hml, hown, hts⟩ := id F
  have hl : lv_has ls 4 [(0, .ref (ad 0)), (1, .int (nI r))] := hl
  have hinX3 : ∀ w ∈ wsX30, w ∈ wsX3_act := by decide +kernel
  have hf_37 := hts (.fieldLink RX3 37 "RegionSharesModel" "thrown" "I") (by decide +kernel)
  have hf_66 := hts (.fieldLink RX3 66 "RegionSharesModel" "waits" "I") (by decide +kernel)
  refine lv_aload_n hx hb dX3_act_0 rfl (lv_at hl 0 rfl) ?_
  refine lv_iload_n hx hb dX3_act_1 rfl (lv_at hl 1 rfl) ?_
  refine lv_if_lt (tgt := 15) hx hb dX3_act_2 (by decide) (fun c2 => ?_) (fun c2 => ?_)
  · exact absurd c2 (nI_pos (by omega))
  · refine lv_iload_n hx hb dX3_act_5 rfl (lv_at hl 1 rfl) ?_
    refine lv_bipush (v := nI 10) hx hb dX3_act_6 (by decide) ?_
    refine zb_ge (a := r) (b := 10) (tgt := 15) hx hb dX3_act_8 (by decide) (by omega) (by omega) (fun c8 => ?_) (fun c8 => ?_)
    · exact absurd c8 (by omega)
    · refine lv_iconst (v := 0) hx hb dX3_act_11 (by decide) ?_
      refine lv_goto (tgt := 16) hx hb dX3_act_12 (by decide) ?_
      refine va_put (D := D) (ci := 3) (v := .int 0) (ty := .int) (C := RX3) (T := TX3) (N := 14) hx hb hts hinX3 tyX3 tyX3_ok nmX3 hown hK hP hD hS 0 rfl rfl 0 (by decide) hf_37 (fun _ h9 => h9) rfl (by decide +kernel) rfl rfl (Nat.le_of_ble_eq_true rfl) dX3_act_16 (fun H locs hP hD hS => ?_)
      have hP : va_P D vwCl (mW ad cy 0 n E R Z B BR wt rk U br lc jo wk) H := hP
      have hD : va_D A (mW ad cy 0 n E R Z B BR wt rk U br lc jo wk) := hD
      refine lv_aload_n hx hb dX3_act_19 rfl (lv_at hl 0 rfl) ?_
      refine va_get (D := D) (ci := 3) (v := .int 0) (C := RX3) (T := TX3) (N := 14) hx hb hts hinX3 hown hK hP 0 rfl rfl 0 (by decide) hf_37 (fun _ h9 => h9) rfl dX3_act_20 ?_
      refine lv_if_eq (tgt := 28) hx hb dX3_act_23 (by decide) (fun c23 => ?_) (fun c23 => ?_)
      · refine lv_aload_n hx hb dX3_act_28 rfl (lv_at hl 0 rfl) ?_
        refine va_get (D := D) (ci := 3) (v := .int (nI wt)) (C := RX3) (T := TX3) (N := 14) hx hb hts hinX3 hown hK hP 0 rfl rfl 7 (by decide) hf_66 (fun _ h9 => h9) rfl dX3_act_29 ?_
        refine lv_bipush (v := nI 20) hx hb dX3_act_32 (by decide) ?_
        refine zb_ne (a := wt) (b := 20) (tgt := 39) hx hb dX3_act_34 (by decide) (by omega) (by omega) (fun c34 => ?_) (fun c34 => ?_)
        · exact absurd h c34
        · refine lv_iconst (v := (-1)) hx hb dX3_act_37 (by decide) ?_
          exact zret_i F hr hlocks hK hP hD hS rfl dX3_act_38
      · exact absurd rfl c23

set_option maxHeartbeats 4000000 in
set_option maxRecDepth 100000 in
theorem kX3_act1 (l : Launch) (D : va_G) (ad : Nat → Nat) (cy : Nat → ClassId) (sz : Nat) (th : Int32) (n : Nat) (E : Nat → Int64) (R : Nat → Int32) (Z : Nat → Int32) (B : Nat → Int32) (BR : Nat → Int64) (wt : Nat) (rk : Nat → Int32) (U : Nat → Int32) (br : Int32) (lc : Int32) (jo : Int64) (wk : Int64) (r : Nat) (hw : wt < 20) (hr10 : r < 10) : mI l yX3_act wsX3_act ({ frames := 0, cells := 0, slots := 0, locals := 0 }) [.ref (ad 0), .int (nI r)] D (mT cy) (mW ad cy th n E R Z B BR wt rk U br lc jo wk) sz (mAc rk (nI r) wt) (mW ad cy 0 n E R Z B BR (wt + 1) (upd rk wt (nI r)) U br lc jo wk) 0 0 := by
  refine zin (fun A => zQi D (mT cy) (mW ad cy 0 n E R Z B BR (wt + 1) (upd rk wt (nI r)) U br lc jo wk) (mAc rk (nI r) wt) A) (cc := cX3_act) (maxL := 4) (ret := (some .int)) (own := RX3) (by decide) rfl rfl (Nat.le_of_ble_eq_true rfl) ?_
  intro p e s m below meth c A F hr hlocks hmn hA hK H locs hP hD hS ls hl
  obtain ⟨hx, hb, hml, hown, hts⟩ := id F
  have hl : lv_has ls 4 [(0, .ref (ad 0)), (1, .int (nI r))] := hl
  have hinX3 : ∀ w ∈ wsX30, w ∈ wsX3_act := by decide +kernel
  have hf_37 := hts (.fieldLink RX3 37 "RegionSharesModel" "thrown" "I") (by decide +kernel)
  have hf_66 := hts (.fieldLink RX3 66 "RegionSharesModel" "waits" "I") (by decide +kernel)
  refine lv_aload_n hx hb dX3_act_0 rfl (lv_at hl 0 rfl) ?_
  refine lv_iload_n hx hb dX3_act_1 rfl (lv_at hl 1 rfl) ?_
  refine lv_if_lt (tgt := 15) hx hb dX3_act_2 (by decide) (fun c2 => ?_) (fun c2 => ?_)
  · exact absurd c2 (nI_pos (by omega))
  · refine lv_iload_n hx hb dX3_act_5 rfl (lv_at hl 1 rfl) ?_
    refine lv_bipush (v := nI 10) hx hb dX3_act_6 (by decide) ?_
    refine zb_ge (a := r) (b := 10) (tgt := 15) hx hb dX3_act_8 (by decide) (by omega) (by omega) (fun c8 => ?_) (fun c8 => ?_)
    · exact absurd c8 (by omega)
    · refine lv_iconst (v := 0) hx hb dX3_act_11 (by decide) ?_
      refine lv_goto (tgt := 16) hx hb dX3_act_12 (by decide) ?_
      refine va_put (D := D) (ci := 3) (v := .int 0) (ty := .int) (C := RX3) (T := TX3) (N := 14) hx hb hts hinX3 tyX3 tyX3_ok nmX3 hown hK hP hD hS 0 rfl rfl 0 (by decide) hf_37 (fun _ h9 => h9) rfl (by decide +kernel) rfl rfl (Nat.le_of_ble_eq_true rfl) dX3_act_16 (fun H locs hP hD hS => ?_)
      have hP : va_P D vwCl (mW ad cy 0 n E R Z B BR wt rk U br lc jo wk) H := hP
      have hD : va_D A (mW ad cy 0 n E R Z B BR wt rk U br lc jo wk) := hD
      refine lv_aload_n hx hb dX3_act_19 rfl (lv_at hl 0 rfl) ?_
      refine va_get (D := D) (ci := 3) (v := .int 0) (C := RX3) (T := TX3) (N := 14) hx hb hts hinX3 hown hK hP 0 rfl rfl 0 (by decide) hf_37 (fun _ h9 => h9) rfl dX3_act_20 ?_
      refine lv_if_eq (tgt := 28) hx hb dX3_act_23 (by decide) (fun c23 => ?_) (fun c23 => ?_)
      · refine lv_aload_n hx hb dX3_act_28 rfl (lv_at hl 0 rfl) ?_
        refine va_get (D := D) (ci := 3) (v := .int (nI wt)) (C := RX3) (T := TX3) (N := 14) hx hb hts hinX3 hown hK hP 0 rfl rfl 7 (by decide) hf_66 (fun _ h9 => h9) rfl dX3_act_29 ?_
        refine lv_bipush (v := nI 20) hx hb dX3_act_32 (by decide) ?_
        refine zb_ne (a := wt) (b := 20) (tgt := 39) hx hb dX3_act_34 (by decide) (by omega) (by omega) (fun c34 => ?_) (fun c34 => ?_)
        · refine lv_iconst (v := 0) hx hb dX3_act_39 (by decide) ?_
          refine lv_istore_n (lv' := [(2, .int 0), (0, .ref (ad 0)), (1, .int (nI r))]) hx hb dX3_act_40 rfl hl (by decide) rfl (fun ls hl => ?_)
          refine lv_iconst (v := nI 0) hx hb dX3_act_41 (by decide) ?_
          refine lv_istore_n (lv' := [(3, .int (nI 0)), (2, .int 0), (0, .ref (ad 0)), (1, .int (nI r))]) hx hb dX3_act_42 rfl hl (by decide) rfl (fun ls hl => ?_)
          exact lp_act F hr hlocks hA hK 0 n E R Z B BR wt rk U br lc jo wk r hw wt 0 (by omega) H locs hP hD hS ls (lv_sub hl [1, 0, 2, 3] rfl)
        · exact absurd c34 (by omega)
      · exact absurd rfl c23

set_option maxHeartbeats 4000000 in
set_option maxRecDepth 100000 in
theorem kX3_actX (l : Launch) (D : va_G) (ad : Nat → Nat) (cy : Nat → ClassId) (sz : Nat) (th : Int32) (n : Nat) (E : Nat → Int64) (R : Nat → Int32) (Z : Nat → Int32) (B : Nat → Int32) (BR : Nat → Int64) (wt : Nat) (rk : Nat → Int32) (U : Nat → Int32) (br : Int32) (lc : Int32) (jo : Int64) (wk : Int64) (x : Int32) (hxo : x < 0 ∨ nI 10 ≤ x) : mI l yX3_act wsX3_act ({ frames := 0, cells := 0, slots := 0, locals := 0 }) [.ref (ad 0), .int x] D (mT cy) (mW ad cy th n E R Z B BR wt rk U br lc jo wk) sz 0 (mW ad cy 1 n E R Z B BR wt rk U br lc jo wk) 0 0 := by
  refine zin (fun A => zQi D (mT cy) (mW ad cy 1 n E R Z B BR wt rk U br lc jo wk) 0 A) (cc := cX3_act) (maxL := 4) (ret := (some .int)) (own := RX3) (by decide) rfl rfl (Nat.le_of_ble_eq_true rfl) ?_
  intro p e s m below meth c A F hr hlocks hmn hA hK H locs hP hD hS ls hl
  obtain ⟨hx, hb, hml, hown, hts⟩ := id F
  have hl : lv_has ls 4 [(0, .ref (ad 0)), (1, .int x)] := hl
  have hinX3 : ∀ w ∈ wsX30, w ∈ wsX3_act := by decide +kernel
  have hf_37 := hts (.fieldLink RX3 37 "RegionSharesModel" "thrown" "I") (by decide +kernel)
  refine lv_aload_n hx hb dX3_act_0 rfl (lv_at hl 0 rfl) ?_
  refine lv_iload_n hx hb dX3_act_1 rfl (lv_at hl 1 rfl) ?_
  refine lv_if_lt (tgt := 15) hx hb dX3_act_2 (by decide) (fun c2 => ?_) (fun c2 => ?_)
  · refine lv_iconst (v := 1) hx hb dX3_act_15 (by decide) ?_
    refine va_put (D := D) (ci := 3) (v := .int 1) (ty := .int) (C := RX3) (T := TX3) (N := 14) hx hb hts hinX3 tyX3 tyX3_ok nmX3 hown hK hP hD hS 0 rfl rfl 0 (by decide) hf_37 (fun _ h9 => h9) rfl (by decide +kernel) rfl rfl (Nat.le_of_ble_eq_true rfl) dX3_act_16 (fun H locs hP hD hS => ?_)
    have hP : va_P D vwCl (mW ad cy 1 n E R Z B BR wt rk U br lc jo wk) H := hP
    have hD : va_D A (mW ad cy 1 n E R Z B BR wt rk U br lc jo wk) := hD
    refine lv_aload_n hx hb dX3_act_19 rfl (lv_at hl 0 rfl) ?_
    refine va_get (D := D) (ci := 3) (v := .int 1) (C := RX3) (T := TX3) (N := 14) hx hb hts hinX3 hown hK hP 0 rfl rfl 0 (by decide) hf_37 (fun _ h9 => h9) rfl dX3_act_20 ?_
    refine lv_if_eq (tgt := 28) hx hb dX3_act_23 (by decide) (fun c23 => ?_) (fun c23 => ?_)
    · exact absurd c23 (by decide)
    · refine lv_iconst (v := 0) hx hb dX3_act_26 (by decide) ?_
      exact zret_i F hr hlocks hK hP hD hS rfl dX3_act_27
  · refine lv_iload_n hx hb dX3_act_5 rfl (lv_at hl 1 rfl) ?_
    refine lv_bipush (v := nI 10) hx hb dX3_act_6 (by decide) ?_
    refine lv_icmp_ge (tgt := 15) hx hb dX3_act_8 (by decide) (fun c8 => ?_) (fun c8 => ?_)
    · refine lv_iconst (v := 1) hx hb dX3_act_15 (by decide) ?_
      refine va_put (D := D) (ci := 3) (v := .int 1) (ty := .int) (C := RX3) (T := TX3) (N := 14) hx hb hts hinX3 tyX3 tyX3_ok nmX3 hown hK hP hD hS 0 rfl rfl 0 (by decide) hf_37 (fun _ h9 => h9) rfl (by decide +kernel) rfl rfl (Nat.le_of_ble_eq_true rfl) dX3_act_16 (fun H locs hP hD hS => ?_)
      have hP : va_P D vwCl (mW ad cy 1 n E R Z B BR wt rk U br lc jo wk) H := hP
      have hD : va_D A (mW ad cy 1 n E R Z B BR wt rk U br lc jo wk) := hD
      refine lv_aload_n hx hb dX3_act_19 rfl (lv_at hl 0 rfl) ?_
      refine va_get (D := D) (ci := 3) (v := .int 1) (C := RX3) (T := TX3) (N := 14) hx hb hts hinX3 hown hK hP 0 rfl rfl 0 (by decide) hf_37 (fun _ h9 => h9) rfl dX3_act_20 ?_
      refine lv_if_eq (tgt := 28) hx hb dX3_act_23 (by decide) (fun c23 => ?_) (fun c23 => ?_)
      · exact absurd c23 (by decide)
      · refine lv_iconst (v := 0) hx hb dX3_act_26 (by decide) ?_
        exact zret_i F hr hlocks hK hP hD hS rfl dX3_act_27
    · exact absurd (hxo.resolve_left c2) c8
